/-! ===== determinants of lists of rows at lists of columns, by the first column ===== -/
abbrev dV : Type := Nat → Int
def lap (f : List dV → Int) (c : Nat) : List dV → List dV → Int
  | _, [] => 0
  | P, v :: post => v c * f (P ++ post) - lap f c (P ++ [v]) post
def dt : List Nat → List dV → Int
  | [], [] => 1
  | [], _ :: _ => 0
  | c :: cs, rows => lap (dt cs) c [] rows
theorem dt_nil {l : List dV} (h : l ≠ []) : dt [] l = 0 := by
  cases l with
  | nil => exact absurd rfl h
  | cons a l => rfl
def Lin (f : List dV → Int) : Prop := ∀ (pre post : List dV) (x y : dV) (a b : Int), f (pre ++ (fun j => a * x j + b * y j) :: post) = a * f (pre ++ x :: post) + b * f (pre ++ y :: post)
def Alt (f : List dV → Int) : Prop := ∀ (pre post : List dV) (x : dV), f (pre ++ x :: x :: post) = 0
theorem lap_linA {f : List dV → Int} (hf : Lin f) (c : Nat) (x y : dV) (a b : Int) : ∀ (rows pre pst : List dV), lap f c (pre ++ (fun j => a * x j + b * y j) :: pst) rows = a * lap f c (pre ++ x :: pst) rows + b * lap f c (pre ++ y :: pst) rows
  | [], pre, pst => by simp [lap]
  | v :: post, pre, pst => by
    have h1 := hf pre (pst ++ post) x y a b
    have h2 := lap_linA hf c x y a b post pre (pst ++ [v])
    simp only [lap, List.append_assoc, List.cons_append] at h1 h2 ⊢
    rw [h1, h2]
    grind
theorem lap_linB {f : List dV → Int} (hf : Lin f) (c : Nat) (x y : dV) (a b : Int) : ∀ (r1 r2 P : List dV), lap f c P (r1 ++ (fun j => a * x j + b * y j) :: r2) = a * lap f c P (r1 ++ x :: r2) + b * lap f c P (r1 ++ y :: r2)
  | [], r2, P => by
    have h2 := lap_linA hf c x y a b r2 P []
    simp only [lap, List.nil_append] at h2 ⊢
    rw [h2]
    grind
  | v :: r1, r2, P => by
    have h1 := hf (P ++ r1) r2 x y a b
    have h2 := lap_linB hf c x y a b r1 r2 (P ++ [v])
    simp only [lap, List.append_assoc, List.cons_append] at h1 h2 ⊢
    rw [h1, h2]
    grind
theorem dt_lin : ∀ cs : List Nat, Lin (dt cs)
  | [] => fun pre post x y a b => by rw [dt_nil (by simp), dt_nil (by simp), dt_nil (by simp)]; simp
  | c :: cs => fun pre post x y a b => lap_linB (dt_lin cs) c x y a b pre post []
theorem lap_altA {f : List dV → Int} (hf : Alt f) (c : Nat) (x : dV) : ∀ (rows pre pst : List dV), lap f c (pre ++ x :: x :: pst) rows = 0
  | [], pre, pst => by simp [lap]
  | v :: post, pre, pst => by
    have h1 := hf pre (pst ++ post) x
    have h2 := lap_altA hf c x post pre (pst ++ [v])
    simp only [lap, List.append_assoc, List.cons_append] at h1 h2 ⊢
    rw [h1, h2]
    simp
theorem lap_altB {f : List dV → Int} (hf : Alt f) (c : Nat) (x : dV) : ∀ (r1 r2 P : List dV), lap f c P (r1 ++ x :: x :: r2) = 0
  | [], r2, P => by
    have h2 := lap_altA hf c x r2 P []
    simp only [lap, List.nil_append, List.append_assoc, List.cons_append] at h2 ⊢
    rw [h2]
    simp
  | v :: r1, r2, P => by
    have h1 := hf (P ++ r1) r2 x
    have h2 := lap_altB hf c x r1 r2 (P ++ [v])
    simp only [lap, List.append_assoc, List.cons_append] at h1 h2 ⊢
    rw [h1, h2]
    simp
theorem dt_alt : ∀ cs : List Nat, Alt (dt cs)
  | [] => fun pre post x => dt_nil (by simp)
  | c :: cs => fun pre post x => lap_altB (dt_alt cs) c x pre post []
theorem swap_of {f : List dV → Int} (hl : Lin f) (ha : Alt f) (pre post : List dV) (x y : dV) : f (pre ++ x :: y :: post) = - f (pre ++ y :: x :: post) := by
  have h := ha pre post (fun j => 1 * x j + 1 * y j)
  have h1 := hl pre ((fun j => 1 * x j + 1 * y j) :: post) x y 1 1
  have h2 := hl (pre ++ [x]) post x y 1 1
  have h3 := hl (pre ++ [y]) post x y 1 1
  have h4 := ha pre post x
  have h5 := ha pre post y
  simp only [List.append_assoc, List.cons_append, List.nil_append] at h1 h2 h3
  rw [h1, h2, h3, h4, h5] at h
  omega
theorem equal_of {f : List dV → Int} (hl : Lin f) (ha : Alt f) (x : dV) : ∀ (mid pre post : List dV), f (pre ++ x :: (mid ++ x :: post)) = 0
  | [], pre, post => ha pre post x
  | v :: mid, pre, post => by
    have h1 := swap_of hl ha pre (mid ++ x :: post) x v
    have h2 := equal_of hl ha x mid (pre ++ [v]) post
    simp only [List.append_assoc, List.cons_append, List.nil_append] at h1 h2 ⊢
    rw [h1, h2]
    rfl
theorem lap_zero {f : List dV → Int} (c : Nat) (Q : List dV) (hf : ∀ l, f (Q ++ l) = 0) : ∀ (rows P : List dV), lap f c (Q ++ P) rows = 0
  | [], P => by simp [lap]
  | v :: post, P => by
    have h1 := hf (P ++ post)
    have h2 := lap_zero c Q hf post (P ++ [v])
    simp only [lap, List.append_assoc] at h1 h2 ⊢
    rw [h1, h2]
    simp
theorem dt_zero : ∀ (cs : List Nat) (x : dV) (rows : List dV), (∀ c ∈ cs, x c = 0) → dt cs (x :: rows) = 0
  | [], x, rows, _ => dt_nil (by simp)
  | c :: cs, x, rows, h => by
    have h1 := lap_zero (f := dt cs) c [x] (fun l => dt_zero cs x l (fun q hq => h q (List.mem_cons_of_mem _ hq))) rows []
    simp only [dt, lap, List.nil_append, List.append_nil] at h1 ⊢
    rw [h1, h c List.mem_cons_self]
    simp
/-- a linear functional that is 0 at all the rows is 0 at what they leave -/
theorem lap_fun (f : List dV → Int) (G : dV → Int) (hG : ∀ (x y : dV) (a b : Int), G (fun j => a * x j + b * y j) = a * G x + b * G y) : ∀ (rows P : List dV), (∀ r ∈ rows, G r = 0) → G (fun j => lap f j P rows) = 0
  | [], P, _ => by
    have h := hG (fun _ => 0) (fun _ => 0) 0 0
    simp only [Int.zero_mul, Int.add_zero] at h
    simpa [lap] using h
  | v :: post, P, h => by
    have h1 := lap_fun f G hG post (P ++ [v]) (fun r hr => h r (List.mem_cons_of_mem _ hr))
    have h2 := hG v (fun j => lap f j (P ++ [v]) post) (f (P ++ post)) (-1)
    have h3 : (fun j => lap f j P (v :: post)) = (fun j => f (P ++ post) * v j + -1 * lap f j (P ++ [v]) post) := by
      funext j
      simp only [lap]
      grind
    rw [h3, h2, h1, h v List.mem_cons_self]
    simp
/-- what is left of a row when the rows have taken the columns from it -/
def lft (cs : List Nat) (rows : List dV) (v : dV) : dV := fun j => dt (j :: cs) (v :: rows)
theorem lft_eq (cs : List Nat) (rows : List dV) (v : dV) : lft cs rows v = fun j => dt cs rows * v j + -1 * lap (dt cs) j [v] rows := by
  funext j
  simp only [lft, dt, lap, List.nil_append]
  grind
theorem lft_fun (cs : List Nat) (rows : List dV) (v : dV) (G : dV → Int) (hG : ∀ (x y : dV) (a b : Int), G (fun j => a * x j + b * y j) = a * G x + b * G y) (h0 : ∀ r ∈ rows, G r = 0) : G (lft cs rows v) = dt cs rows * G v := by
  rw [lft_eq, hG v (fun j => lap (dt cs) j [v] rows), lap_fun (dt cs) G hG rows [v] h0]
  simp
theorem dt_mem (J : List Nat) (pre : List dV) (mid rows : List dV) (r : dV) (h : r ∈ rows) : dt J (pre ++ r :: (mid ++ rows)) = 0 := by
  obtain ⟨a, b, rfl⟩ := List.append_of_mem h
  have := equal_of (dt_lin J) (dt_alt J) r (mid ++ a) pre b
  simpa only [List.append_assoc] using this
theorem two_left (cs : List Nat) (rows : List dV) (x y : dV) (j c : Nat) (hx : ∀ q ∈ cs, x q = 0) (hy : ∀ q ∈ cs, y q = 0) : dt (j :: c :: cs) (x :: y :: rows) = (x j * y c - y j * x c) * dt cs rows := by
  have a1 := lap_zero (f := dt cs) c [x] (fun l => dt_zero cs x l hx) rows []
  have a2 := lap_zero (f := dt cs) c [y] (fun l => dt_zero cs y l hy) rows []
  have a3 : ∀ l, dt (c :: cs) ([x, y] ++ l) = 0 := by
    intro l
    have b1 := dt_zero cs y l hy
    have b2 := dt_zero cs x l hx
    have b3 := lap_zero (f := dt cs) c [x, y] (fun l => dt_zero cs x (y :: l) hx) l []
    simp only [dt, lap, List.nil_append, List.append_nil, List.cons_append] at b1 b2 b3 ⊢
    rw [b1, b2, b3]
    simp
  have a4 := lap_zero (f := dt (c :: cs)) j [x, y] a3 rows []
  simp only [dt, lap, List.nil_append, List.append_nil, List.cons_append] at a1 a2 a4 ⊢
  rw [a1, a2, a4]
  grind
/-- the step: exact division by the pivot before -/
theorem lft_step (cs : List Nat) (rows : List dV) (u p : dV) (c : Nat) (hd : dt cs rows ≠ 0) (hu : ∀ q ∈ cs, lft cs rows u q = 0) (hp : ∀ q ∈ cs, lft cs rows p q = 0) (j : Nat) :
    dt cs rows * lft (c :: cs) (p :: rows) u j = lft cs rows u j * lft cs rows p c - lft cs rows p j * lft cs rows u c := by
  have h0 : dt (j :: c :: cs) (lft cs rows u :: lft cs rows p :: rows) = dt cs rows * (dt cs rows * dt (j :: c :: cs) (u :: p :: rows)) := by
    have e1 := lft_fun cs rows u (fun z => dt (j :: c :: cs) (z :: lft cs rows p :: rows)) (fun x y a b => dt_lin _ [] (lft cs rows p :: rows) x y a b) (fun r hr => dt_mem (j :: c :: cs) [] [lft cs rows p] rows r hr)
    have e2 := lft_fun cs rows p (fun z => dt (j :: c :: cs) (u :: z :: rows)) (fun x y a b => dt_lin _ [u] rows x y a b) (fun r hr => dt_mem (j :: c :: cs) [u] [] rows r hr)
    rw [e1, e2]
  rw [two_left cs rows _ _ j c hu hp] at h0
  have h1 : dt cs rows * (dt cs rows * dt (j :: c :: cs) (u :: p :: rows)) = dt cs rows * (lft cs rows u j * lft cs rows p c - lft cs rows p j * lft cs rows u c) := by
    rw [← h0, Int.mul_comm]
  exact Int.eq_of_mul_eq_mul_left hd h1
theorem lft_piv (cs : List Nat) (rows : List dV) (p : dV) (c : Nat) : dt (c :: cs) (p :: rows) = lft cs rows p c := rfl
/-! ===== how large ===== -/
def nrm (cs : List Nat) (v : dV) : Nat := (cs.map (fun c => (v c).natAbs)).sum
def pn (cs : List Nat) : List dV → Nat
  | [] => 1
  | v :: l => nrm cs v * pn cs l
theorem pn_app (cs : List Nat) : ∀ a b : List dV, pn cs (a ++ b) = pn cs a * pn cs b
  | [], b => by simp [pn]
  | v :: a, b => by simp only [List.cons_append, pn, pn_app cs a b, Nat.mul_assoc]
theorem nrm_cons (c : Nat) (cs : List Nat) (v : dV) : nrm (c :: cs) v = (v c).natAbs + nrm cs v := by simp [nrm]
theorem pn_le (c : Nat) (cs : List Nat) : ∀ l : List dV, pn cs l ≤ pn (c :: cs) l
  | [] => Nat.le_refl _
  | v :: l => by
    simp only [pn]
    exact Nat.mul_le_mul (by rw [nrm_cons]; omega) (pn_le c cs l)
theorem lap_le (f : List dV → Int) (c : Nat) (cs : List Nat) (hf : ∀ l, (f l).natAbs ≤ pn cs l) : ∀ (rows P : List dV), (lap f c P rows).natAbs + pn cs P * pn cs rows ≤ pn cs P * pn (c :: cs) rows
  | [], P => by simp [lap, pn]
  | v :: post, P => by
    have h1 := lap_le f c cs hf post (P ++ [v])
    have h2 := hf (P ++ post)
    have h3 := pn_le c cs post
    have h4 : pn cs (P ++ [v]) = pn cs P * nrm cs v := by rw [pn_app]; simp [pn]
    rw [h4] at h1
    rw [pn_app] at h2
    have h5 : (lap f c P (v :: post)).natAbs ≤ (v c).natAbs * (f (P ++ post)).natAbs + (lap f c (P ++ [v]) post).natAbs := by
      simp only [lap]
      have := Int.natAbs_sub_le (v c * f (P ++ post)) (lap f c (P ++ [v]) post)
      rw [Int.natAbs_mul] at this
      exact this
    have h6 : (v c).natAbs * (f (P ++ post)).natAbs ≤ (v c).natAbs * (pn cs P * pn (c :: cs) post) := Nat.mul_le_mul_left _ (Nat.le_trans h2 (Nat.mul_le_mul_left _ h3))
    simp only [pn, nrm_cons]
    have e1 : pn cs P * (nrm cs v * pn cs post) = pn cs P * nrm cs v * pn cs post := by rw [Nat.mul_assoc]
    have e2 : pn cs P * (((v c).natAbs + nrm cs v) * pn (c :: cs) post) = (v c).natAbs * (pn cs P * pn (c :: cs) post) + pn cs P * nrm cs v * pn (c :: cs) post := by
      rw [Nat.add_mul, Nat.mul_add, Nat.mul_assoc, Nat.mul_left_comm]
    rw [e1, e2]
    omega
theorem dt_le : ∀ (cs : List Nat) (rows : List dV), (dt cs rows).natAbs ≤ pn cs rows
  | [], [] => by simp [dt, pn]
  | [], v :: l => by simp [dt]
  | c :: cs, rows => by
    have h := lap_le (dt cs) c cs (dt_le cs) rows []
    simp only [dt]
    simp only [pn, Nat.one_mul] at h
    omega
