/-! ===== columns alternate; what the rows span ===== -/
theorem lap_sub (c : Nat) (a b : Int) (f g : List dV → Int) : ∀ (rows P : List dV), lap (fun l => a * f l + b * g l) c P rows = a * lap f c P rows + b * lap g c P rows
  | [], P => by simp [lap]
  | v :: rows, P => by
    simp only [lap]
    rw [lap_sub c a b f g rows (P ++ [v])]
    grind
theorem lap_0 (c : Nat) (f : List dV → Int) (hf : ∀ l, f l = 0) : ∀ (rows P : List dV), lap f c P rows = 0
  | [], P => rfl
  | v :: rows, P => by simp only [lap]; rw [hf, lap_0 c f hf rows (P ++ [v])]; simp
def Ev (f : List dV → Int) (c : Nat) (rows : List dV) : Int := lap f c [] rows
theorem Ev_cons (f : List dV → Int) (c : Nat) (v : dV) (rows : List dV) : Ev f c (v :: rows) = v c * f rows - Ev (fun l => f (v :: l)) c rows := by
  unfold Ev
  show v c * f ([] ++ rows) - lap f c ([] ++ [v]) rows = _
  rw [List.nil_append, List.nil_append, lap_cons]
theorem Ev_anti : ∀ (rows : List dV) (f : List dV → Int) (c c' : Nat), Ev (Ev f c) c' rows + Ev (Ev f c') c rows = 0
  | [], f, c, c' => rfl
  | v :: rows, f, c, c' => by
    have ih := Ev_anti rows (fun l => f (v :: l)) c c'
    have e1 : ∀ c, (fun l => Ev f c (v :: l)) = fun l => v c * f l + (-1) * Ev (fun l => f (v :: l)) c l := fun c => by
      funext l; rw [Ev_cons]; omega
    have e2 : ∀ c c', Ev (fun l => v c * f l + (-1) * Ev (fun l => f (v :: l)) c l) c' rows = v c * Ev f c' rows + (-1) * Ev (Ev (fun l => f (v :: l)) c) c' rows := fun c c' => lap_sub c' (v c) (-1) f (Ev (fun l => f (v :: l)) c) rows []
    rw [Ev_cons, Ev_cons (Ev f c'), e1, e1, e2, e2]
    generalize Ev (Ev (fun l => f (v :: l)) c) c' rows = a at *
    generalize Ev (Ev (fun l => f (v :: l)) c') c rows = b at *
    grind
theorem dt_cons (c : Nat) (cs : List Nat) (rows : List dV) : dt (c :: cs) rows = Ev (dt cs) c rows := rfl
theorem dt_swap (c c' : Nat) (cs : List Nat) (rows : List dV) : dt (c :: c' :: cs) rows = - dt (c' :: c :: cs) rows := by
  have h := Ev_anti rows (dt cs) c c'
  have e : ∀ c, Ev (dt cs) c = dt (c :: cs) := fun c => by funext l; rfl
  rw [e, e, ← dt_cons, ← dt_cons] at h
  omega
theorem dt_head : ∀ (cs : List Nat) (c : Nat) (rows : List dV), c ∈ cs → dt (c :: cs) rows = 0
  | c' :: cs, c, rows, h => by
    by_cases e : c = c'
    · have := dt_swap c c' cs rows
      rw [e] at this ⊢
      omega
    · have hm : c ∈ cs := by
        rcases List.mem_cons.1 h with f | f
        · exact absurd f e
        · exact f
      rw [dt_swap, dt_cons]
      have : Ev (dt (c :: cs)) c' rows = 0 := lap_0 c' _ (fun l => dt_head cs c l hm) rows []
      rw [this]; rfl
theorem dt_ext0 {cs : List Nat} (h : ∀ l, dt cs l = 0) (c : Nat) (rows : List dV) : dt (c :: cs) rows = 0 := lap_0 c _ h rows []
/-- a column that stands elsewhere too -/
theorem dt_set_dup : ∀ (cs : List Nat) (k j : Nat) (rows : List dV), k < cs.length → (∃ m, m < cs.length ∧ m ≠ k ∧ cs.getD m 0 = j) → dt (cs.set k j) rows = 0
  | [], k, j, rows, h, _ => absurd h (Nat.not_lt_zero _)
  | c :: cs, 0, j, rows, h, ⟨m, m1, m2, m3⟩ => by
    obtain ⟨m', rfl⟩ : ∃ m', m = m' + 1 := ⟨m - 1, by omega⟩
    have hl : m' < cs.length := by simpa using m1
    have : j ∈ cs := by
      rw [← m3]
      show cs.getD m' 0 ∈ cs
      rw [List.getD_eq_getElem?_getD, List.getElem?_eq_getElem hl]
      exact List.getElem_mem hl
    exact dt_head cs j rows this
  | c :: cs, k + 1, j, rows, h, ⟨m, m1, m2, m3⟩ => by
    have hk : k < cs.length := by simpa using h
    show dt (c :: cs.set k j) rows = 0
    by_cases e : m = 0
    · have cj : c = j := by rw [e] at m3; exact m3
      apply dt_head
      rw [cj]
      exact List.mem_set hk j
    · obtain ⟨m', rfl⟩ : ∃ m', m = m' + 1 := ⟨m - 1, by omega⟩
      exact dt_ext0 (fun l => dt_set_dup cs k j l hk ⟨m', by simpa using m1, by omega, m3⟩) c rows
theorem dt_set_same (cs : List Nat) (k : Nat) (h : k < cs.length) (rows : List dV) : dt (cs.set k (cs.getD k 0)) rows = dt cs rows := by
  congr 1
  rw [List.getD_eq_getElem?_getD, List.getElem?_eq_getElem h]
  simp
def Lf (G : dV → Int) : Prop := ∀ (x y : dV) (a b : Int), G (fun j => a * x j + b * y j) = a * G x + b * G y
def Sp (R : List dV) (z : dV) : Prop := ∀ G, Lf G → (∀ r ∈ R, G r = 0) → G z = 0
theorem Lf_0 {G : dV → Int} (hG : Lf G) : G (fun _ => 0) = 0 := by
  have h := hG (fun _ => 0) (fun _ => 0) 0 0
  simp only [Int.zero_mul, Int.add_zero] at h
  exact h
theorem sp_lap (c : Nat) (G : dV → Int) (hG : Lf G) (F : Nat → List dV → Int) (hF : ∀ l, (∀ r ∈ l, G r = 0) → G (fun j => F j l) = 0) : ∀ (rows P : List dV), (∀ r ∈ P, G r = 0) → (∀ r ∈ rows, G r = 0) → G (fun j => lap (F j) c P rows) = 0
  | [], P, _, _ => Lf_0 hG
  | v :: rows, P, h1, h2 => by
    have ih := sp_lap c G hG F hF rows (P ++ [v]) (fun r hr => by
      rcases List.mem_append.1 hr with e | e
      · exact h1 r e
      · rw [List.mem_singleton.1 e]; exact h2 v List.mem_cons_self) (fun r hr => h2 r (List.mem_cons_of_mem _ hr))
    have hf := hF (P ++ rows) (fun r hr => by
      rcases List.mem_append.1 hr with e | e
      · exact h1 r e
      · exact h2 r (List.mem_cons_of_mem _ e))
    have e : (fun j => lap (F j) c P (v :: rows)) = fun j => v c * F j (P ++ rows) + (-1) * lap (F j) c (P ++ [v]) rows := by
      funext j; simp only [lap]; omega
    rw [e, hG, hf, ih]; simp
theorem sp_set : ∀ (cs : List Nat) (k : Nat) (R : List dV), k < cs.length → Sp R (fun j => dt (cs.set k j) R)
  | [], k, R, h => absurd h (Nat.not_lt_zero _)
  | c :: cs, 0, R, h => fun G hG hR => lap_fun (dt cs) G hG R [] hR
  | c :: cs, k + 1, R, h => fun G hG hR => by
    have hk : k < cs.length := by simpa using h
    exact sp_lap c G hG (fun j l => dt (cs.set k j) l) (fun l hl => sp_set cs k l hk G hG hl) R [] (fun r hr => absurd hr List.not_mem_nil) hR
theorem sp_lft (cs : List Nat) (R : List dV) (v : dV) : Sp (v :: R) (lft cs R v) := fun G hG h => by
  rw [lft_fun cs R v G hG (fun r hr => h r (List.mem_cons_of_mem _ hr)), h v List.mem_cons_self]; simp
theorem sp_mono {R R' : List dV} {z : dV} (h : Sp R z) (hs : ∀ r ∈ R, r ∈ R') : Sp R' z := fun G hG hr => h G hG (fun r hx => hr r (hs r hx))
theorem sp_lin {R : List dV} {x y : dV} (a b : Int) (hx : Sp R x) (hy : Sp R y) : Sp R (fun j => a * x j + b * y j) := fun G hG hr => by
  rw [hG, hx G hG hr, hy G hG hr]; simp
/-- what the rows span is told by its columns -/
theorem sp_uniq {cs : List Nat} {R : List dV} (hd : dt cs R ≠ 0) {z : dV} (hz : Sp R z) (h0 : ∀ q ∈ cs, z q = 0) (j : Nat) : z j = 0 := by
  have h1 := hz (fun y => dt (j :: cs) (y :: R)) (fun x y a b => dt_lin (j :: cs) [] R x y a b) (fun r hr => dt_mem (j :: cs) [] [] R r hr)
  have h2 := lap_zero (f := dt cs) j [z] (fun l => dt_zero cs z l h0) R []
  simp only [dt, lap, List.nil_append, List.append_nil] at h1 h2
  rw [h2] at h1
  have h3 : z j * dt cs R = 0 := by omega
  rcases Int.mul_eq_zero.1 h3 with e | e
  · exact e
  · exact absurd e hd
theorem sp_eq {cs : List Nat} {R : List dV} (hd : dt cs R ≠ 0) {x y : dV} (hx : Sp R x) (hy : Sp R y) (h : ∀ q ∈ cs, x q = y q) (j : Nat) : x j = y j := by
  have := sp_uniq hd (sp_lin 1 (-1) hx hy) (fun q hq => by rw [h q hq]; omega) j
  have t : 1 * x j + -1 * y j = 0 := this
  omega
theorem lft_0 {cs : List Nat} {q : Nat} (h : q ∈ cs) (R : List dV) (v : dV) : lft cs R v q = 0 := dt_head cs q (v :: R) h
theorem mem_getD {cs : List Nat} {q : Nat} (h : q ∈ cs) : ∃ m, m < cs.length ∧ cs.getD m 0 = q := by
  obtain ⟨m, hm, e⟩ := List.getElem_of_mem h
  exact ⟨m, hm, by rw [List.getD_eq_getElem?_getD, List.getElem?_eq_getElem hm]; exact e⟩
/-- a pivot's row: the step -/
theorem set_step {cs : List Nat} {R : List dV} {p : dV} {c k : Nat} (hk : k < cs.length) (hd : dt cs R ≠ 0) (hP : dt (c :: cs) (p :: R) ≠ 0) (hc : c ∉ cs) (j : Nat) :
    dt cs R * dt ((c :: cs).set (k + 1) j) (p :: R) = dt (cs.set k j) R * lft cs R p c - dt (cs.set k c) R * lft cs R p j := by
  have s1 : Sp (p :: R) (fun j => dt ((c :: cs).set (k + 1) j) (p :: R)) := sp_set (c :: cs) (k + 1) (p :: R) (by simpa using hk)
  have s2 : Sp (p :: R) (fun j => dt (cs.set k j) R) := sp_mono (sp_set cs k R hk) (fun r hr => List.mem_cons_of_mem _ hr)
  have s3 := sp_lft cs R p
  refine sp_eq hP (x := fun j => dt cs R * dt ((c :: cs).set (k + 1) j) (p :: R)) (y := fun j => dt (cs.set k j) R * lft cs R p c - dt (cs.set k c) R * lft cs R p j) ?_ ?_ (fun q hq => ?_) j
  · have := sp_lin (dt cs R) 0 s1 s1
    have e : (fun j => dt cs R * dt ((c :: cs).set (k + 1) j) (p :: R) + 0 * dt ((c :: cs).set (k + 1) j) (p :: R)) = fun j => dt cs R * dt ((c :: cs).set (k + 1) j) (p :: R) := by funext j; omega
    rw [e] at this; exact this
  · have := sp_lin (lft cs R p c) (-(dt (cs.set k c) R)) s2 s3
    have e : (fun j => lft cs R p c * dt (cs.set k j) R + -(dt (cs.set k c) R) * lft cs R p j) = fun j => dt (cs.set k j) R * lft cs R p c - dt (cs.set k c) R * lft cs R p j := by funext j; rw [Int.mul_comm (lft cs R p c), Int.neg_mul]; omega
    rw [e] at this; exact this
  · show dt cs R * dt ((c :: cs).set (k + 1) q) (p :: R) = dt (cs.set k q) R * lft cs R p c - dt (cs.set k c) R * lft cs R p q
    rcases List.mem_cons.1 hq with e | e
    · subst e
      have : dt ((q :: cs).set (k + 1) q) (p :: R) = 0 := dt_set_dup (q :: cs) (k + 1) q (p :: R) (by simpa using hk) ⟨0, by simp, by omega, rfl⟩
      rw [this]; simp [Int.mul_comm]
    · obtain ⟨m, m1, m2⟩ := mem_getD e
      rw [lft_0 e]
      by_cases f : m = k
      · subst f
        have a1 : dt ((c :: cs).set (m + 1) q) (p :: R) = dt (c :: cs) (p :: R) := by rw [← m2]; exact dt_set_same (c :: cs) (m + 1) (by simpa using hk) (p :: R)
        have a2 : dt (cs.set m q) R = dt cs R := by rw [← m2]; exact dt_set_same cs m hk R
        rw [a1, a2, lft_piv]; simp
      · have a1 : dt ((c :: cs).set (k + 1) q) (p :: R) = 0 := dt_set_dup (c :: cs) (k + 1) q (p :: R) (by simpa using hk) ⟨m + 1, by simpa using m1, by omega, m2⟩
        have a2 : dt (cs.set k q) R = 0 := dt_set_dup cs k q R hk ⟨m, m1, f, m2⟩
        rw [a1, a2]; simp
/-- a row that waits: the step -/
theorem left_step {cs : List Nat} {R : List dV} {u p : dV} {c : Nat} (hd : dt cs R ≠ 0) (j : Nat) : dt cs R * lft (c :: cs) (p :: R) u j = lft cs R u j * lft cs R p c - lft cs R u c * lft cs R p j := by
  rw [lft_step cs R u p c hd (fun q hq => lft_0 hq R u) (fun q hq => lft_0 hq R p) j, Int.mul_comm (lft cs R u c)]
