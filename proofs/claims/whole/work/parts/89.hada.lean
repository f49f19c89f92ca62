/-! ===== the square of a determinant is at most the product of the rows' sums of squares ===== -/
theorem sq_nn (a : Int) : 0 ≤ a * a := by rw [← Int.natAbs_mul_self]; exact Int.natCast_nonneg _
def Lam : Nat → Type
  | 0 => Int
  | n + 1 => Lam n × Lam n
def lAdd : (n : Nat) → Int → Lam n → Int → Lam n → Lam n
  | 0, a, x, b, y => (a * (show Int from x) + b * (show Int from y) : Int)
  | n + 1, a, x, b, y => (lAdd n a x.1 b y.1, lAdd n a x.2 b y.2)
def lIn : (n : Nat) → Lam n → Lam n → Int
  | 0, x, y => (show Int from x) * (show Int from y)
  | n + 1, x, y => lIn n x.1 y.1 + lIn n x.2 y.2
def lZ : (n : Nat) → Lam n
  | 0 => (0 : Int)
  | n + 1 => (lZ n, lZ n)
def lOne : (n : Nat) → Lam n
  | 0 => (1 : Int)
  | n + 1 => (lOne n, lZ n)
/-- v wedge x, over the columns cs -/
def wd (v : dV) : (cs : List Nat) → Lam cs.length → Lam cs.length
  | [], _ => (0 : Int)
  | c :: cs, x => (wd v cs x.1, lAdd cs.length (v c) x.1 (-1) (wd v cs x.2))
/-- v cut out of x -/
def ct (v : dV) : (cs : List Nat) → Lam cs.length → Lam cs.length
  | [], _ => (0 : Int)
  | c :: cs, x => (lAdd cs.length 1 (ct v cs x.1) (v c) x.2, lAdd cs.length (-1) (ct v cs x.2) 0 x.2)
def n2 : List Nat → dV → Int
  | [], _ => 0
  | c :: cs, v => v c * v c + n2 cs v
theorem lIn_addl : ∀ (n : Nat) (a b : Int) (x y z : Lam n), lIn n (lAdd n a x b y) z = a * lIn n x z + b * lIn n y z
  | 0, a, b, x, y, z => by
    show (a * (show Int from x) + b * (show Int from y)) * (show Int from z) = a * ((show Int from x) * (show Int from z)) + b * ((show Int from y) * (show Int from z))
    grind
  | n + 1, a, b, x, y, z => by
    show lIn n (lAdd n a x.1 b y.1) z.1 + lIn n (lAdd n a x.2 b y.2) z.2 = a * (lIn n x.1 z.1 + lIn n x.2 z.2) + b * (lIn n y.1 z.1 + lIn n y.2 z.2)
    rw [lIn_addl n, lIn_addl n]
    grind
theorem lIn_comm : ∀ (n : Nat) (x y : Lam n), lIn n x y = lIn n y x
  | 0, x, y => Int.mul_comm _ _
  | n + 1, x, y => by
    show lIn n x.1 y.1 + lIn n x.2 y.2 = lIn n y.1 x.1 + lIn n y.2 x.2
    rw [lIn_comm n x.1, lIn_comm n x.2]
theorem lIn_addr (n : Nat) (a b : Int) (x y z : Lam n) : lIn n z (lAdd n a x b y) = a * lIn n z x + b * lIn n z y := by
  rw [lIn_comm, lIn_addl, lIn_comm n x, lIn_comm n y]
theorem lIn_nn : ∀ (n : Nat) (x : Lam n), 0 ≤ lIn n x x
  | 0, x => by
    show 0 ≤ (show Int from x) * (show Int from x)
    exact sq_nn _
  | n + 1, x => Int.add_nonneg (lIn_nn n x.1) (lIn_nn n x.2)
theorem adj (v : dV) : ∀ (cs : List Nat) (x y : Lam cs.length), lIn cs.length (wd v cs x) y = lIn cs.length x (ct v cs y)
  | [], x, y => by
    show (0 : Int) * (show Int from y) = (show Int from x) * (0 : Int)
    rw [Int.zero_mul, Int.mul_zero]
  | c :: cs, x, y => by
    show lIn cs.length (wd v cs x.1) y.1 + lIn cs.length (lAdd cs.length (v c) x.1 (-1) (wd v cs x.2)) y.2 = lIn cs.length x.1 (lAdd cs.length 1 (ct v cs y.1) (v c) y.2) + lIn cs.length x.2 (lAdd cs.length (-1) (ct v cs y.2) 0 y.2)
    rw [lIn_addl, lIn_addr, lIn_addr, adj v cs x.1, adj v cs x.2]
    grind
theorem wd_ct (v : dV) : ∀ (cs : List Nat) (x : Lam cs.length), lIn cs.length (wd v cs x) (wd v cs x) + lIn cs.length (ct v cs x) (ct v cs x) = n2 cs v * lIn cs.length x x
  | [], x => by
    show (0 : Int) * 0 + 0 * 0 = 0 * _
    simp
  | c :: cs, x => by
    have h1 := wd_ct v cs x.1
    have h2 := wd_ct v cs x.2
    have h3 := adj v cs x.2 x.1
    have h4 : lIn cs.length x.2 (ct v cs x.1) = lIn cs.length (ct v cs x.1) x.2 := lIn_comm _ _ _
    have h5 : lIn cs.length (wd v cs x.2) x.1 = lIn cs.length x.1 (wd v cs x.2) := lIn_comm _ _ _
    have h6 : lIn cs.length x.2 (ct v cs x.2) = lIn cs.length (ct v cs x.2) x.2 := lIn_comm _ _ _
    show (lIn cs.length (wd v cs x.1) (wd v cs x.1) + lIn cs.length (lAdd cs.length (v c) x.1 (-1) (wd v cs x.2)) (lAdd cs.length (v c) x.1 (-1) (wd v cs x.2))) + (lIn cs.length (lAdd cs.length 1 (ct v cs x.1) (v c) x.2) (lAdd cs.length 1 (ct v cs x.1) (v c) x.2) + lIn cs.length (lAdd cs.length (-1) (ct v cs x.2) 0 x.2) (lAdd cs.length (-1) (ct v cs x.2) 0 x.2)) = (v c * v c + n2 cs v) * (lIn cs.length x.1 x.1 + lIn cs.length x.2 x.2)
    simp only [lIn_addl, lIn_addr]
    have h7 : lIn cs.length x.1 (wd v cs x.2) = lIn cs.length (ct v cs x.1) x.2 := by rw [← h5, h3, h4]
    rw [h4, h5, h7]
    clear h3 h4 h5 h6 h7
    generalize lIn cs.length (wd v cs x.1) (wd v cs x.1) = a1 at *
    generalize lIn cs.length (wd v cs x.2) (wd v cs x.2) = a2 at *
    generalize lIn cs.length (ct v cs x.1) (ct v cs x.1) = b1 at *
    generalize lIn cs.length (ct v cs x.2) (ct v cs x.2) = b2 at *
    generalize lIn cs.length (ct v cs x.1) x.2 = e2 at *
    generalize lIn cs.length x.1 x.1 = f1 at *
    generalize lIn cs.length x.2 x.2 = f2 at *
    generalize n2 cs v = N at *
    grind
def wds (cs : List Nat) : List dV → Lam cs.length
  | [] => lOne cs.length
  | v :: R => wd v cs (wds cs R)
def p2 (cs : List Nat) : List dV → Int
  | [] => 1
  | v :: R => n2 cs v * p2 cs R
theorem n2_nn : ∀ (cs : List Nat) (v : dV), 0 ≤ n2 cs v
  | [], v => Int.le_refl _
  | c :: cs, v => Int.add_nonneg (sq_nn _) (n2_nn cs v)
theorem lOne_1 : ∀ n, lIn n (lOne n) (lOne n) = 1 ∧ lIn n (lZ n) (lZ n) = 0
  | 0 => ⟨rfl, rfl⟩
  | n + 1 => by
    have := lOne_1 n
    refine ⟨?_, ?_⟩
    · show lIn n (lOne n) (lOne n) + lIn n (lZ n) (lZ n) = 1
      rw [this.1, this.2]; rfl
    · show lIn n (lZ n) (lZ n) + lIn n (lZ n) (lZ n) = 0
      rw [this.2]; rfl
theorem wds_le (cs : List Nat) : ∀ R, lIn cs.length (wds cs R) (wds cs R) ≤ p2 cs R
  | [] => by show lIn _ (lOne _) (lOne _) ≤ 1; rw [(lOne_1 _).1]; exact Int.le_refl _
  | v :: R => by
    have h1 := wd_ct v cs (wds cs R)
    have h2 := wds_le cs R
    have h3 := lIn_nn cs.length (ct v cs (wds cs R))
    have h4 := Int.mul_le_mul_of_nonneg_left h2 (n2_nn cs v)
    show lIn cs.length (wd v cs (wds cs R)) (wd v cs (wds cs R)) ≤ n2 cs v * p2 cs R
    omega
def top : (n : Nat) → Lam n → Int
  | 0, x => x
  | n + 1, x => top n x.2
theorem top_sq : ∀ (n : Nat) (x : Lam n), top n x * top n x ≤ lIn n x x
  | 0, x => Int.le_refl _
  | n + 1, x => by
    have h1 := top_sq n x.2
    have h2 := lIn_nn n x.1
    show top n x.2 * top n x.2 ≤ lIn n x.1 x.1 + lIn n x.2 x.2
    omega
theorem top_add : ∀ (n : Nat) (a b : Int) (x y : Lam n), top n (lAdd n a x b y) = a * top n x + b * top n y
  | 0, _, _, _, _ => rfl
  | n + 1, a, b, x, y => top_add n a b x.2 y.2
theorem lAdd_lin : ∀ (n : Nat) (a b c d : Int) (x y z w : Lam n), lAdd n a (lAdd n c x d y) b (lAdd n c z d w) = lAdd n c (lAdd n a x b z) d (lAdd n a y b w)
  | 0, a, b, c, d, x, y, z, w => by
    show (a * (c * (show Int from x) + d * (show Int from y)) + b * (c * (show Int from z) + d * (show Int from w)) : Int) = (c * (a * (show Int from x) + b * (show Int from z)) + d * (a * (show Int from y) + b * (show Int from w)) : Int)
    grind
  | n + 1, a, b, c, d, x, y, z, w => by
    exact Prod.ext (lAdd_lin n a b c d x.1 y.1 z.1 w.1) (lAdd_lin n a b c d x.2 y.2 z.2 w.2)
theorem wd_add (v : dV) : ∀ (cs : List Nat) (a b : Int) (x y : Lam cs.length), wd v cs (lAdd cs.length a x b y) = lAdd cs.length a (wd v cs x) b (wd v cs y)
  | [], a, b, x, y => by show (0 : Int) = (a * 0 + b * 0 : Int); simp
  | c :: cs, a, b, x, y => by
    show (wd v cs (lAdd cs.length a x.1 b y.1), lAdd cs.length (v c) (lAdd cs.length a x.1 b y.1) (-1) (wd v cs (lAdd cs.length a x.2 b y.2))) = (_, _)
    rw [wd_add v cs, wd_add v cs, lAdd_lin]
    rfl
/-- functionals that are linear -/
def lLin (n : Nat) (F : Lam n → Int) : Prop := ∀ a b x y, F (lAdd n a x b y) = a * F x + b * F y
theorem wds_fst (c : Nat) (cs : List Nat) : ∀ R, (wds (c :: cs) R).1 = wds cs R
  | [] => rfl
  | v :: R => by show wd v cs (wds (c :: cs) R).1 = wd v cs (wds cs R); rw [wds_fst c cs R]
theorem lZ_F (n : Nat) (F : Lam n → Int) (hF : lLin n F) : F (lZ n) = 0 := by
  have z : lAdd n 0 (lZ n) 0 (lZ n) = lZ n := by
    have : ∀ m, lAdd m 0 (lZ m) 0 (lZ m) = lZ m := by
      intro m
      induction m with
      | zero => rfl
      | succ m ih => exact Prod.ext ih ih
    exact this n
  have := hF 0 0 (lZ n) (lZ n)
  rw [z] at this
  omega
theorem lap_cons (c : Nat) (v : dV) : ∀ (rows P : List dV) (f : List dV → Int), lap f c (v :: P) rows = lap (fun l => f (v :: l)) c P rows
  | [], P, f => rfl
  | u :: rows, P, f => by
    show u c * f (v :: P ++ rows) - lap f c (v :: P ++ [u]) rows = u c * f (v :: (P ++ rows)) - lap (fun l => f (v :: l)) c (P ++ [u]) rows
    rw [← lap_cons c v rows (P ++ [u]) f]
    rfl
theorem lap_wd (c : Nat) (cs : List Nat) : ∀ (R : List dV) (F : Lam cs.length → Int), lLin cs.length F → F (wds (c :: cs) R).2 = lap (fun l => F (wds cs l)) c [] R
  | [], F, hF => lZ_F _ F hF
  | v :: R, F, hF => by
    have e : (wds (c :: cs) (v :: R)).2 = lAdd cs.length (v c) (wds (c :: cs) R).1 (-1) (wd v cs (wds (c :: cs) R).2) := rfl
    have ih := lap_wd c cs R (fun x => F (wd v cs x)) (fun a b x y => by show F (wd v cs _) = _; rw [wd_add, hF])
    rw [e, hF, wds_fst, ih]
    show _ = v c * F (wds cs ([] ++ R)) - lap (fun l => F (wds cs l)) c ([] ++ [v]) R
    rw [List.nil_append, List.nil_append, lap_cons]
    show _ + -1 * lap (fun l => F (wds cs (v :: l))) c [] R = _
    omega
theorem dt_top : ∀ (cs : List Nat) (R : List dV), dt cs R = top cs.length (wds cs R)
  | [], [] => rfl
  | [], v :: R => rfl
  | c :: cs, R => by
    show lap (dt cs) c [] R = top cs.length (wds (c :: cs) R).2
    rw [lap_wd c cs R (top cs.length) (fun a b x y => top_add _ a b x y)]
    congr 1
    funext l
    exact dt_top cs l
theorem hadamard (cs : List Nat) (R : List dV) : dt cs R * dt cs R ≤ p2 cs R := by
  rw [dt_top]
  exact Int.le_trans (top_sq _ _) (wds_le cs R)
