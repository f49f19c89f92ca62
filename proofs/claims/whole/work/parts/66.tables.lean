/-! ===== small ints as longs ===== -/
def sb (a : Nat) (x : Int32) : Prop := x.toInt.natAbs ≤ a
theorem nab_mul {x y : Int} {a b : Nat} (hx : x.natAbs ≤ a) (hy : y.natAbs ≤ b) : (x * y).natAbs ≤ a * b := by
  rw [Int.natAbs_mul]; exact Nat.mul_le_mul hx hy
theorem sb_add {x y : Int32} {a b : Nat} (hx : sb a x) (hy : sb b y) (h : a + b < 2147483648) : sb (a + b) (x + y) ∧ (x + y).toInt64 = x.toInt64 + y.toInt64 := by
  unfold sb at *
  have e : (x + y).toInt = x.toInt + y.toInt := fb_addI (by omega) (by omega)
  refine ⟨by rw [e]; omega, ?_⟩
  rw [l_eq, i_l, e, fb_addL (by rw [i_l, i_l]; omega) (by rw [i_l, i_l]; omega), i_l, i_l]
theorem sb_sub {x y : Int32} {a b : Nat} (hx : sb a x) (hy : sb b y) (h : a + b < 2147483648) : sb (a + b) (x - y) ∧ (x - y).toInt64 = x.toInt64 - y.toInt64 := by
  unfold sb at *
  have e : (x - y).toInt = x.toInt - y.toInt := fb_subI (by omega) (by omega)
  refine ⟨by rw [e]; omega, ?_⟩
  rw [l_eq, i_l, e, fb_subL (by rw [i_l, i_l]; omega) (by rw [i_l, i_l]; omega), i_l, i_l]
theorem sb_mul {x y : Int32} {a b : Nat} (hx : sb a x) (hy : sb b y) (h : a * b < 2147483648) : sb (a * b) (x * y) ∧ (x * y).toInt64 = x.toInt64 * y.toInt64 := by
  unfold sb at *
  have k := nab_mul hx hy
  have e : (x * y).toInt = x.toInt * y.toInt := fb_mulI (by omega) (by omega)
  refine ⟨by rw [e]; exact k, ?_⟩
  rw [l_eq, i_l, e, fb_mulL (by rw [i_l, i_l]; omega) (by rw [i_l, i_l]; omega), i_l, i_l]
theorem sb_neg {x : Int32} {a : Nat} (hx : sb a x) (h : a < 2147483648) : sb a (-x) ∧ (-x).toInt64 = -x.toInt64 := by
  have := (sb_sub (x := 0) (a := 0) (Nat.le_refl 0) hx (by omega))
  rw [show (0 : Int32) - x = -x from Int32.zero_sub x, Nat.zero_add] at this
  exact ⟨this.1, by rw [this.2]; exact Int64.zero_sub _⟩
theorem sb_le {x : Int32} {a b : Nat} (hx : sb a x) (h : a ≤ b) : sb b x := Nat.le_trans hx h
theorem sb_bnd {x : Int32} {a : Nat} (h : bnd (-(a : Int)) a x) : sb a x := by
  unfold sb; obtain ⟨h1, h2⟩ := h; omega
theorem h_two {x y z w : Int32} (hx : sb 50 x) (hy : sb 50 y) (hz : sb 50 z) (hw : sb 50 w) : (x * y - z * w).toInt64 = x.toInt64 * y.toInt64 - z.toInt64 * w.toInt64 := by
  have h1 := sb_mul hx hy (by omega)
  have h2 := sb_mul hz hw (by omega)
  rw [(sb_sub h1.1 h2.1 (by omega)).2, h1.2, h2.2]
theorem h_tri {u x y z w : Int32} (hu : sb 50 u) (hx : sb 50 x) (hy : sb 50 y) (hz : sb 50 z) (hw : sb 50 w) : (u * (x * y - z * w)).toInt64 = u.toInt64 * (x.toInt64 * y.toInt64 - z.toInt64 * w.toInt64) := by
  have h1 := sb_mul hx hy (by omega)
  have h2 := sb_mul hz hw (by omega)
  have h3 := sb_sub h1.1 h2.1 (by omega)
  rw [(sb_mul hu h3.1 (by omega)).2, h_two hx hy hz hw]
theorem h_sum {x y z : Int32} (hx : sb 50 x) (hy : sb 50 y) (hz : sb 50 z) : (x + y + z).toInt64 = x.toInt64 + y.toInt64 + z.toInt64 := by
  have h1 := sb_add hx hy (by omega)
  rw [(sb_add h1.1 hz (by omega)).2, h1.2]
theorem okT_sb {m n : Int} {T : Nat → Int32} (h : okT m n T) {k : Nat} (hk : k < 27) : sb 50 (T k) := by
  by_cases a : k < 18
  · exact sb_le (sb_bnd (a := 5) (h.1 k a)) (by omega)
  · exact sb_bnd (a := 50) (h.2.1 k (by omega) hk)
theorem okT_z {m n : Int} {T : Nat → Int32} (h : okT m n T) (t i j : Nat) (ht : t < 3) (hi : i < 3) (hj : j < 3) (hz : (if t = 1 then n else m) ≤ (i : Int) ∨ (if t = 0 then m else n) ≤ (j : Int)) : T (9 * t + 3 * i + j) = 0 := h.2.2 t i j ht hi hj hz
theorem z64 : (0 : Int32).toInt64 = 0 := rfl
/-- a square table of r rows in the one row T, from place b on -/
def sqT (r : Int) (b : Nat) (T : Nat → Int32) : Prop := (∀ k, k < 9 → sb 50 (T (b + k))) ∧ (∀ i j : Nat, i < 3 → j < 3 → (r ≤ (i : Int) ∨ r ≤ (j : Int)) → T (b + (3 * i + j)) = 0)
theorem sq_of {m n : Int} {T : Nat → Int32} (h : okT m n T) {t : Nat} (ht : t < 3) {r : Int} (hr : (if t = 1 then n else m) = r) (hc : (if t = 0 then m else n) = r) : sqT r (9 * t) T := by
  refine ⟨fun k hk => okT_sb h (by omega), fun i j hi hj hz => ?_⟩
  rw [← Nat.add_assoc]
  exact okT_z h t i j ht hi hj (by rw [hr, hc]; exact hz)
theorem sq_z {r : Int} {b : Nat} {T : Nat → Int32} (h : sqT r b T) (i j : Nat) (hi : i < 3) (hj : j < 3) (hz : r ≤ (i : Int) ∨ r ≤ (j : Int)) : T (b + (3 * i + j)) = 0 := h.2 i j hi hj hz
theorem nw_sq {X M : w_S} (h : Nw X M) {t : Int32} (ht : 0 ≤ t.toInt ∧ t.toInt ≤ 2) (hs : t = 2 → gI X 0 = gI X 1) : ∃ r : Int32, (r = 1 ∨ r = 2 ∨ r = 3) ∧ fX4_rows_1 X t = some r ∧ fX7_rowsOf M t = some r ∧ sqT r.toInt (9 * t.toInt.toNat) (TX X) ∧ (∀ k, k < 9 → gA M 0 (9 * t.toInt.toNat + k) = TX X (9 * t.toInt.toNat + k)) := by
  obtain ⟨⟨e1, e2, e3, e4⟩, hm, hn, hq, hT, h6, h7, h8, h9, hk⟩ := h
  refine ⟨if t = 1 then gI X 1 else gI X 0, ?_, ?_, ?_, ?_, fun k hk => hT _ (by omega)⟩
  · split
    · exact of_side hn
    · exact of_side hm
  · rw [fX4_rows_1]; split <;> rfl
  · rw [fX7_rowsOf, e1, e2]; split <;> rfl
  · rcases t_cases ht with rfl | rfl | rfl
    · exact sq_of hk (t := 0) (by decide) rfl rfl
    · exact sq_of hk (t := 1) (by decide) rfl rfl
    · exact sq_of hk (t := 2) (by decide) rfl (by rw [← hs rfl]; rfl)
theorem mn1 {X M : w_S} {t r : Int32} (ht : 0 ≤ t.toInt ∧ t.toInt ≤ 2) (hr : r = 1 ∨ r = 2 ∨ r = 3) (hM : fX7_rowsOf M t = some r) (hq : sqT r.toInt (9 * t.toInt.toNat) (TX X)) (hT : ∀ k, k < 9 → gA M 0 (9 * t.toInt.toNat + k) = TX X (9 * t.toInt.toNat + k)) : ∃ v, fX4_minors_1 X t 1 = some v ∧ fX7_sumDown M t = some v := by
  have hb := hq.1
  refine ⟨_, x_min1 X ht, ?_⟩
  rw [h_sum (hb 0 (by omega)) (hb 4 (by omega)) (hb 8 (by omega))]
  rcases hr with rfl | rfl | rfl
  · rw [m_sum1 M ht hM, hT 0 (by omega), sq_z hq 1 1 (by omega) (by omega) (by decide), sq_z hq 2 2 (by omega) (by omega) (by decide), z64]
    refine congrArg some ?_; grind
  · rw [m_sum2 M ht hM, hT 0 (by omega), hT 4 (by omega), sq_z hq 2 2 (by omega) (by omega) (by decide), z64]
    refine congrArg some ?_; grind
  · rw [m_sum3 M ht hM, hT 0 (by omega), hT 4 (by omega), hT 8 (by omega)]
    refine congrArg some ?_; grind
theorem mn2 {X M : w_S} {t r : Int32} (ht : 0 ≤ t.toInt ∧ t.toInt ≤ 2) (hr : r = 1 ∨ r = 2 ∨ r = 3) (hM : fX7_rowsOf M t = some r) (hq : sqT r.toInt (9 * t.toInt.toNat) (TX X)) (hT : ∀ k, k < 9 → gA M 0 (9 * t.toInt.toNat + k) = TX X (9 * t.toInt.toNat + k)) : ∃ v, fX4_minors_1 X t 2 = some v ∧ fX7_pairs M t = some v := by
  have hb := hq.1
  refine ⟨_, x_min2 X ht, ?_⟩
  rw [h_two (hb 0 (by omega)) (hb 4 (by omega)) (hb 1 (by omega)) (hb 3 (by omega)), h_two (hb 0 (by omega)) (hb 8 (by omega)) (hb 2 (by omega)) (hb 6 (by omega)), h_two (hb 4 (by omega)) (hb 8 (by omega)) (hb 5 (by omega)) (hb 7 (by omega))]
  rcases hr with rfl | rfl | rfl
  · rw [m_pairs1 M ht hM, sq_z hq 1 1 (by omega) (by omega) (by decide), sq_z hq 2 2 (by omega) (by omega) (by decide), sq_z hq 0 1 (by omega) (by omega) (by decide), sq_z hq 0 2 (by omega) (by omega) (by decide), sq_z hq 1 2 (by omega) (by omega) (by decide), z64]
    refine congrArg some ?_; grind
  · rw [m_pairs2 M ht hM, hT 0 (by omega), hT 4 (by omega), hT 1 (by omega), hT 3 (by omega), sq_z hq 2 2 (by omega) (by omega) (by decide), sq_z hq 0 2 (by omega) (by omega) (by decide), sq_z hq 1 2 (by omega) (by omega) (by decide), z64]
    refine congrArg some ?_; grind
  · rw [m_pairs3 M ht hM, hT 0 (by omega), hT 4 (by omega), hT 1 (by omega), hT 3 (by omega), hT 2 (by omega), hT 5 (by omega), hT 6 (by omega), hT 7 (by omega), hT 8 (by omega)]
    refine congrArg some ?_; grind
theorem mnr {X M : w_S} {t r : Int32} (ht : 0 ≤ t.toInt ∧ t.toInt ≤ 2) (hr : r = 1 ∨ r = 2 ∨ r = 3) (hM : fX7_rowsOf M t = some r) (hq : sqT r.toInt (9 * t.toInt.toNat) (TX X)) (hT : ∀ k, k < 9 → gA M 0 (9 * t.toInt.toNat + k) = TX X (9 * t.toInt.toNat + k)) : ∃ v, fX4_minors_1 X t r = some v ∧ fX7_detOf M t = some v := by
  have hb := hq.1
  rcases hr with rfl | rfl | rfl
  · refine ⟨_, x_min1 X ht, ?_⟩
    rw [h_sum (hb 0 (by omega)) (hb 4 (by omega)) (hb 8 (by omega)), m_det1 M ht hM, hT 0 (by omega), sq_z hq 1 1 (by omega) (by omega) (by decide), sq_z hq 2 2 (by omega) (by omega) (by decide), z64]
    refine congrArg some ?_; grind
  · refine ⟨_, x_min2 X ht, ?_⟩
    rw [h_two (hb 0 (by omega)) (hb 4 (by omega)) (hb 1 (by omega)) (hb 3 (by omega)), h_two (hb 0 (by omega)) (hb 8 (by omega)) (hb 2 (by omega)) (hb 6 (by omega)), h_two (hb 4 (by omega)) (hb 8 (by omega)) (hb 5 (by omega)) (hb 7 (by omega))]
    rw [m_det2 M ht hM, hT 0 (by omega), hT 4 (by omega), hT 1 (by omega), hT 3 (by omega), sq_z hq 2 2 (by omega) (by omega) (by decide), sq_z hq 0 2 (by omega) (by omega) (by decide), sq_z hq 1 2 (by omega) (by omega) (by decide), z64]
    refine congrArg some ?_; grind
  · refine ⟨_, x_min3 X ht, ?_⟩
    rw [h_tri (hb 0 (by omega)) (hb 4 (by omega)) (hb 8 (by omega)) (hb 5 (by omega)) (hb 7 (by omega)), h_tri (hb 1 (by omega)) (hb 5 (by omega)) (hb 6 (by omega)) (hb 3 (by omega)) (hb 8 (by omega)), h_tri (hb 2 (by omega)) (hb 3 (by omega)) (hb 7 (by omega)) (hb 4 (by omega)) (hb 6 (by omega))]
    rw [m_det3 M ht hM, hT 0 (by omega), hT 4 (by omega), hT 1 (by omega), hT 3 (by omega), hT 2 (by omega), hT 5 (by omega), hT 6 (by omega), hT 7 (by omega), hT 8 (by omega)]
    refine congrArg some ?_; grind
theorem eq_det : E_det Rel := by
  intro X M h t
  have hw := nw_of h.1
  rw [fX6_det, fX7_det, m_in32]
  by_cases hc : t = 0 ∨ t = 1
  · have ht : 0 ≤ t.toInt ∧ t.toInt ≤ 2 := by rcases hc with rfl | rfl <;> decide
    obtain ⟨r, h1, h2, h3, h4, h5⟩ := nw_sq hw ht (fun e => by subst e; rcases hc with hc | hc <;> exact absurd hc (by decide))
    obtain ⟨v, h6, h7⟩ := mnr ht h1 h3 h4 h5
    refine ⟨v, v, ?_, ?_, rfl, h⟩
    · simp only [h2, Option.bind_some, h6]; rcases hc with rfl | rfl <;> rfl
    · rw [if_pos (by rcases hc with rfl | rfl <;> decide)]
      simp only [Option.bind_some, one0, if_false, h7]
  · rw [if_neg (fun e => hc (Or.inl e)), if_neg (fun e => hc (Or.inr e)), if_neg (by rw [i_eq, i_eq, ti_0, ti_1] at hc; rw [tl_0, tl_1]; omega)]
    exact ⟨_, _, rfl, rfl, rfl, h⟩
theorem eq_diagonal : E_diagonal Rel := by
  intro X M h t
  have hw := nw_of h.1
  obtain ⟨⟨e1, e2, -⟩, -⟩ := id hw
  rw [fX6_diagonal, fX7_diagonal, m_in32, e1, e2]
  by_cases hc : 0 ≤ t.toInt ∧ t.toInt ≤ 2
  · by_cases h2 : t = 2 ∧ gI X 0 ≠ gI X 1
    · obtain ⟨rfl, h2⟩ := h2
      simp only [if_neg h2]
      exact ⟨_, _, rfl, rfl, rfl, h⟩
    · obtain ⟨r, h1, h2', h3, h4, h5⟩ := nw_sq hw hc (fun e => Classical.byContradiction fun f => h2 ⟨e, f⟩)
      obtain ⟨v, h6, h7⟩ := mn1 hc h1 h3 h4 h5
      refine ⟨v, v, ?_, ?_, rfl, h⟩
      · simp only [Option.bind_some, h6]
        rcases t_cases hc with rfl | rfl | rfl
        · rfl
        · rfl
        · have : gI X 0 = gI X 1 := Classical.byContradiction fun f => h2 ⟨rfl, f⟩
          simp only [if_pos this]; rfl
      · simp only [Option.bind_some, h7]
        rcases t_cases hc with rfl | rfl | rfl
        · rfl
        · rfl
        · have : gI X 0 = gI X 1 := Classical.byContradiction fun f => h2 ⟨rfl, f⟩
          simp only [if_pos this]; rfl
  · have : ¬ (t = 0 ∨ t = 1 ∨ t = 2) := by rw [i_eq, i_eq, i_eq, ti_0, ti_1, ti_2]; omega
    rw [if_neg (fun e => this (Or.inl e)), if_neg (fun e => this (Or.inr (Or.inl e))), if_neg (fun e => this (Or.inr (Or.inr e))), if_neg (by rw [tl_0, tl_2]; omega)]
    exact ⟨_, _, rfl, rfl, rfl, h⟩
theorem eq_swapped : E_swapped Rel := by
  intro X M h
  have hw := nw_of h.1
  obtain ⟨⟨e1, e2, -⟩, -⟩ := id hw
  rw [fX6_swapped, fX7_swapped, e1, e2]
  by_cases hc : gI X 0 = gI X 1
  · obtain ⟨r, h1, h2', h3, h4, h5⟩ := nw_sq hw (t := 2) (by decide) (fun _ => hc)
    obtain ⟨v, h6, h7⟩ := mn1 (by decide) h1 h3 h4 h5
    rw [if_pos hc, if_pos hc, h6, h7]
    by_cases hv : v = 0
    · exact ⟨1, 1, by rw [Option.bind_some, if_pos hv]; rfl, by rw [Option.bind_some, if_pos hv], rfl, h⟩
    · exact ⟨0, 0, by rw [Option.bind_some, if_neg hv]; rfl, by rw [Option.bind_some, if_neg hv], rfl, h⟩
  · rw [if_neg hc, if_neg hc]
    exact ⟨_, _, rfl, rfl, rfl, h⟩
theorem eq_stable : E_stable Rel := by
  intro X M h
  have hw := nw_of h.1
  obtain ⟨⟨e1, e2, -⟩, -⟩ := id hw
  obtain ⟨r, h1, h2, h3, h4, h5⟩ := nw_sq hw (t := 0) (by decide) (fun e => absurd e (by decide))
  obtain ⟨v1, a1, a2⟩ := mn1 (by decide) h1 h3 h4 h5
  obtain ⟨v2, b1, b2⟩ := mn2 (by decide) h1 h3 h4 h5
  obtain ⟨v, c1, c2⟩ := mnr (by decide) h1 h3 h4 h5
  obtain ⟨v3, d1⟩ : ∃ v3, fX4_minors_1 X 0 3 = some v3 := ⟨_, x_min3 X (by decide)⟩
  have hr : gI X 0 = r := by rw [fX4_rows_1, if_neg (by decide)] at h2; exact Option.some.inj h2
  rw [fX6_stable, fX7_stable, e1, hr, a1, b1, d1, a2, b2, c2]
  simp only [Option.bind_some, fX6_oneIf]
  rcases h1 with rfl | rfl | rfl
  · simp only [eq_self, ↓reduceIte, one0, zero0, Option.bind_some, some_ite, ite_bind]
    by_cases k : 0 < -v1
    · simp only [k, ↓reduceIte, Option.bind_some, one0]; exact ⟨_, _, rfl, rfl, rfl, h⟩
    · simp only [k, ↓reduceIte, Option.bind_some, one0]; exact ⟨_, _, rfl, rfl, rfl, h⟩
  · simp only [eq_self, ↓reduceIte, one0, zero0, Option.bind_some, some_ite, ite_bind, q2_1]
    by_cases k : 0 < -v1
    · by_cases k2 : 0 < v2
      · simp only [k, k2, ↓reduceIte, Option.bind_some, one0]; exact ⟨_, _, rfl, rfl, rfl, h⟩
      · simp only [k, k2, ↓reduceIte, Option.bind_some, one0]; exact ⟨_, _, rfl, rfl, rfl, h⟩
    · simp only [k, ↓reduceIte, Option.bind_some, one0]; exact ⟨_, _, rfl, rfl, rfl, h⟩
  · obtain rfl : v3 = v := Option.some.inj (d1.symm.trans c1)
    rw [if_neg (show ¬ ((3 : Int32) - 3 / 2 * 2 = 0) by decide)]
    simp only [eq_self, ↓reduceIte, one0, zero0, Option.bind_some, some_ite, ite_bind, q3_1, q3_2]
    by_cases k : 0 < -v1
    · by_cases k2 : 0 < -v3
      · by_cases k3 : -v3 < -v1 * v2
        · simp only [k, k2, k3, ↓reduceIte, Option.bind_some, one0]; exact ⟨_, _, rfl, rfl, rfl, h⟩
        · simp only [k, k2, k3, ↓reduceIte, Option.bind_some, one0]; exact ⟨_, _, rfl, rfl, rfl, h⟩
      · simp only [k, k2, ↓reduceIte, Option.bind_some, one0]; exact ⟨_, _, rfl, rfl, rfl, h⟩
    · simp only [k, ↓reduceIte, Option.bind_some, one0]; exact ⟨_, _, rfl, rfl, rfl, h⟩
