/-! ===== tests, as one question each ===== -/
theorem some_ite {α : Type} {c : Prop} [Decidable c] (x y : α) : some (if c then x else y) = if c then some x else some y := by split <;> rfl
theorem ite_bind {α β : Type} {c : Prop} [Decidable c] (x y : Option α) (k : α → Option β) : (if c then x else y).bind k = if c then x.bind k else y.bind k := by split <;> rfl
theorem one0 : ((1 : Int32) = 0) = False := eq_false (by decide)
theorem zero0 : ((0 : Int32) = 0) = True := eq_self 0
theorem zero1 : ((0 : Int32) = 1) = False := eq_false (by decide)
theorem ix_ok {x : Int32} {n : Nat} (h0 : 0 ≤ x.toInt) (h1 : x.toInt < n) : ¬ (x < 0 ∨ n ≤ x.toNatClampNeg) := by
  intro h
  rcases h with h | h
  · rw [i_lt, ti_0] at h; omega
  · have : x.toNatClampNeg = x.toInt.toNat := rfl
    omega
theorem cl_nn (x : Int32) : x.toNatClampNeg = x.toInt.toNat := rfl
/-- the place is one of table t of m rows, n columns -/
abbrev isAt (m n : Int) (t i j : Int32) : Prop := 0 ≤ t.toInt ∧ t.toInt ≤ 2 ∧ 0 ≤ i.toInt ∧ i.toInt < (if t = 1 then n else m) ∧ 0 ≤ j.toInt ∧ j.toInt < (if t = 0 then m else n)
theorem x_hasEntry (S : w_S) (t i j : Int32) : fX4_hasEntry_1 S t i j = if isAt (gI S 0).toInt (gI S 1).toInt t i j then some 1 else some 0 := by
  rw [fX4_hasEntry_1, fX4_rows_1, fX4_columns_1]
  unfold isAt
  by_cases h1 : t = 1 <;> by_cases h0 : t = 0 <;> simp only [h1, h0, if_true, if_false, Option.bind_some, i_lt, i_le, ti_0, ti_1, ti_2] <;> grind
theorem m_isPlace (S : w_S) (t i j : Int32) (hm : 1 ≤ (gI S 0).toInt ∧ (gI S 0).toInt ≤ 3) (hn : 1 ≤ (gI S 1).toInt ∧ (gI S 1).toInt ≤ 3) : fX7_isPlace S t i j = if isAt (gI S 0).toInt (gI S 1).toInt t i j then some 1 else some 0 := by
  have e0 : ((gI S 0) - 1).toInt = (gI S 0).toInt - 1 := fb_subI (by rw [ti_1]; omega) (by rw [ti_1]; omega)
  have e1 : ((gI S 1) - 1).toInt = (gI S 1).toInt - 1 := fb_subI (by rw [ti_1]; omega) (by rw [ti_1]; omega)
  rw [fX7_isPlace, fX7_rowsOf, fX7_columnsOf]
  unfold isAt
  by_cases h1 : t = 1 <;> by_cases h0 : t = 0 <;> simp only [h1, h0, if_true, if_false, m_in32, i_l, some_ite, ite_bind, Option.bind_some, one0, e0, e1, tl_0, tl_2] <;> grind
theorem isAt_room {m n : Int} {t i j : Int32} (hm : 1 ≤ m ∧ m ≤ 3) (hn : 1 ≤ n ∧ n ≤ 3) (h : isAt m n t i j) : (0 ≤ t.toInt ∧ t.toInt ≤ 2) ∧ (0 ≤ i.toInt ∧ i.toInt < 3) ∧ (0 ≤ j.toInt ∧ j.toInt < 3) := by
  obtain ⟨h1, h2, h3, h4, h5, h6⟩ := h
  refine ⟨⟨h1, h2⟩, ⟨h3, ?_⟩, h5, ?_⟩
  · split at h4 <;> omega
  · split at h6 <;> omega
theorem side_of {m : Int32} (h : m = 1 ∨ m = 2 ∨ m = 3) : 1 ≤ m.toInt ∧ m.toInt ≤ 3 := by
  rcases h with rfl | rfl | rfl <;> decide
theorem of_side {m : Int32} (h : 1 ≤ m.toInt ∧ m.toInt ≤ 3) : m = 1 ∨ m = 2 ∨ m = 3 := by
  rw [i_eq, i_eq, i_eq, ti_1, ti_2, ti_3]; omega
theorem t_cases {t : Int32} (h : 0 ≤ t.toInt ∧ t.toInt ≤ 2) : t = 0 ∨ t = 1 ∨ t = 2 := by
  rw [i_eq, i_eq, i_eq, ti_0, ti_1, ti_2]; omega
theorem idx3 {i j : Int32} (hi : 0 ≤ i.toInt ∧ i.toInt < 3) (hj : 0 ≤ j.toInt ∧ j.toInt < 3) : ((i * 3) + j).toInt = 3 * i.toInt + j.toInt := by
  have h1 : (i * 3).toInt = i.toInt * 3 := by rw [fb_mulI (by rw [ti_3]; omega) (by rw [ti_3]; omega), ti_3]
  rw [fb_addI (by rw [h1]; omega) (by rw [h1]; omega), h1]; omega
theorem idx9 {t i j : Int32} (ht : 0 ≤ t.toInt ∧ t.toInt ≤ 2) (hi : 0 ≤ i.toInt ∧ i.toInt < 3) (hj : 0 ≤ j.toInt ∧ j.toInt < 3) : (((9 * t) + (3 * i)) + j).toInt = 9 * t.toInt + 3 * i.toInt + j.toInt := by
  have h1 : (9 * t).toInt = 9 * t.toInt := by rw [fb_mulI (by rw [ti_9]; omega) (by rw [ti_9]; omega), ti_9]
  have h2 : (3 * i).toInt = 3 * i.toInt := by rw [fb_mulI (by rw [ti_3]; omega) (by rw [ti_3]; omega), ti_3]
  have h3 : ((9 * t) + (3 * i)).toInt = 9 * t.toInt + 3 * i.toInt := by rw [fb_addI (by rw [h1, h2]; omega) (by rw [h1, h2]; omega), h1, h2]
  rw [fb_addI (by rw [h3]; omega) (by rw [h3]; omega), h3]
/-- the class's three tables as one row -/
def TX (S : w_S) (k : Nat) : Int32 := if k < 9 then gA S 0 k else if k < 18 then gA S 1 (k - 9) else gA S 2 (k - 18)
def at9 (t i j : Int32) : Nat := 9 * t.toInt.toNat + 3 * i.toInt.toNat + j.toInt.toNat
theorem x_isRoom {i j : Int32} (hi : 0 ≤ i.toInt ∧ i.toInt < 3) (hj : 0 ≤ j.toInt ∧ j.toInt < 3) : fX4_isRoom i j = some 1 := by
  rw [fX4_isRoom]
  simp only [i_lt, i_le, ti_0, ti_3]
  rw [if_neg (by omega), if_neg (by omega), if_neg (by omega), if_neg (by omega)]
theorem x_entry (S : w_S) {t i j : Int32} (ht : 0 ≤ t.toInt ∧ t.toInt ≤ 2) (hi : 0 ≤ i.toInt ∧ i.toInt < 3) (hj : 0 ≤ j.toInt ∧ j.toInt < 3) : fX4_entry_1 S t i j = some (TX S (at9 t i j)) := by
  have h1 := idx3 hi hj
  have h3 : ¬ ((i * 3) + j < 0 ∨ 9 ≤ ((i * 3) + j).toNatClampNeg) := ix_ok (by omega) (by omega)
  have h2 : ((i * 3) + j).toNatClampNeg = 3 * i.toInt.toNat + j.toInt.toNat := by rw [cl_nn]; omega
  rw [h2] at h3
  rw [fX4_entry_1, x_isRoom hi hj]
  simp only [Option.bind_some, one0, if_false, h2, h3, not_false_eq_true, if_true]
  unfold TX at9
  rcases t_cases ht with rfl | rfl | rfl
  · rw [if_pos rfl, ti_0, if_pos (by omega)]; congr 2; omega
  · rw [if_neg (by decide), if_pos rfl, ti_1, if_neg (by omega), if_pos (by omega)]; congr 2; omega
  · rw [if_neg (by decide), if_neg (by decide), ti_2, if_neg (by omega), if_neg (by omega)]; congr 2; omega
theorem x_store (S : w_S) {t i j : Int32} (v : Int32) (ht : 0 ≤ t.toInt ∧ t.toInt ≤ 2) (hi : 0 ≤ i.toInt ∧ i.toInt < 3) (hj : 0 ≤ j.toInt ∧ j.toInt < 3) : ∃ S', fX4_store_1 S t i j v = some S' ∧ (∀ k, k < 27 → TX S' k = if k = at9 t i j then v else TX S k) ∧ gI S' = gI S ∧ gB S' = gB S ∧ (∀ k, 3 ≤ k → gA S' k = gA S k) := by
  have h1 := idx3 hi hj
  have h3 : ¬ ((i * 3) + j < 0 ∨ 9 ≤ ((i * 3) + j).toNatClampNeg) := ix_ok (by omega) (by omega)
  have h2 : ((i * 3) + j).toNatClampNeg = 3 * i.toInt.toNat + j.toInt.toNat := by rw [cl_nn]; omega
  rw [h2] at h3
  rw [fX4_store_1, x_isRoom hi hj]
  simp only [Option.bind_some, one0, if_false, h2, h3, not_false_eq_true, if_true]
  rcases t_cases ht with rfl | rfl | rfl
  · refine ⟨sA S 0 (upd (gA S 0) (3 * i.toInt.toNat + j.toInt.toNat) v), by rw [if_pos rfl], fun k hk => ?_, rfl, rfl, fun k hk => by rw [gA_sA, if_neg (by omega)]⟩
    unfold TX at9
    rw [ti_0]
    by_cases h : k < 9
    · rw [if_pos h, if_pos h, gA_sA, if_pos rfl, upd_ap]
      by_cases e : k = 3 * i.toInt.toNat + j.toInt.toNat
      · rw [if_pos e, if_pos (by omega)]
      · rw [if_neg e, if_neg (by omega)]
    · rw [if_neg h, if_neg h, gA_sA, gA_sA, if_neg (show ¬ (1 : Nat) = 0 by decide), if_neg (show ¬ (2 : Nat) = 0 by decide), if_neg (show ¬ k = _ by omega)]
  · refine ⟨sA S 1 (upd (gA S 1) (3 * i.toInt.toNat + j.toInt.toNat) v), by rw [if_neg (by decide), if_pos rfl], fun k hk => ?_, rfl, rfl, fun k hk => by rw [gA_sA, if_neg (by omega)]⟩
    unfold TX at9
    rw [ti_1]
    by_cases h : k < 9
    · rw [if_pos h, if_pos h, gA_sA, if_neg (by decide), if_neg (by omega)]
    · rw [if_neg h, if_neg h]
      by_cases h' : k < 18
      · rw [if_pos h', if_pos h', gA_sA, if_pos rfl, upd_ap]
        by_cases e : k - 9 = 3 * i.toInt.toNat + j.toInt.toNat
        · rw [if_pos e, if_pos (by omega)]
        · rw [if_neg e, if_neg (by omega)]
      · rw [if_neg h', if_neg h', gA_sA, if_neg (by decide), if_neg (by omega)]
  · refine ⟨sA S 2 (upd (gA S 2) (3 * i.toInt.toNat + j.toInt.toNat) v), by rw [if_neg (by decide), if_neg (by decide)], fun k hk => ?_, rfl, rfl, fun k hk => by rw [gA_sA, if_neg (by omega)]⟩
    unfold TX at9
    rw [ti_2]
    by_cases h : k < 9
    · rw [if_pos h, if_pos h, gA_sA, if_neg (by decide), if_neg (by omega)]
    · rw [if_neg h, if_neg h]
      by_cases h' : k < 18
      · rw [if_pos h', if_pos h', gA_sA, if_neg (by decide), if_neg (by omega)]
      · rw [if_neg h', if_neg h', gA_sA, if_pos rfl, upd_ap]
        by_cases e : k - 18 = 3 * i.toInt.toNat + j.toInt.toNat
        · rw [if_pos e, if_pos (by omega)]
        · rw [if_neg e, if_neg (by omega)]
theorem m_its (S : w_S) {t i j : Int32} (ht : 0 ≤ t.toInt ∧ t.toInt ≤ 2) (hi : 0 ≤ i.toInt ∧ i.toInt < 3) (hj : 0 ≤ j.toInt ∧ j.toInt < 3) : fX7_its S t i j = some (gA S 0 (at9 t i j)) := by
  have h1 := idx9 ht hi hj
  have h2 : (((9 * t) + (3 * i)) + j).toNatClampNeg = at9 t i j := by unfold at9; rw [cl_nn]; omega
  rw [fX7_its, if_pos (ix_ok (by omega) (by omega)), h2]
theorem m_idx {t i j : Int32} (ht : 0 ≤ t.toInt ∧ t.toInt ≤ 2) (hi : 0 ≤ i.toInt ∧ i.toInt < 3) (hj : 0 ≤ j.toInt ∧ j.toInt < 3) : ¬ ((((9 * t) + (3 * i)) + j) < 0 ∨ 27 ≤ (((9 * t) + (3 * i)) + j).toNatClampNeg) ∧ (((9 * t) + (3 * i)) + j).toNatClampNeg = at9 t i j := by
  have h1 := idx9 ht hi hj
  exact ⟨ix_ok (by omega) (by omega), by unfold at9; rw [cl_nn]; omega⟩
theorem at9_lt {t i j : Int32} (ht : 0 ≤ t.toInt ∧ t.toInt ≤ 2) (hi : 0 ≤ i.toInt ∧ i.toInt < 3) (hj : 0 ≤ j.toInt ∧ j.toInt < 3) : at9 t i j < 27 := by unfold at9; omega
/-! ===== R_now by the one row ===== -/
def okT (m n : Int) (T : Nat → Int32) : Prop := (∀ k, k < 18 → bnd (-5) 5 (T k)) ∧ (∀ k, 18 ≤ k → k < 27 → bnd (-50) 50 (T k)) ∧ (∀ t i j : Nat, t < 3 → i < 3 → j < 3 → ((if t = 1 then n else m) ≤ (i : Int) ∨ (if t = 0 then m else n) ≤ (j : Int)) → T (9 * t + 3 * i + j) = 0)
def Nw (X M : w_S) : Prop := (gI M 0 = gI X 0 ∧ gI M 1 = gI X 1 ∧ gI M 3 = gI X 2 ∧ gI M 2 = gI X 3) ∧ (1 ≤ (gI X 0).toInt ∧ (gI X 0).toInt ≤ 3) ∧ (1 ≤ (gI X 1).toInt ∧ (gI X 1).toInt ≤ 3) ∧ (0 ≤ (gI X 3).toInt ∧ (gI X 3).toInt ≤ 6) ∧
  (∀ k, k < 27 → gA M 0 k = TX X k) ∧ (∀ i, i < 6 → gA M 3 i = gA X 3 i) ∧ (∀ i, i < 6 → gA M 4 i = gA X 4 i) ∧ (∀ i, i < 6 → bnd 0 6 (gA X 3 i)) ∧ (∀ i, i < 6 → bnd (-2) 2 (gA X 4 i)) ∧ okT (gI X 0).toInt (gI X 1).toInt (TX X)
theorem TXa0 (S : w_S) {k : Nat} (h : k < 9) : TX S k = gA S 0 k := if_pos h
theorem TXa1 (S : w_S) {k : Nat} (h : k < 9) : TX S (9 + k) = gA S 1 k := by
  unfold TX; rw [if_neg (by omega), if_pos (by omega)]; congr 1; omega
theorem TXa2 (S : w_S) {k : Nat} (h : k < 9) : TX S (18 + k) = gA S 2 k := by
  unfold TX; rw [if_neg (by omega), if_neg (by omega)]; congr 1; omega
theorem nw_of {X M : w_S} (h : R_now X M) : Nw X M := by
  obtain ⟨⟨h1, h2, h3, h4, h5, h6, h7, h8, h9⟩, o1, o2, o3, o4, o5, o6, o7, o8, o9, o10, o11⟩ := h
  refine ⟨⟨h1.symm, h2.symm, h3.symm, h4.symm⟩, side_of o1, side_of o2, o3, fun k hk => ?_, fun i hi => (h8 i hi).symm, fun i hi => (h9 i hi).symm, o10, o11, fun k hk => ?_, fun k h1 h2 => ?_, fun t i j ht hi hj hz => ?_⟩
  · by_cases a : k < 9
    · rw [TXa0 X a, h5 k a]
    · by_cases b : k < 18
      · have := h6 (k - 9) (by omega)
        rw [show k = 9 + (k - 9) by omega, TXa1 X (by omega), this]
      · have := h7 (k - 18) (by omega)
        rw [show k = 18 + (k - 18) by omega, TXa2 X (by omega), this]
  · by_cases a : k < 9
    · rw [TXa0 X a]; exact o4 k a
    · rw [show k = 9 + (k - 9) by omega, TXa1 X (by omega)]; exact o5 _ (by omega)
  · rw [show k = 18 + (k - 18) by omega, TXa2 X (by omega)]; exact o6 _ (by omega)
  · match t, ht with
    | 0, _ => rw [if_neg (by decide), if_pos rfl] at hz; rw [show 9 * 0 + 3 * i + j = 3 * i + j by omega, TXa0 X (by omega)]; exact o7 i j hi hj hz
    | 1, _ => rw [if_pos rfl, if_neg (by decide)] at hz; rw [show 9 * 1 + 3 * i + j = 9 + (3 * i + j) by omega, TXa1 X (by omega)]; exact o8 i j hi hj hz
    | 2, _ => rw [if_neg (by decide), if_neg (by decide)] at hz; rw [show 9 * 2 + 3 * i + j = 18 + (3 * i + j) by omega, TXa2 X (by omega)]; exact o9 i j hi hj hz
theorem of_nw {X M : w_S} (h : Nw X M) : R_now X M := by
  obtain ⟨⟨h1, h2, h3, h4⟩, o1, o2, o3, h5, h6, h7, o4, o5, o6, o7, o8⟩ := h
  refine ⟨⟨h1.symm, h2.symm, h3.symm, h4.symm, fun k hk => ?_, fun k hk => ?_, fun k hk => ?_, fun i hi => (h6 i hi).symm, fun i hi => (h7 i hi).symm⟩, of_side o1, of_side o2, o3, fun k hk => ?_, fun k hk => ?_, fun k hk => ?_, fun i j hi hj hz => ?_, fun i j hi hj hz => ?_, fun i j hi hj hz => ?_, o4, o5⟩
  · rw [h5 k (by omega), TXa0 X hk]
  · rw [h5 _ (by omega), TXa1 X hk]
  · rw [h5 _ (by omega), TXa2 X hk]
  · rw [← TXa0 X hk]; exact o6 k (by omega)
  · rw [← TXa1 X hk]; exact o6 _ (by omega)
  · rw [← TXa2 X hk]; exact o7 _ (by omega) (by omega)
  · have := o8 0 i j (by omega) hi hj (by rw [if_neg (by decide), if_pos rfl]; exact hz)
    rw [show 9 * 0 + 3 * i + j = 3 * i + j by omega, TXa0 X (by omega)] at this; exact this
  · have := o8 1 i j (by omega) hi hj (by rw [if_pos rfl, if_neg (by decide)]; exact hz)
    rw [show 9 * 1 + 3 * i + j = 9 + (3 * i + j) by omega, TXa1 X (by omega)] at this; exact this
  · have := o8 2 i j (by omega) hi hj (by rw [if_neg (by decide), if_neg (by decide)]; exact hz)
    rw [show 9 * 2 + 3 * i + j = 18 + (3 * i + j) by omega, TXa2 X (by omega)] at this; exact this
theorem eq_at : E_at Rel := by
  intro X M h t i j
  obtain ⟨⟨e1, e2, e3, e4⟩, hm, hn, hq, hT, -⟩ := nw_of h.1
  rw [fX6_at, fX7_at, x_hasEntry, m_isPlace M t i j (by rw [e1]; exact hm) (by rw [e2]; exact hn), e1, e2]
  simp only [ite_bind, Option.bind_some, one0, zero0, if_true, if_false]
  by_cases hc : isAt (gI X 0).toInt (gI X 1).toInt t i j
  · obtain ⟨ht, hi, hj⟩ := isAt_room hm hn hc
    rw [if_pos hc, if_pos hc, x_entry X ht hi hj, m_its M ht hi hj, hT _ (at9_lt ht hi hj)]
    exact ⟨_, _, rfl, rfl, rfl, h⟩
  · rw [if_neg hc, if_neg hc]
    exact ⟨_, _, rfl, rfl, rfl, h⟩
