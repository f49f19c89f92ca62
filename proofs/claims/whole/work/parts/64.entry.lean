theorem ix_ok {x : Int32} {n : Nat} (h0 : 0 ≤ x.toInt) (h1 : x.toInt < n) : ¬ (x < 0 ∨ n ≤ x.toNatClampNeg) := by
  intro h
  rcases h with h | h
  · rw [i_lt, ti_0] at h; omega
  · have : x.toNatClampNeg = x.toInt.toNat := rfl
    omega
theorem x_hasEntry (S : w_S) (t i j : Int32) : fX4_hasEntry_1 S t i j = some (if 0 ≤ t.toInt ∧ t.toInt ≤ 2 ∧ 0 ≤ i.toInt ∧ i.toInt < (if t = 1 then gI S 1 else gI S 0).toInt ∧ 0 ≤ j.toInt ∧ j.toInt < (if t = 0 then gI S 0 else gI S 1).toInt then 1 else 0) := by
  rw [fX4_hasEntry_1, fX4_rows_1, fX4_columns_1]
  by_cases h1 : t = 1 <;> by_cases h0 : t = 0 <;> simp only [h1, h0, if_true, if_false, Option.bind_some, i_lt, i_le, ti_0, ti_1, ti_2] <;> grind
theorem bi {α : Type} {c : Prop} [Decidable c] (X Y : Option α) : ((some (if c then (1 : Int32) else 0)).bind (fun r => if r = 0 then X else Y)) = if c then Y else X := by
  by_cases h : c <;> simp [h]
theorem m_isPlace (S : w_S) (t i j : Int32) (hm : 1 ≤ (gI S 0).toInt ∧ (gI S 0).toInt ≤ 3) (hn : 1 ≤ (gI S 1).toInt ∧ (gI S 1).toInt ≤ 3) : fX7_isPlace S t i j = some (if 0 ≤ t.toInt ∧ t.toInt ≤ 2 ∧ 0 ≤ i.toInt ∧ i.toInt < (if t = 1 then gI S 1 else gI S 0).toInt ∧ 0 ≤ j.toInt ∧ j.toInt < (if t = 0 then gI S 0 else gI S 1).toInt then 1 else 0) := by
  have e0 : ((gI S 0) - 1).toInt = (gI S 0).toInt - 1 := fb_subI (by rw [ti_1]; omega) (by rw [ti_1]; omega)
  have e1 : ((gI S 1) - 1).toInt = (gI S 1).toInt - 1 := fb_subI (by rw [ti_1]; omega) (by rw [ti_1]; omega)
  have er : fX7_rowsOf S t = some (if t = 1 then gI S 1 else gI S 0) := by rw [fX7_rowsOf]; split <;> rfl
  have ec : fX7_columnsOf S t = some (if t = 0 then gI S 0 else gI S 1) := by rw [fX7_columnsOf]; split <;> rfl
  have f1 : ((if t = 1 then gI S 1 else gI S 0) - 1).toInt = (if t = 1 then gI S 1 else gI S 0).toInt - 1 := by split <;> assumption
  have f2 : ((if t = 0 then gI S 0 else gI S 1) - 1).toInt = (if t = 0 then gI S 0 else gI S 1).toInt - 1 := by split <;> assumption
  rw [fX7_isPlace, er, ec]
  simp only [m_in32, bi, Option.bind_some, i_l, f1, f2, tl_0, tl_2]
  generalize (if t = 1 then gI S 1 else gI S 0).toInt = r
  generalize (if t = 0 then gI S 0 else gI S 1).toInt = q
  by_cases h1 : 0 ≤ t.toInt ∧ t.toInt ≤ 2
  · rw [if_pos h1]
    by_cases h2 : 0 ≤ i.toInt ∧ i.toInt ≤ r - 1
    · rw [if_pos h2]
      by_cases h3 : 0 ≤ j.toInt ∧ j.toInt ≤ q - 1
      · rw [if_pos h3, if_pos (by omega)]
      · rw [if_neg h3, if_neg (by omega)]
    · rw [if_neg h2, if_neg (by omega)]
  · rw [if_neg h1, if_neg (by omega)]
theorem side_of {m : Int32} (h : m = 1 ∨ m = 2 ∨ m = 3) : 1 ≤ m.toInt ∧ m.toInt ≤ 3 := by
  rcases h with rfl | rfl | rfl <;> decide
theorem idx3 {i j : Int32} (hi : 0 ≤ i.toInt ∧ i.toInt < 3) (hj : 0 ≤ j.toInt ∧ j.toInt < 3) : ((i * 3) + j).toInt = i.toInt * 3 + j.toInt := by
  have h1 : (i * 3).toInt = i.toInt * 3 := by rw [fb_mulI (by rw [ti_3]; omega) (by rw [ti_3]; omega), ti_3]
  rw [fb_addI (by rw [h1]; omega) (by rw [h1]; omega), h1]
theorem clamp_of {x : Int32} {k : Nat} (h : x.toInt = (k : Int)) : x.toNatClampNeg = k := by
  show x.toInt.toNat = k
  rw [h]; rfl
theorem x_isRoom {i j : Int32} (hi : 0 ≤ i.toInt ∧ i.toInt < 3) (hj : 0 ≤ j.toInt ∧ j.toInt < 3) : fX4_isRoom i j = some 1 := by
  rw [fX4_isRoom]
  simp only [i_lt, i_le, ti_0, ti_3]
  rw [if_neg (by omega), if_neg (by omega), if_neg (by omega), if_neg (by omega)]
theorem x_entry (S : w_S) {t i j : Int32} (hi : 0 ≤ i.toInt ∧ i.toInt < 3) (hj : 0 ≤ j.toInt ∧ j.toInt < 3) : fX4_entry_1 S t i j = some ((if t = 0 then gA S 0 else if t = 1 then gA S 1 else gA S 2) (3 * i.toInt.toNat + j.toInt.toNat)) := by
  have h1 := idx3 hi hj
  have h2 : ((i * 3) + j).toNatClampNeg = 3 * i.toInt.toNat + j.toInt.toNat := clamp_of (by rw [h1]; omega)
  rw [fX4_entry_1, x_isRoom hi hj]
  simp only [Option.bind_some, h2]
  have h3 : ¬ ((i * 3) + j < 0 ∨ 9 ≤ 3 * i.toInt.toNat + j.toInt.toNat) := by rw [i_lt, h1, ti_0]; omega
  rw [if_neg (by decide), if_neg (by decide), if_neg (by decide), if_pos h3, if_pos h3, if_pos h3]
  by_cases h0 : t = 0
  · rw [if_pos h0, if_pos h0]
  · rw [if_neg h0, if_neg h0]
    by_cases h1 : t = 1
    · rw [if_pos h1, if_pos h1]
    · rw [if_neg h1, if_neg h1]
theorem idx9 {t i j : Int32} (ht : 0 ≤ t.toInt ∧ t.toInt ≤ 2) (hi : 0 ≤ i.toInt ∧ i.toInt < 3) (hj : 0 ≤ j.toInt ∧ j.toInt < 3) : (((9 * t) + (3 * i)) + j).toInt = 9 * t.toInt + 3 * i.toInt + j.toInt := by
  have h1 : (9 * t).toInt = 9 * t.toInt := by rw [fb_mulI (by rw [ti_9]; omega) (by rw [ti_9]; omega), ti_9]
  have h2 : (3 * i).toInt = 3 * i.toInt := by rw [fb_mulI (by rw [ti_3]; omega) (by rw [ti_3]; omega), ti_3]
  have h3 : ((9 * t) + (3 * i)).toInt = 9 * t.toInt + 3 * i.toInt := by rw [fb_addI (by rw [h1, h2]; omega) (by rw [h1, h2]; omega), h1, h2]
  rw [fb_addI (by rw [h3]; omega) (by rw [h3]; omega), h3]
theorem m_its (S : w_S) {t i j : Int32} (ht : 0 ≤ t.toInt ∧ t.toInt ≤ 2) (hi : 0 ≤ i.toInt ∧ i.toInt < 3) (hj : 0 ≤ j.toInt ∧ j.toInt < 3) : fX7_its S t i j = some (gA S 0 (9 * t.toInt.toNat + 3 * i.toInt.toNat + j.toInt.toNat)) := by
  have h1 := idx9 ht hi hj
  have h2 : (((9 * t) + (3 * i)) + j).toNatClampNeg = 9 * t.toInt.toNat + 3 * i.toInt.toNat + j.toInt.toNat := clamp_of (by rw [h1]; omega)
  rw [fX7_its, h2, if_pos (by rw [i_lt, h1, ti_0]; omega)]
theorem t_cases {t : Int32} (h : 0 ≤ t.toInt ∧ t.toInt ≤ 2) : t = 0 ∨ t = 1 ∨ t = 2 := by
  rw [i_eq, i_eq, i_eq, ti_0, ti_1, ti_2]; omega
theorem ent_eq {X M : w_S} (h : R_now X M) {t i j : Int32} (ht : 0 ≤ t.toInt ∧ t.toInt ≤ 2) (hi : 0 ≤ i.toInt ∧ i.toInt < 3) (hj : 0 ≤ j.toInt ∧ j.toInt < 3) : (if t = 0 then gA X 0 else if t = 1 then gA X 1 else gA X 2) (3 * i.toInt.toNat + j.toInt.toNat) = gA M 0 (9 * t.toInt.toNat + 3 * i.toInt.toNat + j.toInt.toNat) := by
  obtain ⟨⟨-, -, -, -, h1, h2, h3, -, -⟩, -⟩ := h
  rcases t_cases ht with rfl | rfl | rfl
  · rw [if_pos rfl, h1 _ (by omega), ti_0]; congr 1; omega
  · rw [if_neg (by decide), if_pos rfl, h2 _ (by omega), ti_1]; congr 1; omega
  · rw [if_neg (by decide), if_neg (by decide), h3 _ (by omega), ti_2]; congr 1; omega
theorem eq_at : E_at Rel := by
  intro X M h t i j
  have hn := h.1
  obtain ⟨⟨e1, e2, -⟩, o1, o2, -⟩ := id hn
  have hm := side_of o1
  have hn' := side_of o2
  rw [fX6_at, fX7_at, x_hasEntry, m_isPlace M t i j (by rw [← e1]; exact hm) (by rw [← e2]; exact hn'), ← e1, ← e2]
  simp only [bi]
  by_cases hc : 0 ≤ t.toInt ∧ t.toInt ≤ 2 ∧ 0 ≤ i.toInt ∧ i.toInt < (if t = 1 then gI X 1 else gI X 0).toInt ∧ 0 ≤ j.toInt ∧ j.toInt < (if t = 0 then gI X 0 else gI X 1).toInt
  · rw [if_pos hc, if_pos hc]
    have b1 : (if t = 1 then gI X 1 else gI X 0).toInt ≤ 3 := by split <;> omega
    have b2 : (if t = 0 then gI X 0 else gI X 1).toInt ≤ 3 := by split <;> omega
    rw [x_entry X (by omega) (by omega), m_its M (by omega) (by omega) (by omega)]
    exact ⟨_, _, rfl, rfl, by rw [ent_eq hn (by omega) (by omega) (by omega)], h⟩
  · rw [if_neg hc, if_neg hc]
    exact ⟨_, _, rfl, rfl, rfl, h⟩
