/-! ===== sheets: one text for all four ===== -/
theorem k_cases {t : Int32} (h : 0 ≤ t.toInt ∧ t.toInt < 4) : t = 0 ∨ t = 1 ∨ t = 2 ∨ t = 3 := by
  rw [i_eq, i_eq, i_eq, i_eq, ti_0, ti_1, ti_2, ti_3]; omega
def px_nar (s : Int32) (v : Int64) : Int64 := if s = 0 then v.toInt32.toInt8.toInt32.toInt64 else if s = 1 then v.toInt32.toInt16.toInt32.toInt64 else if s = 2 then v.toInt32.toInt64 else v
def px_write (S : w_S) (k : Nat) (i : Int32) (v : Int64) : Option w_S := if i < 0 then some S else if gI S (29 + 2 * k) ≤ i then some S else if 40 ≤ i then some S else some (sB S (2 + k) (vp_updL (gB S (2 + k)) i.toNatClampNeg (px_nar (gI S (28 + 2 * k)) v)))
def px_read (S : w_S) (k : Nat) (i : Int32) : Int64 := if i < 0 then 0 else if gI S (29 + 2 * k) ≤ i then 0 else if 40 ≤ i then 0 else gB S (2 + k) i.toNatClampNeg
theorem ix40 {i : Int32} (h1 : ¬ i < 0) (h2 : ¬ (40 : Int32) ≤ i) : ¬ (i < 0 ∨ 40 ≤ i.toNatClampNeg) := by
  rw [i_lt, ti_0] at h1; rw [i_le, ti_40] at h2
  exact ix_ok (by omega) (by omega)
theorem x_write0 (S : w_S) (i : Int32) (v : Int64) : fX2_write_30 S i v = px_write S 0 i v := by
  have e : fX2_narrowed_30 S v = some (px_nar (gI S 28) v) := by
    rw [fX2_narrowed_30]; unfold px_nar; split
    · rfl
    · split
      · rfl
      · split <;> rfl
  rw [fX2_write_30, e]; unfold px_write
  show (if i < 0 then some S else if gI S 29 ≤ i then some S else if 40 ≤ i then some S else if ¬ (i < 0 ∨ 40 ≤ i.toNatClampNeg) then some (sB S 2 (vp_updL (gB S 2) i.toNatClampNeg (px_nar (gI S 28) v))) else none) = (if i < 0 then some S else if gI S 29 ≤ i then some S else if 40 ≤ i then some S else some (sB S 2 (vp_updL (gB S 2) i.toNatClampNeg (px_nar (gI S 28) v))))
  by_cases h1 : i < 0
  · rw [if_pos h1, if_pos h1]
  · by_cases h2 : 40 ≤ i
    · rw [if_pos h2, if_pos h2]
    · rw [if_pos (ix40 h1 h2)]
theorem x_read0 (S : w_S) (i : Int32) : fX2_read_30 S i = some (px_read S 0 i) := by
  rw [fX2_read_30]; unfold px_read
  show (if i < 0 then some 0 else if gI S 29 ≤ i then some 0 else if 40 ≤ i then some 0 else if ¬ (i < 0 ∨ 40 ≤ i.toNatClampNeg) then some (gB S 2 i.toNatClampNeg) else none) = some (if i < 0 then 0 else if gI S 29 ≤ i then 0 else if 40 ≤ i then 0 else gB S 2 i.toNatClampNeg)
  by_cases h1 : i < 0
  · rw [if_pos h1, if_pos h1]
  · by_cases h2 : 40 ≤ i
    · rw [if_pos h2, if_pos h2]; simp only [if_neg h1]; split <;> rfl
    · rw [if_pos (ix40 h1 h2)]; simp only [if_neg h1, if_neg h2]; split <;> rfl
theorem x_write1 (S : w_S) (i : Int32) (v : Int64) : fX2_write_32 S i v = px_write S 1 i v := by
  have e : fX2_narrowed_32 S v = some (px_nar (gI S 30) v) := by
    rw [fX2_narrowed_32]; unfold px_nar; split
    · rfl
    · split
      · rfl
      · split <;> rfl
  rw [fX2_write_32, e]; unfold px_write
  show (if i < 0 then some S else if gI S 31 ≤ i then some S else if 40 ≤ i then some S else if ¬ (i < 0 ∨ 40 ≤ i.toNatClampNeg) then some (sB S 3 (vp_updL (gB S 3) i.toNatClampNeg (px_nar (gI S 30) v))) else none) = (if i < 0 then some S else if gI S 31 ≤ i then some S else if 40 ≤ i then some S else some (sB S 3 (vp_updL (gB S 3) i.toNatClampNeg (px_nar (gI S 30) v))))
  by_cases h1 : i < 0
  · rw [if_pos h1, if_pos h1]
  · by_cases h2 : 40 ≤ i
    · rw [if_pos h2, if_pos h2]
    · rw [if_pos (ix40 h1 h2)]
theorem x_read1 (S : w_S) (i : Int32) : fX2_read_32 S i = some (px_read S 1 i) := by
  rw [fX2_read_32]; unfold px_read
  show (if i < 0 then some 0 else if gI S 31 ≤ i then some 0 else if 40 ≤ i then some 0 else if ¬ (i < 0 ∨ 40 ≤ i.toNatClampNeg) then some (gB S 3 i.toNatClampNeg) else none) = some (if i < 0 then 0 else if gI S 31 ≤ i then 0 else if 40 ≤ i then 0 else gB S 3 i.toNatClampNeg)
  by_cases h1 : i < 0
  · rw [if_pos h1, if_pos h1]
  · by_cases h2 : 40 ≤ i
    · rw [if_pos h2, if_pos h2]; simp only [if_neg h1]; split <;> rfl
    · rw [if_pos (ix40 h1 h2)]; simp only [if_neg h1, if_neg h2]; split <;> rfl
theorem x_write2 (S : w_S) (i : Int32) (v : Int64) : fX2_write_34 S i v = px_write S 2 i v := by
  have e : fX2_narrowed_34 S v = some (px_nar (gI S 32) v) := by
    rw [fX2_narrowed_34]; unfold px_nar; split
    · rfl
    · split
      · rfl
      · split <;> rfl
  rw [fX2_write_34, e]; unfold px_write
  show (if i < 0 then some S else if gI S 33 ≤ i then some S else if 40 ≤ i then some S else if ¬ (i < 0 ∨ 40 ≤ i.toNatClampNeg) then some (sB S 4 (vp_updL (gB S 4) i.toNatClampNeg (px_nar (gI S 32) v))) else none) = (if i < 0 then some S else if gI S 33 ≤ i then some S else if 40 ≤ i then some S else some (sB S 4 (vp_updL (gB S 4) i.toNatClampNeg (px_nar (gI S 32) v))))
  by_cases h1 : i < 0
  · rw [if_pos h1, if_pos h1]
  · by_cases h2 : 40 ≤ i
    · rw [if_pos h2, if_pos h2]
    · rw [if_pos (ix40 h1 h2)]
theorem x_read2 (S : w_S) (i : Int32) : fX2_read_34 S i = some (px_read S 2 i) := by
  rw [fX2_read_34]; unfold px_read
  show (if i < 0 then some 0 else if gI S 33 ≤ i then some 0 else if 40 ≤ i then some 0 else if ¬ (i < 0 ∨ 40 ≤ i.toNatClampNeg) then some (gB S 4 i.toNatClampNeg) else none) = some (if i < 0 then 0 else if gI S 33 ≤ i then 0 else if 40 ≤ i then 0 else gB S 4 i.toNatClampNeg)
  by_cases h1 : i < 0
  · rw [if_pos h1, if_pos h1]
  · by_cases h2 : 40 ≤ i
    · rw [if_pos h2, if_pos h2]; simp only [if_neg h1]; split <;> rfl
    · rw [if_pos (ix40 h1 h2)]; simp only [if_neg h1, if_neg h2]; split <;> rfl
theorem x_write3 (S : w_S) (i : Int32) (v : Int64) : fX2_write_36 S i v = px_write S 3 i v := by
  have e : fX2_narrowed_36 S v = some (px_nar (gI S 34) v) := by
    rw [fX2_narrowed_36]; unfold px_nar; split
    · rfl
    · split
      · rfl
      · split <;> rfl
  rw [fX2_write_36, e]; unfold px_write
  show (if i < 0 then some S else if gI S 35 ≤ i then some S else if 40 ≤ i then some S else if ¬ (i < 0 ∨ 40 ≤ i.toNatClampNeg) then some (sB S 5 (vp_updL (gB S 5) i.toNatClampNeg (px_nar (gI S 34) v))) else none) = (if i < 0 then some S else if gI S 35 ≤ i then some S else if 40 ≤ i then some S else some (sB S 5 (vp_updL (gB S 5) i.toNatClampNeg (px_nar (gI S 34) v))))
  by_cases h1 : i < 0
  · rw [if_pos h1, if_pos h1]
  · by_cases h2 : 40 ≤ i
    · rw [if_pos h2, if_pos h2]
    · rw [if_pos (ix40 h1 h2)]
theorem x_read3 (S : w_S) (i : Int32) : fX2_read_36 S i = some (px_read S 3 i) := by
  rw [fX2_read_36]; unfold px_read
  show (if i < 0 then some 0 else if gI S 35 ≤ i then some 0 else if 40 ≤ i then some 0 else if ¬ (i < 0 ∨ 40 ≤ i.toNatClampNeg) then some (gB S 5 i.toNatClampNeg) else none) = some (if i < 0 then 0 else if gI S 35 ≤ i then 0 else if 40 ≤ i then 0 else gB S 5 i.toNatClampNeg)
  by_cases h1 : i < 0
  · rw [if_pos h1, if_pos h1]
  · by_cases h2 : 40 ≤ i
    · rw [if_pos h2, if_pos h2]; simp only [if_neg h1]; split <;> rfl
    · rw [if_pos (ix40 h1 h2)]; simp only [if_neg h1, if_neg h2]; split <;> rfl
def px_put (S : w_S) (k : Nat) (i : Int32) (v : Int64) : Option (Int32 × w_S) := if gI S (28 + 2 * k) = -1 then some (-11, S) else if i < 0 then some (-12, S) else if i < gI S (29 + 2 * k) then (px_write S k i v).bind (fun r => some (1, r)) else some (-12, S)
theorem x_put (S : w_S) (a i : Int32) (v : Int64) : fX6_put S a i v = if 0 ≤ a.toInt ∧ a.toInt < 4 then px_put S a.toInt.toNat i v else some (-1, S) := by
  rw [fX6_put, x_isSheet]
  simp only [ite_bind, Option.bind_some, one0, zero0, if_true, if_false]
  by_cases h : 0 ≤ a.toInt ∧ a.toInt < 4
  · rw [if_pos h, if_pos h]
    rcases k_cases h with rfl | rfl | rfl | rfl
    · simp only [x_write0]; rfl
    · simp only [x_write1]; rfl
    · simp only [x_write2]; rfl
    · simp only [x_write3]; rfl
  · rw [if_neg h, if_neg h]
theorem sh_of {X M : w_S} (h : R_sheets X M) {a : Int32} (ha : 0 ≤ a.toInt ∧ a.toInt < 4) : ¬ (a < 0 ∨ 4 ≤ a.toNatClampNeg) ∧ a.toNatClampNeg = a.toInt.toNat ∧ gI X (28 + 2 * a.toInt.toNat) = gA M 12 a.toInt.toNat ∧ gI X (29 + 2 * a.toInt.toNat) = gA M 13 a.toInt.toNat ∧ bnd (-1) 3 (gI X (28 + 2 * a.toInt.toNat)) ∧ bnd 0 40 (gI X (29 + 2 * a.toInt.toNat)) ∧ (gI X (28 + 2 * a.toInt.toNat) = -1 → gI X (29 + 2 * a.toInt.toNat) = 0) ∧ (∀ j, j < 40 → gB X (2 + a.toInt.toNat) j = gB M 3 (40 * a.toInt.toNat + j)) := by
  obtain ⟨h1, h2, h3, h4, h5, h6⟩ := h a.toInt.toNat (by omega)
  exact ⟨ix_ok (by omega) (by omega), rfl, h1, h2, h3, h4, h5, h6⟩
theorem ix160 {a i : Int32} (ha : 0 ≤ a.toInt ∧ a.toInt < 4) (hi : 0 ≤ i.toInt ∧ i.toInt < 40) : ¬ (40 * a + i < 0 ∨ 160 ≤ (40 * a + i).toNatClampNeg) ∧ (40 * a + i).toNatClampNeg = 40 * a.toInt.toNat + i.toInt.toNat ∧ (40 * a + i).toInt = 40 * a.toInt + i.toInt := by
  have h1 : (40 * a).toInt = 40 * a.toInt := by rw [fb_mulI (by rw [ti_40]; omega) (by rw [ti_40]; omega), ti_40]
  have h2 : (40 * a + i).toInt = 40 * a.toInt + i.toInt := by rw [fb_addI (by rw [h1]; omega) (by rw [h1]; omega), h1]
  exact ⟨ix_ok (by omega) (by omega), by rw [cl_nn]; omega, h2⟩
theorem m_below (i : Int32) {q : Int32} (hq : bnd 0 40 q) : fX7_in i.toInt64 0 ((q - 1).toInt64) = if 0 ≤ i.toInt ∧ i.toInt < q.toInt then some 1 else some 0 := by
  obtain ⟨q1, q2⟩ := hq
  have e1 : (q - 1).toInt = q.toInt - 1 := fb_subI (by rw [ti_1]; omega) (by rw [ti_1]; omega)
  rw [m_in32, i_l, e1, tl_0, some_ite]
  by_cases h : 0 ≤ i.toInt ∧ i.toInt < q.toInt
  · rw [if_pos h, if_pos (by omega)]
  · rw [if_neg h, if_neg (by omega)]
theorem m_nar (s : Int32) (v : Int64) : fX7_narrowed s v = some (px_nar s v) := by
  rw [fX7_narrowed]; unfold px_nar; split
  · rfl
  · split
    · rfl
    · split <;> rfl
/-- sheet k alone is written, and alike -/
theorem rel_sheet {X M X' M' : w_S} (h : Rel X M) {k : Nat} (hk : k < 4) (f1 : ∀ j, j ≠ 28 + 2 * k → j ≠ 29 + 2 * k → gI X' j = gI X j) (f2 : gA X' = gA X) (f3 : ∀ j, j ≠ 2 + k → gB X' j = gB X j) (g1 : gI M' = gI M) (g2 : ∀ j, j ≠ 12 → j ≠ 13 → gA M' j = gA M j) (g3 : ∀ j, j ≠ k → gA M' 12 j = gA M 12 j ∧ gA M' 13 j = gA M 13 j) (g4 : ∀ j, j < 160 → ¬ (40 * k ≤ j ∧ j < 40 * k + 40) → gB M' 3 j = gB M 3 j)
    (e1 : gI X' (28 + 2 * k) = gA M' 12 k) (e2 : gI X' (29 + 2 * k) = gA M' 13 k) (e3 : bnd (-1) 3 (gI X' (28 + 2 * k))) (e4 : bnd 0 40 (gI X' (29 + 2 * k))) (e5 : gI X' (28 + 2 * k) = -1 → gI X' (29 + 2 * k) = 0) (e6 : ∀ j, j < 40 → gB X' (2 + k) j = gB M' 3 (40 * k + j)) : Rel X' M' := by
  obtain ⟨a1, a2, a3, a4, a5, a6⟩ := h
  refine ⟨R_now_c a1 (fun k hk => f1 k (by omega) (by omega)) (fun k hk => by rw [f2]) (fun k hk => by rw [g1]) (g2 0 (by omega) (by omega)) (g2 3 (by omega) (by omega)) (g2 4 (by omega) (by omega)),
        R_kept_c a2 (fun k hk => f1 k (by omega) (by omega)) (fun k h1 h2 => by rw [f2]) (fun k h1 h2 => by rw [g1]) (g2 1 (by omega) (by omega)) (g2 5 (by omega) (by omega)) (g2 6 (by omega) (by omega)),
        R_tape_c a3 (f1 21 (by omega) (by omega)) (by rw [f2]) (by rw [g1]) (g2 7 (by omega) (by omega)), fun q hq => ?_,
        R_shelves_c a5 (fun k h1 h2 => f1 k (by omega) (by omega)) (g2 14 (by omega) (by omega)) (g2 15 (by omega) (by omega)) (g2 16 (by omega) (by omega)),
        R_acts_c a6 (f1 26 (by omega) (by omega)) (by rw [f2]) (by rw [g1]) (g2 17 (by omega) (by omega))⟩
  by_cases e : q = k
  · subst e; exact ⟨e1, e2, e3, e4, e5, e6⟩
  · obtain ⟨b1, b2, b3, b4, b5, b6⟩ := a4 q hq
    rw [f1 (28 + 2 * q) (by omega) (by omega), f1 (29 + 2 * q) (by omega) (by omega), f3 (2 + q) (by omega), (g3 q e).1, (g3 q e).2]
    exact ⟨b1, b2, b3, b4, b5, fun j hj => by rw [g4 _ (by omega) (by omega)]; exact b6 j hj⟩
theorem eq_put : E_put Rel := by
  intro X M h a i v
  rw [x_put, fX7_put, m_isSheet]
  simp only [ite_bind, Option.bind_some, one0, zero0, if_true, if_false]
  by_cases ha : 0 ≤ a.toInt ∧ a.toInt < 4
  · obtain ⟨s1, s2, s3, s4, ⟨s5, s5'⟩, s6, s7, s8⟩ := sh_of h.2.2.2.1 ha
    rw [if_pos ha, if_pos ha, if_pos s1, s2, ← s3, ← s4]
    rw [s2] at s1
    simp only [if_pos s1, m_below i s6, m_nar, ite_bind, Option.bind_some, one0, zero0, if_true, if_false]
    unfold px_put
    by_cases hs : gI X (28 + 2 * a.toInt.toNat) = -1
    · rw [if_pos hs, hs, if_neg (by decide)]; exact ⟨_, _, rfl, rfl, rfl, h⟩
    · have hs' : 0 ≤ gI X (28 + 2 * a.toInt.toNat) := by rw [i_le, ti_0]; rw [i_eq, tm_1] at hs; omega
      rw [if_neg hs, if_pos hs']
      obtain ⟨l1, l2⟩ := id s6
      by_cases hi : 0 ≤ i.toInt ∧ i.toInt < (gI X (29 + 2 * a.toInt.toNat)).toInt
      · obtain ⟨x1, x2, x3⟩ := ix160 ha (i := i) (by omega)
        have c1 : ¬ i < 0 := by rw [i_lt, ti_0]; omega
        have c2 : ¬ gI X (29 + 2 * a.toInt.toNat) ≤ i := by rw [i_le]; omega
        have c3 : ¬ (40 : Int32) ≤ i := by rw [i_le, ti_40]; omega
        rw [if_neg c1, if_pos (by rw [i_lt]; exact hi.2), if_pos hi, if_pos x1, x2]
        unfold px_write
        rw [if_neg c1, if_neg c2, if_neg c3]
        refine ⟨_, _, rfl, rfl, rfl, rel_sheet h (k := a.toInt.toNat) (by omega) (fun j _ _ => rfl) rfl (fun j hj => by rw [gB_sB, if_neg hj]) rfl (fun j _ _ => rfl) (fun j _ => ⟨rfl, rfl⟩) (fun j _ hj => ?_) s3 s4 ⟨s5, s5'⟩ s6 s7 (fun j hj => ?_)⟩
        · rw [gB_sB, if_pos rfl, updL_ap, if_neg (by omega)]
        · rw [gB_sB, gB_sB, if_pos rfl, if_pos rfl, updL_ap, updL_ap, cl_nn]
          by_cases e : j = i.toInt.toNat
          · rw [if_pos e, if_pos (by omega)]
          · rw [if_neg e, if_neg (by omega)]; exact s8 j hj
      · rw [if_neg hi]
        by_cases c1 : i < 0
        · rw [if_pos c1]; exact ⟨_, _, rfl, rfl, rfl, h⟩
        · rw [if_neg c1, if_neg (by rw [i_lt]; rw [i_lt, ti_0] at c1; omega)]; exact ⟨_, _, rfl, rfl, rfl, h⟩
  · rw [if_neg ha, if_neg ha]; exact ⟨_, _, rfl, rfl, rfl, h⟩
def px_item (S : w_S) (k : Nat) (s i : Int32) : Option Int32 := if gI S (28 + 2 * k) = -1 then some (-11) else if gI S (28 + 2 * k) = s then (if i < 0 then some (-12) else if i < gI S (29 + 2 * k) then some (px_read S k i).toInt32 else some (-12)) else some (-13)
theorem x_item (S : w_S) (a s i : Int32) : fX6_item S a s i = if 0 ≤ a.toInt ∧ a.toInt < 4 then (if 0 ≤ s.toInt ∧ s.toInt ≤ 3 then px_item S a.toInt.toNat s i else some (-1)) else some (-1) := by
  rw [fX6_item, x_isSheet, x_isSort]
  simp only [ite_bind, Option.bind_some, one0, zero0, if_true, if_false]
  by_cases h : 0 ≤ a.toInt ∧ a.toInt < 4
  · rw [if_pos h, if_pos h]
    rcases k_cases h with rfl | rfl | rfl | rfl
    · simp only [x_read0]; rfl
    · simp only [x_read1]; rfl
    · simp only [x_read2]; rfl
    · simp only [x_read3]; rfl
  · rw [if_neg h, if_neg h]
theorem eq_item : E_item Rel := by
  intro X M h a s i
  rw [x_item, fX7_item, m_isSheet, m_in32, tl_0, tl_3]
  simp only [some_ite, ite_bind, Option.bind_some, one0, zero0, if_true, if_false]
  by_cases ha : 0 ≤ a.toInt ∧ a.toInt < 4
  · obtain ⟨s1, s2, s3, s4, ⟨s5, s5'⟩, s6, s7, s8⟩ := sh_of h.2.2.2.1 ha
    rw [if_pos ha, if_pos ha]
    by_cases hs : 0 ≤ s.toInt ∧ s.toInt ≤ 3
    · rw [if_pos hs, if_pos hs, if_pos s1, s2, ← s3, ← s4]
      rw [s2] at s1
      simp only [if_pos s1, m_below i s6, ite_bind, Option.bind_some, one0, zero0, if_true, if_false]
      unfold px_item
      by_cases hn : gI X (28 + 2 * a.toInt.toNat) = -1
      · rw [if_pos hn, hn, if_neg (by rw [i_eq, tm_1]; omega), if_neg (by decide)]; exact ⟨_, _, rfl, rfl, rfl, h⟩
      · have hn' : 0 ≤ gI X (28 + 2 * a.toInt.toNat) := by rw [i_le, ti_0]; rw [i_eq, tm_1] at hn; omega
        rw [if_neg hn]
        by_cases he : gI X (28 + 2 * a.toInt.toNat) = s
        · rw [if_pos he, if_pos he]
          obtain ⟨l1, l2⟩ := id s6
          by_cases hi : 0 ≤ i.toInt ∧ i.toInt < (gI X (29 + 2 * a.toInt.toNat)).toInt
          · obtain ⟨x1, x2, x3⟩ := ix160 ha (i := i) (by omega)
            have c1 : ¬ i < 0 := by rw [i_lt, ti_0]; omega
            have c2 : ¬ gI X (29 + 2 * a.toInt.toNat) ≤ i := by rw [i_le]; omega
            have c3 : ¬ (40 : Int32) ≤ i := by rw [i_le, ti_40]; omega
            rw [if_neg c1, if_pos (by rw [i_lt]; exact hi.2), if_pos hi, if_pos x1, x2]
            unfold px_read
            rw [if_neg c1, if_neg c2, if_neg c3, cl_nn, s8 _ (by omega)]
            exact ⟨_, _, rfl, rfl, rfl, h⟩
          · rw [if_neg hi]
            by_cases c1 : i < 0
            · rw [if_pos c1]; exact ⟨_, _, rfl, rfl, rfl, h⟩
            · rw [if_neg c1, if_neg (by rw [i_lt]; rw [i_lt, ti_0] at c1; omega)]; exact ⟨_, _, rfl, rfl, rfl, h⟩
        · rw [if_neg he, if_neg he, if_pos hn']; exact ⟨_, _, rfl, rfl, rfl, h⟩
    · rw [if_neg hs, if_neg hs]; exact ⟨_, _, rfl, rfl, rfl, h⟩
  · rw [if_neg ha, if_neg ha]; exact ⟨_, _, rfl, rfl, rfl, h⟩
