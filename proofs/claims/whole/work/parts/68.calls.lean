/-! ===== equations ===== -/
theorem nw_kinds {X M X' M' : w_S} (h : Nw X M) {e : Nat} {k s q : Int32} (hk : bnd 0 6 k) (hs : bnd (-2) 2 s) (hq : 0 ≤ q.toInt ∧ q.toInt ≤ 6)
    (f1 : ∀ k, k < 3 → gI X' k = gI X k) (f2 : gI X' 3 = q) (f3 : ∀ k, k < 3 → gA X' k = gA X k) (f4 : gA X' 3 = upd (gA X 3) e k) (f5 : gA X' 4 = upd (gA X 4) e s)
    (g1 : gI M' 0 = gI M 0 ∧ gI M' 1 = gI M 1 ∧ gI M' 3 = gI M 3) (g2 : gI M' 2 = q) (g3 : gA M' 0 = gA M 0) (g4 : gA M' 3 = upd (gA M 3) e k) (g5 : gA M' 4 = upd (gA M 4) e s) : Nw X' M' := by
  obtain ⟨⟨e1, e2, e3, e4⟩, o1, o2, o3, h5, h6, h7, o4, o5, o6⟩ := h
  have hT : TX X' = TX X := by
    funext k; unfold TX; rw [f3 0 (by omega), f3 1 (by omega), f3 2 (by omega)]
  refine ⟨⟨by rw [g1.1, f1 0 (by omega), e1], by rw [g1.2.1, f1 1 (by omega), e2], by rw [g1.2.2, f1 2 (by omega), e3], by rw [g2, f2]⟩, by rw [f1 0 (by omega)]; exact o1, by rw [f1 1 (by omega)]; exact o2, by rw [f2]; exact hq, fun k hk => by rw [g3, hT]; exact h5 k hk, fun i hi => ?_, fun i hi => ?_, fun i hi => ?_, fun i hi => ?_, by rw [f1 0 (by omega), f1 1 (by omega), hT]; exact o6⟩
  · rw [g4, f4, upd_ap, upd_ap, h6 i hi]
  · rw [g5, f5, upd_ap, upd_ap, h7 i hi]
  · rw [f4, upd_ap]; split
    · exact hk
    · exact o4 i hi
  · rw [f5, upd_ap]; split
    · exact hs
    · exact o5 i hi
theorem eq_equation : E_equation Rel := by
  intro X M h k s
  have hw := nw_of h.1
  obtain ⟨⟨e1, e2, e3, e4⟩, hm, hn, hq, hT, -⟩ := id hw
  rw [fX6_equation, fX7_equation, x_isKind', m_isKind', x_isShift, m_shift, e4]
  simp only [ite_bind, Option.bind_some, one0, zero0, if_true, if_false]
  by_cases hk : 0 ≤ k.toInt ∧ k.toInt ≤ 6
  · rw [if_pos hk, if_pos hk]
    by_cases hs : -2 ≤ s.toInt ∧ s.toInt ≤ 2
    · rw [if_pos hs, if_pos hs]
      by_cases h6 : gI X 3 = 6
      · rw [if_pos h6, if_neg (by rw [h6]; decide)]
        exact ⟨_, _, rfl, rfl, rfl, h⟩
      · have h7 : (gI X 3).toInt < 6 := by rw [i_eq, ti_6] at h6; omega
        have ha : (gI X 3 + 1).toInt = (gI X 3).toInt + 1 := fb_addI (by rw [ti_1]; omega) (by rw [ti_1]; omega)
        have hb : gI X 3 + 1 - 1 = gI X 3 := Int32.add_sub_cancel _ _
        have hi : ¬ (gI X 3 < 0 ∨ 6 ≤ (gI X 3).toNatClampNeg) := ix_ok (by omega) (by omega)
        rw [if_pos (by rw [i_lt, ti_6]; exact h7), if_neg h6, if_pos hi, if_pos hi, hb, x_become (sI X 3 (gI X 3 + 1)) (e := gI X 3) (by show (gI X 3 + 1).toInt ≤ 6; omega) (by show 0 ≤ (gI X 3).toInt ∧ (gI X 3).toInt < (gI X 3 + 1).toInt; omega)]
        refine ⟨_, _, rfl, rfl, by show gI X 3 + 1 - 1 = gI X 3; exact hb, Rel_T h ?_ (of_nw (nw_kinds hw (e := (gI X 3).toInt.toNat) (k := k) (s := s) (q := gI X 3 + 1) hk hs (by omega) (fun k hk => ?_) rfl (fun k hk => ?_) rfl rfl ⟨rfl, rfl, rfl⟩ rfl rfl rfl rfl))⟩
        · refine ⟨⟨fun k a _ _ _ => ?_, fun k a _ => ?_, fun k _ => rfl⟩, fun k a _ => ?_, ⟨rfl, rfl, rfl, rfl, fun k hk => ?_⟩, rfl⟩
          · simp only [gI_sA, gI_sI]; rw [if_neg (by omega)]
          · simp only [gA_sA, gA_sI]; rw [if_neg (by omega), if_neg (by omega)]
          · simp only [gI_sA, gI_sI]; rw [if_neg (by omega)]
          · simp only [gA_sA, gA_sI]; rw [if_neg (by omega), if_neg (by omega)]
        · simp only [gI_sA, gI_sI]; rw [if_neg (by omega)]
        · simp only [gA_sA, gA_sI]; rw [if_neg (by omega), if_neg (by omega)]
    · rw [if_neg hs, if_neg hs]; exact ⟨_, _, rfl, rfl, rfl, h⟩
  · rw [if_neg hk, if_neg hk]; exact ⟨_, _, rfl, rfl, rfl, h⟩
theorem eq_change : E_change Rel := by
  intro X M h e k s
  have hw := nw_of h.1
  obtain ⟨⟨e1, e2, e3, e4⟩, hm, hn, hq, hT, h6, h7, -⟩ := id hw
  rw [fX6_change, fX7_change, x_isKind', m_isKind', x_isShift, m_shift, x_hasEq X e hq, m_isEq M e (by rw [e4]; exact hq), e4]
  simp only [ite_bind, Option.bind_some, one0, zero0, if_true, if_false]
  by_cases he : 0 ≤ e.toInt ∧ e.toInt < (gI X 3).toInt
  · rw [if_pos he, if_pos he]
    by_cases hk : 0 ≤ k.toInt ∧ k.toInt ≤ 6
    · rw [if_pos hk, if_pos hk]
      by_cases hs : -2 ≤ s.toInt ∧ s.toInt ≤ 2
      · have hi : ¬ (e < 0 ∨ 6 ≤ e.toNatClampNeg) := ix_ok (by omega) (by omega)
        rw [if_pos hs, if_pos hs, x_kindOf X hq.2 he, x_become X hq.2 he, if_pos hi, if_pos hi, if_pos hi]
        refine ⟨_, _, rfl, rfl, (h6 _ (by omega)).symm, Rel_T h ?_ (of_nw (nw_kinds hw (e := e.toInt.toNat) (k := k) (s := s) (q := gI X 3) hk hs hq (fun k hk => rfl) rfl (fun k hk => ?_) rfl rfl ⟨rfl, rfl, rfl⟩ e4 rfl rfl rfl))⟩
        · refine ⟨⟨fun k a _ _ _ => rfl, fun k a _ => ?_, fun k _ => rfl⟩, fun k a _ => rfl, ⟨rfl, rfl, rfl, rfl, fun k hk => ?_⟩, rfl⟩
          · simp only [gA_sA]; rw [if_neg (by omega), if_neg (by omega)]
          · simp only [gA_sA]; rw [if_neg (by omega), if_neg (by omega)]
        · simp only [gA_sA]; rw [if_neg (by omega), if_neg (by omega)]
      · rw [if_neg hs, if_neg hs]; exact ⟨_, _, rfl, rfl, rfl, h⟩
    · rw [if_neg hk, if_neg hk]; exact ⟨_, _, rfl, rfl, rfl, h⟩
  · rw [if_neg he, if_neg he]; exact ⟨_, _, rfl, rfl, rfl, h⟩
/-- what stands on the right at i, j, of a row of tables -/
def rE (T : Nat → Int32) (k i j : Int32) : Int32 := if k = 0 then T (at9 1 i j) else if k = 1 then 0 else if k = 2 ∨ k = 4 then -T (at9 0 i j) else T (at9 0 j i)
theorem rE_c {T T' : Nat → Int32} (h : ∀ k, k < 27 → T k = T' k) (k : Int32) {i j : Int32} (hi : 0 ≤ i.toInt ∧ i.toInt < 3) (hj : 0 ≤ j.toInt ∧ j.toInt < 3) : rE T k i j = rE T' k i j := by
  unfold rE
  rw [h _ (at9_lt (by decide) hi hj), h _ (at9_lt (by decide) hi hj), h _ (at9_lt (by decide) hj hi)]
theorem x_right (S : w_S) (k : Int32) {i j : Int32} (hi : 0 ≤ i.toInt ∧ i.toInt < 3) (hj : 0 ≤ j.toInt ∧ j.toInt < 3) : fX4_rightEntry_1 S k i j = some (rE (TX S) k i j) := by
  rw [fX4_rightEntry_1, x_entry S (by decide) hi hj, x_entry S (by decide) hi hj, x_entry S (by decide) hj hi]
  simp only [Option.bind_some]
  unfold rE
  grind
theorem m_right (S : w_S) (k : Int32) {i j : Int32} (hi : 0 ≤ i.toInt ∧ i.toInt < 3) (hj : 0 ≤ j.toInt ∧ j.toInt < 3) : fX7_rightOf S k i j = some (rE (gA S 0) k i j) := by
  rw [fX7_rightOf, m_its S (by decide) hi hj, m_its S (by decide) hi hj, m_its S (by decide) hj hi]
  simp only [Option.bind_some]
  unfold rE
  grind
theorem eq_right : E_right Rel := by
  intro X M h e i j
  have hw := nw_of h.1
  obtain ⟨⟨e1, e2, e3, e4⟩, hm, hn, hq, hT, h6, h7, o4, -⟩ := id hw
  rw [fX6_right, fX7_right, x_rowIn, m_dim i (by rw [e2]; exact hn), m_dim j (by rw [e2]; exact hn), x_hasEq X e hq, m_isEq M e (by rw [e4]; exact hq), e4, e2]
  simp only [ite_bind, Option.bind_some, one0, zero0, if_true, if_false]
  by_cases he : 0 ≤ e.toInt ∧ e.toInt < (gI X 3).toInt
  · rw [if_pos he, if_pos he]
    by_cases hi : 0 ≤ i.toInt ∧ i.toInt < (gI X 1).toInt
    · by_cases hj : 0 ≤ j.toInt ∧ j.toInt < (gI X 1).toInt
      · have hx : ¬ (e < 0 ∨ 6 ≤ e.toNatClampNeg) := ix_ok (by omega) (by omega)
        have hx2 : ¬ (e < 0 ∨ 6 ≤ e.toInt.toNat) := hx
        rw [if_pos ⟨hi, hj⟩, if_pos hi, if_pos hj, x_kindOf X hq.2 he, if_pos hx, Option.bind_some, x_hasRight, cl_nn, h6 _ (by omega), m_isLike M (o4 _ (by omega)).1, e1, e2]
        simp only [ite_bind, Option.bind_some, one0, zero0, if_true, if_false, x_right X _ (i := i) (j := j) (by omega) (by omega), m_right M _ (i := i) (j := j) (by omega) (by omega), if_pos hx2]
        split
        · exact ⟨_, _, rfl, rfl, by rw [rE_c hT _ (by omega) (by omega)], h⟩
        · exact ⟨_, _, rfl, rfl, rfl, h⟩
      · rw [if_neg (fun c => hj c.2), if_pos hi, if_neg hj]; exact ⟨_, _, rfl, rfl, rfl, h⟩
    · rw [if_neg (fun c => hi c.1), if_neg hi]; exact ⟨_, _, rfl, rfl, rfl, h⟩
  · rw [if_neg he, if_neg he]; exact ⟨_, _, rfl, rfl, rfl, h⟩
theorem eq_trace : E_trace Rel := by
  intro X M h i
  obtain ⟨a1, ⟨a2, a3⟩, a4⟩ := h.2.2.2.2.2
  have e1 : ((gI M 18) - 1).toInt = (gI M 18).toInt - 1 := fb_subI (by rw [← a1, ti_1]; omega) (by rw [← a1, ti_1]; omega)
  rw [fX6_trace, fX7_trace, m_in32, i_l, e1, tl_0, ← a1]
  simp only [some_ite, ite_bind, Option.bind_some, one0, zero0, if_true, if_false, i_lt, i_le, ti_0, ti_30]
  by_cases hi : 0 ≤ i.toInt ∧ i.toInt < (gI X 26).toInt
  · have hx : ¬ (i < 0 ∨ 30 ≤ i.toNatClampNeg) := ix_ok (by omega) (by omega)
    rw [i_lt, ti_0] at hx
    rw [if_neg (by omega), if_neg (by omega), if_neg (by omega), if_pos hx, if_pos (by omega), if_pos hx]
    exact ⟨_, _, rfl, rfl, a4 _ (by rw [cl_nn]; omega), h⟩
  · refine ⟨-3, -3, ?_, ?_, rfl, h⟩
    · by_cases c1 : i.toInt < 0
      · rw [if_pos c1]
      · rw [if_neg c1, if_pos (by omega)]
    · rw [if_neg (by omega)]
