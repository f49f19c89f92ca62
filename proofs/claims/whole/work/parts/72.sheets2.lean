/-! ===== sheet, move ===== -/
def px_len (n : Int32) : Int32 := if 0 < (if 40 < n then 40 else n) then (if 40 < n then 40 else n) else 0
theorem fillL0 (S : w_S) : ∃ f, fJ7_fill_d0a16_31 S 0 = some (sB S 2 f) ∧ ∀ i, i < 40 → f i = 0 := by
  rw [fJ7_fill_d0a16_31]
  obtain ⟨t, h1, f, rfl, h2⟩ := loop_up (fun n f i => fJ7_fill_d0a16_31_L6 0 40 n (sB S 2 f) i) (fun k f => ∀ i, i < k → f i = 0) (fun t => ∃ f, t = sB S 2 f ∧ ∀ i, i < 40 → f i = 0) 40
    (fun n k f hk hI => ⟨vp_updL f k 0, fun i hi => by
      by_cases e : i = k
      · rw [updL_ap, if_pos e]
      · rw [updL_ap, if_neg e]; exact hI i (by omega), by
      show fJ7_fill_d0a16_31_L6 0 40 (n + 1) (sB S 2 f) (nI k) = _
      rw [fJ7_fill_d0a16_31_L6, if_neg (by rw [lit, nI_leI (by omega) (by omega)]; omega), if_pos (nI_inN hk (by decide)), sB_sB, gB_sB, if_pos rfl, nI_clamp (by omega), nI_1]⟩)
    (fun n f hI => ⟨_, by
      show fJ7_fill_d0a16_31_L6 0 40 (n + 1) (sB S 2 f) (nI 40) = _
      rw [fJ7_fill_d0a16_31_L6, if_pos (by rw [lit]; exact Int32.le_refl _)], f, rfl, hI⟩) 256 0 (gB S 2) (by omega) (by omega) (fun i hi => by omega)
  rw [sB_self] at h1
  have h1' : fJ7_fill_d0a16_31_L6 0 40 256 S 0 = some (sB S 2 f) := h1
  exact ⟨f, by rw [h1']; rfl, h2⟩
theorem fillL1 (S : w_S) : ∃ f, fJ7_fill_d0a16_33 S 0 = some (sB S 3 f) ∧ ∀ i, i < 40 → f i = 0 := by
  rw [fJ7_fill_d0a16_33]
  obtain ⟨t, h1, f, rfl, h2⟩ := loop_up (fun n f i => fJ7_fill_d0a16_33_L6 0 40 n (sB S 3 f) i) (fun k f => ∀ i, i < k → f i = 0) (fun t => ∃ f, t = sB S 3 f ∧ ∀ i, i < 40 → f i = 0) 40
    (fun n k f hk hI => ⟨vp_updL f k 0, fun i hi => by
      by_cases e : i = k
      · rw [updL_ap, if_pos e]
      · rw [updL_ap, if_neg e]; exact hI i (by omega), by
      show fJ7_fill_d0a16_33_L6 0 40 (n + 1) (sB S 3 f) (nI k) = _
      rw [fJ7_fill_d0a16_33_L6, if_neg (by rw [lit, nI_leI (by omega) (by omega)]; omega), if_pos (nI_inN hk (by decide)), sB_sB, gB_sB, if_pos rfl, nI_clamp (by omega), nI_1]⟩)
    (fun n f hI => ⟨_, by
      show fJ7_fill_d0a16_33_L6 0 40 (n + 1) (sB S 3 f) (nI 40) = _
      rw [fJ7_fill_d0a16_33_L6, if_pos (by rw [lit]; exact Int32.le_refl _)], f, rfl, hI⟩) 256 0 (gB S 3) (by omega) (by omega) (fun i hi => by omega)
  rw [sB_self] at h1
  have h1' : fJ7_fill_d0a16_33_L6 0 40 256 S 0 = some (sB S 3 f) := h1
  exact ⟨f, by rw [h1']; rfl, h2⟩
theorem fillL2 (S : w_S) : ∃ f, fJ7_fill_d0a16_35 S 0 = some (sB S 4 f) ∧ ∀ i, i < 40 → f i = 0 := by
  rw [fJ7_fill_d0a16_35]
  obtain ⟨t, h1, f, rfl, h2⟩ := loop_up (fun n f i => fJ7_fill_d0a16_35_L6 0 40 n (sB S 4 f) i) (fun k f => ∀ i, i < k → f i = 0) (fun t => ∃ f, t = sB S 4 f ∧ ∀ i, i < 40 → f i = 0) 40
    (fun n k f hk hI => ⟨vp_updL f k 0, fun i hi => by
      by_cases e : i = k
      · rw [updL_ap, if_pos e]
      · rw [updL_ap, if_neg e]; exact hI i (by omega), by
      show fJ7_fill_d0a16_35_L6 0 40 (n + 1) (sB S 4 f) (nI k) = _
      rw [fJ7_fill_d0a16_35_L6, if_neg (by rw [lit, nI_leI (by omega) (by omega)]; omega), if_pos (nI_inN hk (by decide)), sB_sB, gB_sB, if_pos rfl, nI_clamp (by omega), nI_1]⟩)
    (fun n f hI => ⟨_, by
      show fJ7_fill_d0a16_35_L6 0 40 (n + 1) (sB S 4 f) (nI 40) = _
      rw [fJ7_fill_d0a16_35_L6, if_pos (by rw [lit]; exact Int32.le_refl _)], f, rfl, hI⟩) 256 0 (gB S 4) (by omega) (by omega) (fun i hi => by omega)
  rw [sB_self] at h1
  have h1' : fJ7_fill_d0a16_35_L6 0 40 256 S 0 = some (sB S 4 f) := h1
  exact ⟨f, by rw [h1']; rfl, h2⟩
theorem fillL3 (S : w_S) : ∃ f, fJ7_fill_d0a16_37 S 0 = some (sB S 5 f) ∧ ∀ i, i < 40 → f i = 0 := by
  rw [fJ7_fill_d0a16_37]
  obtain ⟨t, h1, f, rfl, h2⟩ := loop_up (fun n f i => fJ7_fill_d0a16_37_L6 0 40 n (sB S 5 f) i) (fun k f => ∀ i, i < k → f i = 0) (fun t => ∃ f, t = sB S 5 f ∧ ∀ i, i < 40 → f i = 0) 40
    (fun n k f hk hI => ⟨vp_updL f k 0, fun i hi => by
      by_cases e : i = k
      · rw [updL_ap, if_pos e]
      · rw [updL_ap, if_neg e]; exact hI i (by omega), by
      show fJ7_fill_d0a16_37_L6 0 40 (n + 1) (sB S 5 f) (nI k) = _
      rw [fJ7_fill_d0a16_37_L6, if_neg (by rw [lit, nI_leI (by omega) (by omega)]; omega), if_pos (nI_inN hk (by decide)), sB_sB, gB_sB, if_pos rfl, nI_clamp (by omega), nI_1]⟩)
    (fun n f hI => ⟨_, by
      show fJ7_fill_d0a16_37_L6 0 40 (n + 1) (sB S 5 f) (nI 40) = _
      rw [fJ7_fill_d0a16_37_L6, if_pos (by rw [lit]; exact Int32.le_refl _)], f, rfl, hI⟩) 256 0 (gB S 5) (by omega) (by omega) (fun i hi => by omega)
  rw [sB_self] at h1
  have h1' : fJ7_fill_d0a16_37_L6 0 40 256 S 0 = some (sB S 5 f) := h1
  exact ⟨f, by rw [h1']; rfl, h2⟩
def rnw (k : Nat) : w_S → Int32 → Int32 → Option w_S := match k with | 0 => fX2_renew_30 | 1 => fX2_renew_32 | 2 => fX2_renew_34 | _ => fX2_renew_36
theorem x_rnw (S : w_S) {k : Nat} (hk : k < 4) (s n : Int32) : ∃ f, rnw k S s n = some (sB (sI (sI S (28 + 2 * k) s) (29 + 2 * k) (px_len n)) (2 + k) f) ∧ ∀ i, i < 40 → f i = 0 := by
  match k, hk with
  | 0, _ =>
    obtain ⟨f, h1, h2⟩ := fillL0 (sI (sI S 28 s) 29 (px_len n))
    refine ⟨f, ?_, h2⟩
    show fX2_renew_30 S s n = _
    rw [fX2_renew_30]
    show ((fJ7_fill_d0a16_31 (sI (sI S 28 s) 29 (px_len n)) 0).bind fun r24 => some r24) = _
    rw [h1]; rfl
  | 1, _ =>
    obtain ⟨f, h1, h2⟩ := fillL1 (sI (sI S 30 s) 31 (px_len n))
    refine ⟨f, ?_, h2⟩
    show fX2_renew_32 S s n = _
    rw [fX2_renew_32]
    show ((fJ7_fill_d0a16_33 (sI (sI S 30 s) 31 (px_len n)) 0).bind fun r24 => some r24) = _
    rw [h1]; rfl
  | 2, _ =>
    obtain ⟨f, h1, h2⟩ := fillL2 (sI (sI S 32 s) 33 (px_len n))
    refine ⟨f, ?_, h2⟩
    show fX2_renew_34 S s n = _
    rw [fX2_renew_34]
    show ((fJ7_fill_d0a16_35 (sI (sI S 32 s) 33 (px_len n)) 0).bind fun r24 => some r24) = _
    rw [h1]; rfl
  | 3, _ =>
    obtain ⟨f, h1, h2⟩ := fillL3 (sI (sI S 34 s) 35 (px_len n))
    refine ⟨f, ?_, h2⟩
    show fX2_renew_36 S s n = _
    rw [fX2_renew_36]
    show ((fJ7_fill_d0a16_37 (sI (sI S 34 s) 35 (px_len n)) 0).bind fun r24 => some r24) = _
    rw [h1]; rfl
def px_sheet (S : w_S) (k : Nat) (s n : Int32) : Option (Int32 × w_S) := if s = -1 then (rnw k S s 0).bind (fun r => some (1, r)) else if 0 ≤ s.toInt ∧ s.toInt ≤ 3 then (if n ≤ 40 then (if 0 ≤ n then (rnw k S s n).bind (fun r => some (1, r)) else some (-14, S)) else some (-1, S)) else some (-1, S)
theorem x_sheet (S : w_S) (a s n : Int32) : fX6_sheet S a s n = if 0 ≤ a.toInt ∧ a.toInt < 4 then px_sheet S a.toInt.toNat s n else some (-1, S) := by
  rw [fX6_sheet, x_isSheet, x_isSort]
  simp only [ite_bind, Option.bind_some, one0, zero0, if_true, if_false]
  by_cases h : 0 ≤ a.toInt ∧ a.toInt < 4
  · rw [if_pos h, if_pos h]
    unfold px_sheet
    by_cases hs : s = -1
    · simp only [if_pos hs]
      rcases k_cases h with rfl | rfl | rfl | rfl <;> rfl
    · simp only [if_neg hs]
      rcases k_cases h with rfl | rfl | rfl | rfl <;> rfl
  · rw [if_neg h, if_neg h]
theorem px_len0 : px_len 0 = 0 := rfl
theorem px_lenN {n : Int32} (h0 : 0 ≤ n) (h1 : n ≤ 40) : px_len n = n := by
  unfold px_len
  rw [i_le, ti_0] at h0; rw [i_le, ti_40] at h1
  rw [if_neg (show ¬ (40 : Int32) < n by rw [i_lt, ti_40]; omega)]
  by_cases h : 0 < n
  · rw [if_pos h]
  · rw [if_neg h, i_eq, ti_0]; rw [i_lt, ti_0] at h; omega
theorem sheet69 (a : Int32) (ha : 0 ≤ a.toInt ∧ a.toInt < 4) (S : w_S) : ∃ f, fX7_sheet_L69 a 256 S 0 = some (sB S 3 f) ∧ (∀ j, j < 40 → f (40 * a.toInt.toNat + j) = 0) ∧ (∀ j, ¬ (40 * a.toInt.toNat ≤ j ∧ j < 40 * a.toInt.toNat + 40) → f j = gB S 3 j) := by
  obtain ⟨t, h1, f, rfl, h2⟩ := loop_up (fun n f i => fX7_sheet_L69 a n (sB S 3 f) i) (fun k f => (∀ j, j < k → f (40 * a.toInt.toNat + j) = 0) ∧ (∀ j, ¬ (40 * a.toInt.toNat ≤ j ∧ j < 40 * a.toInt.toNat + 40) → f j = gB S 3 j)) (fun t => ∃ f, t = sB S 3 f ∧ (∀ j, j < 40 → f (40 * a.toInt.toNat + j) = 0) ∧ (∀ j, ¬ (40 * a.toInt.toNat ≤ j ∧ j < 40 * a.toInt.toNat + 40) → f j = gB S 3 j)) 40
    (fun n k f hk hI => ⟨vp_updL f (40 * a.toInt.toNat + k) 0, ⟨fun i hi => by
      by_cases e : i = k
      · rw [updL_ap, if_pos (by omega)]
      · rw [updL_ap, if_neg (by omega)]; exact hI.1 i (by omega), fun i hi => by
        rw [updL_ap, if_neg (by omega)]; exact hI.2 i hi⟩, by
      have ht : (nI k).toInt = k := nI_toInt (by omega)
      obtain ⟨x1, x2, x3⟩ := ix160 ha (i := nI k) (by omega)
      show fX7_sheet_L69 a (n + 1) (sB S 3 f) (nI k) = _
      rw [fX7_sheet_L69, if_neg (by rw [lit, nI_leI (by omega) (by omega)]; omega), if_pos x1, x2, sB_sB, gB_sB, if_pos rfl, nI_1, ht]
      rfl⟩)
    (fun n f hI => ⟨_, by
      show fX7_sheet_L69 a (n + 1) (sB S 3 f) (nI 40) = _
      rw [fX7_sheet_L69, if_pos (by rw [lit]; exact Int32.le_refl _)], f, rfl, hI⟩) 256 0 (gB S 3) (by omega) (by omega) ⟨fun i hi => by omega, fun j hj => rfl⟩
  rw [sB_self] at h1
  exact ⟨f, h1, h2⟩
/-- both sheets a made anew -/
theorem sheet_new {X M : w_S} (h : Rel X M) {s n : Int32} {k : Nat} (hk : k < 4) (hs : bnd (-1) 3 s) (hn : bnd 0 40 n) (h0 : s = -1 → n = 0) (f g : Nat → Int64) (hf : ∀ i, i < 40 → f i = 0) (hg : ∀ j, j < 40 → g (40 * k + j) = 0) (hg2 : ∀ j, ¬ (40 * k ≤ j ∧ j < 40 * k + 40) → g j = gB M 3 j) :
    Rel (sB (sI (sI X (28 + 2 * k) s) (29 + 2 * k) n) (2 + k) f) (sB (sA (sA M 12 (upd (gA M 12) k s)) 13 (upd (gA M 13) k n)) 3 g) := by
  have x1 : gI (sB (sI (sI X (28 + 2 * k) s) (29 + 2 * k) n) (2 + k) f) (28 + 2 * k) = s := by
    simp only [gI_sB, gI_sI]; rw [if_neg (by omega)]; simp
  have x2 : gI (sB (sI (sI X (28 + 2 * k) s) (29 + 2 * k) n) (2 + k) f) (29 + 2 * k) = n := by
    simp only [gI_sB, gI_sI]; simp
  refine rel_sheet h (k := k) hk (fun j h1 h2 => ?_) rfl (fun j hj => ?_) rfl (fun j h1 h2 => ?_) (fun j hj => ⟨?_, ?_⟩) (fun j _ hj => ?_) ?_ ?_ ?_ ?_ ?_ (fun j hj => ?_)
  · simp only [gI_sB, gI_sI]; rw [if_neg h2, if_neg h1]
  · simp only [gB_sB, gB_sI]; rw [if_neg hj]
  · simp only [gA_sB, gA_sA]; rw [if_neg h2, if_neg h1]
  · simp only [gA_sB, gA_sA]; simp [hj, upd_ap]
  · simp only [gA_sB, gA_sA]; simp [hj, upd_ap]
  · simp only [gB_sB, gB_sA]; simp [hg2 j hj]
  · rw [x1]; simp only [gA_sB, gA_sA]; simp [upd_ap]
  · rw [x2]; simp only [gA_sB, gA_sA]; simp [upd_ap]
  · rw [x1]; exact hs
  · rw [x2]; exact hn
  · rw [x1, x2]; exact h0
  · simp only [gB_sB, gB_sA]; simp [hg j hj, hf j hj]
theorem eq_sheet : E_sheet Rel := by
  intro X M h a s n
  rw [x_sheet, fX7_sheet, m_isSheet, m_in32, tn_1, tl_3]
  simp only [some_ite, ite_bind, Option.bind_some, one0, zero0, if_true, if_false]
  by_cases ha : 0 ≤ a.toInt ∧ a.toInt < 4
  · obtain ⟨s1, s2, -⟩ := sh_of h.2.2.2.1 ha
    rw [if_pos ha, if_pos ha]
    simp only [if_pos s1]
    unfold px_sheet
    by_cases hs : s = -1
    · obtain ⟨f, f1, f2⟩ := x_rnw X (k := a.toInt.toNat) (by omega) s 0
      subst hs
      obtain ⟨g, g1, g2, g3⟩ := sheet69 a ha (sA (sA M 12 (upd (gA M 12) a.toInt.toNat (-1))) 13 (upd (gA M 13) a.toInt.toNat 0))
      rw [if_pos rfl, f1, if_pos (by decide), if_pos (by decide), if_pos (by decide), if_neg (by decide), s2, g1]
      exact ⟨_, _, rfl, rfl, rfl, sheet_new h (k := a.toInt.toNat) (by omega) ⟨by decide, by decide⟩ ⟨by decide, by decide⟩ (fun _ => rfl) f g f2 g2 g3⟩
    · rw [if_neg hs]
      by_cases hs3 : 0 ≤ s.toInt ∧ s.toInt ≤ 3
      · have c1 : ¬ s < 0 := by rw [i_lt, ti_0]; omega
        have c2 : 0 ≤ s := by rw [i_le, ti_0]; omega
        rw [if_pos hs3, if_pos (show -1 ≤ s.toInt ∧ s.toInt ≤ 3 by omega), if_neg c1, if_neg c1, if_pos c2]
        by_cases hn : n ≤ 40
        · rw [if_pos hn, if_pos hn]
          by_cases hn0 : 0 ≤ n
          · obtain ⟨f, f1, f2⟩ := x_rnw X (k := a.toInt.toNat) (by omega) s n
            obtain ⟨g, g1, g2, g3⟩ := sheet69 a ha (sA (sA M 12 (upd (gA M 12) a.toInt.toNat s)) 13 (upd (gA M 13) a.toInt.toNat n))
            rw [if_pos hn0, if_pos hn0, f1, s2, g1, px_lenN hn0 hn]
            rw [i_le, ti_40] at hn
            rw [i_le, ti_0] at hn0
            exact ⟨_, _, rfl, rfl, rfl, sheet_new h (k := a.toInt.toNat) (by omega) ⟨by omega, by omega⟩ ⟨by omega, by omega⟩ (fun e => absurd e hs) f g f2 g2 g3⟩
          · rw [if_neg hn0, if_neg hn0]; exact ⟨_, _, rfl, rfl, rfl, h⟩
        · rw [if_neg hn, if_neg hn]; exact ⟨_, _, rfl, rfl, rfl, h⟩
      · rw [if_neg hs3, if_neg (show ¬ (-1 ≤ s.toInt ∧ s.toInt ≤ 3) by rw [i_eq, tm_1] at hs; omega)]; exact ⟨_, _, rfl, rfl, rfl, h⟩
  · rw [if_neg ha, if_neg ha]; exact ⟨_, _, rfl, rfl, rfl, h⟩
/-! ===== move ===== -/
def px_str (S : w_S) (k : Nat) (i n : Int32) : Option Int32 := if n < 0 then some 0 else if gI S (29 + 2 * k) < n then some 0 else if i < 0 then some 0 else if gI S (29 + 2 * k) - n < i then some 0 else some 1
def px_move (S : w_S) (k l : Nat) (i j n : Int32) : Option (Int32 × w_S) := if gI S (28 + 2 * k) = -1 then some (-11, S) else if gI S (28 + 2 * l) = -1 then some (-11, S) else if gI S (28 + 2 * k) = gI S (28 + 2 * l) then (px_str S k i n).bind (fun r => if r = 0 then some (-12, S) else (px_str S l j n).bind (fun r => if r = 0 then some (-12, S) else if ¬ i < 0 ∧ ¬ j < 0 ∧ ¬ n < 0 ∧ i.toNatClampNeg + n.toNatClampNeg ≤ 40 ∧ j.toNatClampNeg + n.toNatClampNeg ≤ 40 then some (n, (sB S (2 + l) (va_cpy (gB S (2 + k)) (gB S (2 + l)) i.toNatClampNeg j.toNatClampNeg n.toNatClampNeg))) else none)) else some (-13, S)
theorem x_move (S : w_S) (a i b j n : Int32) : fX6_move S a i b j n = if 0 ≤ a.toInt ∧ a.toInt < 4 then (if 0 ≤ b.toInt ∧ b.toInt < 4 then px_move S a.toInt.toNat b.toInt.toNat i j n else some (-1, S)) else some (-1, S) := by
  rw [fX6_move, x_isSheet, x_isSheet]
  by_cases h : 0 ≤ a.toInt ∧ a.toInt < 4
  · rw [if_pos h, if_pos h]
    by_cases g : 0 ≤ b.toInt ∧ b.toInt < 4
    · rw [if_pos g, if_pos g]
      rcases k_cases h with rfl | rfl | rfl | rfl <;> rcases k_cases g with rfl | rfl | rfl | rfl <;> rfl
    · rw [if_neg g, if_neg g]; rfl
  · rw [if_neg h, if_neg h]; rfl
theorem move102 {a i b j n : Int32} (ha : 0 ≤ a.toInt ∧ a.toInt < 4) (hi : 0 ≤ i.toInt ∧ i.toInt + n.toInt ≤ 40) (hn : 0 ≤ n.toInt) (S : w_S) : ∃ f, fX7_move_L102 a i b j n 256 S 0 = some (sB S 4 f) ∧ ∀ x, x < n.toInt.toNat → f x = gB S 3 (40 * a.toInt.toNat + i.toInt.toNat + x) := by
  obtain ⟨N, hN, rfl, hN2⟩ := nI_nn hn
  obtain ⟨t, h1, f, rfl, h2⟩ := loop_up (fun n f x => fX7_move_L102 a i b j (nI N) n (sB S 4 f) x) (fun k f => ∀ x, x < k → f x = gB S 3 (40 * a.toInt.toNat + i.toInt.toNat + x)) (fun t => ∃ f, t = sB S 4 f ∧ ∀ x, x < N → f x = gB S 3 (40 * a.toInt.toNat + i.toInt.toNat + x)) N
    (fun n k f hk hI => ⟨vp_updL f k (gB S 3 (40 * a.toInt.toNat + i.toInt.toNat + k)), fun x hx => by
      by_cases e : x = k
      · rw [updL_ap, if_pos e, e]
      · rw [updL_ap, if_neg e]; exact hI x (by omega), by
      have ht : (nI k).toInt = k := nI_toInt (by omega)
      obtain ⟨-, -, x3⟩ := ix160 ha (i := i) (by omega)
      have x4 : (40 * a + i + nI k).toInt = 40 * a.toInt + i.toInt + k := by rw [fb_addI (by rw [x3, ht]; omega) (by rw [x3, ht]; omega), x3, ht]
      show fX7_move_L102 a i b j (nI N) (n + 1) (sB S 4 f) (nI k) = _
      rw [fX7_move_L102, if_neg (by rw [nI_leI (by omega) (by omega)]; omega), if_pos (ix_ok (by omega) (by omega)), if_pos (nI_inN (show k < 40 by omega) (by decide)), sB_sB, gB_sB, gB_sB, if_pos rfl, if_neg (by decide), nI_1, nI_clamp (by omega), cl_nn (40 * a + i + nI k), x4]
      congr 5
      omega⟩)
    (fun n f hI => ⟨_, by
      show fX7_move_L102 a i b j (nI N) (n + 1) (sB S 4 f) (nI N) = _
      rw [fX7_move_L102, if_pos (Int32.le_refl _)], f, rfl, hI⟩) 256 0 (gB S 4) (by omega) (by omega) (fun i hi => by omega)
  rw [sB_self] at h1
  exact ⟨f, h1, fun x hx => h2 x (by omega)⟩
theorem move139 {b j n : Int32} (hb : 0 ≤ b.toInt ∧ b.toInt < 4) (hj : 0 ≤ j.toInt ∧ j.toInt + n.toInt ≤ 40) (hn : 0 ≤ n.toInt) (S : w_S) : ∃ f, fX7_move_L139 b j n 256 S 0 = some (sB S 3 f) ∧ ∀ x, f x = if 40 * b.toInt.toNat + j.toInt.toNat ≤ x ∧ x < 40 * b.toInt.toNat + j.toInt.toNat + n.toInt.toNat then gB S 4 (x - (40 * b.toInt.toNat + j.toInt.toNat)) else gB S 3 x := by
  obtain ⟨N, hN, rfl, hN2⟩ := nI_nn hn
  obtain ⟨t, h1, f, rfl, h2⟩ := loop_up (fun n f x => fX7_move_L139 b j (nI N) n (sB S 3 f) x) (fun k f => ∀ x, f x = if 40 * b.toInt.toNat + j.toInt.toNat ≤ x ∧ x < 40 * b.toInt.toNat + j.toInt.toNat + k then gB S 4 (x - (40 * b.toInt.toNat + j.toInt.toNat)) else gB S 3 x) (fun t => ∃ f, t = sB S 3 f ∧ ∀ x, f x = if 40 * b.toInt.toNat + j.toInt.toNat ≤ x ∧ x < 40 * b.toInt.toNat + j.toInt.toNat + N then gB S 4 (x - (40 * b.toInt.toNat + j.toInt.toNat)) else gB S 3 x) N
    (fun n k f hk hI => ⟨vp_updL f (40 * b.toInt.toNat + j.toInt.toNat + k) (gB S 4 k), fun x => by
      by_cases e : x = 40 * b.toInt.toNat + j.toInt.toNat + k
      · rw [updL_ap, if_pos e, if_pos (by omega)]; congr 1; omega
      · rw [updL_ap, if_neg e, hI x]
        by_cases c : 40 * b.toInt.toNat + j.toInt.toNat ≤ x ∧ x < 40 * b.toInt.toNat + j.toInt.toNat + k
        · rw [if_pos c, if_pos (by omega)]
        · rw [if_neg c, if_neg (by omega)], by
      have ht : (nI k).toInt = k := nI_toInt (by omega)
      obtain ⟨-, -, x3⟩ := ix160 hb (i := j) (by omega)
      have x4 : (40 * b + j + nI k).toInt = 40 * b.toInt + j.toInt + k := by rw [fb_addI (by rw [x3, ht]; omega) (by rw [x3, ht]; omega), x3, ht]
      have x5 : (40 * b + j + nI k).toNatClampNeg = 40 * b.toInt.toNat + j.toInt.toNat + k := by rw [cl_nn, x4]; omega
      show fX7_move_L139 b j (nI N) (n + 1) (sB S 3 f) (nI k) = _
      rw [fX7_move_L139, if_neg (by rw [nI_leI (by omega) (by omega)]; omega), if_pos (nI_inN (show k < 40 by omega) (by decide)), if_pos (ix_ok (by omega) (by omega)), sB_sB, gB_sB, gB_sB, if_pos rfl, if_neg (by decide), nI_1, nI_clamp (by omega), x5]⟩)
    (fun n f hI => ⟨_, by
      show fX7_move_L139 b j (nI N) (n + 1) (sB S 3 f) (nI N) = _
      rw [fX7_move_L139, if_pos (Int32.le_refl _)], f, rfl, hI⟩) 256 0 (gB S 3) (by omega) (by omega) (fun x => by rw [if_neg (by omega)])
  rw [sB_self] at h1
  refine ⟨f, h1, fun x => ?_⟩
  rw [h2 x, hN2]; rfl
theorem eq_move : E_move Rel := by
  intro X M h a i b j n
  rw [x_move, fX7_move, m_isSheet, m_isSheet]
  simp only [ite_bind, Option.bind_some, one0, zero0, if_true, if_false]
  by_cases ha : 0 ≤ a.toInt ∧ a.toInt < 4
  · rw [if_pos ha, if_pos ha]
    by_cases hb : 0 ≤ b.toInt ∧ b.toInt < 4
    · rw [if_pos hb, if_pos hb]
      obtain ⟨s1, s2, s3, s4, ⟨s5, s5'⟩, ⟨s6, s6'⟩, s7, s8⟩ := sh_of h.2.2.2.1 ha
      obtain ⟨t1, t2, t3, t4, ⟨t5, t5'⟩, ⟨t6, t6'⟩, t7, t8⟩ := sh_of h.2.2.2.1 hb
      rw [s2] at s1
      rw [t2] at t1
      simp only [s2, t2, if_pos s1, if_pos t1, ← s3, ← s4, ← t3, ← t4]
      unfold px_move
      by_cases h1 : gI X (28 + 2 * a.toInt.toNat) = -1
      · rw [if_pos h1, if_pos (by rw [h1]; decide)]; exact ⟨_, _, rfl, rfl, rfl, h⟩
      · rw [if_neg h1, if_neg (show ¬ gI X (28 + 2 * a.toInt.toNat) < 0 by rw [i_lt, ti_0]; rw [i_eq, tm_1] at h1; omega)]
        by_cases h2 : gI X (28 + 2 * b.toInt.toNat) = -1
        · rw [if_pos h2, if_neg (show ¬ 0 ≤ gI X (28 + 2 * b.toInt.toNat) by rw [h2]; decide)]; exact ⟨_, _, rfl, rfl, rfl, h⟩
        · rw [if_neg h2, if_pos (show 0 ≤ gI X (28 + 2 * b.toInt.toNat) by rw [i_le, ti_0]; rw [i_eq, tm_1] at h2; omega)]
          by_cases h3 : gI X (28 + 2 * a.toInt.toNat) = gI X (28 + 2 * b.toInt.toNat)
          · rw [if_pos h3, if_pos h3]
            unfold px_str
            by_cases hn : n < 0
            · simp only [if_pos hn]; exact ⟨_, _, rfl, rfl, rfl, h⟩
            · simp only [if_neg hn]
              by_cases hi : i < 0
              · simp only [if_pos hi]
                refine ⟨(-12, X), _, ?_, rfl, rfl, h⟩
                split <;> rfl
              · simp only [if_neg hi]
                by_cases hj : j < 0
                · simp only [if_pos hj]
                  refine ⟨(-12, X), _, ?_, rfl, rfl, h⟩
                  split
                  · rfl
                  · split
                    · rfl
                    · simp only [Option.bind_some, one0, if_false]
                      split <;> rfl
                · simp only [if_neg hj]
                  have n0 : 0 ≤ n.toInt := by rw [i_lt, ti_0] at hn; omega
                  have i0 : 0 ≤ i.toInt := by rw [i_lt, ti_0] at hi; omega
                  have j0 : 0 ≤ j.toInt := by rw [i_lt, ti_0] at hj; omega
                  have rn := fb_rng n
                  have ea : (gI X (29 + 2 * a.toInt.toNat) - n).toInt = (gI X (29 + 2 * a.toInt.toNat)).toInt - n.toInt := fb_subI (by omega) (by omega)
                  have eb : (gI X (29 + 2 * b.toInt.toNat) - n).toInt = (gI X (29 + 2 * b.toInt.toNat)).toInt - n.toInt := fb_subI (by omega) (by omega)
                  have fa : (gI X (29 + 2 * a.toInt.toNat) < n) ↔ (gI X (29 + 2 * a.toInt.toNat)).toInt < n.toInt := i_lt _ _
                  have fb : (gI X (29 + 2 * b.toInt.toNat) < n) ↔ (gI X (29 + 2 * b.toInt.toNat)).toInt < n.toInt := i_lt _ _
                  have ga : (gI X (29 + 2 * a.toInt.toNat) - n < i) ↔ (gI X (29 + 2 * a.toInt.toNat)).toInt - n.toInt < i.toInt := by rw [i_lt, ea]
                  have gb : (gI X (29 + 2 * b.toInt.toNat) - n < j) ↔ (gI X (29 + 2 * b.toInt.toNat)).toInt - n.toInt < j.toInt := by rw [i_lt, eb]
                  have gc : (j ≤ gI X (29 + 2 * b.toInt.toNat) - n) ↔ j.toInt ≤ (gI X (29 + 2 * b.toInt.toNat)).toInt - n.toInt := by rw [i_le, eb]
                  by_cases c1 : i.toInt + n.toInt ≤ (gI X (29 + 2 * a.toInt.toNat)).toInt
                  · have k1 : ¬ (gI X (29 + 2 * a.toInt.toNat) < n) := by rw [fa]; omega
                    have k2 : ¬ (gI X (29 + 2 * a.toInt.toNat) - n < i) := by rw [ga]; omega
                    simp only [if_neg k1, if_neg k2, Option.bind_some, one0, if_false]
                    by_cases c2 : j.toInt + n.toInt ≤ (gI X (29 + 2 * b.toInt.toNat)).toInt
                    · have k3 : ¬ (gI X (29 + 2 * b.toInt.toNat) < n) := by rw [fb]; omega
                      have k4 : ¬ (gI X (29 + 2 * b.toInt.toNat) - n < j) := by rw [gb]; omega
                      have k5 : j ≤ gI X (29 + 2 * b.toInt.toNat) - n := by rw [gc]; omega
                      simp only [if_neg k3, if_neg k4, if_pos k5, Option.bind_some, one0, if_false]
                      obtain ⟨f, f1, f2⟩ := move102 (b := b) (j := j) (n := n) ha (i := i) ⟨i0, by omega⟩ n0 M
                      obtain ⟨g, g1, g2⟩ := move139 (n := n) hb (j := j) ⟨j0, by omega⟩ n0 (sB M 4 f)
                      rw [f1, Option.bind_some, g1, if_pos ⟨hi, hj, hn, by rw [cl_nn, cl_nn]; omega, by rw [cl_nn, cl_nn]; omega⟩]
                      refine ⟨_, _, rfl, rfl, rfl, rel_sheet h (k := b.toInt.toNat) (by omega) (fun j _ _ => rfl) rfl (fun j hj => by rw [gB_sB, if_neg hj]) rfl (fun j _ _ => rfl) (fun j _ => ⟨rfl, rfl⟩) (fun x _ hx => ?_) t3 t4 ⟨t5, t5'⟩ ⟨t6, t6'⟩ t7 (fun x hx => ?_)⟩
                      · rw [gB_sB, if_pos rfl, g2, if_neg (by omega)]; rfl
                      · rw [gB_sB, gB_sB, if_pos rfl, if_pos rfl, g2, cpy_ap, cl_nn, cl_nn, cl_nn]
                        by_cases c : j.toInt.toNat ≤ x ∧ x < j.toInt.toNat + n.toInt.toNat
                        · rw [if_pos c, if_pos (by omega), gB_sB, if_pos rfl, f2 _ (by omega), s8 _ (by omega)]
                          congr 1; omega
                        · rw [if_neg c, if_neg (by omega), t8 x hx]; rfl
                    · have k5 : ¬ (j ≤ gI X (29 + 2 * b.toInt.toNat) - n) := by rw [gc]; omega
                      simp only [if_neg k5]
                      refine ⟨(-12, X), _, ?_, rfl, rfl, h⟩
                      by_cases d : gI X (29 + 2 * b.toInt.toNat) < n
                      · rw [if_pos d]; rfl
                      · rw [if_neg d, if_pos (show gI X (29 + 2 * b.toInt.toNat) - n < j by rw [gb]; omega)]; rfl
                  · have k2 : gI X (29 + 2 * a.toInt.toNat) - n < i := by rw [ga]; omega
                    simp only [if_pos k2]
                    refine ⟨(-12, X), (-12, M), ?_, rfl, rfl, h⟩
                    split <;> rfl
          · rw [if_neg h3, if_neg h3]; exact ⟨_, _, rfl, rfl, rfl, h⟩
    · rw [if_neg hb, if_neg hb]; exact ⟨_, _, rfl, rfl, rfl, h⟩
  · rw [if_neg ha, if_neg ha]; exact ⟨_, _, rfl, rfl, rfl, h⟩
