/-! ===== tests of the model, as whole numbers ===== -/
theorem m_in (x lo hi : Int64) : fX7_in x lo hi = some (if lo ≤ x ∧ x ≤ hi then 1 else 0) := by
  rw [fX7_in]
  by_cases h1 : x < lo
  · rw [if_pos h1, if_neg]
    rw [l_le]; rw [l_lt] at h1; omega
  · rw [if_neg h1]
    by_cases h2 : hi < x
    · rw [if_pos h2, if_neg]
      rw [l_le, l_le]; rw [l_lt] at h2; omega
    · rw [if_neg h2, if_pos]
      rw [l_le, l_le]; rw [l_lt] at h1 h2; omega
theorem m_in32 (x : Int32) (lo hi : Int64) : fX7_in x.toInt64 lo hi = some (if lo.toInt ≤ x.toInt ∧ x.toInt ≤ hi.toInt then 1 else 0) := by
  rw [m_in]; simp only [l_le, i_l]
theorem x_isKind (k : Int32) : fX6_isKind k = some (if 0 ≤ k.toInt ∧ k.toInt ≤ 6 then 1 else 0) := by
  rw [fX6_isKind]
  simp only [i_lt, i_le]
  rw [show (0 : Int32).toInt = 0 from rfl, show (7 : Int32).toInt = 7 from rfl]
  split
  · rw [if_neg (by omega)]
  · split
    · rw [if_neg (by omega)]
    · rw [if_pos (by omega)]
theorem ite01 {c : Prop} [Decidable c] : (if (if c then (1 : Int32) else 0) = 0 ∨ (if c then (1 : Int32) else 0) = 1 then some (if c then (1 : Int32) else 0) else none) = some (if c then (1 : Int32) else 0) := by
  by_cases h : c
  · simp [h]
  · simp [h]
theorem m_isKind (k : Int32) : fX7_isKind k = some (if 0 ≤ k.toInt ∧ k.toInt ≤ 6 then 1 else 0) := by
  rw [fX7_isKind, m_in32]
  simp only [Option.bind_some, ite01]
  rfl
theorem eq_seed : E_seed Rel := by
  intro X M h a
  obtain ⟨⟨⟨h1, h2, h3, h4, h5⟩, h6⟩, -⟩ := id h
  refine ⟨(gI X 2, sI X 2 a), (gI M 3, sI M 3 a), rfl, rfl, h3, Rel_T h ?_ ⟨⟨h1, h2, rfl, h4, h5⟩, h6⟩⟩
  refine ⟨⟨fun k h1 h2 h3 h4 => ?_, fun k h1 h2 => rfl, fun k h1 => rfl⟩, fun k h1 h2 => ?_, ⟨rfl, rfl, rfl, rfl, fun k h1 => rfl⟩, rfl⟩
  · simp only [gI_sI]; rw [if_neg (by omega)]
  · simp only [gI_sI]; rw [if_neg (by omega)]
theorem saves12 (S : w_S) : ∃ f, fX7_saves_1_2 S = some (sA S 1 f) ∧ ∀ i, i < 27 → f i = gA S 0 i := by
  rw [fX7_saves_1_2]
  obtain ⟨t, h1, f, rfl, h2⟩ := loop_up (fun n f i => fX7_saves_1_2_L2 n (sA S 1 f) i) (fun k f => ∀ i, i < k → f i = gA S 0 i) (fun t => ∃ f, t = sA S 1 f ∧ ∀ i, i < 27 → f i = gA S 0 i) 27
    (fun n k f hk hI => ⟨upd f k (gA S 0 k), fun i hi => by
      by_cases e : i = k
      · rw [upd_ap, if_pos e, e]
      · rw [upd_ap, if_neg e]; exact hI i (by omega), by
      show fX7_saves_1_2_L2 (n + 1) (sA S 1 f) (nI k) = _
      rw [fX7_saves_1_2_L2, if_neg (by rw [lit, nI_leI (by omega) (by omega)]; omega), if_pos (nI_inN hk (by decide)), if_pos (nI_inN hk (by decide)), sA_sA, gA_sA, if_pos rfl, gA_sA, if_neg (by decide), nI_clamp (by omega), nI_1]⟩)
    (fun n f hI => ⟨_, by
      show fX7_saves_1_2_L2 (n + 1) (sA S 1 f) (nI 27) = _
      rw [fX7_saves_1_2_L2, if_pos (by rw [lit]; exact Int32.le_refl _)], f, rfl, hI⟩) 256 0 (gA S 1) (by omega) (by omega) (fun i hi => by omega)
  rw [sA_self] at h1
  have h1' : fX7_saves_1_2_L2 256 S 0 = some (sA S 1 f) := h1
  exact ⟨f, by rw [h1']; rfl, h2⟩
theorem saves21 (S : w_S) : ∃ f, fX7_saves_2_1 S = some (sA S 0 f) ∧ ∀ i, i < 27 → f i = gA S 1 i := by
  rw [fX7_saves_2_1]
  obtain ⟨t, h1, f, rfl, h2⟩ := loop_up (fun n f i => fX7_saves_2_1_L2 n (sA S 0 f) i) (fun k f => ∀ i, i < k → f i = gA S 1 i) (fun t => ∃ f, t = sA S 0 f ∧ ∀ i, i < 27 → f i = gA S 1 i) 27
    (fun n k f hk hI => ⟨upd f k (gA S 1 k), fun i hi => by
      by_cases e : i = k
      · rw [upd_ap, if_pos e, e]
      · rw [upd_ap, if_neg e]; exact hI i (by omega), by
      show fX7_saves_2_1_L2 (n + 1) (sA S 0 f) (nI k) = _
      rw [fX7_saves_2_1_L2, if_neg (by rw [lit, nI_leI (by omega) (by omega)]; omega), if_pos (nI_inN hk (by decide)), if_pos (nI_inN hk (by decide)), sA_sA, gA_sA, if_pos rfl, gA_sA, if_neg (by decide), nI_clamp (by omega), nI_1]⟩)
    (fun n f hI => ⟨_, by
      show fX7_saves_2_1_L2 (n + 1) (sA S 0 f) (nI 27) = _
      rw [fX7_saves_2_1_L2, if_pos (by rw [lit]; exact Int32.le_refl _)], f, rfl, hI⟩) 256 0 (gA S 0) (by omega) (by omega) (fun i hi => by omega)
  rw [sA_self] at h1
  have h1' : fX7_saves_2_1_L2 256 S 0 = some (sA S 0 f) := h1
  exact ⟨f, by rw [h1']; rfl, h2⟩
theorem sA_swap (S : w_S) {k l : Nat} (h : k ≠ l) (f g : Nat → Int32) : sA (sA S k f) l g = sA (sA S l g) k f := by
  unfold sA
  congr 3
  funext j
  simp only [va_up]
  by_cases h1 : j = l
  · subst h1
    rw [if_pos rfl, if_neg (fun e => h e.symm), if_pos rfl]
  · rw [if_neg h1]
    split <;> rfl
theorem keep46 (S : w_S) : ∃ f g, fX7_keep_L46 256 S 0 = some (sA (sA S 5 f) 6 g) ∧ ∀ i, i < 6 → f i = gA S 3 i ∧ g i = gA S 4 i := by
  obtain ⟨t, h1, fg, rfl, h2⟩ := loop_up (fun n (fg : (Nat → Int32) × (Nat → Int32)) i => fX7_keep_L46 n (sA (sA S 5 fg.1) 6 fg.2) i) (fun k fg => ∀ i, i < k → fg.1 i = gA S 3 i ∧ fg.2 i = gA S 4 i) (fun t => ∃ fg : (Nat → Int32) × (Nat → Int32), t = sA (sA S 5 fg.1) 6 fg.2 ∧ ∀ i, i < 6 → fg.1 i = gA S 3 i ∧ fg.2 i = gA S 4 i) 6
    (fun n k fg hk hI => ⟨(upd fg.1 k (gA S 3 k), upd fg.2 k (gA S 4 k)), fun i hi => by
      show upd fg.1 k (gA S 3 k) i = gA S 3 i ∧ upd fg.2 k (gA S 4 k) i = gA S 4 i
      by_cases e : i = k
      · rw [upd_ap, upd_ap, if_pos e, if_pos e, e]; exact ⟨rfl, rfl⟩
      · rw [upd_ap, upd_ap, if_neg e, if_neg e]; exact hI i (by omega), by
      show fX7_keep_L46 (n + 1) (sA (sA S 5 fg.1) 6 fg.2) (nI k) = _
      rw [fX7_keep_L46, if_neg (by rw [lit, nI_leI (by omega) (by omega)]; omega), if_pos (nI_inN hk (by decide)), if_pos (nI_inN hk (by decide)), if_pos (nI_inN hk (by decide)), if_pos (nI_inN hk (by decide)), nI_clamp (by omega), nI_1]
      congr 1
      simp only [gA_sA]
      rw [sA_swap _ (by decide : (6 : Nat) ≠ 5), sA_sA, sA_sA]
      rfl⟩)
    (fun n fg hI => ⟨_, by
      show fX7_keep_L46 (n + 1) (sA (sA S 5 fg.1) 6 fg.2) (nI 6) = _
      rw [fX7_keep_L46, if_pos (by rw [lit]; exact Int32.le_refl _)], fg, rfl, hI⟩) 256 0 (gA S 5, gA S 6) (by omega) (by omega) (fun i hi => by omega)
  have e : sA (sA S 5 (gA S 5)) 6 (gA S 6) = S := by rw [sA_self, sA_self]
  simp only [e] at h1
  exact ⟨fg.1, fg.2, h1, h2⟩
theorem again56 (S : w_S) : ∃ f g, fX7_again_L56 256 S 0 = some (sA (sA S 3 f) 4 g) ∧ ∀ i, i < 6 → f i = gA S 5 i ∧ g i = gA S 6 i := by
  obtain ⟨t, h1, fg, rfl, h2⟩ := loop_up (fun n (fg : (Nat → Int32) × (Nat → Int32)) i => fX7_again_L56 n (sA (sA S 3 fg.1) 4 fg.2) i) (fun k fg => ∀ i, i < k → fg.1 i = gA S 5 i ∧ fg.2 i = gA S 6 i) (fun t => ∃ fg : (Nat → Int32) × (Nat → Int32), t = sA (sA S 3 fg.1) 4 fg.2 ∧ ∀ i, i < 6 → fg.1 i = gA S 5 i ∧ fg.2 i = gA S 6 i) 6
    (fun n k fg hk hI => ⟨(upd fg.1 k (gA S 5 k), upd fg.2 k (gA S 6 k)), fun i hi => by
      show upd fg.1 k (gA S 5 k) i = gA S 5 i ∧ upd fg.2 k (gA S 6 k) i = gA S 6 i
      by_cases e : i = k
      · rw [upd_ap, upd_ap, if_pos e, if_pos e, e]; exact ⟨rfl, rfl⟩
      · rw [upd_ap, upd_ap, if_neg e, if_neg e]; exact hI i (by omega), by
      show fX7_again_L56 (n + 1) (sA (sA S 3 fg.1) 4 fg.2) (nI k) = _
      rw [fX7_again_L56, if_neg (by rw [lit, nI_leI (by omega) (by omega)]; omega), if_pos (nI_inN hk (by decide)), if_pos (nI_inN hk (by decide)), if_pos (nI_inN hk (by decide)), if_pos (nI_inN hk (by decide)), nI_clamp (by omega), nI_1]
      congr 1
      simp only [gA_sA]
      rw [sA_swap _ (by decide : (4 : Nat) ≠ 3), sA_sA, sA_sA]
      rfl⟩)
    (fun n fg hI => ⟨_, by
      show fX7_again_L56 (n + 1) (sA (sA S 3 fg.1) 4 fg.2) (nI 6) = _
      rw [fX7_again_L56, if_pos (by rw [lit]; exact Int32.le_refl _)], fg, rfl, hI⟩) 256 0 (gA S 3, gA S 4) (by omega) (by omega) (fun i hi => by omega)
  have e : sA (sA S 3 (gA S 3)) 4 (gA S 4) = S := by rw [sA_self, sA_self]
  simp only [e] at h1
  exact ⟨fg.1, fg.2, h1, h2⟩
theorem cpy9 (f g : Nat → Int32) {i : Nat} (h : i < 9) : va_cpy f g (0 : Int32).toNatClampNeg (0 : Int32).toNatClampNeg (9 : Int32).toNatClampNeg i = f i := by
  rw [cpy_ap, show (0 : Int32).toNatClampNeg = 0 from rfl, show (9 : Int32).toNatClampNeg = 9 from rfl, if_pos (by omega)]
  congr 1
  omega
theorem cpy6 (f g : Nat → Int32) {i : Nat} (h : i < 6) : va_cpy f g (0 : Int32).toNatClampNeg (0 : Int32).toNatClampNeg (6 : Int32).toNatClampNeg i = f i := by
  rw [cpy_ap, show (0 : Int32).toNatClampNeg = 0 from rfl, show (6 : Int32).toNatClampNeg = 6 from rfl, if_pos (by omega)]
  congr 1
  omega
theorem okB_congr {m n q : Int32} {a b c k s a' b' c' k' s' : Nat → Int32} (h : okB m n q a b c k s) (ha : ∀ i, i < 9 → a' i = a i) (hb : ∀ i, i < 9 → b' i = b i) (hc : ∀ i, i < 9 → c' i = c i) (hk : ∀ i, i < 6 → k' i = k i) (hs : ∀ i, i < 6 → s' i = s i) : okB m n q a' b' c' k' s' := by
  obtain ⟨h1, h2, h3, h4, h5, h6, h7, h8, h9, h10, h11⟩ := h
  refine ⟨h1, h2, h3, fun i hi => ?_, fun i hi => ?_, fun i hi => ?_, fun i j hi hj h => ?_, fun i j hi hj h => ?_, fun i j hi hj h => ?_, fun i hi => ?_, fun i hi => ?_⟩
  · rw [ha i hi]; exact h4 i hi
  · rw [hb i hi]; exact h5 i hi
  · rw [hc i hi]; exact h6 i hi
  · rw [ha _ (by omega)]; exact h7 i j hi hj h
  · rw [hb _ (by omega)]; exact h8 i j hi hj h
  · rw [hc _ (by omega)]; exact h9 i j hi hj h
  · rw [hk i hi]; exact h10 i hi
  · rw [hs i hi]; exact h11 i hi
theorem eq_keep : E_keep Rel := by
  intro X M h
  have hR := h
  obtain ⟨hn, hk, ht, hs, hv, ha⟩ := h
  obtain ⟨⟨h1, h2, h3, h4, h5, h6, h7, h8, h9⟩, ho⟩ := id hn
  obtain ⟨f, e1, e2⟩ := saves12 M
  obtain ⟨g, q, e3, e4⟩ := keep46 (sI (sI (sI (sI (sA M 1 f) 4 (gI (sA M 1 f) 0)) 5 (gI (sA M 1 f) 1)) 7 (gI (sA M 1 f) 3)) 6 (gI (sA M 1 f) 2))
  refine ⟨_, _, (by rw [fX6_keep, fX4_copyFrom_7_1]; rfl), (by rw [fX7_keep, e1, Option.bind_some, e3]; rfl), ?_, ?_, ?_, ?_, ?_, ?_, ?_⟩
  · rfl
  · refine R_now_c hn (fun k hk => ?_) (fun k hk => ?_) (fun k hk => ?_) rfl rfl rfl
    · simp only [gI_sI, gI_sA]; repeat rw [if_neg (by omega)]
    · simp only [gA_sI, gA_sA]; repeat rw [if_neg (by omega)]
    · simp only [gI_sI, gI_sA]; repeat rw [if_neg (by omega)]
  · refine ⟨rfl, Or.inr rfl, fun _ => ⟨⟨h1, h2, h3, h4, fun i hi => ?_, fun i hi => ?_, fun i hi => ?_, fun i hi => ?_, fun i hi => ?_⟩, ?_⟩⟩
    · exact (cpy9 _ _ hi).trans ((h5 i hi).trans (e2 i (by omega)).symm)
    · exact (cpy9 _ _ hi).trans ((h6 i hi).trans (e2 (9 + i) (by omega)).symm)
    · exact (cpy9 _ _ hi).trans ((h7 i hi).trans (e2 (18 + i) (by omega)).symm)
    · exact (cpy6 _ _ hi).trans ((h8 i hi).trans (e4 i hi).1.symm)
    · exact (cpy6 _ _ hi).trans ((h9 i hi).trans (e4 i hi).2.symm)
    · exact okB_congr ho (fun i hi => cpy9 _ _ hi) (fun i hi => cpy9 _ _ hi) (fun i hi => cpy9 _ _ hi) (fun i hi => cpy6 _ _ hi) (fun i hi => cpy6 _ _ hi)
  · exact R_tape_c ht rfl rfl rfl rfl
  · refine R_sheets_c hs (fun k h1 h2 => ?_) (fun k h1 h2 => rfl) rfl rfl rfl
    simp only [gI_sI, gI_sA]; repeat rw [if_neg (by omega)]
  · refine R_shelves_c hv (fun k h1 h2 => ?_) rfl rfl rfl
    simp only [gI_sI, gI_sA]; repeat rw [if_neg (by omega)]
  · exact R_acts_c ha rfl rfl rfl rfl
theorem eq_again : E_again Rel := by
  intro X M h
  have hR := h
  obtain ⟨hn, ⟨hk1, hk2, hk3⟩, ht, hs, hv, ha⟩ := h
  by_cases h0 : gI X 12 = 0
  · exact ⟨(-3, X), (-3, M), by rw [fX6_again, if_pos h0], by rw [fX7_again, if_pos (hk1 ▸ h0)], rfl, hR⟩
  · have h1 : gI X 12 = 1 := hk2.resolve_left h0
    obtain ⟨⟨b1, b2, b3, b4, b5, b6, b7, b8, b9⟩, ho⟩ := hk3 h1
    obtain ⟨f, e1, e2⟩ := saves21 M
    obtain ⟨g, q, e3, e4⟩ := again56 (sI (sI (sI (sI (sA M 0 f) 0 (gI (sA M 0 f) 4)) 1 (gI (sA M 0 f) 5)) 3 (gI (sA M 0 f) 7)) 2 (gI (sA M 0 f) 6))
    refine ⟨_, _, (by rw [fX6_again, if_neg h0, fX4_copyFrom_1_7]; rfl), (by rw [fX7_again, if_neg (hk1 ▸ h0), e1, Option.bind_some, e3]; rfl), ?_, Rel_T hR ?_ ?_⟩
    · exact b4
    · refine ⟨⟨fun k h1 h2 h3 h4 => ?_, fun k h1 h2 => ?_, fun k h1 => rfl⟩, fun k h1 h2 => ?_, ⟨rfl, rfl, rfl, rfl, fun k h1 => ?_⟩, rfl⟩
      · simp only [gI_sI, gI_sA]; repeat rw [if_neg (by omega)]
      · simp only [gA_sI, gA_sA]; repeat rw [if_neg (by omega)]
      · simp only [gI_sI, gI_sA]; repeat rw [if_neg (by omega)]
      · simp only [gA_sI, gA_sA]; repeat rw [if_neg (by omega)]
    · refine ⟨⟨b1, b2, b3, b4, fun i hi => ?_, fun i hi => ?_, fun i hi => ?_, fun i hi => ?_, fun i hi => ?_⟩, ?_⟩
      · exact (cpy9 _ _ hi).trans ((b5 i hi).trans (e2 i (by omega)).symm)
      · exact (cpy9 _ _ hi).trans ((b6 i hi).trans (e2 (9 + i) (by omega)).symm)
      · exact (cpy9 _ _ hi).trans ((b7 i hi).trans (e2 (18 + i) (by omega)).symm)
      · exact (cpy6 _ _ hi).trans ((b8 i hi).trans (e4 i hi).1.symm)
      · exact (cpy6 _ _ hi).trans ((b9 i hi).trans (e4 i hi).2.symm)
      · exact okB_congr ho (fun i hi => cpy9 _ _ hi) (fun i hi => cpy9 _ _ hi) (fun i hi => cpy9 _ _ hi) (fun i hi => cpy6 _ _ hi) (fun i hi => cpy6 _ _ hi)
