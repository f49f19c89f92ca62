/-! ===== what a relation rests on ===== -/
theorem R_now_c {X M X' M' : w_S} (h : R_now X M) (h1 : ∀ k, k < 4 → gI X' k = gI X k) (h2 : ∀ k, k < 5 → gA X' k = gA X k) (h3 : ∀ k, k < 4 → gI M' k = gI M k) (h4 : gA M' 0 = gA M 0) (h5 : gA M' 3 = gA M 3) (h6 : gA M' 4 = gA M 4) : R_now X' M' := by
  unfold R_now at h ⊢
  rw [h1 0 (by omega), h1 1 (by omega), h1 2 (by omega), h1 3 (by omega), h2 0 (by omega), h2 1 (by omega), h2 2 (by omega), h2 3 (by omega), h2 4 (by omega), h3 0 (by omega), h3 1 (by omega), h3 2 (by omega), h3 3 (by omega), h4, h5, h6]
  exact h
theorem R_kept_c {X M X' M' : w_S} (h : R_kept X M) (h1 : ∀ k, (4 ≤ k ∧ k < 8) ∨ k = 12 → gI X' k = gI X k) (h2 : ∀ k, 5 ≤ k → k < 10 → gA X' k = gA X k) (h3 : ∀ k, 4 ≤ k → k < 9 → gI M' k = gI M k) (h4 : gA M' 1 = gA M 1) (h5 : gA M' 5 = gA M 5) (h6 : gA M' 6 = gA M 6) : R_kept X' M' := by
  unfold R_kept at h ⊢
  rw [h1 4 (by omega), h1 5 (by omega), h1 6 (by omega), h1 7 (by omega), h1 12 (by omega), h2 5 (by omega) (by omega), h2 6 (by omega) (by omega), h2 7 (by omega) (by omega), h2 8 (by omega) (by omega), h2 9 (by omega) (by omega), h3 4 (by omega) (by omega), h3 5 (by omega) (by omega), h3 6 (by omega) (by omega), h3 7 (by omega) (by omega), h3 8 (by omega) (by omega), h4, h5, h6]
  exact h
theorem R_tape_c {X M X' M' : w_S} (h : R_tape X M) (h1 : gI X' 21 = gI X 21) (h2 : gA X' 17 = gA X 17) (h3 : gI M' 9 = gI M 9) (h4 : gA M' 7 = gA M 7) : R_tape X' M' := by
  unfold R_tape at h ⊢
  rw [h1, h2, h3, h4]
  exact h
theorem R_sheets_c {X M X' M' : w_S} (h : R_sheets X M) (h1 : ∀ k, 28 ≤ k → k < 36 → gI X' k = gI X k) (h2 : ∀ k, 2 ≤ k → k < 6 → gB X' k = gB X k) (h3 : gA M' 12 = gA M 12) (h4 : gA M' 13 = gA M 13) (h5 : gB M' 3 = gB M 3) : R_sheets X' M' := by
  intro k hk
  rw [h1 (28 + 2 * k) (by omega) (by omega), h1 (29 + 2 * k) (by omega) (by omega), h2 (2 + k) (by omega) (by omega), h3, h4, h5]
  exact h k hk
theorem R_shelves_c {X M X' M' : w_S} (h : R_shelves X M) (h1 : ∀ k, 36 ≤ k → k < 48 → gI X' k = gI X k) (h3 : gA M' 14 = gA M 14) (h4 : gA M' 15 = gA M 15) (h5 : gA M' 16 = gA M 16) : R_shelves X' M' := by
  intro k hk
  rw [h1 (36 + 3 * k) (by omega) (by omega), h1 (37 + 3 * k) (by omega) (by omega), h1 (38 + 3 * k) (by omega) (by omega), h3, h4, h5]
  exact h k hk
theorem R_acts_c {X M X' M' : w_S} (h : R_acts X M) (h1 : gI X' 26 = gI X 26) (h2 : gA X' 18 = gA X 18) (h3 : gI M' 18 = gI M 18) (h4 : gA M' 17 = gA M 17) : R_acts X' M' := by
  unfold R_acts at h ⊢
  rw [h1, h2, h3, h4]
  exact h
/-- a change of the tables, the equations and z alone (scratch as one likes) -/
def frT (X M X' M' : w_S) : Prop := ((∀ k, 4 ≤ k → ¬ (8 ≤ k ∧ k < 12) → ¬ (13 ≤ k ∧ k < 21) → k ≠ 22 → gI X' k = gI X k) ∧ (∀ k, 5 ≤ k → ¬ (10 ≤ k ∧ k < 17) → gA X' k = gA X k) ∧ (∀ k, 2 ≤ k → gB X' k = gB X k)) ∧
  ((∀ k, 4 ≤ k → ¬ (10 ≤ k ∧ k < 18) → gI M' k = gI M k) ∧ (gA M' 1 = gA M 1 ∧ gA M' 5 = gA M 5 ∧ gA M' 6 = gA M 6 ∧ gA M' 7 = gA M 7 ∧ (∀ k, 12 ≤ k → gA M' k = gA M k)) ∧ gB M' 3 = gB M 3)
theorem Rel_T {X M X' M' : w_S} (h : Rel X M) (f : frT X M X' M') (hn : R_now X' M') : Rel X' M' := by
  obtain ⟨-, hk, ht, hs, hv, ha⟩ := h
  obtain ⟨⟨f1, f2, f3⟩, f4, ⟨f5, f6, f7, f8, f9⟩, f10⟩ := f
  exact ⟨hn, R_kept_c hk (fun k h => f1 k (by omega) (by omega) (by omega) (by omega)) (fun k h1 h2 => f2 k (by omega) (by omega)) (fun k h1 h2 => f4 k (by omega) (by omega)) f5 f6 f7,
    R_tape_c ht (f1 21 (by omega) (by omega) (by omega) (by omega)) (f2 17 (by omega) (by omega)) (f4 9 (by omega) (by omega)) f8,
    R_sheets_c hs (fun k h1 h2 => f1 k (by omega) (by omega) (by omega) (by omega)) (fun k h1 h2 => f3 k (by omega)) (f9 12 (by omega)) (f9 13 (by omega)) f10,
    R_shelves_c hv (fun k h1 h2 => f1 k (by omega) (by omega) (by omega) (by omega)) (f9 14 (by omega)) (f9 15 (by omega)) (f9 16 (by omega)),
    R_acts_c ha (f1 26 (by omega) (by omega) (by omega) (by omega)) (f2 18 (by omega) (by omega)) (f4 18 (by omega) (by omega)) (f9 17 (by omega))⟩
/-- scratch alone is written -/
def frX (X X' : w_S) : Prop := (∀ k, ¬ (8 ≤ k ∧ k < 12) → ¬ (13 ≤ k ∧ k < 21) → k ≠ 22 → gI X' k = gI X k) ∧ (∀ k, ¬ (10 ≤ k ∧ k < 17) → gA X' k = gA X k) ∧ (∀ k, 2 ≤ k → gB X' k = gB X k)
def frM (M M' : w_S) : Prop := (∀ k, ¬ (10 ≤ k ∧ k < 18) → gI M' k = gI M k) ∧ (∀ k, k ≠ 2 → ¬ (8 ≤ k ∧ k < 12) → gA M' k = gA M k) ∧ gB M' 3 = gB M 3
theorem frX_rf (X : w_S) : frX X X := ⟨fun _ _ _ _ => rfl, fun _ _ => rfl, fun _ _ => rfl⟩
theorem frM_rf (M : w_S) : frM M M := ⟨fun _ _ => rfl, fun _ _ _ => rfl, rfl⟩
theorem frX_tr {X Y Z : w_S} (h : frX X Y) (g : frX Y Z) : frX X Z := ⟨fun k a b c => (g.1 k a b c).trans (h.1 k a b c), fun k a => (g.2.1 k a).trans (h.2.1 k a), fun k a => (g.2.2 k a).trans (h.2.2 k a)⟩
theorem frM_tr {X Y Z : w_S} (h : frM X Y) (g : frM Y Z) : frM X Z := ⟨fun k a => (g.1 k a).trans (h.1 k a), fun k a b => (g.2.1 k a b).trans (h.2.1 k a b), g.2.2.trans h.2.2⟩
theorem Rel_S {X M X' M' : w_S} (h : Rel X M) (f : frX X X') (g : frM M M') : Rel X' M' := by
  obtain ⟨f1, f2, f3⟩ := f
  obtain ⟨g1, g2, g3⟩ := g
  refine Rel_T h ⟨⟨fun k a b c d => f1 k b c d, fun k a b => f2 k b, f3⟩, fun k a b => g1 k b, ⟨g2 1 (by omega) (by omega), g2 5 (by omega) (by omega), g2 6 (by omega) (by omega), g2 7 (by omega) (by omega), fun k a => g2 k (by omega) (by omega)⟩, g3⟩ ?_
  exact R_now_c h.1 (fun k a => f1 k (by omega) (by omega) (by omega)) (fun k a => f2 k (by omega)) (fun k a => g1 k (by omega)) (g2 0 (by omega) (by omega)) (g2 3 (by omega) (by omega)) (g2 4 (by omega) (by omega))
