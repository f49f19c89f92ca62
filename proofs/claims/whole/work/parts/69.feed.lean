/-! ===== two loops side by side ===== -/
theorem loop2 {σ σ' τ τ' : Type} (L : Nat → σ → Int32 → Option τ) (L' : Nat → σ' → Int32 → Option τ') (I : Nat → σ → σ' → Prop) (Post : τ → τ' → Prop) (N : Nat)
    (step : ∀ (n n' k : Nat) (s : σ) (s' : σ'), k < N → I k s s' → ∃ t t', I (k + 1) t t' ∧ L (n + 1) s (nI k) = L n t (nI (k + 1)) ∧ L' (n' + 1) s' (nI k) = L' n' t' (nI (k + 1)))
    (stop : ∀ (n n' : Nat) (s : σ) (s' : σ'), I N s s' → ∃ t t', L (n + 1) s (nI N) = some t ∧ L' (n' + 1) s' (nI N) = some t' ∧ Post t t') : ∀ (d n n' k : Nat) (s : σ) (s' : σ'), d = N - k → k ≤ N → N < n + k → N < n' + k → I k s s' → ∃ t t', L n s (nI k) = some t ∧ L' n' s' (nI k) = some t' ∧ Post t t' := by
  intro d
  induction d with
  | zero =>
    intro n n' k s s' hd h1 h2 h3 hI
    have : k = N := by omega
    subst this
    match n, n', h2, h3 with
    | n + 1, n' + 1, _, _ => exact stop n n' s s' hI
    | 0, _, h, _ => omega
    | _, 0, _, h => omega
  | succ d ih =>
    intro n n' k s s' hd h1 h2 h3 hI
    match n, n', h2, h3 with
    | n + 1, n' + 1, h2, h3 =>
      obtain ⟨t, t', a, b, c⟩ := step n n' k s s' (by omega) hI
      obtain ⟨u, u', e1, e2, e3⟩ := ih n n' (k + 1) t t' (by omega) (by omega) (by omega) (by omega) a
      exact ⟨u, u', by rw [b, e1], by rw [c, e2], e3⟩
    | 0, _, h, _ => omega
    | _, 0, _, h => omega
theorem nI_nn {x : Int32} (h : 0 ≤ x.toInt) : ∃ n : Nat, n < 2 ^ 31 ∧ x = nI n ∧ x.toInt = n := by
  obtain ⟨j, h1, h2⟩ := nI_of (x := x) (by rw [i_lt, ti_0]; omega)
  exact ⟨j, h1, h2, by rw [h2, nI_toInt h1]⟩
theorem nar_nar (x : Int32) : (vp_nar .byte x).toInt8.toInt32 = vp_nar .byte x := by
  rw [vp_nar_byte]
  have h1 := Int8.le_toInt x.toInt8
  have h2 := Int8.toInt_lt x.toInt8
  exact fb_byte (by rw [Int8.toInt_toInt32]; omega) (by rw [Int8.toInt_toInt32]; omega)
theorem eq_feed : E_feed Rel := by
  intro X M h v n
  obtain ⟨t1, ⟨t2, t3⟩, t4, t5⟩ := h.2.2.1
  rw [fX6_feed, fX7_feed, m_in32, tl_1, show (8 : Int64).toInt = 8 from rfl, ← t1]
  simp only [some_ite, ite_bind, Option.bind_some, one0, zero0, if_true, if_false, i_lt n 1, i_le n 8, ti_1, ti_8]
  by_cases hn : 1 ≤ n.toInt ∧ n.toInt ≤ 8
  · rw [if_neg (by omega), if_pos (by omega), if_pos hn]
    have e1 : (gI X 21 + n).toInt = (gI X 21).toInt + n.toInt := fb_addI (by omega) (by omega)
    by_cases hf : gI X 21 + n ≤ 200
    · rw [if_pos hf, if_pos hf]
      rw [i_le, e1, ti_200] at hf
      obtain ⟨N, hN, rfl, hN2⟩ := nI_nn (x := n) (by omega)
      obtain ⟨c, hc, hc2, hc3⟩ := nI_nn (x := gI X 21) (by omega)
      obtain ⟨zx, zm, z1, z2, z3, z4, z5⟩ := loop2 (fun n S i => fX6_feed_L34 v (nI N) n S i) (fun n S i => fX7_feed_L32 v (nI N) n S i)
        (fun k X' M' => (gI X' 21 = nI (c + k) ∧ gI M' 9 = nI (c + k) ∧ (∀ i, i < 200 → gA X' 17 i = gA M' 7 i) ∧ (∀ i, i < 200 → (gA X' 17 i).toInt8.toInt32 = gA X' 17 i)) ∧ ((∀ j, j ≠ 21 → gI X' j = gI X j) ∧ (∀ j, j ≠ 17 → gA X' j = gA X j) ∧ gB X' = gB X) ∧ ((∀ j, j ≠ 9 → gI M' j = gI M j) ∧ (∀ j, j ≠ 7 → gA M' j = gA M j) ∧ gB M' = gB M))
        (fun X' M' => (gI X' 21 = nI (c + N) ∧ gI M' 9 = nI (c + N) ∧ (∀ i, i < 200 → gA X' 17 i = gA M' 7 i) ∧ (∀ i, i < 200 → (gA X' 17 i).toInt8.toInt32 = gA X' 17 i)) ∧ ((∀ j, j ≠ 21 → gI X' j = gI X j) ∧ (∀ j, j ≠ 17 → gA X' j = gA X j) ∧ gB X' = gB X) ∧ ((∀ j, j ≠ 9 → gI M' j = gI M j) ∧ (∀ j, j ≠ 7 → gA M' j = gA M j) ∧ gB M' = gB M)) N
        (fun n n' k X' M' hk hI => by
          obtain ⟨⟨i1, i2, i3, i4⟩, ⟨i5, i6, i7⟩, i8, i9, i10⟩ := hI
          have hlt : c + k < 200 := by omega
          have hx : ¬ (nI (c + k) < 0 ∨ 200 ≤ (nI (c + k)).toNatClampNeg) := nI_inN hlt (by decide)
          have hy : fX5_take_25 X' ((((v.toUInt64 >>> ((8 * (nI k)).toInt64.toUInt64 &&& Int64.toUInt64 63)).toInt64).toInt32).toInt8.toInt32) = some (sI (sA X' 17 (upd (gA X' 17) (c + k) (vp_nar .byte ((((v.toUInt64 >>> ((8 * (nI k)).toInt64.toUInt64 &&& Int64.toUInt64 63)).toInt64).toInt32).toInt8.toInt32)))) 21 (nI (c + k) + 1)) := by
            rw [fX5_take_25, i1, if_neg (nI_pos (by omega)), if_neg (by rw [lit]; rw [nI_leI (by omega) (by omega)]; omega), if_pos hx, nI_clamp (by omega)]
          refine ⟨_, _, ?_, by
            show fX6_feed_L34 v (nI N) (n + 1) X' (nI k) = _
            rw [fX6_feed_L34, if_neg (by rw [nI_leI (by omega) (by omega)]; omega), hy, Option.bind_some, nI_1 k], by
            show fX7_feed_L32 v (nI N) (n' + 1) M' (nI k) = _
            rw [fX7_feed_L32, if_neg (by rw [nI_leI (by omega) (by omega)]; omega), i2, if_pos hx, nI_1 k, nI_clamp (show c + k < 2 ^ 31 by omega)]⟩
          refine ⟨⟨by rw [nI_1]; rfl, by rw [nI_1]; rfl, fun i hi => ?_, fun i hi => ?_⟩, ⟨fun j hj => ?_, fun j hj => ?_, i7⟩, fun j hj => ?_, fun j hj => ?_, i10⟩
          · simp only [gA_sI, gA_sA, if_true, upd_ap]; rw [i3 i hi]
          · simp only [gA_sI, gA_sA, if_true, upd_ap]; split
            · exact nar_nar _
            · exact i4 i hi
          · simp only [gI_sI, gI_sA]; rw [if_neg hj]; exact i5 j hj
          · simp only [gA_sI, gA_sA]; rw [if_neg hj]; exact i6 j hj
          · simp only [gI_sI, gI_sA]; rw [if_neg hj]; exact i8 j hj
          · simp only [gA_sI, gA_sA]; rw [if_neg hj]; exact i9 j hj)
        (fun n n' X' M' hI => ⟨X', M', by
          show fX6_feed_L34 v (nI N) (n + 1) X' (nI N) = _
          rw [fX6_feed_L34, if_pos (Int32.le_refl _)], by
          show fX7_feed_L32 v (nI N) (n' + 1) M' (nI N) = _
          rw [fX7_feed_L32, if_pos (Int32.le_refl _)], hI⟩) N 256 256 0 X M (by omega) (by omega) (by omega) (by omega) ⟨⟨hc2, by rw [← t1]; exact hc2, t4, t5⟩, ⟨fun j _ => rfl, fun j _ => rfl, rfl⟩, fun j _ => rfl, fun j _ => rfl, rfl⟩
      obtain ⟨i1, i2, i3, i4⟩ := z3
      obtain ⟨i5, i6, i7⟩ := z4
      obtain ⟨i8, i9, i10⟩ := z5
      have z1' : fX6_feed_L34 v (nI N) 256 X 0 = some zx := z1
      have z2' : fX7_feed_L32 v (nI N) 256 M 0 = some zm := z2
      rw [z1', z2']
      refine ⟨_, _, rfl, rfl, i1.trans i2.symm, ?_⟩
      obtain ⟨a1, a2, a3, a4, a5, a6⟩ := h
      refine ⟨R_now_c a1 (fun k hk => i5 k (by omega)) (fun k hk => i6 k (by omega)) (fun k hk => i8 k (by omega)) (i9 0 (by omega)) (i9 3 (by omega)) (i9 4 (by omega)),
        R_kept_c a2 (fun k hk => i5 k (by omega)) (fun k h1 h2 => i6 k (by omega)) (fun k h1 h2 => i8 k (by omega)) (i9 1 (by omega)) (i9 5 (by omega)) (i9 6 (by omega)),
        ⟨i1.trans i2.symm, ?_, i3, i4⟩,
        R_sheets_c a4 (fun k h1 h2 => i5 k (by omega)) (fun k h1 h2 => by rw [i7]) (i9 12 (by omega)) (i9 13 (by omega)) (by rw [i10]),
        R_shelves_c a5 (fun k h1 h2 => i5 k (by omega)) (i9 14 (by omega)) (i9 15 (by omega)) (i9 16 (by omega)),
        R_acts_c a6 (i5 26 (by omega)) (i6 18 (by omega)) (i8 18 (by omega)) (i9 17 (by omega))⟩
      show bnd 0 200 (gI zx 21)
      rw [i1]; unfold bnd; rw [nI_toInt (by omega)]; omega
    · rw [if_neg hf, if_neg hf]; exact ⟨_, _, rfl, rfl, rfl, h⟩
  · rw [if_neg hn]
    by_cases c1 : n.toInt < 1
    · rw [if_pos c1]; exact ⟨_, _, rfl, rfl, rfl, h⟩
    · rw [if_neg c1, if_neg (by omega)]; exact ⟨_, _, rfl, rfl, rfl, h⟩
