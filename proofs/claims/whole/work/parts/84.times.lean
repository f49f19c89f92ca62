/-! ===== times ===== -/
theorem EqA_D {X M X' M' : w_S} {e : Int32} {s m n : Nat} {sh : Int32} (h : EqA X M e s m n sh) (hR : Rel X' M') (f0 : gI X' 0 = gI X 0) (f1 : gI X' 1 = gI X 1) (f3 : gI X' 3 = gI X 3) (a3 : gA X' 3 = gA X 3) (a4 : gA X' 4 = gA X 4) (b3 : gA M' 3 = gA M 3) (b4 : gA M' 4 = gA M 4) : EqA X' M' e s m n sh := by
  obtain ⟨q1, q2, q3, q4, q5, q6, q7, q8, q9, q10, q11, q12, q13, q14⟩ := h
  exact ⟨nw_of hR.1, by rw [f0]; exact q2, by rw [f1]; exact q3, q4, q5, q6, q7, by rw [a3]; exact q8, by rw [a4]; exact q9, by rw [b3]; exact q10, by rw [b4]; exact q11, q12, by rw [f3]; exact q13, by rw [f3]; exact q14⟩
def tmI (X1 M1 Y N : w_S) : Prop := Rel Y N ∧ (∀ k, (k = 0 ∨ k = 1 ∨ k = 3 ∨ (8 ≤ k ∧ k < 12)) → gI Y k = gI X1 k) ∧ (∀ k, (k = 3 ∨ k = 4 ∨ (10 ≤ k ∧ k < 15)) → gA Y k = gA X1 k) ∧ (∀ k, k < 3 → gI N k = gI M1 k) ∧ gA N 2 = gA M1 2 ∧ gA N 3 = gA M1 3 ∧ gA N 4 = gA M1 4
theorem eq_times : E_times Rel := by
  intro X M h e cnt
  have hw := nw_of h.1
  obtain ⟨⟨e1, e2, e3, e4⟩, hm, hn, hq, hT, h6, h7, o4, -⟩ := id hw
  rw [fX6_times, fX7_times, x_hasEq X e hq, m_isEq M e (by rw [e4]; exact hq), e4, m_in32, tl_1, tl_30]
  by_cases he : 0 ≤ e.toInt ∧ e.toInt < (gI X 3).toInt
  · rw [if_pos he, Option.bind_some, Option.bind_some, if_neg n10, if_neg n10, Option.bind_some, one_ite]
    by_cases hc : 1 ≤ cnt.toInt ∧ cnt.toInt ≤ 30
    · obtain ⟨s, m, n, sh, q⟩ := eqA_of h he
      obtain ⟨q1, q2, q3, q4, q5, q6, q7, q8, q9, q10, q11, q12, q13, q14⟩ := id q
      have c1 := x_kindOf X q14 q13
      rw [show e.toInt.toNat = e.toNatClampNeg from rfl, q8] at c1
      have p1 := x_fits X q6 q4 q5 q2 q3
      obtain ⟨f, p2⟩ := m_isFit M q6 q4 q5 (by rw [e1]; exact q2) (by rw [e2]; exact q3)
      have h48 := Rel_8 h f
      rw [if_pos hc, if_neg (show ¬ cnt < 1 by rw [i_lt, ti_1]; omega), if_pos (show cnt ≤ 30 by rw [i_le, ti_30]; omega), c1, Option.bind_some, p1, Option.bind_some, if_pos q12, q10, p2, Option.bind_some]
      by_cases c : (s ≤ 1 ∨ m = n) ∧ (pls s m n).length ≤ 6
      · obtain ⟨f2, f3, f4⟩ := saves13 (sA M 8 f)
        obtain ⟨X1, x1⟩ : ∃ X1, fX4_copyFrom_13_1 X = some X1 := ⟨_, rfl⟩
        have hX1 : X1 = _ := (Option.some.inj x1).symm
        have hR1 : Rel X1 (sA (sA M 8 f) 2 f2) := by
          refine Rel_T h48 ⟨⟨fun k a b c d => ?_, fun k a b => ?_, fun k a => ?_⟩, fun k a b => rfl, ⟨rfl, rfl, rfl, rfl, fun k a => by rw [gA_sA, if_neg (by omega)]⟩, rfl⟩ (R_now_c h48.1 (fun k a => ?_) (fun k a => ?_) (fun k a => rfl) rfl rfl rfl)
          · rw [hX1]; simp only [gI_sI, gI_sA]; repeat rw [if_neg (by omega)]
          · rw [hX1]; simp only [gA_sI, gA_sA]; repeat rw [if_neg (by omega)]
          · rw [hX1]; rfl
          · rw [hX1]; simp only [gI_sI, gI_sA]; repeat rw [if_neg (by omega)]
          · rw [hX1]; simp only [gA_sI, gA_sA]; repeat rw [if_neg (by omega)]
        have q' : EqA X1 (sA (sA M 8 f) 2 f2) e s m n sh := EqA_D q hR1 (by rw [hX1]; rfl) (by rw [hX1]; rfl) (by rw [hX1]; rfl) (by rw [hX1]; rfl) (by rw [hX1]; rfl) rfl rfl
        obtain ⟨N0, hN, eN, eN2⟩ := nI_nn (x := cnt) (by omega)
        have h9 := mn_le9 q4.2 q5.2
        obtain ⟨t, t', z1, z2, z3, z4⟩ := loop2 (fun k (y : w_S × Int32) i => fX6_times_L61 e cnt k y.1 y.2 i) (fun k (y : w_S × Int32) i => fX7_times_L55 e cnt k y.1 y.2 i) (fun _ y y' => tmI X1 (sA (sA M 8 f) 2 f2) y.1 y'.1 ∧ y.2 = y'.2) (fun y y' => tmI X1 (sA (sA M 8 f) 2 f2) y.1 y'.1 ∧ y.2 = y'.2) N0
          (fun a a' k y y' hk hI => by
            obtain ⟨⟨i1, i2, i3, i4, i5, i6, i7⟩, i8⟩ := hI
            obtain ⟨Y, N, d1, d2, d3, d4, d5⟩ := draw_all i1
            have qq : EqA Y N e s m n sh := EqA_D q' d3 (by rw [d4.1 0 (by omega), i2 0 (by omega)]) (by rw [d4.1 1 (by omega), i2 1 (by omega)]) (by rw [d4.1 3 (by omega), i2 3 (by omega)]) (by rw [d4.2.1 3 (by omega), i3 3 (by omega)]) (by rw [d4.2.1 4 (by omega), i3 4 (by omega)]) (by rw [d5.2.1 3 (by omega), i6]) (by rw [d5.2.1 4 (by omega), i7])
            obtain ⟨T, T', t1, t2, t3, t4, t5, t6, t7, t8, t9⟩ := two_solve d3 qq c.1 c.2
            have hE := eE_le Y (nI s) s sh m n 0
            rw [Nat.sub_zero] at hE
            have k1 := x_slv h9 (by omega) hE t6
            have k2 := m_slv h9 (by omega) hE t7
            refine ⟨(T, y.2 + if slv (m * n) (pls s m n).length (eE Y (nI s) s sh m n 0) then 1 else 0), (T', y.2 + if slv (m * n) (pls s m n).length (eE Y (nI s) s sh m n 0) then 1 else 0), ⟨⟨t5, fun k a => ?_, fun k a => ?_, fun k a => ?_, ?_, ?_, ?_⟩, rfl⟩, ?_, ?_⟩
            · rw [t3.1 k (by omega), d4.1 k (by omega), i2 k a]
            · rw [t3.2.2.1 k (by omega), d4.2.1 k (by omega), i3 k a]
            · rw [t4.1 k (by omega), d5.1 k (by omega), i4 k a]
            · rw [t9, d5.2.1 2 (by omega), i5]
            · rw [t4.2.1 3 (by omega) (by omega), d5.2.1 3 (by omega), i6]
            · rw [t4.2.1 4 (by omega) (by omega), d5.2.1 4 (by omega), i7]
            · show fX6_times_L61 e cnt (a + 1) y.1 y.2 (nI k) = _
              rw [fX6_times_L61, eN, if_neg (nI_ge hk (by omega)), d1, Option.bind_some, t1, Option.bind_some, k1, Option.bind_some, x_oneIf, Option.bind_some, nI_1]
            · show fX7_times_L55 e cnt (a' + 1) y'.1 y'.2 (nI k) = _
              rw [fX7_times_L55, eN, if_neg (nI_ge hk (by omega)), d2, Option.bind_some, t2, Option.bind_some, k2, Option.bind_some, bit_ite, nI_1, i8]
              split <;> rfl)
          (fun a a' y y' hI => ⟨y, y', by
            show fX6_times_L61 e cnt (a + 1) y.1 y.2 (nI N0) = _
            rw [fX6_times_L61, eN, if_pos (Int32.le_refl _)], by
            show fX7_times_L55 e cnt (a' + 1) y'.1 y'.2 (nI N0) = _
            rw [fX7_times_L55, eN, if_pos (Int32.le_refl _)], hI⟩) N0 256 256 0 (X1, 0) (sA (sA M 8 f) 2 f2, 0) (by omega) (by omega) (by omega) (by omega) ⟨⟨hR1, fun _ _ => rfl, fun _ _ => rfl, fun _ _ => rfl, rfl, rfl, rfl⟩, rfl⟩
        obtain ⟨Y, v⟩ := t
        obtain ⟨N, v'⟩ := t'
        obtain ⟨i1, i2, i3, i4, i5, i6, i7⟩ := z3
        have z4' : v = v' := z4
        subst z4'
        have z1' : fX6_times_L61 e cnt 256 X1 0 0 = some (Y, v) := z1
        have z2' : fX7_times_L55 e cnt 256 (sA (sA M 8 f) 2 f2) 0 0 = some (N, v) := z2
        obtain ⟨g, g1, g2⟩ := saves31 N
        obtain ⟨X', x2⟩ : ∃ X', fX4_copyFrom_1_13 (sI Y 10 (gI Y 2)) = some X' := ⟨_, rfl⟩
        have hX' : X' = _ := (Option.some.inj x2).symm
        rw [if_pos c, if_neg n10, x1, Option.bind_some, z1', Option.bind_some, x2, if_neg n10, f3, Option.bind_some, Option.bind_some, z2', Option.bind_some, g1]
        refine ⟨_, _, rfl, rfl, rfl, ?_⟩
        refine Rel_T i1 ⟨⟨fun k a b c d => ?_, fun k a b => ?_, fun k a => ?_⟩, fun k a b => rfl, ⟨rfl, rfl, rfl, rfl, fun k a => by rw [gA_sA, if_neg (by omega)]⟩, rfl⟩ ?_
        · rw [hX']; simp only [gI_sI, gI_sA]; repeat rw [if_neg (by omega)]
        · rw [hX']; simp only [gA_sI, gA_sA]; repeat rw [if_neg (by omega)]
        · rw [hX']; rfl
        · obtain ⟨⟨n1, n2, n3, n4, n5, n6, n7, n8, n9⟩, ho⟩ := id h.1
          obtain ⟨⟨u1, u2, u3, u4⟩, -⟩ := nw_of i1.1
          have w0 : gI X' 0 = gI X 0 := by rw [hX']; show gI Y 8 = _; rw [i2 8 (by omega), hX1]; rfl
          have w1 : gI X' 1 = gI X 1 := by rw [hX']; show gI Y 9 = _; rw [i2 9 (by omega), hX1]; rfl
          have w2 : gI X' 2 = gI Y 2 := by rw [hX']; rfl
          have w3 : gI X' 3 = gI X 3 := by rw [hX']; show gI Y 11 = _; rw [i2 11 (by omega), hX1]; rfl
          have v0 : ∀ i, i < 9 → gA X' 0 i = gA X 0 i := fun i hi => by rw [hX']; refine (cpy9 (gA Y 10) _ hi).trans ?_; rw [i3 10 (by omega), hX1]; exact cpy9 _ _ hi
          have v1 : ∀ i, i < 9 → gA X' 1 i = gA X 1 i := fun i hi => by rw [hX']; refine (cpy9 (gA Y 11) _ hi).trans ?_; rw [i3 11 (by omega), hX1]; exact cpy9 _ _ hi
          have v2 : ∀ i, i < 9 → gA X' 2 i = gA X 2 i := fun i hi => by rw [hX']; refine (cpy9 (gA Y 12) _ hi).trans ?_; rw [i3 12 (by omega), hX1]; exact cpy9 _ _ hi
          have v3 : ∀ i, i < 6 → gA X' 3 i = gA X 3 i := fun i hi => by rw [hX']; refine (cpy6 (gA Y 13) _ hi).trans ?_; rw [i3 13 (by omega), hX1]; exact cpy6 _ _ hi
          have v4 : ∀ i, i < 6 → gA X' 4 i = gA X 4 i := fun i hi => by rw [hX']; refine (cpy6 (gA Y 14) _ hi).trans ?_; rw [i3 14 (by omega), hX1]; exact cpy6 _ _ hi
          have gg : ∀ i, i < 27 → g i = gA M 0 i := fun i hi => by rw [g2 i hi, i5]; exact f4 i hi
          refine ⟨⟨?_, ?_, ?_, ?_, fun i hi => ?_, fun i hi => ?_, fun i hi => ?_, fun i hi => ?_, fun i hi => ?_⟩, ?_⟩
          · rw [w0]; show _ = gI N 0; rw [i4 0 (by omega)]; exact n1
          · rw [w1]; show _ = gI N 1; rw [i4 1 (by omega)]; exact n2
          · rw [w2]; exact u3.symm
          · rw [w3]; show _ = gI N 2; rw [i4 2 (by omega)]; exact n4
          · rw [v0 i hi]; show _ = g i; rw [gg i (by omega)]; exact n5 i hi
          · rw [v1 i hi]; show _ = g (9 + i); rw [gg _ (by omega)]; exact n6 i hi
          · rw [v2 i hi]; show _ = g (18 + i); rw [gg _ (by omega)]; exact n7 i hi
          · rw [v3 i hi]; show _ = gA N 3 i; rw [i6]; exact n8 i hi
          · rw [v4 i hi]; show _ = gA N 4 i; rw [i7]; exact n9 i hi
          · rw [w0, w1, w3]
            exact okB_congr ho v0 v1 v2 v3 v4
      · rw [if_neg c, if_pos rfl, if_pos rfl]; exact ⟨_, _, rfl, rfl, rfl, h48⟩
    · rw [if_neg hc]
      refine ⟨(-1, X), (-1, M), ?_, rfl, rfl, h⟩
      by_cases c : cnt < 1
      · rw [if_pos c]
      · rw [if_neg c, if_neg (fun c2 => hc ⟨by rw [i_lt, ti_1] at c; omega, by rw [i_le, ti_30] at c2; exact c2⟩)]
  · rw [if_neg he]; exact ⟨_, _, rfl, rfl, rfl, h⟩
