/-! ===== solution, base: alike ===== -/
theorem abs_ne {x : Int64} (h : x.toInt.natAbs < 9223372036854775808) : x.toInt ≠ -9223372036854775808 := by omega
theorem i_in {x : Int32} {m : Nat} {M : Int32} (hM : M = nI m) (hm : m < 2 ^ 31) (h : 0 ≤ x.toInt ∧ x.toInt < M.toInt) : ∃ i, i < m ∧ x = nI i := by
  obtain ⟨i, h1, h2, h3⟩ := nI_nn h.1
  rw [hM, nI_toInt hm] at h
  exact ⟨i, by omega, h2⟩
/-- e, i, j in place; e fits: both work the system out -/
theorem two_frac {X M : w_S} (h : Rel X M) {e : Int32} {s m n : Nat} {sh : Int32} (q : EqA X M e s m n sh) (hl : s ≤ 1 ∨ m = n) (h6 : (pls s m n).length ≤ 6) :
    ∃ T T', fX6_solve X e = some T ∧ fX7_setsUp M e = some T' ∧ Rel T T' ∧ EqA T T' e s m n sh ∧ at19 T (m * n) (pls s m n).length (pls s m n).length (eE X (nI s) s sh m n 0) ∧ atM T' (m * n) (pls s m n).length (pls s m n).length (eE X (nI s) s sh m n 0) ∧ (∀ u, u < (pls s m n).length → gA T' 8 u = nI ((pls s m n).getD u 0)) ∧
    (eE X (nI s) s sh m n 0).1 ≤ m * n ∧ (eE X (nI s) s sh m n 0).2.1 ≠ 0 ∧ (eE X (nI s) s sh m n 0).2.1.toInt.natAbs < 9223372036854775808 ∧ (∀ u, u < (pls s m n).length → (eE X (nI s) s sh m n 0).2.2.2.1 u = -1 ∨ ∃ i, i < (eE X (nI s) s sh m n 0).1 ∧ (eE X (nI s) s sh m n 0).2.2.2.1 u = nI i) ∧
    (∀ i j, i < (eE X (nI s) s sh m n 0).1 → j ≤ (pls s m n).length → ((eE X (nI s) s sh m n 0).2.2.2.2 i j).toInt.natAbs < 9223372036854775808) := by
  obtain ⟨q1, q2, q3, q4, q5, q6, q7, q8, q9, q10, q11, q12, q13, q14⟩ := id q
  have hy := sys0 (fr := 0) q6 q4 q5 hl (Or.inl rfl) (by omega)
  obtain ⟨T, T', t1, t2, t3, t4, t5, t6, t7, t8, t9⟩ := two_solve h q hl h6
  obtain ⟨π, cs, H, z1, z2⟩ := sys_end q1 q7 hy h6
  have hE := eE_le X (nI s) s sh m n 0
  rw [Nat.sub_zero] at hE
  exact ⟨T, T', t1, t2, t5, EqA_T q (fr0_X t3) t4 t5, t6, t7, t8, hE, fun e0 => H.2.2.2.2.2.2.1 (l0.1 e0), z1, fun u hu => pv_of H hu, z2⟩
theorem eq_solution : E_solution Rel := by
  intro X M h e i j part
  have hw := nw_of h.1
  obtain ⟨⟨e1, e2, e3, e4⟩, hm, hn, hq, hT, h6, h7, o4, -⟩ := id hw
  rw [fX6_solution, fX7_solution, x_hasEq X e hq, x_cIn, x_isPart', m_isPart M e i j part (by rw [e1]; exact hm) (by rw [e2]; exact hn) (by rw [e4]; exact hq), e1, e2, e4]
  obtain ⟨z, far1, told1⟩ := far_told (-1)
  have out : ¬ ((0 ≤ e.toInt ∧ e.toInt < (gI X 3).toInt) ∧ ((0 ≤ i.toInt ∧ i.toInt < (gI X 0).toInt) ∧ 0 ≤ j.toInt ∧ j.toInt < (gI X 1).toInt) ∧ 0 ≤ part.toInt ∧ part.toInt ≤ 1) → ∀ (A : Option (Int64 × w_S)), A = some (z, X) → ∀ K : Int32 → Option (Int64 × w_S), ∃ zx zm, A = some zx ∧ ((if (0 ≤ e.toInt ∧ e.toInt < (gI X 3).toInt) ∧ ((0 ≤ i.toInt ∧ i.toInt < (gI X 0).toInt) ∧ 0 ≤ j.toInt ∧ j.toInt < (gI X 1).toInt) ∧ 0 ≤ part.toInt ∧ part.toInt ≤ 1 then some (1 : Int32) else some 0).bind (fun r6 => (if r6 = 0 then (fX7_told (-1)).bind (fun r13 => some (r13, M)) else K r6))) = some zm ∧ zx.1 = zm.1 ∧ Rel zx.2 zm.2 := by
    intro c A hA K
    rw [if_neg c, Option.bind_some, if_pos rfl, told1]
    exact ⟨_, _, hA, rfl, rfl, h⟩
  by_cases he : 0 ≤ e.toInt ∧ e.toInt < (gI X 3).toInt
  · rw [if_pos he, Option.bind_some, if_neg n10]
    by_cases hij : (0 ≤ i.toInt ∧ i.toInt < (gI X 0).toInt) ∧ 0 ≤ j.toInt ∧ j.toInt < (gI X 1).toInt
    · rw [if_pos hij, Option.bind_some, if_neg n10]
      by_cases hp : 0 ≤ part.toInt ∧ part.toInt ≤ 1
      · obtain ⟨s, m, n, sh, q⟩ := eqA_of h he
        obtain ⟨q1, q2, q3, q4, q5, q6, q7, q8, q9, q10, q11, q12, q13, q14⟩ := id q
        have c1 := x_kindOf X q14 q13
        rw [show e.toInt.toNat = e.toNatClampNeg from rfl, q8] at c1
        have p1 := x_fits X q6 q4 q5 q2 q3
        obtain ⟨f, p2⟩ := m_isFit M q6 q4 q5 (by rw [e1]; exact q2) (by rw [e2]; exact q3)
        have h48 := Rel_8 h f
        obtain ⟨I, hI, rfl⟩ := i_in q2 (by omega) hij.1
        obtain ⟨J, hJ, rfl⟩ := i_in q3 (by omega) hij.2
        have HC := And.intro he (And.intro hij hp)
        rw [if_pos hp, Option.bind_some, if_neg n10, c1, Option.bind_some, p1, Option.bind_some, one_ite, if_pos HC, Option.bind_some, if_neg n10, if_pos q12, q10, p2, Option.bind_some, one_ite]
        by_cases c : (s ≤ 1 ∨ m = n) ∧ (pls s m n).length ≤ 6
        · have q' := EqA_T q (frX_rf X) (frM_8 M f) h48
          obtain ⟨T, T', t1, t2, t3, t4, t5, t6, t7, t8, t9, t10, t11, t12⟩ := two_frac h48 q' c.1 c.2
          have h9 := mn_le9 q4.2 q5.2
          have k1 := x_slv h9 (by omega) t8 t5
          have k2 := m_slv h9 (by omega) t8 t6
          obtain ⟨r1, r2, r3, r4, r5, r6, r7, r8, r9, r10, r11, r12, r13, r14⟩ := id t4
          have c2 := x_kindOf T r14 r13
          rw [show e.toInt.toNat = e.toNatClampNeg from rfl, r8] at c2
          have m3 : gI T' 1 = nI n := by rw [r1.1.2.1]; exact r3
          rw [if_pos c, t1, Option.bind_some, k1, Option.bind_some, bit_ite, if_pos c, t2, Option.bind_some, k2, Option.bind_some, bit_ite]
          by_cases sv : slv (m * n) (pls s m n).length (eE X (nI s) s sh m n 0) = true
          · have s1 := x_solA q6 q4 q5 (by omega) hI hJ r3 t5 h9 t8 t11
            have s2 := m_ssum (col := -1) q6 q4 q5 (by omega) hI hJ m3 t6 (by omega) h9 t8 t11 t7 (isol (eE X (nI s) s sh m n 0) (pls s m n).length) (Or.inl ⟨rfl, rfl⟩)
            have b1 := vs_abs' (I := isol (eE X (nI s) s sh m n 0) (pls s m n).length) q6 q4 q5 (by omega) hI hJ (fun u hu => isol_abs t11 (by omega) t12 hu)
            obtain ⟨D, d1, d2, d3⟩ := frac_eq _ _ part (abs_ne b1) (abs_ne t10) t9
            rw [if_pos sv, if_pos sv, c2, Option.bind_some, s1, Option.bind_some, t5.2.2.2.1, d2, if_pos q12, r10, s2, Option.bind_some, Option.bind_some, t6.2.2.2.1, d3]
            exact ⟨_, _, rfl, rfl, rfl, t3⟩
          · obtain ⟨z3, far3, told3⟩ := far_told (-3)
            rw [if_neg sv, if_neg sv, far3, told3]
            exact ⟨_, _, rfl, rfl, rfl, t3⟩
        · obtain ⟨z4, far4, told4⟩ := far_told (-4)
          rw [if_neg c, if_neg c, far4, told4]
          exact ⟨_, _, rfl, rfl, rfl, h48⟩
      · exact out (fun c => hp c.2.2) _ (by rw [if_neg hp, Option.bind_some, if_pos rfl, far1]; rfl) _
    · exact out (fun c => hij c.2.1) _ (by rw [if_neg hij, Option.bind_some, if_pos rfl, far1]; rfl) _
  · exact out (fun c => he c.1) _ (by rw [if_neg he, Option.bind_some, if_pos rfl, far1]; rfl) _
theorem eq_base : E_base Rel := by
  intro X M h e u i j part
  have hw := nw_of h.1
  obtain ⟨⟨e1, e2, e3, e4⟩, hm, hn, hq, hT, h6, h7, o4, -⟩ := id hw
  rw [fX6_base, fX7_base, x_hasEq X e hq, x_cIn, x_isPart', m_isPart M e i j part (by rw [e1]; exact hm) (by rw [e2]; exact hn) (by rw [e4]; exact hq), e1, e2, e4, m_in32, tl_0, tl_8]
  obtain ⟨z, far1, told1⟩ := far_told (-1)
  have out : ¬ (((0 ≤ e.toInt ∧ e.toInt < (gI X 3).toInt) ∧ ((0 ≤ i.toInt ∧ i.toInt < (gI X 0).toInt) ∧ 0 ≤ j.toInt ∧ j.toInt < (gI X 1).toInt) ∧ 0 ≤ part.toInt ∧ part.toInt ≤ 1) ∧ 0 ≤ u.toInt ∧ u.toInt ≤ 8) → ∀ (A : Option (Int64 × w_S)), A = some (z, X) → ∀ K : Option (Int64 × w_S), ∃ zx zm, A = some zx ∧ ((if (0 ≤ e.toInt ∧ e.toInt < (gI X 3).toInt) ∧ ((0 ≤ i.toInt ∧ i.toInt < (gI X 0).toInt) ∧ 0 ≤ j.toInt ∧ j.toInt < (gI X 1).toInt) ∧ 0 ≤ part.toInt ∧ part.toInt ≤ 1 then some (1 : Int32) else some 0).bind (fun r7 => (if r7 = 0 then (fX7_told (-1)).bind (fun r26 => some (r26, M)) else (some (if 0 ≤ u.toInt ∧ u.toInt ≤ 8 then (1 : Int32) else 0)).bind (fun r19 => (if r19 = 0 then (fX7_told (-1)).bind (fun r26 => some (r26, M)) else K))))) = some zm ∧ zx.1 = zm.1 ∧ Rel zx.2 zm.2 := by
    intro c A hA K
    refine ⟨(z, X), (z, M), hA, ?_, rfl, h⟩
    by_cases d : (0 ≤ e.toInt ∧ e.toInt < (gI X 3).toInt) ∧ ((0 ≤ i.toInt ∧ i.toInt < (gI X 0).toInt) ∧ 0 ≤ j.toInt ∧ j.toInt < (gI X 1).toInt) ∧ 0 ≤ part.toInt ∧ part.toInt ≤ 1
    · rw [if_pos d, Option.bind_some, if_neg n10, if_neg (fun g => c ⟨d, g⟩), Option.bind_some, if_pos rfl, told1]; rfl
    · rw [if_neg d, Option.bind_some, if_pos rfl, told1]; rfl
  by_cases he : 0 ≤ e.toInt ∧ e.toInt < (gI X 3).toInt
  · rw [if_pos he, Option.bind_some, if_neg n10]
    by_cases hu : 0 ≤ u.toInt ∧ u.toInt ≤ 8
    · rw [if_neg (show ¬ u < 0 by rw [i_lt, ti_0]; omega), if_neg (show ¬ 9 ≤ u by rw [i_le, ti_9]; omega)]
      by_cases hij : (0 ≤ i.toInt ∧ i.toInt < (gI X 0).toInt) ∧ 0 ≤ j.toInt ∧ j.toInt < (gI X 1).toInt
      · rw [if_pos hij, Option.bind_some, if_neg n10]
        by_cases hp : 0 ≤ part.toInt ∧ part.toInt ≤ 1
        · obtain ⟨s, m, n, sh, q⟩ := eqA_of h he
          obtain ⟨q1, q2, q3, q4, q5, q6, q7, q8, q9, q10, q11, q12, q13, q14⟩ := id q
          have c1 := x_kindOf X q14 q13
          rw [show e.toInt.toNat = e.toNatClampNeg from rfl, q8] at c1
          have p1 := x_fits X q6 q4 q5 q2 q3
          obtain ⟨f, p2⟩ := m_isFit M q6 q4 q5 (by rw [e1]; exact q2) (by rw [e2]; exact q3)
          have h48 := Rel_8 h f
          obtain ⟨I, hI, rfl⟩ := i_in q2 (by omega) hij.1
          obtain ⟨J, hJ, rfl⟩ := i_in q3 (by omega) hij.2
          obtain ⟨U, hU1, rfl, hU3⟩ := nI_nn hu.1
          have HC := And.intro he (And.intro hij hp)
          rw [if_pos hp, Option.bind_some, if_neg n10, c1, Option.bind_some, p1, Option.bind_some, one_ite, if_pos HC, Option.bind_some, if_neg n10, if_pos hu, Option.bind_some, if_neg n10, if_pos q12, q10, p2, Option.bind_some, one_ite]
          by_cases c : (s ≤ 1 ∨ m = n) ∧ (pls s m n).length ≤ 6
          · have q' := EqA_T q (frX_rf X) (frM_8 M f) h48
            obtain ⟨T, T', t1, t2, t3, t4, t5, t6, t7, t8, t9, t10, t11, t12⟩ := two_frac h48 q' c.1 c.2
            have h9 := mn_le9 q4.2 q5.2
            obtain ⟨r1, r2, r3, r4, r5, r6, r7, r8, r9, r10, r11, r12, r13, r14⟩ := id t4
            have m3 : gI T' 1 = nI n := by rw [r1.1.2.1]; exact r3
            obtain ⟨z3, far3, told3⟩ := far_told (-3)
            rw [if_pos c, t1, Option.bind_some, if_pos c, t2, Option.bind_some, t6.2.1]
            by_cases hUw : U < (pls s m n).length
            · have pU := t11 U hUw
              have xf : fX1_isFree_19 T (nI U) = some (if 0 ≤ (eE X (nI s) s sh m n 0).2.2.2.1 U then 0 else 1) := by
                rw [fX1_isFree_19, t5.2.1, if_neg (nI_pos (by omega)), if_neg (nI_ge hUw (by omega)), show (10 : Int32) = nI 10 from rfl, if_neg (nI_ge (by omega) (by omega)), if_pos (nI_inN (show U < 10 by omega) (by decide)), nI_clamp (by omega), t5.2.2.2.2.2.1 U hUw, some_ite]
              rw [xf, Option.bind_some, if_neg (nI_ge hUw (by omega)), if_pos (nI_inN (show U < 9 by omega) (by decide)), nI_clamp (by omega), t6.2.2.2.2.2.1 U hUw]
              rcases pU with g | ⟨r, g1, g2⟩
              · rw [g, if_neg (show ¬ (0 : Int32) ≤ -1 by decide), if_neg n10, if_neg (show ¬ (0 : Int32) ≤ -1 by decide), x_signAt, Option.bind_some, x_unknownAt, r3, Option.bind_some]
                obtain ⟨zz, b1, b2⟩ := x_bas19 t5 h9 (by omega) t8 t11 hUw (by rw [g]; decide) (uk32 (nI s) (nI n) (nI I) (nI J))
                have b3 := x_vs q6 q4 q5 (by omega) hI hJ (I := ibas (eE X (nI s) s sh m n 0) U) b2
                have s2 := m_ssum (col := nI U) q6 q4 q5 (by omega) hI hJ m3 t6 (by omega) h9 t8 t11 t7 (ibas (eE X (nI s) s sh m n 0) U) (Or.inr ⟨U, hUw, rfl, rfl⟩)
                have b5 := vs_abs' (I := ibas (eE X (nI s) s sh m n 0) U) q6 q4 q5 (by omega) hI hJ (fun v hv => ibas_abs t11 (by omega) t10 t12 hUw hv)
                obtain ⟨D, d1, d2, d3⟩ := frac_eq _ _ part (abs_ne b5) (abs_ne t10) t9
                rw [b1, Option.bind_some, b3, t5.2.2.2.1, d2, if_pos q12, r10, s2, Option.bind_some, Option.bind_some, t6.2.2.2.1, d3]
                exact ⟨_, _, rfl, rfl, rfl, t3⟩
              · rw [g2, if_pos (nI_nn0 _ (by omega)), if_pos rfl, if_pos (nI_nn0 _ (by omega)), far3, told3]
                exact ⟨_, _, rfl, rfl, rfl, t3⟩
            · have xf : fX1_isFree_19 T (nI U) = some 0 := by
                rw [fX1_isFree_19, t5.2.1, if_neg (nI_pos (by omega)), if_pos (nI_le (by omega) (by omega))]
              rw [xf, Option.bind_some, if_pos rfl, if_pos (nI_le (by omega) (by omega)), far3, told3]
              exact ⟨_, _, rfl, rfl, rfl, t3⟩
          · obtain ⟨z4, far4, told4⟩ := far_told (-4)
            rw [if_neg c, if_neg c, far4, told4]
            exact ⟨_, _, rfl, rfl, rfl, h48⟩
        · exact out (fun c => hp c.1.2.2) _ (by rw [if_neg hp, Option.bind_some, if_pos rfl, far1]; rfl) _
      · exact out (fun c => hij c.1.2.1) _ (by rw [if_neg hij, Option.bind_some, if_pos rfl, far1]; rfl) _
    · refine out (fun c => hu c.2) _ ?_ _
      by_cases c : u < 0
      · rw [if_pos c, far1]; rfl
      · rw [if_neg c, if_pos (show 9 ≤ u by rw [i_lt, ti_0] at c; rw [i_le, ti_9]; omega), far1]; rfl
  · exact out (fun c => he c.1.1) _ (by rw [if_neg he, Option.bind_some, if_pos rfl, far1]; rfl) _
