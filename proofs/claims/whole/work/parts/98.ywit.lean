/-! ===== witness ===== -/
theorem eq_witness : E_witness Rel := by
  intro X M h e i j part
  have hw := nw_of h.1
  obtain ⟨⟨e1, e2, e3, e4⟩, hm, hn, hq, hT, h6, h7, o4, -⟩ := id hw
  rw [fX6_witness, fX7_witness, x_hasEq X e hq, x_cIn, x_isPart', m_isPart M e i j part (by rw [e1]; exact hm) (by rw [e2]; exact hn) (by rw [e4]; exact hq), e1, e2, e4]
  obtain ⟨z, far1, told1⟩ := far_told (-1)
  have out : ¬ ((0 ≤ e.toInt ∧ e.toInt < (gI X 3).toInt) ∧ ((0 ≤ i.toInt ∧ i.toInt < (gI X 0).toInt) ∧ 0 ≤ j.toInt ∧ j.toInt < (gI X 1).toInt) ∧ 0 ≤ part.toInt ∧ part.toInt ≤ 1) → ∀ (A : Option (Int64 × w_S)), A = some (z, X) → ∀ K : Int32 → Option (Int64 × w_S), ∃ zx zm, A = some zx ∧ ((if (0 ≤ e.toInt ∧ e.toInt < (gI X 3).toInt) ∧ ((0 ≤ i.toInt ∧ i.toInt < (gI X 0).toInt) ∧ 0 ≤ j.toInt ∧ j.toInt < (gI X 1).toInt) ∧ 0 ≤ part.toInt ∧ part.toInt ≤ 1 then some (1 : Int32) else some 0).bind (fun r6 => (if r6 = 0 then (fX7_told (-1)).bind (fun r13 => some (r13, M)) else K r6))) = some zm ∧ zx.1 = zm.1 ∧ Rel zx.2 zm.2 := by
    intro c A hA K
    rw [if_neg c, Option.bind_some, if_pos rfl, told1]
    exact ⟨_, _, hA, rfl, rfl, h⟩
  by_cases he : 0 ≤ e.toInt ∧ e.toInt < (gI X 3).toInt
  · rw [if_pos he, Option.bind_some, if_neg n10]
    by_cases hij : (0 ≤ i.toInt ∧ i.toInt < (gI X 0).toInt) ∧ 0 ≤ j.toInt ∧ j.toInt < (gI X 1).toInt
    · rw [if_pos hij, Option.bind_some, if_neg n10]
      by_cases hp : 0 ≤ part.toInt ∧ part.toInt ≤ 1
      · obtain ⟨s, m, n, sh, q⟩ := eqA_of h he
        obtain ⟨q1, q2, q3, q4, q5, q6, q7, q8, q9, q10, q11, q12, q13, q14⟩ := id q
        have c1 := x_kindOf X q14 q13
        have c2 := x_shiftOf X q14 q13
        rw [show e.toInt.toNat = e.toNatClampNeg from rfl, q8] at c1
        rw [show e.toInt.toNat = e.toNatClampNeg from rfl, q9] at c2
        have p1 := x_fits X q6 q4 q5 q2 q3
        obtain ⟨f, p2⟩ := m_isFit M q6 q4 q5 (by rw [e1]; exact q2) (by rw [e2]; exact q3)
        have h48 := Rel_8 h f
        obtain ⟨I, hI, rfl⟩ := i_in q2 (by omega) hij.1
        obtain ⟨J, hJ, rfl⟩ := i_in q3 (by omega) hij.2
        have HC := And.intro he (And.intro hij hp)
        rw [if_pos hp, Option.bind_some, if_neg n10, c1, Option.bind_some, p1, Option.bind_some, one_ite, if_pos HC, Option.bind_some, if_neg n10, if_pos q12, q10, p2, Option.bind_some, one_ite]
        by_cases c : (s ≤ 1 ∨ m = n) ∧ (pls s m n).length ≤ 6
        · have q' := EqA_T q (frX_rf X) (frM_8 M f) h48
          obtain ⟨r1, r2, r3, r4, r5, r6, r7, r8, r9, r10, r11, r12, r13, r14⟩ := id q'
          have hw' := r1
          have h9 := mn_le9 q4.2 q5.2
          have hy := sys0 (fr := 0) q6 q4 q5 c.1 (Or.inl rfl) (by omega)
          obtain ⟨G, S1, T1, T2, t1, t2, t3, t4, t5, t6, t7, t8⟩ := x_wit (sh := sh) hy q2 q3 c.2
          have t1' : fX6_fillGrid X (nI s) (nI s) sh 0 = some G := t1
          -- the three eliminations
          obtain ⟨⟨hb1, hb2⟩, hb3⟩ := aw_hb hw' r7 hy c.2
          obtain ⟨πc, csc, Hc⟩ := ei_run (V := AW X s sh m n) (h := (pls s m n).length + 1) (w := m * n) (g := gT X s sh m n) hb1 hb2 (fun r k hr hk => by
            unfold gT AW
            by_cases d : k < m * n
            · rw [if_pos d, if_pos d]; rfl
            · rw [if_neg d, if_neg d, if_pos (show k = m * n by omega)]
              by_cases g : r = (pls s m n).length
              · rw [if_pos g, if_pos g]; rfl
              · rw [if_neg g, if_neg g]; rfl) (m * n) (Nat.le_refl _)
          have hbr := hb_less (h' := (pls s m n).length) (by omega) ⟨hb1, hb2⟩
          obtain ⟨πr, csr, Hr⟩ := ei_run (V := AW X s sh m n) (h := (pls s m n).length) (w := m * n) (g := gR X s sh m n) hbr.1 hbr.2 (fun r k hr hk => by
            unfold gR AW
            by_cases d : k < m * n
            · rw [if_pos d, if_pos d]; rfl
            · rw [if_neg d, if_neg d, if_pos (show k = m * n by omega), if_neg (show ¬ r = (pls s m n).length by omega)]; rfl) (m * n) (Nat.le_refl _)
          obtain ⟨πg, csg, Hg, g1, g2⟩ := sys_end hw' r7 hy c.2
          have Hc' : EI (AW X s sh m n) ((pls s m n).length + 1) (m * n) (m * n) (eC X s sh m n) πc csc := Hc
          have Hr' : EI (AW X s sh m n) (pls s m n).length (m * n) (m * n) (eRl X s sh m n) πr csr := Hr
          have wa := aw_wa X s sh m n
          have hA : ∀ p u, p < m * n → u ≤ (pls s m n).length → VX X s sh m n p u = AW X s sh m n u p := fun p u hp _ => (aw_p X s sh m n hp u).symm
          have pvr : ∀ u, u < m * n → (eRl X s sh m n).2.2.2.1 u = -1 ∨ ∃ i, i < (eRl X s sh m n).1 ∧ (eRl X s sh m n).2.2.2.1 u = nI i := fun u hu => pv_of Hr' hu
          have pvc : ∀ u, u < m * n → (eC X s sh m n).2.2.2.1 u = -1 ∨ ∃ i, i < (eC X s sh m n).1 ∧ (eC X s sh m n).2.2.2.1 u = nI i := fun u hu => pv_of Hc' hu
          have hcr := Hc'.2.1
          have hrr := Hr'.2.1
          obtain ⟨S, s1, s2, s3, s4, s5⟩ := m_rules hw' r7 hy c.2 (by rw [r1.1.1]; exact r2) (by rw [r1.1.2.1]; exact r3) pvr
          have hE := eE_le X (nI s) s sh m n 0
          rw [Nat.sub_zero] at hE
          have k1 := x_slv h9 (by omega) hE t7
          have m0 : gI S 0 = nI m := by rw [s2.1 0 (by omega), r1.1.1]; exact r2
          have m1 : gI S 1 = nI n := by rw [s2.1 1 (by omega), r1.1.2.1]; exact r3
          have RT1 : Rel T1 S := Rel_S h48 t5 s2
          have RT2 : Rel T2 S := Rel_S h48 t6 s2
          -- what C leaves
          have hC : ∀ p, p < m * n → ((fun p => gM0 X (nI s) s sh m n 0 p (pls s m n).length) p).toInt = AW X s sh m n (pls s m n).length p := fun p hp => by rw [aw_p X s sh m n hp]; rfl
          have lft64 : ∀ p, p < m * n → (gB S 2 p).toInt = lW (AW X s sh m n) (pls s m n).length (eRl X s sh m n) πr csr p ∧ (lW (AW X s sh m n) (pls s m n).length (eRl X s sh m n) πr csr p).natAbs < 9223372036854775808 := fun p hp => by
            have hlt : (lW (AW X s sh m n) (pls s m n).length (eRl X s sh m n) πr csr p).natAbs < 9223372036854775808 := by
              refine hb3 ((pls s m n).length :: idx πr (eRl X s sh m n).1) (p :: csr) (List.nodup_cons.2 ⟨fun e => ?_, idx_nd Hr'.2.2.2.1 _ hrr⟩) (fun x hx => ?_) (fun x hx => ?_)
              · obtain ⟨k, k1, k2⟩ := idx_mem e
                have := Hr'.2.2.1 k (by omega); omega
              · rcases List.mem_cons.1 hx with e | e
                · omega
                · obtain ⟨k, k1, k2⟩ := idx_mem e
                  have := Hr'.2.2.1 k (by omega); omega
              · rcases List.mem_cons.1 hx with e | e
                · omega
                · have := Dec_lt Hr'.2.2.2.2.1 e; omega
            refine ⟨?_, hlt⟩
            rw [s5 p hp, ls_bmod, lsI_lW Hr' (by omega) _ hC hp]
            exact fb_bmodL (by omega) (by omega)
          have lft0 : ∀ p, p < m * n → (gB S 2 p = 0 ↔ lW (AW X s sh m n) (pls s m n).length (eRl X s sh m n) πr csr p = 0) := fun p hp => by rw [l0, (lft64 p hp).1]
          -- is it solvable?
          have cell : ∀ k, (eE X (nI s) s sh m n 0).1 ≤ k → k < m * n → ((eE X (nI s) s sh m n 0).2.2.2.2 k (pls s m n).length = 0 ↔ lft csg ((idx πg (eE X (nI s) s sh m n 0).1).map (VX X s sh m n)) (VX X s sh m n (πg k)) (pls s m n).length = 0) := fun k a b => by
            rw [l0, Hg.2.2.2.2.2.2.2.1 k _ a b (Nat.le_refl _)]
          have solv : slv (m * n) (pls s m n).length (eE X (nI s) s sh m n 0) = true ↔ ∀ p, p < m * n → lW (AW X s sh m n) (pls s m n).length (eRl X s sh m n) πr csr p = 0 := by
            constructor
            · intro g
              unfold slv at g
              have g' := beq_iff_eq.1 g
              exact w_zero hA Hr' Hg (by omega) h9 (fun k a b => (cell k a b).1 (ff_0 _ _ _ _ k a (by rw [g']; exact b)))
            · intro g
              have := w_solv wa hA Hr' Hg g
              unfold slv
              exact beq_iff_eq.2 (by rw [ff_all _ _ _ _ (fun k a b => (cell k a (by omega)).2 (this k a (by omega)))]; omega)
          have first := m_first S h9 m0 m1 (nI I) (nI J) part (eRl X s sh m n).2.1 (m * n) 256 0 (by omega) (by omega)
          have first' : fX7_witness_L57 S (nI I) (nI J) part (eRl X s sh m n).2.1 256 0 = some (nI (fb (fun p => decide (¬ gB S 2 p = 0)) (m * n) 0)) := first
          have frg := fb_rg (fun p => decide (¬ gB S 2 p = 0)) (m * n) 0
          rw [if_pos c, c2, Option.bind_some, t1', Option.bind_some, t2, Option.bind_some, t3, Option.bind_some, k1, Option.bind_some, bit_ite, if_pos c, if_pos q12, if_pos q12, r10, r11, s1, Option.bind_some, first', Option.bind_some, m0, m1, nI_mul]
          by_cases sl : slv (m * n) (pls s m n).length (eE X (nI s) s sh m n 0) = true
          · have g := solv.1 sl
            have fe : fb (fun p => decide (¬ gB S 2 p = 0)) (m * n) 0 = m * n := by
              rcases Nat.lt_or_ge (fb (fun p => decide (¬ gB S 2 p = 0)) (m * n) 0) (m * n) with a | a
              · have b := fb_at (fun p => decide (¬ gB S 2 p = 0)) (m * n) 0 (by omega)
                have b' := of_decide_eq_true b
                exact absurd ((lft0 _ a).2 (g _ a)) b'
              · omega
            obtain ⟨z3, far3, told3⟩ := far_told (-3)
            rw [if_pos sl, fe, if_pos rfl, far3, told3]
            exact ⟨_, _, rfl, rfl, rfl, RT1⟩
          · -- the first place that is left
            have hlt : fb (fun p => decide (¬ gB S 2 p = 0)) (m * n) 0 < m * n := by
              rcases Nat.lt_or_ge (fb (fun p => decide (¬ gB S 2 p = 0)) (m * n) 0) (m * n) with a | a
              · exact a
              · exfalso
                refine sl (solv.2 (fun p hp => (lft0 p hp).1 ?_))
                have b := fb_before (fun p => decide (¬ gB S 2 p = 0)) (m * n) 0 p (by omega) (by omega)
                have b' := of_decide_eq_false b
                exact Classical.not_not.1 b'
            have hne : ¬ gB S 2 (fb (fun p => decide (¬ gB S 2 p = 0)) (m * n) 0) = 0 := of_decide_eq_true (fb_at (fun p => decide (¬ gB S 2 p = 0)) (m * n) 0 (by omega))
            have hbe : ∀ p, p < fb (fun p => decide (¬ gB S 2 p = 0)) (m * n) 0 → gB S 2 p = 0 := fun p hp => Classical.not_not.1 (of_decide_eq_false (fb_before (fun p => decide (¬ gB S 2 p = 0)) (m * n) 0 p (by omega) hp))
            generalize fb (fun p => decide (¬ gB S 2 p = 0)) (m * n) 0 = F at *
            have lF := fun e => hne ((lft0 F hlt).2 e)
            have hIJ : I * n + J < m * n := pl_lt hI hJ
            have same := w_same wa Hr' Hc' (by omega) hlt lF (fun p hp => (lft0 p (by omega)).1 (hbe p hp)) hIJ
            have x1 : gI T2 1 = nI n := by rw [t6.1 1 (by omega) (by omega) (by omega)]; exact q3
            have xs := x_sol22 t8 (by omega) (by omega) hcr pvc hIJ
            -- bounds
            have cc : ∀ k l, k < (eC X s sh m n).1 → l ≤ m * n → ((eC X s sh m n).2.2.2.2 k l).toInt.natAbs < 9223372036854775808 := fun k l hk hl => by
              rw [pU_cell Hc' hk hl]
              exact hb3 (idx πc (eC X s sh m n).1) (csc.set ((eC X s sh m n).1 - 1 - k) l) (idx_nd Hc'.2.2.2.1 _ hcr) (fun x hx => by
                obtain ⟨y, y1, y2⟩ := idx_mem hx
                rw [y2]; exact Hc'.2.2.1 y (by omega)) (fun x hx => by
                rcases List.mem_or_eq_of_mem_set hx with a | a
                · have := Dec_lt Hc'.2.2.2.2.1 a; omega
                · omega)
            have cr : ∀ k l, k < (eRl X s sh m n).1 → l ≤ m * n → ((eRl X s sh m n).2.2.2.2 k l).toInt.natAbs < 9223372036854775808 := fun k l hk hl => by
              rw [pU_cell Hr' hk hl]
              exact hb3 (idx πr (eRl X s sh m n).1) (csr.set ((eRl X s sh m n).1 - 1 - k) l) (idx_nd Hr'.2.2.2.1 _ hrr) (fun x hx => by
                obtain ⟨y, y1, y2⟩ := idx_mem hx
                rw [y2]; have := Hr'.2.2.1 y (by omega); omega) (fun x hx => by
                rcases List.mem_or_eq_of_mem_set hx with a | a
                · have := Dec_lt Hr'.2.2.2.2.1 a; omega
                · omega)
            have dc : (eC X s sh m n).2.1.toInt.natAbs < 9223372036854775808 := by
              rw [← Hc'.2.2.2.2.2.1]
              exact hb3 (idx πc (eC X s sh m n).1) csc (idx_nd Hc'.2.2.2.1 _ hcr) (fun x hx => by
                obtain ⟨y, y1, y2⟩ := idx_mem hx
                rw [y2]; exact Hc'.2.2.1 y (by omega)) (fun x hx => by have := Dec_lt Hc'.2.2.2.2.1 hx; omega)
            have dr : (eRl X s sh m n).2.1.toInt.natAbs < 9223372036854775808 := by
              rw [← Hr'.2.2.2.2.2.1]
              exact hb3 (idx πr (eRl X s sh m n).1) csr (idx_nd Hr'.2.2.2.1 _ hrr) (fun x hx => by
                obtain ⟨y, y1, y2⟩ := idx_mem hx
                rw [y2]; have := Hr'.2.2.1 y (by omega); omega) (fun x hx => by have := Dec_lt Hr'.2.2.2.2.1 hx; omega)
            have xv : (isol (eC X s sh m n) (m * n) (I * n + J)).toInt = yK (eC X s sh m n) (m * n) (I * n + J) ∧ (isol (eC X s sh m n) (m * n) (I * n + J)).toInt.natAbs < 9223372036854775808 := by
              refine ⟨?_, isol_abs pvc (by omega) cc hIJ⟩
              unfold isol yK
              rw [if_neg (show ¬ I * n + J = m * n by omega)]
              split <;> rfl
            have hp9 : ¬ (nI (I * n + J) < 0 ∨ 9 ≤ I * n + J) := fun e => by
              rcases e with e | e
              · exact nI_pos (by omega) e
              · omega
            obtain ⟨zz, z1, z2, z3⟩ : ∃ zz : Int64, ((if nI (I * n + J) = nI F then some (eRl X s sh m n).2.1 else (if ¬ (nI (I * n + J) < 0 ∨ 9 ≤ I * n + J) then (if 0 ≤ ((gA S 11) (I * n + J)) then (if ¬ (nI (I * n + J) < 0 ∨ 9 ≤ I * n + J) then (if ¬ (((9 * ((gA S 11) (I * n + J))) + nI F) < 0 ∨ 63 ≤ ((9 * ((gA S 11) (I * n + J))) + nI F).toNatClampNeg) then some (-((gB S 1) ((9 * ((gA S 11) (I * n + J))) + nI F).toNatClampNeg)) else none) else none) else some 0) else none))) = some zz ∧ zz.toInt = zK (eRl X s sh m n) F (m * n) (I * n + J) ∧ zz.toInt.natAbs < 9223372036854775808 := by
              rw [s3 _ hIJ]
              unfold zK
              rw [if_neg (show ¬ I * n + J = m * n by omega)]
              by_cases a : I * n + J = F
              · rw [if_pos (by rw [a]), if_pos a]; exact ⟨_, rfl, rfl, dr⟩
              · rw [if_neg (show ¬ nI (I * n + J) = nI F by rw [nI_eq (by omega) (by omega)]; exact a), if_neg a, if_pos hp9]
                rcases pvr _ hIJ with b | ⟨k, b1, b2⟩
                · rw [b, if_neg (show ¬ (0 : Int32) ≤ -1 by decide), if_pos (show (-1 : Int32) < 0 by decide)]
                  exact ⟨0, rfl, rfl, by decide⟩
                · have bb := cr k F b1 (by omega)
                  rw [b2, if_pos (nI_nn0 _ (by omega)), if_pos hp9, ix9, if_pos (nI_inN (show 9 * k + F < 63 by omega) (by decide)), nI_clamp (by omega), s4 k F (by omega) hlt, if_neg (nI_pos (by omega)), nI_clamp (by omega)]
                  have ng := negL (x := (eRl X s sh m n).2.2.2.2 k F) (by omega)
                  exact ⟨_, rfl, ng, by rw [ng]; omega⟩
            have c0 : (eC X s sh m n).2.1 ≠ 0 := fun e => ei_d Hc' (l0.1 e)
            obtain ⟨w, w1, w2⟩ := frac_two part (x := isol (eC X s sh m n) (m * n) (I * n + J)) (y := (eC X s sh m n).2.1) (x' := zz) (y' := gB S 2 F) (abs_ne xv.2) (abs_ne dc) (abs_ne z3) (abs_ne (by rw [(lft64 F hlt).1]; exact (lft64 F hlt).2)) c0 hne (by rw [xv.1, z2, (lft64 F hlt).1, Int.mul_comm]; exact same)
            have hx9F : ¬ (nI F < 0 ∨ 9 ≤ F) := fun e => by
              rcases e with e | e
              · exact nI_pos (by omega) e
              · omega
            rw [if_neg sl, t4, Option.bind_some, x1, nI_mul, nI_add, xs, Option.bind_some, t8.2.2.2.1, w1, if_neg (show ¬ nI F = nI (m * n) by rw [nI_eq (by omega) (by omega)]; omega), nI_mul, nI_add, Nat.mul_comm n I, nI_clamp (show I * n + J < 2 ^ 31 by omega), z1, Option.bind_some, Option.bind_some, nI_clamp (show F < 2 ^ 31 by omega), if_pos hx9F, w2]
            exact ⟨_, _, rfl, rfl, rfl, RT2⟩
        · obtain ⟨z4, far4, told4⟩ := far_told (-4)
          rw [if_neg c, if_neg c, far4, told4]
          exact ⟨_, _, rfl, rfl, rfl, h48⟩
      · exact out (fun c => hp c.2.2) _ (by rw [if_neg hp, Option.bind_some, if_pos rfl, far1]; rfl) _
    · exact out (fun c => hij c.2.1) _ (by rw [if_neg hij, Option.bind_some, if_pos rfl, far1]; rfl) _
  · exact out (fun c => he c.1) _ (by rw [if_neg he, Option.bind_some, if_pos rfl, far1]; rfl) _
