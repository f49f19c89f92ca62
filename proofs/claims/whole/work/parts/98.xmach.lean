/-! ===== the class's machine for a witness ===== -/
theorem fillG22 (S : w_S) : ∃ f, fJ7_fill_d0a16_23 S 0 = some (sB S 1 f) ∧ ∀ i, i < 90 → f i = 0 := by
  rw [fJ7_fill_d0a16_23]
  obtain ⟨t, h1, f, rfl, h2⟩ := loop_up (fun n f i => fJ7_fill_d0a16_23_L6 0 90 n (sB S 1 f) i) (fun k f => ∀ i, i < k → f i = 0) (fun t => ∃ f, t = sB S 1 f ∧ ∀ i, i < 90 → f i = 0) 90
    (fun n k f hk hI => ⟨vp_updL f k 0, fun i hi => by
      by_cases e : i = k
      · rw [updL_ap, if_pos e]
      · rw [updL_ap, if_neg e]; exact hI i (by omega), by
      show fJ7_fill_d0a16_23_L6 0 90 (n + 1) (sB S 1 f) (nI k) = _
      rw [fJ7_fill_d0a16_23_L6, if_neg (by rw [lit, nI_leI (by omega) (by omega)]; omega), if_pos (nI_inN hk (by decide)), sB_sB, gB_sB, if_pos rfl, nI_clamp (by omega), nI_1]⟩)
    (fun n f hI => ⟨_, by
      show fJ7_fill_d0a16_23_L6 0 90 (n + 1) (sB S 1 f) (nI 90) = _
      rw [fJ7_fill_d0a16_23_L6, if_pos (by rw [lit]; exact Int32.le_refl _)], f, rfl, hI⟩) 256 0 (gB S 1) (by omega) (by omega) (fun i hi => by omega)
  rw [sB_self] at h1
  have h1' : fJ7_fill_d0a16_23_L6 0 90 256 S 0 = some (sB S 1 f) := h1
  exact ⟨f, by rw [h1']; rfl, h2⟩
theorem x_clear22 (S : w_S) {h w : Nat} (hh : h ≤ 9) (hw : w ≤ 9) : ∃ f, fX1_clear_22 S (nI h) (nI w) = some (sB (sI (sI S 17 (nI h)) 18 (nI w)) 1 f) ∧ ∀ i, i < 90 → f i = 0 := by
  obtain ⟨f, f1, f2⟩ := fillG22 (sI (sI S 17 (nI h)) 18 (nI w))
  refine ⟨f, ?_, f2⟩
  rw [fX1_clear_22, cl9 hh, cl9 hw, f1]; rfl
/-- the grid turned -/
def gT (X : w_S) (s : Nat) (sh : Int32) (m n : Nat) : eM := fun r j => if j < m * n then gM0 X (nI s) s sh m n 0 j r else if r = (pls s m n).length then 1 else 0
theorem x_turned {X G : w_S} {s m n : Nat} {sh : Int32} (hm : 1 ≤ m ∧ m ≤ 3) (hn : 1 ≤ n ∧ n ≤ 3) (h6 : (pls s m n).length ≤ 6) (g13 : gI G 13 = nI (m * n)) (g14 : gI G 14 = nI (pls s m n).length) (hg : ∀ i j, i < m * n → j ≤ (pls s m n).length → gB G 0 (10 * i + j) = gM0 X (nI s) s sh m n 0 i j) :
    ∃ g, fX1_fillTurned_22_19 G = some (sB (sI (sI G 17 (nI ((pls s m n).length + 1))) 18 (nI (m * n))) 1 g) ∧ ∀ r j, r < (pls s m n).length + 1 → j ≤ m * n → g (10 * r + j) = gT X s sh m n r j := by
  have h9 := mn_le9 hm.2 hn.2
  obtain ⟨f, f1, f2⟩ := x_clear22 G (h := (pls s m n).length + 1) (w := m * n) (by omega) (by omega)
  rw [fX1_fillTurned_22_19, g14, g13, nI_1, f1, Option.bind_some]
  generalize hS : sI (sI G 17 (nI ((pls s m n).length + 1))) 18 (nI (m * n)) = S1
  have k17 : gI S1 17 = nI ((pls s m n).length + 1) := by rw [← hS]; rfl
  have k18 : gI S1 18 = nI (m * n) := by rw [← hS]; rfl
  have k14 : gI S1 14 = nI (pls s m n).length := by rw [← hS]; exact g14
  have kB : gB S1 0 = gB G 0 := by rw [← hS]; rfl
  have hgS : ∀ (g : Nat → Int64) i j, i < m * n → j ≤ (pls s m n).length → gB (sB S1 1 g) 0 (10 * i + j) = gM0 X (nI s) s sh m n 0 i j := fun g i j hi hj => by
    show gB S1 0 (10 * i + j) = _
    rw [kB]; exact hg i j hi hj
  obtain ⟨t, e1, g, rfl, e2⟩ := loop_up (fun q (g : Nat → Int64) r => fX1_fillTurned_22_19_L16 q (sB S1 1 g) r)
    (fun k g => ∀ r j, r < 9 → j < 10 → g (10 * r + j) = if r < k ∧ j < m * n then gM0 X (nI s) s sh m n 0 j r else 0)
    (fun t => ∃ g, t = sB S1 1 g ∧ ∀ r j, r < 9 → j < 10 → g (10 * r + j) = if r < (pls s m n).length + 1 ∧ j < m * n then gM0 X (nI s) s sh m n 0 j r else 0) ((pls s m n).length + 1)
    (fun q k g hk hI => by
      obtain ⟨t, b1, g', rfl, b2⟩ := loop_up (fun q (g : Nat → Int64) c => fX1_fillTurned_22_19_L26 (nI k) q (sB S1 1 g) c)
        (fun v g' => ∀ r j, r < 9 → j < 10 → g' (10 * r + j) = if r = k ∧ j < v then gM0 X (nI s) s sh m n 0 j k else g (10 * r + j))
        (fun t => ∃ g', t = sB S1 1 g' ∧ ∀ r j, r < 9 → j < 10 → g' (10 * r + j) = if r = k ∧ j < m * n then gM0 X (nI s) s sh m n 0 j k else g (10 * r + j)) (m * n)
        (fun q v g' hv hI' => by
          refine ⟨vp_updL g' (10 * k + v) (gM0 X (nI s) s sh m n 0 v k), fun r j hr hj => ?_, ?_⟩
          · rw [updL_ap]
            by_cases c1 : 10 * r + j = 10 * k + v
            · have : r = k ∧ j = v := by omega
              rw [if_pos c1, if_pos (by omega), this.2]
            · rw [if_neg c1, hI' r j hr hj]
              by_cases c2 : r = k ∧ j < v
              · rw [if_pos c2, if_pos (by omega)]
              · rw [if_neg c2, if_neg (by omega)]
          · show fX1_fillTurned_22_19_L26 (nI k) (q + 1) (sB S1 1 g') (nI v) = _
            rw [fX1_fillTurned_22_19_L26, show gI (sB S1 1 g') 18 = nI (m * n) from k18, if_neg (nI_ge hv (by omega)), x_cell _ (by omega) (by omega), Option.bind_some, hgS g' v k hv (by omega), x_wr22 _ (by omega) (by omega), Option.bind_some, nI_1, sB_sB, gB_sB, if_pos rfl])
        (fun q g' hI' => ⟨_, by
          show fX1_fillTurned_22_19_L26 (nI k) (q + 1) (sB S1 1 g') (nI (m * n)) = _
          rw [fX1_fillTurned_22_19_L26, show gI (sB S1 1 g') 18 = nI (m * n) from k18, if_pos (Int32.le_refl _)], g', rfl, hI'⟩) 256 0 g (by omega) (by omega) (fun r j _ _ => by rw [if_neg (by omega)])
      refine ⟨g', fun r j hr hj => ?_, ?_⟩
      · rw [b2 r j hr hj, hI r j hr hj]
        by_cases c : r = k ∧ j < m * n
        · rw [if_pos c, if_pos (by omega), c.1]
        · rw [if_neg c]
          by_cases d : r < k ∧ j < m * n
          · rw [if_pos d, if_pos (by omega)]
          · rw [if_neg d, if_neg (by omega)]
      · have b1' : fX1_fillTurned_22_19_L26 (nI k) 256 (sB S1 1 g) 0 = some (sB S1 1 g') := b1
        show fX1_fillTurned_22_19_L16 (q + 1) (sB S1 1 g) (nI k) = _
        rw [fX1_fillTurned_22_19_L16, show gI (sB S1 1 g) 17 = _ from k17, if_neg (nI_ge hk (by omega)), b1', Option.bind_some, nI_1])
    (fun q g hI => ⟨_, by
      show fX1_fillTurned_22_19_L16 (q + 1) (sB S1 1 g) (nI ((pls s m n).length + 1)) = _
      rw [fX1_fillTurned_22_19_L16, show gI (sB S1 1 g) 17 = _ from k17, if_pos (Int32.le_refl _)], g, rfl, hI⟩) 256 0 f (by omega) (by omega) (fun r j hr hj => by rw [if_neg (by omega)]; exact f2 _ (by omega))
  have e1' : fX1_fillTurned_22_19_L16 256 (sB S1 1 f) 0 = some (sB S1 1 g) := e1
  rw [e1', Option.bind_some, show gI (sB S1 1 g) 14 = _ from k14, show gI (sB S1 1 g) 18 = _ from k18, x_wr22 _ (by omega) (by omega), Option.bind_some, sB_sB, gB_sB, if_pos rfl]
  refine ⟨_, rfl, fun r j hr hj => ?_⟩
  rw [updL_ap, e2 r j (by omega) (by omega)]
  unfold gT
  by_cases c : j < m * n
  · rw [if_neg (by omega), if_pos ⟨hr, c⟩, if_pos c]
  · rw [if_neg c]
    by_cases d : r = (pls s m n).length
    · rw [if_pos (by omega), if_pos d]
    · rw [if_neg (by omega), if_neg (by omega), if_neg d]
/-- the eliminations for a witness -/
def eC (X : w_S) (s : Nat) (sh : Int32) (m n : Nat) : eT := eRun ((pls s m n).length + 1) (m * n) (e0 (gT X s sh m n))
theorem x_sol22 {T : w_S} {h w : Nat} {E : eT} (a : at22 T h w w E) (hh : h ≤ 9) (hw : w < 10) (hr : E.1 ≤ h) (hpv : ∀ u, u < w → E.2.2.2.1 u = -1 ∨ ∃ i, i < E.1 ∧ E.2.2.2.1 u = nI i) {u : Nat} (hu : u < w) : fX1_solutionAbove_22 T (nI u) = some (isol E w u) := by
  obtain ⟨a13, a14, a15, aL, a16, aA, aB⟩ := a
  have hp : fX1_isPivot_22 T (nI u) = some (if E.2.2.2.1 u < 0 then 0 else 1) := by
    rw [fX1_isPivot_22, a14, if_neg (nI_pos (by omega)), if_neg (nI_ge hu (by omega)), show (10 : Int32) = nI 10 from rfl, if_neg (nI_ge (by omega) (by omega)), if_pos (nI_inN (show u < 10 by omega) (by decide)), nI_clamp (by omega), aA u hu, some_ite]
  rw [fX1_solutionAbove_22, hp, Option.bind_some]
  unfold isol
  rcases hpv u hu with e | ⟨i, e1, e2⟩
  · rw [e, if_pos (by decide), if_pos (by decide)]
  · rw [e2, if_neg (nI_pos (by omega)), if_neg n10, if_pos (nI_inN (show u < 10 by omega) (by decide)), nI_clamp (by omega), aA u hu, e2, a14, x_cell22 T (by omega) (by omega), Option.bind_some, if_neg (nI_pos (by omega)), nI_clamp (by omega), aB i w (by omega) (Nat.le_refl _)]
theorem x_wit {X : w_S} {s m n : Nat} {sh : Int32} (hy : Sys s m n 0) (h0 : gI X 0 = nI m) (h1 : gI X 1 = nI n) (h6 : (pls s m n).length ≤ 6) :
    ∃ G S1 T1 T2, fX6_fillGrid X (nI s) (nI s) sh 0 = some G ∧ fX1_fillTurned_22_19 G = some S1 ∧ fX1_eliminate_19 S1 = some T1 ∧ fX1_eliminate_22 T1 = some T2 ∧ frX X T1 ∧ frX X T2 ∧ at19 T1 (m * n) (pls s m n).length (pls s m n).length (eE X (nI s) s sh m n 0) ∧ at22 T2 ((pls s m n).length + 1) (m * n) (m * n) (eC X s sh m n) := by
  obtain ⟨y1, y2, y3, y4, y5, y6⟩ := id hy
  have h9 := mn_le9 y2.2 y3.2
  obtain ⟨G, T, t1, t2, t3, -, ⟨t4, t5, t6⟩, -⟩ := x_two X (nI s) sh hy h0 h1 (by omega)
  rw [Nat.zero_mul, Nat.sub_zero] at t5 t6
  rw [Nat.sub_zero] at t4 t6
  obtain ⟨g, g1, g2⟩ := x_turned (X := X) (s := s) (sh := sh) y2 y3 h6 t4 t5 t6
  obtain ⟨S1, hS1⟩ : ∃ S1, S1 = sB (sI (sI G 17 (nI ((pls s m n).length + 1))) 18 (nI (m * n))) 1 g := ⟨_, rfl⟩
  obtain ⟨T1, u1, u2, u3⟩ := x_elim S1 (h := m * n) (w := (pls s m n).length) (g := gM0 X (nI s) s sh m n 0) h9 (by omega) (by rw [hS1]; exact t4) (by rw [hS1]; exact t5) (fun i j hi hj => by rw [hS1]; exact t6 i j hi hj)
  have k17 : gI T1 17 = nI ((pls s m n).length + 1) := by rw [u2.1 17 (by omega) (by omega), hS1]; rfl
  have k18 : gI T1 18 = nI (m * n) := by rw [u2.1 18 (by omega) (by omega), hS1]; rfl
  have kB : gB T1 1 = g := by rw [u2.2.2.2 1 (by omega), hS1]; exact (gB_sB _ 1 g 1).trans (if_pos rfl)
  obtain ⟨T2, v1, v2, v3⟩ := x_elim22 T1 (h := (pls s m n).length + 1) (w := m * n) (g := gT X s sh m n) (by omega) (by omega) k17 k18 (fun i j hi hj => by rw [kB]; exact g2 i j hi hj)
  have f1 : frX X T1 := by
    refine frX_tr (fr0_X t3) ⟨fun k a b c => ?_, fun k a => ?_, fun k a => ?_⟩
    · rw [u2.1 k (by omega) (by omega), hS1, gI_sB, gI_sI, if_neg (by omega), gI_sI, if_neg (by omega)]
    · rw [u2.2.2.1 k (by omega), hS1]; rfl
    · rw [u2.2.2.2 k (by omega), hS1, gB_sB, if_neg (by omega)]; rfl
  refine ⟨G, S1, T1, T2, t1, by rw [hS1]; exact g1, u1, v1, f1, frX_tr f1 ⟨fun k a b c => v2.1 k (by omega) (by omega), fun k a => v2.2.2.1 k (by omega), fun k a => v2.2.2.2 k (by omega)⟩, ?_, v3⟩
  have e : eRun (m * n) (pls s m n).length (e0 (gM0 X (nI s) s sh m n 0)) = eE X (nI s) s sh m n 0 := by unfold eE; rw [Nat.sub_zero, Nat.zero_mul, Nat.sub_zero]
  rw [e] at u3
  exact u3
