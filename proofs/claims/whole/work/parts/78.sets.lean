/-! ===== the model sets its rows ===== -/
theorem m_times0 (S : w_S) (kd sh : Int32) {i j k l : Nat} (hi : i < 3) (hj : j < 3) (hk : k < 3) (hl : l < 3) : fX7_times0 S kd sh (nI i) (nI j) (nI k) (nI l) = some (shr (gA S 0) kd sh i j k l) := by
  have e : at9 0 (nI i) (nI k) = 3 * i + k := by unfold at9; rw [ti_0, nI_toInt (by omega), nI_toInt (by omega)]; simp
  rw [fX7_times0, m_its S (by decide) (by rw [nI_toInt (by omega)]; omega) (by rw [nI_toInt (by omega)]; omega), m_right S kd (by rw [nI_toInt (by omega)]; omega) (by rw [nI_toInt (by omega)]; omega), e]
  simp only [nI_eq (show j < 2 ^ 31 by omega) (show l < 2 ^ 31 by omega), nI_eq (show i < 2 ^ 31 by omega) (show k < 2 ^ 31 by omega), Option.bind_some]
  unfold shr
  by_cases c1 : j = l
  · by_cases c2 : i = k
    · rw [if_pos c1, if_pos c2, if_pos c1, if_pos c1.symm, if_pos c2, if_pos c2.symm]
      simp only [Option.bind_some, if_pos c2]
    · rw [if_pos c1, if_neg c2, if_pos c1.symm, if_neg c2, if_neg (fun e => c2 e.symm)]
      simp only [Option.bind_some, if_neg c2]
  · by_cases c2 : i = k
    · rw [if_neg c1, if_pos c2, if_neg c1, if_neg (fun e => c1 e.symm), if_pos c2.symm]
      simp only [Option.bind_some, if_pos c2, Int32.add_zero]
    · rw [if_neg c1, if_neg c2, if_neg (fun e => c1 e.symm), if_neg (fun e => c2 e.symm)]
      simp only [Option.bind_some, if_neg c2, Int32.add_zero]
theorem m_takenBy (S : w_S) (kd sh : Int32) {s m n p u : Nat} (hs : s < 7) (hm : 1 ≤ m ∧ m ≤ 3) (hn : 1 ≤ n ∧ n ≤ 3) (hq : s < 4 ∨ m = n) (h0 : gI S 0 = nI m) (h1 : gI S 1 = nI n) (hp : p < m * n) (hu : u < (pls s m n).length) (h8 : gA S 8 u = nI ((pls s m n).getD u 0)) : fX7_takenBy S kd (nI s) sh (nI p) (nI u) = some (isum (gA S 0) kd s sh n (p / n) (p % n) u (m * n)) := by
  have h9 := mn_le9 hm.2 hn.2
  have hpl := pls_len (s := s) hm.2 hn.2
  obtain ⟨hP, -⟩ := pl_tab s hs m (by omega) n (by omega) ⟨hm.1, hn.1, hq⟩ u hu
  rw [fX7_takenBy]
  obtain ⟨t, e1, e2⟩ := loop_up (fun q (v : Int32) i => fX7_takenBy_L6 S kd (nI s) sh (nI p) (nI u) q v i) (fun k v => v = isum (gA S 0) kd s sh n (p / n) (p % n) u k) (fun t => t = isum (gA S 0) kd s sh n (p / n) (p % n) u (m * n)) (m * n)
    (fun q k v hk hI => by
      have n0 : ¬ nI n = 0 := nI_ne0 (by omega) (by omega)
      refine ⟨v + tm (gA S 0) kd s sh n (p / n) (p % n) k u, by rw [hI]; rfl, ?_⟩
      show fX7_takenBy_L6 S kd (nI s) sh (nI p) (nI u) (q + 1) v (nI k) = _
      rw [fX7_takenBy_L6, h0, h1, nI_mul, if_neg (nI_ge hk (by omega)), if_pos n0, if_pos n0, if_pos (nI_inN (show u < 9 by omega) (by decide)), if_pos n0, if_pos (nI_inN (show u < 9 by omega) (by decide)), if_pos n0, nI_clamp (show u < 2 ^ 31 by omega), h8, nI_mod (by omega) (by omega), nI_mod (by omega) (by omega), nI_mod (by omega) (by omega), nI_div (by omega) (by omega), nI_div (by omega) (by omega), nI_div (by omega) (by omega), sh_tab s hs m (by omega) n (by omega) ⟨hm.1, hn.1, hq⟩ k hk u hu, Option.bind_some, m_times0 S kd sh (div_lt3 hp hm.2) (mod_lt3 hp hn.2) (div_lt3 hk hm.2) (mod_lt3 hk hn.2)]
      unfold tm
      by_cases c : w32 s n k u = 0
      · rw [if_pos c, c, Int32.zero_mul, nI_1]
      · rw [if_neg c, if_pos n0, if_pos n0, if_pos n0, if_pos n0, Option.bind_some, nI_1])
    (fun q v hI => ⟨v, by
      show fX7_takenBy_L6 S kd (nI s) sh (nI p) (nI u) (q + 1) v (nI (m * n)) = _
      rw [fX7_takenBy_L6, h0, h1, nI_mul, if_pos (Int32.le_refl _)], hI⟩) 256 0 0 (by omega) (by omega) rfl
  rw [← e2]
  have e1' : fX7_takenBy_L6 S kd (nI s) sh (nI p) (nI u) 256 0 0 = some t := e1
  rw [e1']; rfl
def finI (T : Nat → Int32) (kd : Int32) (s : Nat) (sh : Int32) (m n fr w r c : Nat) : Int64 := if c < w then (isum T kd s sh n (fr + r / n) (r % n) (c + fr * n) (m * n)).toInt64 else (T (18 + 3 * (fr + r / n) + r % n)).toInt64
theorem divs {m n fr r : Nat} (hn : 1 ≤ n) (hfr : fr < m) (hr : r < (m - fr) * n) : (r + fr * n) / n = fr + r / n ∧ (r + fr * n) % n = r % n ∧ r + fr * n < m * n := by
  refine ⟨by rw [Nat.add_mul_div_right _ _ (by omega), Nat.add_comm], by rw [Nat.add_mul_mod_self_right], ?_⟩
  have : (m - fr) * n + fr * n = m * n := by rw [← Nat.add_mul]; congr 1; omega
  omega
theorem fin_eq {T T' : Nat → Int32} (hTT : ∀ k, k < 27 → T k = T' k) (hb : ∀ k, k < 18 → sb 5 (T' k)) (kd : Int32) {s m n fr : Nat} {sh : Int32} (hsh : sb 2 sh) (hy : Sys s m n fr) {w r c : Nat} (hw : w + fr * n ≤ 9) (hr : r < (m - fr) * n) (hc : c ≤ w) : finI T kd s sh m n fr w r c = fin T' kd s sh m n fr w r c := by
  obtain ⟨y1, y2, y3, y4, y5, y6⟩ := id hy
  obtain ⟨d1, d2, d3⟩ := divs y3.1 y6 hr
  have a := div_lt3 d3 y2.2
  have b := mod_lt3 d3 y3.2
  rw [d1] at a
  rw [d2] at b
  unfold finI fin
  by_cases e : c < w
  · rw [if_pos e, if_pos e, isum_c hTT kd s sh y2.2 y3.2 a b (m * n) (Nat.le_refl _), (sums_eq hb kd y1 hsh y2.2 y3.2 a b (u := c + fr * n) (by omega) (m * n) (Nat.le_refl _)).2]
  · rw [if_neg e, if_neg e, if_pos (by omega), hTT _ (by omega)]
theorem m_sets (S : w_S) (kd : Int32) {s m n fr : Nat} (sh : Int32) (hy : Sys s m n fr) (h0 : gI S 0 = nI m) (h1 : gI S 1 = nI n) (hle : fr * n ≤ (pls s m n).length) (hw7 : (pls s m n).length - fr * n ≤ 7) :
    ∃ p f, fX7_sets S kd (nI s) sh (nI fr) = (fX7_works (sB (sI (sI (sA S 8 p) 15 (nI ((pls s m n).length - fr * n))) 14 (nI ((m - fr) * n))) 0 f)).bind (fun r => some r) ∧ (∀ u, u < (pls s m n).length → p u = nI ((pls s m n).getD u 0)) ∧ (∀ r c, r < (m - fr) * n → c ≤ (pls s m n).length - fr * n → f (8 * r + c) = finI (gA S 0) kd s sh m n fr ((pls s m n).length - fr * n) r c) := by
  obtain ⟨y1, y2, y3, y4, y5, y6⟩ := id hy
  have hpl := pls_len (s := s) y2.2 y3.2
  have h9 := mn_le9 y2.2 y3.2
  have hh : (m - fr) * n ≤ 9 := Nat.le_trans (Nat.mul_le_mul_right n (by omega)) h9
  have hmf : m * n - fr * n = (m - fr) * n := by rw [Nat.sub_mul]
  have hfm : fr * n ≤ m * n := Nat.mul_le_mul_right n (by omega)
  obtain ⟨p, p1, p2⟩ := m_unknowns S y1 y2 y3 h0 h1
  have q30 : (if nI fr = 0 then some 0 else some (nI fr * nI n)) = some (nI (fr * n)) := by
    by_cases e : fr = 0
    · rw [e, if_pos (show nI 0 = 0 from rfl), Nat.zero_mul]; rfl
    · rw [if_neg (nI_ne0 (by omega) (by omega)), nI_mul]
  have q108 : (if nI fr = 0 then some 0 else some (nI (fr * n))) = some (nI (fr * n)) := by
    by_cases e : fr = 0
    · rw [e, if_pos (show nI 0 = 0 from rfl), Nat.zero_mul]; rfl
    · rw [if_neg (nI_ne0 (by omega) (by omega))]
  have k0 : gI (sA S 8 p) 0 = nI m := h0
  have k1 : gI (sA S 8 p) 1 = nI n := h1
  rw [fX7_sets, p1, Option.bind_some]
  show ∃ p' f, ((if nI fr = 0 then some 0 else some (nI fr * gI (sA S 8 p) 1)).bind fun (q30 : Int32) => (fX7_sets_L53 kd (nI s) sh (nI fr) (nI fr * gI (sA S 8 p) 1) 256 (sI (sI (sA S 8 p) 15 (nI (pls s m n).length - q30)) 14 (gI (sA S 8 p) 0 * gI (sA S 8 p) 1 - nI fr * gI (sA S 8 p) 1)) 0).bind fun q53 => (fX7_works q53).bind fun r168 => some r168) = _ ∧ _
  rw [k0, k1, q30, Option.bind_some, nI_mul, nI_mul, nI_subN hle (by omega), nI_subN hfm (by omega), hmf]
  generalize hS : sI (sI (sA S 8 p) 15 (nI ((pls s m n).length - fr * n))) 14 (nI ((m - fr) * n)) = S1
  have j0 : gI S1 0 = nI m := by rw [← hS]; exact h0
  have j1 : gI S1 1 = nI n := by rw [← hS]; exact h1
  have j14 : gI S1 14 = nI ((m - fr) * n) := by rw [← hS]; rfl
  have j15 : gI S1 15 = nI ((pls s m n).length - fr * n) := by rw [← hS]; rfl
  have jA : gA S1 0 = gA S 0 := by rw [← hS]; rfl
  have j8 : gA S1 8 = p := by rw [← hS]; rfl
  obtain ⟨t, e1, f, rfl, e2⟩ := loop_up (fun q (g : Nat → Int64) i => fX7_sets_L53 kd (nI s) sh (nI fr) (nI (fr * n)) q (sB S1 0 g) i)
    (fun k g => ∀ r c, r < k → c ≤ (pls s m n).length - fr * n → g (8 * r + c) = finI (gA S 0) kd s sh m n fr ((pls s m n).length - fr * n) r c)
    (fun t => ∃ g, t = sB S1 0 g ∧ ∀ r c, r < (m - fr) * n → c ≤ (pls s m n).length - fr * n → g (8 * r + c) = finI (gA S 0) kd s sh m n fr ((pls s m n).length - fr * n) r c) ((m - fr) * n)
    (fun q r g hr hI => by
      obtain ⟨d1, d2, d3⟩ := divs y3.1 y6 hr
      obtain ⟨t, b1, g', rfl, b2, b3⟩ := loop_up (fun q (g : Nat → Int64) i => fX7_sets_L65 kd (nI s) sh (nI fr) (nI (fr * n)) (nI r) q (sB S1 0 g) i)
        (fun k g' => (∀ c, c < k → g' (8 * r + c) = finI (gA S 0) kd s sh m n fr ((pls s m n).length - fr * n) r c) ∧ (∀ x, x < 8 * r → g' x = g x))
        (fun t => ∃ g', t = sB S1 0 g' ∧ (∀ c, c < (pls s m n).length - fr * n → g' (8 * r + c) = finI (gA S 0) kd s sh m n fr ((pls s m n).length - fr * n) r c) ∧ (∀ x, x < 8 * r → g' x = g x)) ((pls s m n).length - fr * n)
        (fun q k g' hk hI' => by
          obtain ⟨c1, c2⟩ := hI'
          refine ⟨vp_updL g' (8 * r + k) (isum (gA S 0) kd s sh n (fr + r / n) (r % n) (k + fr * n) (m * n)).toInt64, ⟨fun c hc => ?_, fun x hx => ?_⟩, ?_⟩
          · rw [updL_ap]
            by_cases e : c = k
            · rw [if_pos (by rw [e]), e]; unfold finI; rw [if_pos hk]
            · rw [if_neg (by omega)]; exact c1 c (by omega)
          · rw [updL_ap, if_neg (by omega)]; exact c2 x hx
          · show fX7_sets_L65 kd (nI s) sh (nI fr) (nI (fr * n)) (nI r) (q + 1) (sB S1 0 g') (nI k) = _
            have ht := m_takenBy (sB S1 0 g') kd sh (p := r + fr * n) (u := k + fr * n) y1 y2 y3 y4 j0 j1 d3 (by omega) (by show gA S1 8 _ = _; rw [j8]; exact p2 _ (by omega))
            rw [d1, d2] at ht
            rw [fX7_sets_L65, show gI (sB S1 0 g') 15 = nI ((pls s m n).length - fr * n) from j15, if_neg (nI_ge hk (by omega)), q108, Option.bind_some, nI_add, nI_add, ht, Option.bind_some, show gA (sB S1 0 g') 0 = gA S 0 from jA, show (8 : Int32) = nI 8 from rfl, nI_mul, nI_add, if_pos (nI_inN (show 8 * r + k < 72 by omega) (by decide)), nI_clamp (by omega), sB_sB, gB_sB, if_pos rfl, nI_1])
        (fun q g' hI' => ⟨_, by
          show fX7_sets_L65 kd (nI s) sh (nI fr) (nI (fr * n)) (nI r) (q + 1) (sB S1 0 g') (nI ((pls s m n).length - fr * n)) = _
          rw [fX7_sets_L65, show gI (sB S1 0 g') 15 = nI ((pls s m n).length - fr * n) from j15, if_pos (Int32.le_refl _)], g', rfl, hI'⟩) 256 0 g (by omega) (by omega) ⟨fun c hc => by omega, fun x _ => rfl⟩
      have a := div_lt3 d3 y2.2
      have b := mod_lt3 d3 y3.2
      have hC : fX7_its (sB S1 0 g') 2 (nI ((r + fr * n) / n)) (nI ((r + fr * n) % n)) = some (gA S 0 (18 + 3 * (fr + r / n) + r % n)) := by
        rw [d1] at a
        rw [d2] at b
        rw [d1, d2]
        generalize fr + r / n = I at *
        generalize r % n = J at *
        rw [m_its (sB S1 0 g') (by decide) (by rw [nI_toInt (by omega)]; omega) (by rw [nI_toInt (by omega)]; omega)]
        unfold at9; rw [ti_2, nI_toInt (by omega), nI_toInt (by omega), show gA (sB S1 0 g') 0 = gA S 0 from jA]; rfl
      refine ⟨vp_updL g' (8 * r + ((pls s m n).length - fr * n)) (gA S 0 (18 + 3 * (fr + r / n) + r % n)).toInt64, fun r' c hr' hc => ?_, ?_⟩
      · rw [updL_ap]
        by_cases e : r' = r
        · subst e
          by_cases f : c = (pls s m n).length - fr * n
          · rw [if_pos (by omega), f]; unfold finI; rw [if_neg (by omega)]
          · rw [if_neg (by omega)]; exact b2 c (by omega)
        · rw [if_neg (by omega), b3 _ (by omega)]; exact hI r' c (by omega) hc
      · have b1' : fX7_sets_L65 kd (nI s) sh (nI fr) (nI (fr * n)) (nI r) 256 (sB S1 0 g) 0 = some (sB S1 0 g') := b1
        have n0 : ¬ nI n = 0 := nI_ne0 (by omega) (by omega)
        show fX7_sets_L53 kd (nI s) sh (nI fr) (nI (fr * n)) (q + 1) (sB S1 0 g) (nI r) = _
        rw [fX7_sets_L53, show gI (sB S1 0 g) 14 = nI ((m - fr) * n) from j14, if_neg (nI_ge hr (by omega)), b1', Option.bind_some, show gI (sB S1 0 g') 1 = nI n from j1, if_pos n0, if_pos n0, nI_add, nI_mod (by omega) (by omega), nI_div (by omega) (by omega), hC, Option.bind_some, show gI (sB S1 0 g') 15 = nI ((pls s m n).length - fr * n) from j15, show (8 : Int32) = nI 8 from rfl, nI_mul, nI_add, if_pos (nI_inN (show 8 * r + ((pls s m n).length - fr * n) < 72 by omega) (by decide)), nI_clamp (by omega), sB_sB, gB_sB, if_pos rfl, nI_1])
    (fun q g hI => ⟨_, by
      show fX7_sets_L53 kd (nI s) sh (nI fr) (nI (fr * n)) (q + 1) (sB S1 0 g) (nI ((m - fr) * n)) = _
      rw [fX7_sets_L53, show gI (sB S1 0 g) 14 = nI ((m - fr) * n) from j14, if_pos (Int32.le_refl _)], g, rfl, hI⟩) 256 0 (gB S1 0) (by omega) (by omega) (fun r c hr => by omega)
  have e1' : fX7_sets_L53 kd (nI s) sh (nI fr) (nI (fr * n)) 256 S1 0 = some (sB S1 0 f) := by
    have := e1
    simp only [sB_self] at this
    exact this
  refine ⟨p, f, ?_, p2, e2⟩
  rw [e1', hS]; rfl
