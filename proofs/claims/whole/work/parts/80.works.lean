/-! ===== the model's rows ===== -/
def frW (S T : w_S) : Prop := (∀ k, k ≠ 16 → k ≠ 17 → gI T k = gI S k) ∧ (∀ k, k ≠ 9 → k ≠ 10 → gA T k = gA S k) ∧ (∀ k, k ≠ 0 → gB T k = gB S k)
theorem frW_tr {S T U : w_S} (h : frW S T) (g : frW T U) : frW S U := ⟨fun k a b => (g.1 k a b).trans (h.1 k a b), fun k a b => (g.2.1 k a b).trans (h.2.1 k a b), fun k a => (g.2.2 k a).trans (h.2.2 k a)⟩
theorem frW_rf (S : w_S) : frW S S := ⟨fun _ _ _ => rfl, fun _ _ _ => rfl, fun _ _ => rfl⟩
theorem frW_B (S : w_S) (g : Nat → Int64) : frW S (sB S 0 g) := ⟨fun _ _ _ => rfl, fun _ _ _ => rfl, fun k h => by rw [gB_sB, if_neg h]⟩
theorem frW_A (S : w_S) (g : Nat → Int32) : frW S (sA S 10 g) := ⟨fun _ _ _ => rfl, fun k _ h => by rw [gA_sA, if_neg h], fun k h => rfl⟩
theorem frW_A9 (S : w_S) (g : Nat → Int32) : frW S (sA S 9 g) := ⟨fun _ _ _ => rfl, fun k h _ => by rw [gA_sA, if_neg h], fun k h => rfl⟩
theorem frW_I (S : w_S) (v : Int32) : frW S (sI S 16 v) := ⟨fun k h _ => by rw [gI_sI, if_neg h], fun k _ h => rfl, fun k h => rfl⟩
theorem frW_J (S : w_S) (v : Int32) : frW S (sI S 17 v) := ⟨fun k _ h => by rw [gI_sI, if_neg h], fun k _ h => rfl, fun k h => rfl⟩
theorem frW_L (S : w_S) (v : Int64) : frW S (sL S 0 v) := ⟨fun k _ _ => rfl, fun k _ h => rfl, fun k h => rfl⟩
theorem frW_M {S T : w_S} (h : frW S T) : frM S T := ⟨fun k a => h.1 k (by omega) (by omega), fun k a b => h.2.1 k (by omega) (by omega), h.2.2 3 (by omega)⟩
theorem ix8 (r c : Nat) : (8 * nI r + nI c) = nI (8 * r + c) := by
  rw [show (8 : Int32) = nI 8 from rfl, nI_mul, nI_add]
theorem m_ff {S : w_S} {g : eM} {h c : Nat} (hh : h ≤ 9) (hc : c < 8) (h14 : gI S 14 = nI h) (hg : ∀ i, i < h → gB S 0 (8 * i + c) = g i c) : ∀ n q r, r + n = h → n < q → fX7_works_L30 S (nI c) q (nI r) = some (nI (ff g c n r))
  | _, 0, _ => fun h1 h2 => absurd h2 (Nat.not_lt_zero _)
  | 0, q + 1, r => fun h1 h2 => by
    rw [fX7_works_L30, h14, ff, if_pos (by rw [nI_leI (by omega) (by omega)]; omega)]
  | n + 1, q + 1, r => fun h1 h2 => by
    rw [fX7_works_L30, h14, if_neg (nI_ge (by omega) (by omega)), ix8, if_pos (nI_inN (show 8 * r + c < 72 by omega) (by decide)), nI_clamp (by omega), hg r (by omega), ff]
    by_cases e : g r c = 0
    · rw [if_pos e, if_pos e, nI_1]
      exact m_ff hh hc h14 hg n q (r + 1) (by omega) (by omega)
    · rw [if_neg e, if_neg e]
theorem m_swaps {S : w_S} {g : eM} {h w a b f : Nat} (hh : h ≤ 9) (hw : w < 8) (h15 : gI S 15 = nI w) (h17 : gI S 17 = nI f) (ha : a < h) (hb : b < h) (hg : ∀ i j, i < h → j ≤ w → gB S 0 (8 * i + j) = g i j) :
    ∃ T, fX7_swaps S (nI a) (nI b) = some T ∧ frW S T ∧ gI T 16 = gI S 16 ∧ gL T 0 = gL S 0 ∧ gA T 10 = gA S 10 ∧ gI T 17 = nI (f + if a = b then 0 else 1) ∧ ∀ i j, i < h → j ≤ w → gB T 0 (8 * i + j) = mSwp a b g i j := by
  rw [fX7_swaps]
  have e2 : (if nI a = nI b then some (0 : Int32) else some 1) = some (nI (if a = b then 0 else 1)) := by
    by_cases e : a = b
    · rw [if_pos (by rw [e]), if_pos e]; rfl
    · rw [if_neg (by rw [nI_eq (by omega) (by omega)]; exact e), if_neg e]; rfl
  rw [e2, Option.bind_some, h17, nI_add]
  generalize hS : sI S 17 (nI (f + if a = b then 0 else 1)) = S1
  have k15 : gI S1 15 = nI w := by rw [← hS]; exact h15
  obtain ⟨t, e1, g', rfl, e2⟩ := loop_up (fun q (g' : Nat → Int64) i => fX7_swaps_L21 (nI a) (nI b) q (sB S1 0 g') i)
    (fun k g' => ∀ i j, i < 9 → j < 8 → g' (8 * i + j) = if j < k then gB S1 0 (8 * mSw a b i + j) else gB S1 0 (8 * i + j))
    (fun t => ∃ g', t = sB S1 0 g' ∧ ∀ i j, i < 9 → j < 8 → g' (8 * i + j) = if j < w + 1 then gB S1 0 (8 * mSw a b i + j) else gB S1 0 (8 * i + j)) (w + 1)
    (fun q k g' hk hI => by
      refine ⟨vp_updL (vp_updL g' (8 * a + k) (g' (8 * b + k))) (8 * b + k) (g' (8 * a + k)), fun i j hi hj => ?_, ?_⟩
      · have hab := hI a k (by omega) (by omega)
        have hba := hI b k (by omega) (by omega)
        have hij := hI i j hi hj
        rw [if_neg (by omega)] at hab hba
        rw [updL_ap, updL_ap, hab, hba, hij]
        by_cases c1 : 8 * i + j = 8 * b + k
        · have : i = b ∧ j = k := by omega
          rw [if_pos c1, this.1, this.2, if_pos (by omega), mSw_b]
        · rw [if_neg c1]
          by_cases c2 : 8 * i + j = 8 * a + k
          · have : i = a ∧ j = k := by omega
            rw [if_pos c2, this.1, this.2, if_pos (by omega), mSw_a]
          · rw [if_neg c2]
            by_cases c3 : j < k
            · rw [if_pos c3, if_pos (by omega)]
            · rw [if_neg c3]
              by_cases c4 : j < k + 1
              · rw [if_pos c4, mSw_o (by omega) (by omega)]
              · rw [if_neg c4]
      · show fX7_swaps_L21 (nI a) (nI b) (q + 1) (sB S1 0 g') (nI k) = _
        rw [fX7_swaps_L21, show gI (sB S1 0 g') 15 = nI w from k15, if_neg (nI_nlt (by omega) (by omega)), ix8, ix8, if_pos (nI_inN (show 8 * a + k < 72 by omega) (by decide)), if_pos (nI_inN (show 8 * b + k < 72 by omega) (by decide)), if_pos (nI_inN (show 8 * a + k < 72 by omega) (by decide)), if_pos (nI_inN (show 8 * b + k < 72 by omega) (by decide)), nI_clamp (by omega), nI_clamp (by omega), nI_1]
        simp only [sB_sB, gB_sB, if_true])
    (fun q g' hI => ⟨_, by
      show fX7_swaps_L21 (nI a) (nI b) (q + 1) (sB S1 0 g') (nI (w + 1)) = _
      rw [fX7_swaps_L21, show gI (sB S1 0 g') 15 = nI w from k15, if_pos (nI_lt (by omega) (by omega))], g', rfl, hI⟩) 256 0 (gB S1 0) (by omega) (by omega) (fun i j _ _ => by rw [if_neg (by omega)])
  have e1' : fX7_swaps_L21 (nI a) (nI b) 256 S1 0 = some (sB S1 0 g') := by
    have := e1
    simp only [sB_self] at this
    exact this
  rw [e1', Option.bind_some]
  have kB : gB S1 0 = gB S 0 := by rw [← hS]; rfl
  refine ⟨_, rfl, frW_tr (by rw [← hS]; exact frW_J S _) (frW_B S1 g'), by rw [← hS]; rfl, by rw [← hS]; rfl, by rw [← hS]; rfl, by rw [← hS]; rfl, fun i j hi hj => ?_⟩
  rw [gB_sB, if_pos rfl, e2 i j (by omega) (by omega), if_pos (by omega), kB]
  unfold mSwp
  have hm : mSw a b i < h := by unfold mSw; split <;> (try split) <;> omega
  exact hg _ j hm hj
theorem m_clears {S : w_S} {g : eM} {h w p c : Nat} (hh : h ≤ 9) (hw : w < 8) (h14 : gI S 14 = nI h) (h15 : gI S 15 = nI w) (hd : gL S 0 ≠ 0) (hp : p < h) (hc : c ≤ w) (hg : ∀ i j, i < h → j ≤ w → gB S 0 (8 * i + j) = g i j) :
    ∃ g', fX7_clears S (nI p) (nI c) = some (sL (sB S 0 g') 0 (g p c)) ∧ ∀ i j, i < h → j ≤ w → g' (8 * i + j) = mSwe p c (gL S 0) g i j := by
  rw [fX7_clears, ix8, if_pos (nI_inN (show 8 * p + c < 72 by omega) (by decide)), nI_clamp (by omega), hg p c hp hc]
  obtain ⟨t, e1, g', rfl, e2⟩ := loop_up (fun q (g' : Nat → Int64) i => fX7_clears_L15 (nI p) (nI c) (g p c) q (sB S 0 g') i)
    (fun k g' => ∀ i j, i < h → j ≤ w → g' (8 * i + j) = if i < k then mSwe p c (gL S 0) g i j else g i j)
    (fun t => ∃ g', t = sB S 0 g' ∧ ∀ i j, i < h → j ≤ w → g' (8 * i + j) = if i < h then mSwe p c (gL S 0) g i j else g i j) h
    (fun q k g0 hk hI => by
      have hx : fX7_clears_L15 (nI p) (nI c) (g p c) (q + 1) (sB S 0 g0) (nI k) = if k = p then fX7_clears_L15 (nI p) (nI c) (g p c) q (sB S 0 g0) (nI (k + 1)) else (fX7_clears_L50 (nI p) (nI c) (g p c) (nI k) (g k c) 256 (sB S 0 g0) 0).bind (fun q47 => fX7_clears_L15 (nI p) (nI c) (g p c) q q47 (nI (k + 1))) := by
        have hkc := hI k c hk hc
        rw [if_neg (by omega)] at hkc
        rw [fX7_clears_L15, show gI (sB S 0 g0) 14 = nI h from h14, if_neg (nI_ge (by omega) (by omega)), ix8, if_pos (nI_inN (show 8 * k + c < 72 by omega) (by decide)), nI_clamp (by omega), gB_sB, if_pos rfl, hkc, nI_1]
        by_cases e : k = p
        · rw [if_pos e, if_pos (by rw [e])]
        · rw [if_neg e, if_neg (by rw [nI_eq (by omega) (by omega)]; exact e)]
      show ∃ g'', _ ∧ fX7_clears_L15 (nI p) (nI c) (g p c) (q + 1) (sB S 0 g0) (nI k) = _
      rw [hx]
      by_cases e : k = p
      · rw [if_pos e]
        refine ⟨g0, fun i j hi hj => ?_, rfl⟩
        rw [hI i j hi hj]
        by_cases c1 : i < k
        · rw [if_pos c1, if_pos (by omega)]
        · rw [if_neg c1]
          by_cases c2 : i < k + 1
          · rw [if_pos c2]; unfold mSwe; rw [if_pos (by omega)]
          · rw [if_neg c2]
      · rw [if_neg e]
        obtain ⟨t, b1, g'', rfl, b2, b3⟩ := loop_up (fun q (g' : Nat → Int64) i => fX7_clears_L50 (nI p) (nI c) (g p c) (nI k) (g k c) q (sB S 0 g') i)
          (fun v g' => (∀ j, j ≤ w → g' (8 * k + j) = if j < v then mSwe p c (gL S 0) g k j else g k j) ∧ (∀ i j, i < h → j ≤ w → i ≠ k → g' (8 * i + j) = g0 (8 * i + j)))
          (fun t => ∃ g', t = sB S 0 g' ∧ (∀ j, j ≤ w → g' (8 * k + j) = mSwe p c (gL S 0) g k j) ∧ (∀ i j, i < h → j ≤ w → i ≠ k → g' (8 * i + j) = g0 (8 * i + j))) (w + 1)
          (fun q v g' hv hI' => by
            obtain ⟨i1, i2⟩ := hI'
            refine ⟨vp_updL g' (8 * k + v) (mSwe p c (gL S 0) g k v), ⟨fun j hj => ?_, fun i j hi hj hik => ?_⟩, ?_⟩
            · rw [updL_ap]
              by_cases c1 : j = v
              · rw [if_pos (by omega), if_pos (by omega), c1]
              · rw [if_neg (by omega), i1 j hj]
                by_cases c2 : j < v
                · rw [if_pos c2, if_pos (by omega)]
                · rw [if_neg c2, if_neg (by omega)]
            · rw [updL_ap, if_neg (by omega)]; exact i2 i j hi hj hik
            · have a1 := i1 v (by omega)
              have a2 := i2 p v hp (by omega) (fun e' => e e'.symm)
              have a3 := hI p v hp (by omega)
              rw [if_neg (by omega)] at a1
              have a4 : g' (8 * p + v) = g p v := by
                rw [a2, a3]
                split
                · unfold mSwe; rw [if_pos rfl]
                · rfl
              show fX7_clears_L50 (nI p) (nI c) (g p c) (nI k) (g k c) (q + 1) (sB S 0 g') (nI v) = _
              rw [fX7_clears_L50, show gI (sB S 0 g') 15 = nI w from h15, if_neg (nI_nlt (by omega) (by omega)), ix8, ix8, if_pos (nI_inN (show 8 * k + v < 72 by omega) (by decide)), if_pos (nI_inN (show 8 * p + v < 72 by omega) (by decide)), show gL (sB S 0 g') 0 = gL S 0 from rfl, if_pos hd, if_pos (nI_inN (show 8 * k + v < 72 by omega) (by decide)), nI_clamp (by omega), nI_clamp (by omega), nI_1, sB_sB, gB_sB, if_pos rfl, a1, a4, Int64.mul_comm (g p c)]
              unfold mSwe
              rw [if_neg e])
          (fun q g' hI' => ⟨_, by
            show fX7_clears_L50 (nI p) (nI c) (g p c) (nI k) (g k c) (q + 1) (sB S 0 g') (nI (w + 1)) = _
            rw [fX7_clears_L50, show gI (sB S 0 g') 15 = nI w from h15, if_pos (nI_lt (by omega) (by omega))], g', rfl, fun j hj => by rw [hI'.1 j hj, if_pos (by omega)], hI'.2⟩) 256 0 g0 (by omega) (by omega) ⟨fun j hj => by rw [hI k j hk hj, if_neg (by omega), if_neg (by omega)], fun _ _ _ _ _ => rfl⟩
        have b1' : fX7_clears_L50 (nI p) (nI c) (g p c) (nI k) (g k c) 256 (sB S 0 g0) 0 = some (sB S 0 g'') := b1
        rw [b1', Option.bind_some]
        refine ⟨g'', fun i j hi hj => ?_, rfl⟩
        by_cases c1 : i = k
        · rw [c1, b2 j hj, if_pos (by omega)]
        · rw [b3 i j hi hj c1, hI i j hi hj]
          by_cases c2 : i < k
          · rw [if_pos c2, if_pos (by omega)]
          · rw [if_neg c2, if_neg (by omega)])
    (fun q g' hI => ⟨_, by
      show fX7_clears_L15 (nI p) (nI c) (g p c) (q + 1) (sB S 0 g') (nI h) = _
      rw [fX7_clears_L15, show gI (sB S 0 g') 14 = nI h from h14, if_pos (Int32.le_refl _)], g', rfl, hI⟩) 256 0 (gB S 0) (by omega) (by omega) (fun i j hi hj => by rw [hg i j hi hj, if_neg (by omega)])
  have e1' : fX7_clears_L15 (nI p) (nI c) (g p c) 256 S 0 = some (sB S 0 g') := by
    have := e1
    simp only [sB_self] at this
    exact this
  rw [e1']
  refine ⟨g', rfl, fun i j hi hj => ?_⟩
  rw [e2 i j hi hj, if_pos hi]
def atM (S : w_S) (h w k : Nat) (E : eT) : Prop := gI S 14 = nI h ∧ gI S 15 = nI w ∧ gI S 16 = nI E.1 ∧ gL S 0 = E.2.1 ∧ gI S 17 = nI E.2.2.1 ∧ (∀ c, c < k → gA S 10 c = E.2.2.2.1 c) ∧ (∀ i j, i < h → j ≤ w → gB S 0 (8 * i + j) = E.2.2.2.2 i j)
theorem m_works (S : w_S) {h w : Nat} {g : eM} (hh : h ≤ 9) (hw : w < 8) (h14 : gI S 14 = nI h) (h15 : gI S 15 = nI w) (hg : ∀ i j, i < h → j ≤ w → gB S 0 (8 * i + j) = g i j) :
    ∃ T, fX7_works S = some T ∧ frW S T ∧ atM T h w w (eRun h w (e0 g)) := by
  rw [fX7_works]
  generalize hS : sL (sI (sI S 16 0) 17 0) 0 1 = S1
  have f1 : frW S S1 := by rw [← hS]; exact frW_tr (frW_tr (frW_I S 0) (frW_J _ 0)) (frW_L _ 1)
  obtain ⟨t, e1, e2⟩ := loop_up (fun q (T : w_S) i => fX7_works_L17 q T i) (fun k T => frW S T ∧ atM T h w k (eRun h k (e0 g))) (fun T => frW S T ∧ atM T h w w (eRun h w (e0 g))) w
    (fun q k T hk hI => by
      obtain ⟨fr, a13, a14, a15, aL, a16, aA, aB⟩ := hI
      have hR := eR_le h (e0 g) (Nat.zero_le _) k
      have hD := eD_ne h (e0 g) (Nat.zero_le _) (show (1 : Int64) ≠ 0 by decide) k
      have e7 : eRun h (k + 1) (e0 g) = eStep h k (eRun h k (e0 g)) := rfl
      rw [e7]
      generalize eRun h k (e0 g) = E at *
      obtain ⟨r, d, f, pv, gg⟩ := E
      have hR0 : (e0 g).1 = 0 := rfl
      simp only [hR0] at *
      have hff := ff_rng gg k (h - r) r
      have hx := m_ff (S := T) (g := gg) hh (show k < 8 by omega) a13 (fun i hi => aB i k hi (by omega)) (h - r) 256 r (by omega) (by omega)
      have hE : eStep h k (r, d, f, pv, gg) = if ff gg k (h - r) r = h then (r, d, f, upd pv k (-1), gg) else (r + 1, gg (ff gg k (h - r) r) k, f + (if ff gg k (h - r) r = r then 0 else 1), upd pv k (nI r), mSwe r k d (mSwp (ff gg k (h - r) r) r gg)) := rfl
      rw [hE]
      show ∃ T', _ ∧ fX7_works_L17 (q + 1) T (nI k) = _
      rw [fX7_works_L17, a14, if_neg (nI_ge (by omega) (by omega)), a15, hx, Option.bind_some, a13, nI_1]
      by_cases c : ff gg k (h - r) r = h
      · rw [if_pos c, c, if_pos (Int32.le_refl _), Option.bind_some, if_pos (nI_inN (show k < 9 by omega) (by decide)), nI_clamp (by omega), if_pos rfl]
        refine ⟨sA T 10 (upd (gA T 10) k (-1)), ⟨frW_tr fr (frW_A T _), ?_⟩, rfl⟩
        refine ⟨a13, a14, a15, aL, a16, fun c' hc' => ?_, aB⟩
        show upd (gA T 10) k (-1) c' = upd pv k (-1) c'
        rw [upd_ap, upd_ap]
        by_cases e : c' = k
        · rw [if_pos e, if_pos e]
        · rw [if_neg e, if_neg e]; exact aA c' (by omega)
      · rw [if_neg c, if_neg (nI_ge (by omega) (by omega)), Option.bind_some, if_pos (nI_inN (show k < 9 by omega) (by decide)), nI_clamp (by omega), if_neg (show ¬ nI (ff gg k (h - r) r) = nI h by rw [nI_eq (by omega) (by omega)]; exact c)]
        obtain ⟨T1, b1, b2, b3, b4, b5, b6, b7⟩ := m_swaps (S := sA T 10 (upd (gA T 10) k (nI r))) (g := gg) (h := h) (w := w) (a := ff gg k (h - r) r) (b := r) (f := f) hh hw a14 a16 (by omega) (by omega) aB
        rw [show gI (sA T 10 (upd (gA T 10) k (nI r))) 16 = nI r from a15] at b3
        have b13 : gI T1 14 = nI h := by rw [b2.1 14 (by omega) (by omega)]; exact a13
        have b14 : gI T1 15 = nI w := by rw [b2.1 15 (by omega) (by omega)]; exact a14
        have b4' : gL T1 0 = d := by rw [b4]; exact aL
        obtain ⟨g', c1, c2⟩ := m_clears (S := T1) (g := mSwp (ff gg k (h - r) r) r gg) (h := h) (w := w) (p := r) (c := k) hh hw b13 b14 (by rw [b4']; exact hD) (by omega) (by omega) b7
        rw [b4'] at c2
        rw [b1, Option.bind_some, b3, c1, Option.bind_some]
        have c3 : mSwp (ff gg k (h - r) r) r gg r k = gg (ff gg k (h - r) r) k := by
          unfold mSwp mSw
          by_cases e : r = ff gg k (h - r) r
          · rw [if_pos e, ← e]
          · rw [if_neg e, if_pos rfl]
        rw [c3, show gI (sL (sB T1 0 g') 0 (gg (ff gg k (h - r) r) k)) 16 = nI r from b3, if_pos (nI_inN (show r < 9 by omega) (by decide)), nI_1]
        refine ⟨_, ⟨?_, ?_⟩, rfl⟩
        · exact frW_tr fr (frW_tr (frW_A T _) (frW_tr b2 (frW_tr (frW_B T1 g') (frW_tr (frW_L _ _) (frW_tr (frW_A9 _ _) (frW_I _ _))))))
        · refine ⟨b13, b14, rfl, rfl, b6, fun c' hc' => ?_, c2⟩
          show gA T1 10 c' = upd pv k (nI r) c'
          rw [b5, gA_sA, if_pos rfl, upd_ap, upd_ap]
          by_cases e : c' = k
          · rw [if_pos e, if_pos e]
          · rw [if_neg e, if_neg e]; exact aA c' (by omega))
    (fun q T hI => ⟨T, by
      show fX7_works_L17 (q + 1) T (nI w) = _
      rw [fX7_works_L17, hI.2.2.1, if_pos (Int32.le_refl _)], hI⟩) 256 0 S1 (by omega) (by omega) ⟨f1, by
      refine ⟨?_, ?_, ?_, ?_, ?_, fun c hc => by omega, ?_⟩
      · rw [f1.1 14 (by omega) (by omega)]; exact h14
      · rw [f1.1 15 (by omega) (by omega)]; exact h15
      · rw [← hS]; rfl
      · rw [← hS]; rfl
      · rw [← hS]; rfl
      · intro i j hi hj
        have : gB S1 0 = gB S 0 := by rw [← hS]; rfl
        rw [this]; exact hg i j hi hj⟩
  have e1' : fX7_works_L17 256 S1 0 = some t := e1
  rw [e1']
  exact ⟨t, rfl, e2⟩
