theorem x_hasCell22 {r c : Nat} (hr : r < 9) (hc : c < 10) : fX1_hasCell_22 (nI r) (nI c) = some 1 := by
  rw [fX1_hasCell_22, if_neg (nI_pos (by omega)), show (9 : Int32) = nI 9 from rfl, if_neg (nI_ge (by omega) (by omega)), if_neg (nI_pos (by omega)), show (10 : Int32) = nI 10 from rfl, if_neg (nI_ge (by omega) (by omega))]
theorem x_cell22 (S : w_S) {r c : Nat} (hr : r < 9) (hc : c < 10) : fX1_cell_22 S (nI r) (nI c) = some (gB S 1 (10 * r + c)) := by
  rw [fX1_cell_22, x_hasCell22 hr hc, Option.bind_some, if_neg (show ¬ (1 : Int32) = 0 by decide), ix90 hr hc, if_pos (nI_inN (show 10 * r + c < 90 by omega) (by decide)), nI_clamp (by omega)]
theorem x_wr22 (S : w_S) {r c : Nat} (hr : r < 9) (hc : c < 10) (v : Int64) : fX1_write_22 S (nI r) (nI c) v = some (sB S 1 (vp_updL (gB S 1) (10 * r + c) v)) := by
  rw [fX1_write_22, x_hasCell22 hr hc, Option.bind_some, if_neg (show ¬ (1 : Int32) = 0 by decide), ix90 hr hc, if_pos (nI_inN (show 10 * r + c < 90 by omega) (by decide)), nI_clamp (by omega)]
/-! ===== the class's other grid ===== -/
def fr22 (S T : w_S) : Prop := (∀ k, k ≠ 19 → k ≠ 20 → gI T k = gI S k) ∧ (∀ k, k ≠ 1 → gL T k = gL S k) ∧ (∀ k, k ≠ 16 → gA T k = gA S k) ∧ (∀ k, k ≠ 1 → gB T k = gB S k)
theorem fr22_tr {S T U : w_S} (h : fr22 S T) (g : fr22 T U) : fr22 S U := ⟨fun k a b => (g.1 k a b).trans (h.1 k a b), fun k a => (g.2.1 k a).trans (h.2.1 k a), fun k a => (g.2.2.1 k a).trans (h.2.2.1 k a), fun k a => (g.2.2.2 k a).trans (h.2.2.2 k a)⟩
theorem fr22_B (S : w_S) (g : Nat → Int64) : fr22 S (sB S 1 g) := ⟨fun _ _ _ => rfl, fun _ _ => rfl, fun _ _ => rfl, fun k h => by rw [gB_sB, if_neg h]⟩
theorem fr22_A (S : w_S) (g : Nat → Int32) : fr22 S (sA S 16 g) := ⟨fun _ _ _ => rfl, fun _ _ => rfl, fun k h => by rw [gA_sA, if_neg h], fun k h => rfl⟩
theorem fr22_I (S : w_S) (v : Int32) : fr22 S (sI S 19 v) := ⟨fun k h _ => by rw [gI_sI, if_neg h], fun _ _ => rfl, fun k h => rfl, fun k h => rfl⟩
theorem fr22_J (S : w_S) (v : Int32) : fr22 S (sI S 20 v) := ⟨fun k _ h => by rw [gI_sI, if_neg h], fun _ _ => rfl, fun k h => rfl, fun k h => rfl⟩
theorem fr22_L (S : w_S) (v : Int64) : fr22 S (sL S 1 v) := ⟨fun k _ _ => rfl, fun k h => by rw [gL_sL, if_neg h], fun k h => rfl, fun k h => rfl⟩
theorem x_ff22 {S : w_S} {g : eM} {h c : Nat} (hh : h ≤ 9) (hc : c < 10) (h17_ : gI S 17 = nI h) (hg : ∀ i, i < h → gB S 1 (10 * i + c) = g i c) (K : Option Int32) : ∀ n q r, r + n = h → n < q → fX1_firstFilled_22_L5 K S (nI c) q (nI r) = if ff g c n r = h then K else some (nI (ff g c n r))
  | _, 0, _ => fun h1 h2 => absurd h2 (Nat.not_lt_zero _)
  | 0, q + 1, r => fun h1 h2 => by
    rw [fX1_firstFilled_22_L5, h17_, ff, if_pos (by rw [nI_leI (by omega) (by omega)]; omega), if_pos (by omega)]
  | n + 1, q + 1, r => fun h1 h2 => by
    rw [fX1_firstFilled_22_L5, h17_, if_neg (nI_ge (by omega) (by omega)), x_cell22 S (by omega) hc, Option.bind_some, hg r (by omega), ff]
    by_cases e : g r c = 0
    · rw [if_pos e, if_pos e, nI_1]
      exact x_ff22 hh hc h17_ hg K n q (r + 1) (by omega) (by omega)
    · rw [if_neg e, if_neg e, if_neg (by omega)]
theorem x_swapRows22 {S : w_S} {g : eM} {h w a b f : Nat} (hh : h ≤ 9) (hw : w < 10) (h18_ : gI S 18 = nI w) (h16 : gI S 20 = nI (f % 2)) (ha : a < h) (hb : b < h) (hg : ∀ i j, i < h → j ≤ w → gB S 1 (10 * i + j) = g i j) :
    ∃ T, fX1_swapRows_22 S (nI a) (nI b) = some T ∧ fr22 S T ∧ gI T 19 = gI S 19 ∧ gL T 1 = gL S 1 ∧ gA T 16 = gA S 16 ∧ gI T 20 = nI ((f + if a = b then 0 else 1) % 2) ∧ ∀ i j, i < h → j ≤ w → gB T 1 (10 * i + j) = mSwp a b g i j := by
  rw [fX1_swapRows_22]
  by_cases e : a = b
  · subst e
    rw [if_pos rfl]
    refine ⟨S, rfl, ⟨fun _ _ _ => rfl, fun _ _ => rfl, fun _ _ => rfl, fun _ _ => rfl⟩, rfl, rfl, rfl, by rw [if_pos rfl]; exact h16, fun i j hi hj => ?_⟩
    rw [hg i j hi hj]; unfold mSwp mSw
    by_cases c : i = a
    · rw [if_pos c, c]
    · rw [if_neg c, if_neg c]
  · have e2 : (if gI S 20 = 0 then some (1 : Int32) else some 0) = some (nI ((f + 1) % 2)) := by
      rw [h16]
      rcases Nat.mod_two_eq_zero_or_one f with c | c
      · rw [c, show (f + 1) % 2 = 1 by omega]; decide
      · rw [c, show (f + 1) % 2 = 0 by omega]; decide
    rw [if_neg (by rw [nI_eq (by omega) (by omega)]; exact e), e2, Option.bind_some, if_pos (by rcases Nat.mod_two_eq_zero_or_one (f + 1) with c | c <;> rw [c] <;> decide), if_neg e]
    generalize hS : sI S 20 (nI ((f + 1) % 2)) = S1
    have k14 : gI S1 18 = nI w := by rw [← hS]; exact h18_
    obtain ⟨t, e1, g', rfl, e2⟩ := loop_up (fun q (g' : Nat → Int64) i => fX1_swapRows_22_L24 (nI a) (nI b) q (sB S1 1 g') i)
      (fun k g' => ∀ i j, i < 9 → j < 10 → g' (10 * i + j) = if j < k then gB S1 1 (10 * mSw a b i + j) else gB S1 1 (10 * i + j))
      (fun t => ∃ g', t = sB S1 1 g' ∧ ∀ i j, i < 9 → j < 10 → g' (10 * i + j) = if j < w + 1 then gB S1 1 (10 * mSw a b i + j) else gB S1 1 (10 * i + j)) (w + 1)
      (fun q k g' hk hI => by
        refine ⟨vp_updL (vp_updL g' (10 * a + k) (g' (10 * b + k))) (10 * b + k) (g' (10 * a + k)), fun i j hi hj => ?_, ?_⟩
        · have hab := hI a k (by omega) (by omega)
          have hba := hI b k (by omega) (by omega)
          have hij := hI i j hi hj
          rw [if_neg (by omega)] at hab hba
          rw [updL_ap, updL_ap, hab, hba, hij]
          by_cases c1 : 10 * i + j = 10 * b + k
          · have : i = b ∧ j = k := by omega
            rw [if_pos c1, this.1, this.2, if_pos (by omega), mSw_b]
          · rw [if_neg c1]
            by_cases c2 : 10 * i + j = 10 * a + k
            · have : i = a ∧ j = k := by omega
              rw [if_pos c2, this.1, this.2, if_pos (by omega), mSw_a]
            · rw [if_neg c2]
              by_cases c3 : j < k
              · rw [if_pos c3, if_pos (by omega)]
              · rw [if_neg c3]
                by_cases c4 : j < k + 1
                · rw [if_pos c4, mSw_o (by omega) (by omega)]
                · rw [if_neg c4]
        · show fX1_swapRows_22_L24 (nI a) (nI b) (q + 1) (sB S1 1 g') (nI k) = _
          rw [fX1_swapRows_22_L24, show gI (sB S1 1 g') 18 = nI w from k14, if_neg (nI_nlt (by omega) (by omega)), x_cell22 _ (by omega) (by omega), Option.bind_some, x_cell22 _ (by omega) (by omega), Option.bind_some, x_wr22 _ (by omega) (by omega), Option.bind_some, x_wr22 _ (by omega) (by omega), Option.bind_some, nI_1]
          simp only [sB_sB, gB_sB, if_true])
      (fun q g' hI => ⟨_, by
        show fX1_swapRows_22_L24 (nI a) (nI b) (q + 1) (sB S1 1 g') (nI (w + 1)) = _
        rw [fX1_swapRows_22_L24, show gI (sB S1 1 g') 18 = nI w from k14, if_pos (nI_lt (by omega) (by omega))], g', rfl, hI⟩) 256 0 (gB S1 1) (by omega) (by omega) (fun i j _ _ => by rw [if_neg (by omega)])
    have e1' : fX1_swapRows_22_L24 (nI a) (nI b) 256 S1 0 = some (sB S1 1 g') := by
      have := e1
      simp only [sB_self] at this
      exact this
    rw [e1', Option.bind_some]
    have kB : gB S1 1 = gB S 1 := by rw [← hS]; rfl
    refine ⟨_, rfl, fr22_tr (by rw [← hS]; exact fr22_J S _) (fr22_B S1 g'), by rw [← hS]; rfl, by rw [← hS]; rfl, by rw [← hS]; rfl, by rw [← hS]; rfl, fun i j hi hj => ?_⟩
    rw [gB_sB, if_pos rfl, e2 i j (by omega) (by omega), if_pos (by omega), kB]
    unfold mSwp
    have hm : mSw a b i < h := by unfold mSw; split <;> (try split) <;> omega
    exact hg _ j hm hj
theorem x_sweep22 {S : w_S} {g : eM} {h w p c : Nat} (hh : h ≤ 9) (hw : w < 10) (h17_ : gI S 17 = nI h) (h18_ : gI S 18 = nI w) (hd : gL S 1 ≠ 0) (hp : p < h) (hc : c ≤ w) (hg : ∀ i j, i < h → j ≤ w → gB S 1 (10 * i + j) = g i j) :
    ∃ g', fX1_sweep_22 S (nI p) (nI c) = some (sB S 1 g') ∧ ∀ i j, i < h → j ≤ w → g' (10 * i + j) = mSwe p c (gL S 1) g i j := by
  rw [fX1_sweep_22, if_neg hd, x_cell22 S (by omega) (by omega), Option.bind_some, hg p c hp hc]
  obtain ⟨t, e1, g', rfl, e2⟩ := loop_up (fun q (g' : Nat → Int64) i => fX1_sweep_22_L20 (nI p) (nI c) (g p c) q (sB S 1 g') i)
    (fun k g' => ∀ i j, i < h → j ≤ w → g' (10 * i + j) = if i < k then mSwe p c (gL S 1) g i j else g i j)
    (fun t => ∃ g', t = sB S 1 g' ∧ ∀ i j, i < h → j ≤ w → g' (10 * i + j) = if i < h then mSwe p c (gL S 1) g i j else g i j) h
    (fun q k g0 hk hI => by
      have hx : fX1_sweep_22_L20 (nI p) (nI c) (g p c) (q + 1) (sB S 1 g0) (nI k) = if k = p then fX1_sweep_22_L20 (nI p) (nI c) (g p c) q (sB S 1 g0) (nI (k + 1)) else (fX1_sweep_22_L47 (nI p) (nI c) (g p c) (nI k) (g k c) 256 (sB S 1 g0) 0).bind (fun q47 => fX1_sweep_22_L20 (nI p) (nI c) (g p c) q q47 (nI (k + 1))) := by
        have hkc := hI k c hk hc
        rw [if_neg (by omega)] at hkc
        rw [fX1_sweep_22_L20, show gI (sB S 1 g0) 17 = nI h from h17_, if_neg (nI_ge (by omega) (by omega)), x_cell22 _ (by omega) (by omega), Option.bind_some, gB_sB, if_pos rfl, hkc, nI_1]
        by_cases e : k = p
        · rw [if_pos e, if_pos (by rw [e])]
        · rw [if_neg e, if_neg (by rw [nI_eq (by omega) (by omega)]; exact e)]
      show ∃ g'', _ ∧ fX1_sweep_22_L20 (nI p) (nI c) (g p c) (q + 1) (sB S 1 g0) (nI k) = _
      rw [hx]
      by_cases e : k = p
      · rw [if_pos e]
        refine ⟨g0, fun i j hi hj => ?_, rfl⟩
        rw [hI i j hi hj]
        by_cases c1 : i < k
        · rw [if_pos c1, if_pos (by omega)]
        · rw [if_neg c1]
          by_cases c2 : i < k + 1
          · rw [if_pos c2]; unfold mSwe; rw [if_pos (by omega)]
          · rw [if_neg c2]
      · rw [if_neg e]
        obtain ⟨t, b1, g'', rfl, b2, b3⟩ := loop_up (fun q (g' : Nat → Int64) i => fX1_sweep_22_L47 (nI p) (nI c) (g p c) (nI k) (g k c) q (sB S 1 g') i)
          (fun v g' => (∀ j, j ≤ w → g' (10 * k + j) = if j < v then mSwe p c (gL S 1) g k j else g k j) ∧ (∀ i j, i < h → j ≤ w → i ≠ k → g' (10 * i + j) = g0 (10 * i + j)))
          (fun t => ∃ g', t = sB S 1 g' ∧ (∀ j, j ≤ w → g' (10 * k + j) = mSwe p c (gL S 1) g k j) ∧ (∀ i j, i < h → j ≤ w → i ≠ k → g' (10 * i + j) = g0 (10 * i + j))) (w + 1)
          (fun q v g' hv hI' => by
            obtain ⟨i1, i2⟩ := hI'
            refine ⟨vp_updL g' (10 * k + v) (mSwe p c (gL S 1) g k v), ⟨fun j hj => ?_, fun i j hi hj hik => ?_⟩, ?_⟩
            · rw [updL_ap]
              by_cases c1 : j = v
              · rw [if_pos (by omega), if_pos (by omega), c1]
              · rw [if_neg (by omega), i1 j hj]
                by_cases c2 : j < v
                · rw [if_pos c2, if_pos (by omega)]
                · rw [if_neg c2, if_neg (by omega)]
            · rw [updL_ap, if_neg (by omega)]; exact i2 i j hi hj hik
            · have a1 := i1 v (by omega)
              have a2 := i2 p v hp (by omega) (fun e' => e e'.symm)
              have a3 := hI p v hp (by omega)
              rw [if_neg (by omega)] at a1
              have a4 : g' (10 * p + v) = g p v := by
                rw [a2, a3]
                split
                · unfold mSwe; rw [if_pos rfl]
                · rfl
              show fX1_sweep_22_L47 (nI p) (nI c) (g p c) (nI k) (g k c) (q + 1) (sB S 1 g') (nI v) = _
              rw [fX1_sweep_22_L47, show gI (sB S 1 g') 18 = nI w from h18_, if_neg (nI_nlt (by omega) (by omega)), x_cell22 _ (by omega) (by omega), Option.bind_some, x_cell22 _ (by omega) (by omega), Option.bind_some, show gL (sB S 1 g') 1 = gL S 1 from rfl, if_pos hd, x_wr22 _ (by omega) (by omega), Option.bind_some, nI_1, sB_sB, gB_sB, if_pos rfl, a1, a4]
              unfold mSwe
              rw [if_neg e])
          (fun q g' hI' => ⟨_, by
            show fX1_sweep_22_L47 (nI p) (nI c) (g p c) (nI k) (g k c) (q + 1) (sB S 1 g') (nI (w + 1)) = _
            rw [fX1_sweep_22_L47, show gI (sB S 1 g') 18 = nI w from h18_, if_pos (nI_lt (by omega) (by omega))], g', rfl, fun j hj => by rw [hI'.1 j hj, if_pos (by omega)], hI'.2⟩) 256 0 g0 (by omega) (by omega) ⟨fun j hj => by rw [hI k j hk hj, if_neg (by omega), if_neg (by omega)], fun _ _ _ _ _ => rfl⟩
        have b1' : fX1_sweep_22_L47 (nI p) (nI c) (g p c) (nI k) (g k c) 256 (sB S 1 g0) 0 = some (sB S 1 g'') := b1
        rw [b1', Option.bind_some]
        refine ⟨g'', fun i j hi hj => ?_, rfl⟩
        by_cases c1 : i = k
        · rw [c1, b2 j hj, if_pos (by omega)]
        · rw [b3 i j hi hj c1, hI i j hi hj]
          by_cases c2 : i < k
          · rw [if_pos c2, if_pos (by omega)]
          · rw [if_neg c2, if_neg (by omega)])
    (fun q g' hI => ⟨_, by
      show fX1_sweep_22_L20 (nI p) (nI c) (g p c) (q + 1) (sB S 1 g') (nI h) = _
      rw [fX1_sweep_22_L20, show gI (sB S 1 g') 17 = nI h from h17_, if_pos (Int32.le_refl _)], g', rfl, hI⟩) 256 0 (gB S 1) (by omega) (by omega) (fun i j hi hj => by rw [hg i j hi hj, if_neg (by omega)])
  have e1' : fX1_sweep_22_L20 (nI p) (nI c) (g p c) 256 S 0 = some (sB S 1 g') := by
    have := e1
    simp only [sB_self] at this
    exact this
  rw [e1']
  refine ⟨g', rfl, fun i j hi hj => ?_⟩
  rw [e2 i j hi hj, if_pos hi]
/-- the machine's state is the pure one -/
def at22 (S : w_S) (h w k : Nat) (E : eT) : Prop := gI S 17 = nI h ∧ gI S 18 = nI w ∧ gI S 19 = nI E.1 ∧ gL S 1 = E.2.1 ∧ gI S 20 = nI (E.2.2.1 % 2) ∧ (∀ c, c < k → gA S 16 c = E.2.2.2.1 c) ∧ (∀ i j, i < h → j ≤ w → gB S 1 (10 * i + j) = E.2.2.2.2 i j)
theorem x_elim22 (S : w_S) {h w : Nat} {g : eM} (hh : h ≤ 9) (hw : w < 10) (h17_ : gI S 17 = nI h) (h18_ : gI S 18 = nI w) (hg : ∀ i j, i < h → j ≤ w → gB S 1 (10 * i + j) = g i j) :
    ∃ T, fX1_eliminate_22 S = some T ∧ fr22 S T ∧ at22 T h w w (eRun h w (e0 g)) := by
  rw [fX1_eliminate_22]
  generalize hS : sI (sL (sI S 19 0) 1 1) 20 0 = S1
  have f1 : fr22 S S1 := by rw [← hS]; exact fr22_tr (fr22_tr (fr22_I S 0) (fr22_L _ 1)) (fr22_J _ 0)
  obtain ⟨t, e1, e2⟩ := loop_up (fun q (T : w_S) i => fX1_eliminate_22_L17 q T i) (fun k T => fr22 S T ∧ at22 T h w k (eRun h k (e0 g))) (fun T => fr22 S T ∧ at22 T h w w (eRun h w (e0 g))) w
    (fun q k T hk hI => by
      obtain ⟨fr, a13, a14, a15, aL, a16, aA, aB⟩ := hI
      have hR := eR_le h (e0 g) (Nat.zero_le _) k
      have hD := eD_ne h (e0 g) (Nat.zero_le _) (show (1 : Int64) ≠ 0 by decide) k
      have e7 : eRun h (k + 1) (e0 g) = eStep h k (eRun h k (e0 g)) := rfl
      rw [e7]
      generalize eRun h k (e0 g) = E at *
      obtain ⟨r, d, f, pv, gg⟩ := E
      have hR0 : (e0 g).1 = 0 := rfl
      simp only [hR0] at *
      have hff := ff_rng gg k (h - r) r
      have hx := x_ff22 (S := T) (g := gg) hh (show k < 10 by omega) a13 (fun i hi => aB i k hi (by omega)) (some (-1)) (h - r) 256 r (by omega) (by omega)
      have hx' : fX1_firstFilled_22 T (nI k) = if ff gg k (h - r) r = h then some (-1) else some (nI (ff gg k (h - r) r)) := by
        rw [fX1_firstFilled_22, a15]; exact hx
      show ∃ T', _ ∧ fX1_eliminate_22_L17 (q + 1) T (nI k) = _
      rw [fX1_eliminate_22_L17, a14, if_neg (nI_ge (by omega) (by omega)), show (10 : Int32) = nI 10 from rfl, if_neg (nI_ge (by omega) (by omega)), hx', nI_1]
      have hE : eStep h k (r, d, f, pv, gg) = if ff gg k (h - r) r = h then (r, d, f, upd pv k (-1), gg) else (r + 1, gg (ff gg k (h - r) r) k, f + (if ff gg k (h - r) r = r then 0 else 1), upd pv k (nI r), mSwe r k d (mSwp (ff gg k (h - r) r) r gg)) := rfl
      rw [hE]
      by_cases c : ff gg k (h - r) r = h
      · rw [if_pos c, if_pos c, Option.bind_some, if_neg (by decide), Option.bind_some, if_pos (nI_inN (show k < 10 by omega) (by decide)), nI_clamp (by omega), if_pos (by decide)]
        refine ⟨sA T 16 (upd (gA T 16) k (-1)), ⟨fr22_tr fr (fr22_A T _), ?_⟩, rfl⟩
        refine ⟨a13, a14, a15, aL, a16, fun c' hc' => ?_, aB⟩
        show upd (gA T 16) k (-1) c' = upd pv k (-1) c'
        rw [upd_ap, upd_ap]
        by_cases e : c' = k
        · rw [if_pos e, if_pos e]
        · rw [if_neg e, if_neg e]; exact aA c' (by omega)
      · rw [if_neg c, if_neg c, Option.bind_some, if_pos (nI_nn0 _ (by omega)), a15, Option.bind_some, if_pos (nI_inN (show k < 10 by omega) (by decide)), nI_clamp (by omega), if_neg (nI_pos (by omega))]
        obtain ⟨T1, b1, b2, b3, b4, b5, b6, b7⟩ := x_swapRows22 (S := sA T 16 (upd (gA T 16) k (nI r))) (g := gg) (h := h) (w := w) (a := ff gg k (h - r) r) (b := r) (f := f) hh hw a14 a16 (by omega) (by omega) aB
        rw [show gI (sA T 16 (upd (gA T 16) k (nI r))) 19 = nI r from a15] at b3
        have b13 : gI T1 17 = nI h := by rw [b2.1 17 (by omega) (by omega)]; exact a13
        have b14 : gI T1 18 = nI w := by rw [b2.1 18 (by omega) (by omega)]; exact a14
        have b4' : gL T1 1 = d := by rw [b4]; exact aL
        obtain ⟨g', c1, c2⟩ := x_sweep22 (S := T1) (g := mSwp (ff gg k (h - r) r) r gg) (h := h) (w := w) (p := r) (c := k) hh hw b13 b14 (by rw [b4']; exact hD) (by omega) (by omega) b7
        rw [b4'] at c2
        rw [b1, Option.bind_some, b3, c1, Option.bind_some]
        show ∃ T', _ ∧ (fX1_cell_22 (sB T1 1 g') (gI T1 19) (nI k)).bind _ = _
        rw [b3, x_cell22 _ (by omega) (by omega), Option.bind_some, gB_sB, if_pos rfl, c2 r k (by omega) (by omega)]
        refine ⟨_, ⟨?_, ?_⟩, rfl⟩
        · exact fr22_tr fr (fr22_tr (fr22_A T _) (fr22_tr b2 (fr22_tr (fr22_B T1 g') (fr22_tr (fr22_L _ _) (fr22_I _ _)))))
        · refine ⟨b13, b14, ?_, ?_, ?_, fun c' hc' => ?_, c2⟩
          · show gI T1 19 + 1 = nI (r + 1)
            rw [b3, nI_1]
          · show mSwe r k d (mSwp (ff gg k (h - r) r) r gg) r k = gg (ff gg k (h - r) r) k
            unfold mSwe mSwp mSw
            rw [if_pos rfl]
            by_cases e : r = ff gg k (h - r) r
            · rw [if_pos e, ← e]
            · rw [if_neg e, if_pos rfl]
          · exact b6
          · show gA T1 16 c' = upd pv k (nI r) c'
            rw [b5, gA_sA, if_pos rfl, upd_ap, upd_ap]
            by_cases e : c' = k
            · rw [if_pos e, if_pos e]
            · rw [if_neg e, if_neg e]; exact aA c' (by omega))
    (fun q T hI => ⟨T, by
      show fX1_eliminate_22_L17 (q + 1) T (nI w) = _
      rw [fX1_eliminate_22_L17, hI.2.2.1, if_pos (Int32.le_refl _)], hI⟩) 256 0 S1 (by omega) (by omega) ⟨f1, by
      refine ⟨?_, ?_, ?_, ?_, ?_, fun c hc => by omega, ?_⟩
      · rw [f1.1 17 (by omega) (by omega)]; exact h17_
      · rw [f1.1 18 (by omega) (by omega)]; exact h18_
      · rw [← hS]; rfl
      · rw [← hS]; rfl
      · rw [← hS]; rfl
      · intro i j hi hj
        have : gB S1 1 = gB S 1 := by rw [← hS]; rfl
        rw [this]; exact hg i j hi hj⟩
  have e1' : fX1_eliminate_22_L17 256 S1 0 = some t := e1
  rw [e1']
  exact ⟨t, rfl, e2⟩
