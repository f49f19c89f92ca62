/-! ===== elimination, without a machine: rank, below, flips, pivots, cells ===== -/
abbrev eM : Type := Nat → Nat → Int64
abbrev eT : Type := Nat × Int64 × Nat × (Nat → Int32) × eM
def mSw (a b r : Nat) : Nat := if r = a then b else if r = b then a else r
def mSwp (a b : Nat) (g : eM) : eM := fun r c => g (mSw a b r) c
def mSwe (p c : Nat) (d : Int64) (g : eM) : eM := fun r j => if r = p then g r j else (g r j * g p c - g r c * g p j) / d
def ff (g : eM) (c : Nat) : Nat → Nat → Nat
  | 0, r => r
  | n + 1, r => if g r c = 0 then ff g c n (r + 1) else r
def eStep (h c : Nat) (E : eT) : eT := if ff E.2.2.2.2 c (h - E.1) E.1 = h then (E.1, E.2.1, E.2.2.1, upd E.2.2.2.1 c (-1), E.2.2.2.2) else (E.1 + 1, E.2.2.2.2 (ff E.2.2.2.2 c (h - E.1) E.1) c, E.2.2.1 + (if ff E.2.2.2.2 c (h - E.1) E.1 = E.1 then 0 else 1), upd E.2.2.2.1 c (nI E.1), mSwe E.1 c E.2.1 (mSwp (ff E.2.2.2.2 c (h - E.1) E.1) E.1 E.2.2.2.2))
def eRun (h : Nat) : Nat → eT → eT
  | 0, E => E
  | c + 1, E => eStep h c (eRun h c E)
def e0 (g : eM) : eT := (0, 1, 0, fun _ => 0, g)
theorem ff_rng (g : eM) (c : Nat) : ∀ n r, r ≤ ff g c n r ∧ ff g c n r ≤ r + n
  | 0, r => ⟨Nat.le_refl _, Nat.le_refl _⟩
  | n + 1, r => by
    rw [ff]
    split
    · have := ff_rng g c n (r + 1); omega
    · omega
theorem ff_ne (g : eM) (c : Nat) : ∀ n r, ff g c n r < r + n → g (ff g c n r) c ≠ 0
  | 0, r => fun h => by rw [ff] at h; omega
  | n + 1, r => fun h => by
    rw [ff] at h ⊢
    split
    · rename_i e; rw [if_pos e] at h; exact ff_ne g c n (r + 1) (by omega)
    · rename_i e; exact e
theorem ff_0 (g : eM) (c : Nat) : ∀ n r i, r ≤ i → i < ff g c n r → g i c = 0
  | 0, r => fun i h1 h2 => by rw [ff] at h2; omega
  | n + 1, r => fun i h1 h2 => by
    rw [ff] at h2
    split at h2
    · rename_i e
      rcases Nat.lt_or_ge r i with h | h
      · exact ff_0 g c n (r + 1) i h h2
      · have : i = r := by omega
        rw [this]; exact e
    · omega
theorem eR_le (h : Nat) (E : eT) (h0 : E.1 ≤ h) : ∀ k, (eRun h k E).1 ≤ h ∧ (eRun h k E).1 ≤ E.1 + k
  | 0 => ⟨h0, Nat.le_refl _⟩
  | k + 1 => by
    have hi := eR_le h E h0 k
    rw [eRun, eStep]
    have hf := ff_rng (eRun h k E).2.2.2.2 k (h - (eRun h k E).1) (eRun h k E).1
    split
    · exact ⟨hi.1, by show (eRun h k E).1 ≤ _; omega⟩
    · rename_i e
      refine ⟨?_, by show (eRun h k E).1 + 1 ≤ _; omega⟩
      show (eRun h k E).1 + 1 ≤ h
      omega
theorem eD_ne (h : Nat) (E : eT) (h0 : E.1 ≤ h) (h1 : E.2.1 ≠ 0) : ∀ k, (eRun h k E).2.1 ≠ 0
  | 0 => h1
  | k + 1 => by
    have hi := eD_ne h E h0 h1 k
    have hr := eR_le h E h0 k
    rw [eRun, eStep]
    have hf := ff_rng (eRun h k E).2.2.2.2 k (h - (eRun h k E).1) (eRun h k E).1
    split
    · exact hi
    · rename_i e
      exact ff_ne _ _ _ _ (by omega)
theorem nI_neg1 : (-1 : Int32) = nI 4294967295 := by decide
theorem nI_nn0 (a : Nat) (h : a < 2 ^ 31) : 0 ≤ nI a := by rw [i_le, ti_0, nI_toInt h]; omega
/-! ===== the class's grid ===== -/
def fr19 (S T : w_S) : Prop := (∀ k, k ≠ 15 → k ≠ 16 → gI T k = gI S k) ∧ (∀ k, k ≠ 0 → gL T k = gL S k) ∧ (∀ k, k ≠ 15 → gA T k = gA S k) ∧ (∀ k, k ≠ 0 → gB T k = gB S k)
theorem fr19_tr {S T U : w_S} (h : fr19 S T) (g : fr19 T U) : fr19 S U := ⟨fun k a b => (g.1 k a b).trans (h.1 k a b), fun k a => (g.2.1 k a).trans (h.2.1 k a), fun k a => (g.2.2.1 k a).trans (h.2.2.1 k a), fun k a => (g.2.2.2 k a).trans (h.2.2.2 k a)⟩
theorem fr19_B (S : w_S) (g : Nat → Int64) : fr19 S (sB S 0 g) := ⟨fun _ _ _ => rfl, fun _ _ => rfl, fun _ _ => rfl, fun k h => by rw [gB_sB, if_neg h]⟩
theorem fr19_A (S : w_S) (g : Nat → Int32) : fr19 S (sA S 15 g) := ⟨fun _ _ _ => rfl, fun _ _ => rfl, fun k h => by rw [gA_sA, if_neg h], fun k h => rfl⟩
theorem fr19_I (S : w_S) (v : Int32) : fr19 S (sI S 15 v) := ⟨fun k h _ => by rw [gI_sI, if_neg h], fun _ _ => rfl, fun k h => rfl, fun k h => rfl⟩
theorem fr19_J (S : w_S) (v : Int32) : fr19 S (sI S 16 v) := ⟨fun k _ h => by rw [gI_sI, if_neg h], fun _ _ => rfl, fun k h => rfl, fun k h => rfl⟩
theorem fr19_L (S : w_S) (v : Int64) : fr19 S (sL S 0 v) := ⟨fun k _ _ => rfl, fun k h => by rw [gL_sL, if_neg h], fun k h => rfl, fun k h => rfl⟩
theorem x_ff {S : w_S} {g : eM} {h c : Nat} (hh : h ≤ 9) (hc : c < 10) (h13 : gI S 13 = nI h) (hg : ∀ i, i < h → gB S 0 (10 * i + c) = g i c) (K : Option Int32) : ∀ n q r, r + n = h → n < q → fX1_firstFilled_19_L5 K S (nI c) q (nI r) = if ff g c n r = h then K else some (nI (ff g c n r))
  | _, 0, _ => fun h1 h2 => absurd h2 (Nat.not_lt_zero _)
  | 0, q + 1, r => fun h1 h2 => by
    rw [fX1_firstFilled_19_L5, h13, ff, if_pos (by rw [nI_leI (by omega) (by omega)]; omega), if_pos (by omega)]
  | n + 1, q + 1, r => fun h1 h2 => by
    rw [fX1_firstFilled_19_L5, h13, if_neg (nI_ge (by omega) (by omega)), x_cell S (by omega) hc, Option.bind_some, hg r (by omega), ff]
    by_cases e : g r c = 0
    · rw [if_pos e, if_pos e, nI_1]
      exact x_ff hh hc h13 hg K n q (r + 1) (by omega) (by omega)
    · rw [if_neg e, if_neg e, if_neg (by omega)]
theorem mSw_a (a b : Nat) : mSw a b a = b := by unfold mSw; rw [if_pos rfl]
theorem mSw_b (a b : Nat) : mSw a b b = a := by
  unfold mSw
  split
  · rename_i e; exact e
  · rw [if_pos rfl]
theorem mSw_o {a b i : Nat} (h1 : i ≠ a) (h2 : i ≠ b) : mSw a b i = i := by unfold mSw; rw [if_neg h1, if_neg h2]
theorem x_swapRows {S : w_S} {g : eM} {h w a b f : Nat} (hh : h ≤ 9) (hw : w < 10) (h14 : gI S 14 = nI w) (h16 : gI S 16 = nI (f % 2)) (ha : a < h) (hb : b < h) (hg : ∀ i j, i < h → j ≤ w → gB S 0 (10 * i + j) = g i j) :
    ∃ T, fX1_swapRows_19 S (nI a) (nI b) = some T ∧ fr19 S T ∧ gI T 15 = gI S 15 ∧ gL T 0 = gL S 0 ∧ gA T 15 = gA S 15 ∧ gI T 16 = nI ((f + if a = b then 0 else 1) % 2) ∧ ∀ i j, i < h → j ≤ w → gB T 0 (10 * i + j) = mSwp a b g i j := by
  rw [fX1_swapRows_19]
  by_cases e : a = b
  · subst e
    rw [if_pos rfl]
    refine ⟨S, rfl, ⟨fun _ _ _ => rfl, fun _ _ => rfl, fun _ _ => rfl, fun _ _ => rfl⟩, rfl, rfl, rfl, by rw [if_pos rfl]; exact h16, fun i j hi hj => ?_⟩
    rw [hg i j hi hj]; unfold mSwp mSw
    by_cases c : i = a
    · rw [if_pos c, c]
    · rw [if_neg c, if_neg c]
  · have e2 : (if gI S 16 = 0 then some (1 : Int32) else some 0) = some (nI ((f + 1) % 2)) := by
      rw [h16]
      rcases Nat.mod_two_eq_zero_or_one f with c | c
      · rw [c, show (f + 1) % 2 = 1 by omega]; decide
      · rw [c, show (f + 1) % 2 = 0 by omega]; decide
    rw [if_neg (by rw [nI_eq (by omega) (by omega)]; exact e), e2, Option.bind_some, if_pos (by rcases Nat.mod_two_eq_zero_or_one (f + 1) with c | c <;> rw [c] <;> decide), if_neg e]
    generalize hS : sI S 16 (nI ((f + 1) % 2)) = S1
    have k14 : gI S1 14 = nI w := by rw [← hS]; exact h14
    obtain ⟨t, e1, g', rfl, e2⟩ := loop_up (fun q (g' : Nat → Int64) i => fX1_swapRows_19_L24 (nI a) (nI b) q (sB S1 0 g') i)
      (fun k g' => ∀ i j, i < 9 → j < 10 → g' (10 * i + j) = if j < k then gB S1 0 (10 * mSw a b i + j) else gB S1 0 (10 * i + j))
      (fun t => ∃ g', t = sB S1 0 g' ∧ ∀ i j, i < 9 → j < 10 → g' (10 * i + j) = if j < w + 1 then gB S1 0 (10 * mSw a b i + j) else gB S1 0 (10 * i + j)) (w + 1)
      (fun q k g' hk hI => by
        refine ⟨vp_updL (vp_updL g' (10 * a + k) (g' (10 * b + k))) (10 * b + k) (g' (10 * a + k)), fun i j hi hj => ?_, ?_⟩
        · have hab := hI a k (by omega) (by omega)
          have hba := hI b k (by omega) (by omega)
          have hij := hI i j hi hj
          rw [if_neg (by omega)] at hab hba
          rw [updL_ap, updL_ap, hab, hba, hij]
          by_cases c1 : 10 * i + j = 10 * b + k
          · have : i = b ∧ j = k := by omega
            rw [if_pos c1, this.1, this.2, if_pos (by omega), mSw_b]
          · rw [if_neg c1]
            by_cases c2 : 10 * i + j = 10 * a + k
            · have : i = a ∧ j = k := by omega
              rw [if_pos c2, this.1, this.2, if_pos (by omega), mSw_a]
            · rw [if_neg c2]
              by_cases c3 : j < k
              · rw [if_pos c3, if_pos (by omega)]
              · rw [if_neg c3]
                by_cases c4 : j < k + 1
                · rw [if_pos c4, mSw_o (by omega) (by omega)]
                · rw [if_neg c4]
        · show fX1_swapRows_19_L24 (nI a) (nI b) (q + 1) (sB S1 0 g') (nI k) = _
          rw [fX1_swapRows_19_L24, show gI (sB S1 0 g') 14 = nI w from k14, if_neg (nI_nlt (by omega) (by omega)), x_cell _ (by omega) (by omega), Option.bind_some, x_cell _ (by omega) (by omega), Option.bind_some, x_wr _ (by omega) (by omega), Option.bind_some, x_wr _ (by omega) (by omega), Option.bind_some, nI_1]
          simp only [sB_sB, gB_sB, if_true])
      (fun q g' hI => ⟨_, by
        show fX1_swapRows_19_L24 (nI a) (nI b) (q + 1) (sB S1 0 g') (nI (w + 1)) = _
        rw [fX1_swapRows_19_L24, show gI (sB S1 0 g') 14 = nI w from k14, if_pos (nI_lt (by omega) (by omega))], g', rfl, hI⟩) 256 0 (gB S1 0) (by omega) (by omega) (fun i j _ _ => by rw [if_neg (by omega)])
    have e1' : fX1_swapRows_19_L24 (nI a) (nI b) 256 S1 0 = some (sB S1 0 g') := by
      have := e1
      simp only [sB_self] at this
      exact this
    rw [e1', Option.bind_some]
    have kB : gB S1 0 = gB S 0 := by rw [← hS]; rfl
    refine ⟨_, rfl, fr19_tr (by rw [← hS]; exact fr19_J S _) (fr19_B S1 g'), by rw [← hS]; rfl, by rw [← hS]; rfl, by rw [← hS]; rfl, by rw [← hS]; rfl, fun i j hi hj => ?_⟩
    rw [gB_sB, if_pos rfl, e2 i j (by omega) (by omega), if_pos (by omega), kB]
    unfold mSwp
    have hm : mSw a b i < h := by unfold mSw; split <;> (try split) <;> omega
    exact hg _ j hm hj
theorem x_sweep {S : w_S} {g : eM} {h w p c : Nat} (hh : h ≤ 9) (hw : w < 10) (h13 : gI S 13 = nI h) (h14 : gI S 14 = nI w) (hd : gL S 0 ≠ 0) (hp : p < h) (hc : c ≤ w) (hg : ∀ i j, i < h → j ≤ w → gB S 0 (10 * i + j) = g i j) :
    ∃ g', fX1_sweep_19 S (nI p) (nI c) = some (sB S 0 g') ∧ ∀ i j, i < h → j ≤ w → g' (10 * i + j) = mSwe p c (gL S 0) g i j := by
  rw [fX1_sweep_19, if_neg hd, x_cell S (by omega) (by omega), Option.bind_some, hg p c hp hc]
  obtain ⟨t, e1, g', rfl, e2⟩ := loop_up (fun q (g' : Nat → Int64) i => fX1_sweep_19_L20 (nI p) (nI c) (g p c) q (sB S 0 g') i)
    (fun k g' => ∀ i j, i < h → j ≤ w → g' (10 * i + j) = if i < k then mSwe p c (gL S 0) g i j else g i j)
    (fun t => ∃ g', t = sB S 0 g' ∧ ∀ i j, i < h → j ≤ w → g' (10 * i + j) = if i < h then mSwe p c (gL S 0) g i j else g i j) h
    (fun q k g0 hk hI => by
      have hx : fX1_sweep_19_L20 (nI p) (nI c) (g p c) (q + 1) (sB S 0 g0) (nI k) = if k = p then fX1_sweep_19_L20 (nI p) (nI c) (g p c) q (sB S 0 g0) (nI (k + 1)) else (fX1_sweep_19_L47 (nI p) (nI c) (g p c) (nI k) (g k c) 256 (sB S 0 g0) 0).bind (fun q47 => fX1_sweep_19_L20 (nI p) (nI c) (g p c) q q47 (nI (k + 1))) := by
        have hkc := hI k c hk hc
        rw [if_neg (by omega)] at hkc
        rw [fX1_sweep_19_L20, show gI (sB S 0 g0) 13 = nI h from h13, if_neg (nI_ge (by omega) (by omega)), x_cell _ (by omega) (by omega), Option.bind_some, gB_sB, if_pos rfl, hkc, nI_1]
        by_cases e : k = p
        · rw [if_pos e, if_pos (by rw [e])]
        · rw [if_neg e, if_neg (by rw [nI_eq (by omega) (by omega)]; exact e)]
      show ∃ g'', _ ∧ fX1_sweep_19_L20 (nI p) (nI c) (g p c) (q + 1) (sB S 0 g0) (nI k) = _
      rw [hx]
      by_cases e : k = p
      · rw [if_pos e]
        refine ⟨g0, fun i j hi hj => ?_, rfl⟩
        rw [hI i j hi hj]
        by_cases c1 : i < k
        · rw [if_pos c1, if_pos (by omega)]
        · rw [if_neg c1]
          by_cases c2 : i < k + 1
          · rw [if_pos c2]; unfold mSwe; rw [if_pos (by omega)]
          · rw [if_neg c2]
      · rw [if_neg e]
        obtain ⟨t, b1, g'', rfl, b2, b3⟩ := loop_up (fun q (g' : Nat → Int64) i => fX1_sweep_19_L47 (nI p) (nI c) (g p c) (nI k) (g k c) q (sB S 0 g') i)
          (fun v g' => (∀ j, j ≤ w → g' (10 * k + j) = if j < v then mSwe p c (gL S 0) g k j else g k j) ∧ (∀ i j, i < h → j ≤ w → i ≠ k → g' (10 * i + j) = g0 (10 * i + j)))
          (fun t => ∃ g', t = sB S 0 g' ∧ (∀ j, j ≤ w → g' (10 * k + j) = mSwe p c (gL S 0) g k j) ∧ (∀ i j, i < h → j ≤ w → i ≠ k → g' (10 * i + j) = g0 (10 * i + j))) (w + 1)
          (fun q v g' hv hI' => by
            obtain ⟨i1, i2⟩ := hI'
            refine ⟨vp_updL g' (10 * k + v) (mSwe p c (gL S 0) g k v), ⟨fun j hj => ?_, fun i j hi hj hik => ?_⟩, ?_⟩
            · rw [updL_ap]
              by_cases c1 : j = v
              · rw [if_pos (by omega), if_pos (by omega), c1]
              · rw [if_neg (by omega), i1 j hj]
                by_cases c2 : j < v
                · rw [if_pos c2, if_pos (by omega)]
                · rw [if_neg c2, if_neg (by omega)]
            · rw [updL_ap, if_neg (by omega)]; exact i2 i j hi hj hik
            · have a1 := i1 v (by omega)
              have a2 := i2 p v hp (by omega) (fun e' => e e'.symm)
              have a3 := hI p v hp (by omega)
              rw [if_neg (by omega)] at a1
              have a4 : g' (10 * p + v) = g p v := by
                rw [a2, a3]
                split
                · unfold mSwe; rw [if_pos rfl]
                · rfl
              show fX1_sweep_19_L47 (nI p) (nI c) (g p c) (nI k) (g k c) (q + 1) (sB S 0 g') (nI v) = _
              rw [fX1_sweep_19_L47, show gI (sB S 0 g') 14 = nI w from h14, if_neg (nI_nlt (by omega) (by omega)), x_cell _ (by omega) (by omega), Option.bind_some, x_cell _ (by omega) (by omega), Option.bind_some, show gL (sB S 0 g') 0 = gL S 0 from rfl, if_pos hd, x_wr _ (by omega) (by omega), Option.bind_some, nI_1, sB_sB, gB_sB, if_pos rfl, a1, a4]
              unfold mSwe
              rw [if_neg e])
          (fun q g' hI' => ⟨_, by
            show fX1_sweep_19_L47 (nI p) (nI c) (g p c) (nI k) (g k c) (q + 1) (sB S 0 g') (nI (w + 1)) = _
            rw [fX1_sweep_19_L47, show gI (sB S 0 g') 14 = nI w from h14, if_pos (nI_lt (by omega) (by omega))], g', rfl, fun j hj => by rw [hI'.1 j hj, if_pos (by omega)], hI'.2⟩) 256 0 g0 (by omega) (by omega) ⟨fun j hj => by rw [hI k j hk hj, if_neg (by omega), if_neg (by omega)], fun _ _ _ _ _ => rfl⟩
        have b1' : fX1_sweep_19_L47 (nI p) (nI c) (g p c) (nI k) (g k c) 256 (sB S 0 g0) 0 = some (sB S 0 g'') := b1
        rw [b1', Option.bind_some]
        refine ⟨g'', fun i j hi hj => ?_, rfl⟩
        by_cases c1 : i = k
        · rw [c1, b2 j hj, if_pos (by omega)]
        · rw [b3 i j hi hj c1, hI i j hi hj]
          by_cases c2 : i < k
          · rw [if_pos c2, if_pos (by omega)]
          · rw [if_neg c2, if_neg (by omega)])
    (fun q g' hI => ⟨_, by
      show fX1_sweep_19_L20 (nI p) (nI c) (g p c) (q + 1) (sB S 0 g') (nI h) = _
      rw [fX1_sweep_19_L20, show gI (sB S 0 g') 13 = nI h from h13, if_pos (Int32.le_refl _)], g', rfl, hI⟩) 256 0 (gB S 0) (by omega) (by omega) (fun i j hi hj => by rw [hg i j hi hj, if_neg (by omega)])
  have e1' : fX1_sweep_19_L20 (nI p) (nI c) (g p c) 256 S 0 = some (sB S 0 g') := by
    have := e1
    simp only [sB_self] at this
    exact this
  rw [e1']
  refine ⟨g', rfl, fun i j hi hj => ?_⟩
  rw [e2 i j hi hj, if_pos hi]
/-- the machine's state is the pure one -/
def at19 (S : w_S) (h w k : Nat) (E : eT) : Prop := gI S 13 = nI h ∧ gI S 14 = nI w ∧ gI S 15 = nI E.1 ∧ gL S 0 = E.2.1 ∧ gI S 16 = nI (E.2.2.1 % 2) ∧ (∀ c, c < k → gA S 15 c = E.2.2.2.1 c) ∧ (∀ i j, i < h → j ≤ w → gB S 0 (10 * i + j) = E.2.2.2.2 i j)
theorem x_elim (S : w_S) {h w : Nat} {g : eM} (hh : h ≤ 9) (hw : w < 10) (h13 : gI S 13 = nI h) (h14 : gI S 14 = nI w) (hg : ∀ i j, i < h → j ≤ w → gB S 0 (10 * i + j) = g i j) :
    ∃ T, fX1_eliminate_19 S = some T ∧ fr19 S T ∧ at19 T h w w (eRun h w (e0 g)) := by
  rw [fX1_eliminate_19]
  generalize hS : sI (sL (sI S 15 0) 0 1) 16 0 = S1
  have f1 : fr19 S S1 := by rw [← hS]; exact fr19_tr (fr19_tr (fr19_I S 0) (fr19_L _ 1)) (fr19_J _ 0)
  obtain ⟨t, e1, e2⟩ := loop_up (fun q (T : w_S) i => fX1_eliminate_19_L17 q T i) (fun k T => fr19 S T ∧ at19 T h w k (eRun h k (e0 g))) (fun T => fr19 S T ∧ at19 T h w w (eRun h w (e0 g))) w
    (fun q k T hk hI => by
      obtain ⟨fr, a13, a14, a15, aL, a16, aA, aB⟩ := hI
      have hR := eR_le h (e0 g) (Nat.zero_le _) k
      have hD := eD_ne h (e0 g) (Nat.zero_le _) (show (1 : Int64) ≠ 0 by decide) k
      have e7 : eRun h (k + 1) (e0 g) = eStep h k (eRun h k (e0 g)) := rfl
      rw [e7]
      generalize eRun h k (e0 g) = E at *
      obtain ⟨r, d, f, pv, gg⟩ := E
      have hR0 : (e0 g).1 = 0 := rfl
      simp only [hR0] at *
      have hff := ff_rng gg k (h - r) r
      have hx := x_ff (S := T) (g := gg) hh (show k < 10 by omega) a13 (fun i hi => aB i k hi (by omega)) (some (-1)) (h - r) 256 r (by omega) (by omega)
      have hx' : fX1_firstFilled_19 T (nI k) = if ff gg k (h - r) r = h then some (-1) else some (nI (ff gg k (h - r) r)) := by
        rw [fX1_firstFilled_19, a15]; exact hx
      show ∃ T', _ ∧ fX1_eliminate_19_L17 (q + 1) T (nI k) = _
      rw [fX1_eliminate_19_L17, a14, if_neg (nI_ge (by omega) (by omega)), show (10 : Int32) = nI 10 from rfl, if_neg (nI_ge (by omega) (by omega)), hx', nI_1]
      have hE : eStep h k (r, d, f, pv, gg) = if ff gg k (h - r) r = h then (r, d, f, upd pv k (-1), gg) else (r + 1, gg (ff gg k (h - r) r) k, f + (if ff gg k (h - r) r = r then 0 else 1), upd pv k (nI r), mSwe r k d (mSwp (ff gg k (h - r) r) r gg)) := rfl
      rw [hE]
      by_cases c : ff gg k (h - r) r = h
      · rw [if_pos c, if_pos c, Option.bind_some, if_neg (by decide), Option.bind_some, if_pos (nI_inN (show k < 10 by omega) (by decide)), nI_clamp (by omega), if_pos (by decide)]
        refine ⟨sA T 15 (upd (gA T 15) k (-1)), ⟨fr19_tr fr (fr19_A T _), ?_⟩, rfl⟩
        refine ⟨a13, a14, a15, aL, a16, fun c' hc' => ?_, aB⟩
        show upd (gA T 15) k (-1) c' = upd pv k (-1) c'
        rw [upd_ap, upd_ap]
        by_cases e : c' = k
        · rw [if_pos e, if_pos e]
        · rw [if_neg e, if_neg e]; exact aA c' (by omega)
      · rw [if_neg c, if_neg c, Option.bind_some, if_pos (nI_nn0 _ (by omega)), a15, Option.bind_some, if_pos (nI_inN (show k < 10 by omega) (by decide)), nI_clamp (by omega), if_neg (nI_pos (by omega))]
        obtain ⟨T1, b1, b2, b3, b4, b5, b6, b7⟩ := x_swapRows (S := sA T 15 (upd (gA T 15) k (nI r))) (g := gg) (h := h) (w := w) (a := ff gg k (h - r) r) (b := r) (f := f) hh hw a14 a16 (by omega) (by omega) aB
        rw [show gI (sA T 15 (upd (gA T 15) k (nI r))) 15 = nI r from a15] at b3
        have b13 : gI T1 13 = nI h := by rw [b2.1 13 (by omega) (by omega)]; exact a13
        have b14 : gI T1 14 = nI w := by rw [b2.1 14 (by omega) (by omega)]; exact a14
        have b4' : gL T1 0 = d := by rw [b4]; exact aL
        obtain ⟨g', c1, c2⟩ := x_sweep (S := T1) (g := mSwp (ff gg k (h - r) r) r gg) (h := h) (w := w) (p := r) (c := k) hh hw b13 b14 (by rw [b4']; exact hD) (by omega) (by omega) b7
        rw [b4'] at c2
        rw [b1, Option.bind_some, b3, c1, Option.bind_some]
        show ∃ T', _ ∧ (fX1_cell_19 (sB T1 0 g') (gI T1 15) (nI k)).bind _ = _
        rw [b3, x_cell _ (by omega) (by omega), Option.bind_some, gB_sB, if_pos rfl, c2 r k (by omega) (by omega)]
        refine ⟨_, ⟨?_, ?_⟩, rfl⟩
        · exact fr19_tr fr (fr19_tr (fr19_A T _) (fr19_tr b2 (fr19_tr (fr19_B T1 g') (fr19_tr (fr19_L _ _) (fr19_I _ _)))))
        · refine ⟨b13, b14, ?_, ?_, ?_, fun c' hc' => ?_, c2⟩
          · show gI T1 15 + 1 = nI (r + 1)
            rw [b3, nI_1]
          · show mSwe r k d (mSwp (ff gg k (h - r) r) r gg) r k = gg (ff gg k (h - r) r) k
            unfold mSwe mSwp mSw
            rw [if_pos rfl]
            by_cases e : r = ff gg k (h - r) r
            · rw [if_pos e, ← e]
            · rw [if_neg e, if_pos rfl]
          · exact b6
          · show gA T1 15 c' = upd pv k (nI r) c'
            rw [b5, gA_sA, if_pos rfl, upd_ap, upd_ap]
            by_cases e : c' = k
            · rw [if_pos e, if_pos e]
            · rw [if_neg e, if_neg e]; exact aA c' (by omega))
    (fun q T hI => ⟨T, by
      show fX1_eliminate_19_L17 (q + 1) T (nI w) = _
      rw [fX1_eliminate_19_L17, hI.2.2.1, if_pos (Int32.le_refl _)], hI⟩) 256 0 S1 (by omega) (by omega) ⟨f1, by
      refine ⟨?_, ?_, ?_, ?_, ?_, fun c hc => by omega, ?_⟩
      · rw [f1.1 13 (by omega) (by omega)]; exact h13
      · rw [f1.1 14 (by omega) (by omega)]; exact h14
      · rw [← hS]; rfl
      · rw [← hS]; rfl
      · rw [← hS]; rfl
      · intro i j hi hj
        have : gB S1 0 = gB S 0 := by rw [← hS]; rfl
        rw [this]; exact hg i j hi hj⟩
  have e1' : fX1_eliminate_19_L17 256 S1 0 = some t := e1
  rw [e1']
  exact ⟨t, rfl, e2⟩
