/-! ===== the model's rules ===== -/
def frR (S T : w_S) : Prop := (∀ k, gI T k = gI S k) ∧ (∀ k, k ≠ 11 → gA T k = gA S k) ∧ (∀ k, k ≠ 1 → k ≠ 2 → gB T k = gB S k)
theorem frR_tr {S T U : w_S} (h : frR S T) (g : frR T U) : frR S U := ⟨fun k => (g.1 k).trans (h.1 k), fun k a => (g.2.1 k a).trans (h.2.1 k a), fun k a b => (g.2.2 k a b).trans (h.2.2 k a b)⟩
theorem frR_rf (S : w_S) : frR S S := ⟨fun _ => rfl, fun _ _ => rfl, fun _ _ _ => rfl⟩
theorem frR_B (S : w_S) (g : Nat → Int64) : frR S (sB S 1 g) := ⟨fun _ => rfl, fun _ _ => rfl, fun k h _ => by rw [gB_sB, if_neg h]⟩
theorem frR_C (S : w_S) (g : Nat → Int64) : frR S (sB S 2 g) := ⟨fun _ => rfl, fun _ _ => rfl, fun k _ h => by rw [gB_sB, if_neg h]⟩
theorem frR_A (S : w_S) (g : Nat → Int32) : frR S (sA S 11 g) := ⟨fun _ => rfl, fun k h => by rw [gA_sA, if_neg h], fun k _ _ => rfl⟩
theorem frR_M {S T : w_S} (h : frR S T) : frM S T := ⟨fun k _ => h.1 k, fun k a b => h.2.1 k (by omega), h.2.2 3 (by omega) (by omega)⟩
theorem ix9 (r c : Nat) : (9 * nI r + nI c) = nI (9 * r + c) := by
  rw [show (9 : Int32) = nI 9 from rfl, nI_mul, nI_add]
theorem isum_gM {X M : w_S} (hw : Nw X M) {s m n : Nat} {sh : Int32} (hsh : sb 2 sh) (hy : Sys s m n 0) {T : Nat → Int32} (hT : ∀ k, k < 27 → T k = TX X k) {p u : Nat} (hp : p < m * n) (hu : u < (pls s m n).length) : (isum T (nI s) s sh n (p / n) (p % n) u (m * n)).toInt64 = gM0 X (nI s) s sh m n 0 p u := by
  obtain ⟨y1, y2, y3, y4, y5, y6⟩ := id hy
  have hpl := pls_len (s := s) y2.2 y3.2
  have := fin_eq hT (nw_sb5 hw) (nI s) hsh hy (w := (pls s m n).length - 0 * n) (r := p) (c := u) (by omega) (by rw [Nat.sub_zero]; exact hp) (by omega)
  unfold gM0
  rw [← this]
  unfold finI
  rw [if_pos (by omega), Nat.zero_add, Nat.zero_mul, Nat.add_zero]
def gR (X : w_S) (s : Nat) (sh : Int32) (m n : Nat) : eM := fun u j => if j < m * n then gM0 X (nI s) s sh m n 0 j u else 0
def eRl (X : w_S) (s : Nat) (sh : Int32) (m n : Nat) : eT := eRun (pls s m n).length (m * n) (e0 (gR X s sh m n))
theorem m_rule18 {X M S : w_S} (hw : Nw X M) {s m n u : Nat} {sh : Int32} (hsh : sb 2 sh) (hy : Sys s m n 0) (h6 : (pls s m n).length ≤ 6) (h0 : gI S 0 = nI m) (h1 : gI S 1 = nI n) (hT : ∀ k, k < 27 → gA S 0 k = TX X k) (h8 : ∀ u, u < (pls s m n).length → gA S 8 u = nI ((pls s m n).getD u 0)) (hu : u < (pls s m n).length) (p3 : Int32) (g0 : Nat → Int64) :
    ∃ g, fX7_worksRules_L18 (nI s) sh p3 (nI u) 256 (sB S 1 g0) 0 = some (sB S 1 g) ∧ (∀ j, j < 9 → g (9 * u + j) = gR X s sh m n u j) ∧ (∀ x, ¬ (9 * u ≤ x ∧ x < 9 * u + 9) → g x = g0 x) := by
  obtain ⟨y1, y2, y3, y4, y5, y6⟩ := id hy
  have h9 := mn_le9 y2.2 y3.2
  obtain ⟨t, e1, g, rfl, e2, e3⟩ := loop_up (fun q (g : Nat → Int64) j => fX7_worksRules_L18 (nI s) sh p3 (nI u) q (sB S 1 g) j) (fun c g => (∀ j, j < c → g (9 * u + j) = gR X s sh m n u j) ∧ (∀ x, ¬ (9 * u ≤ x ∧ x < 9 * u + 9) → g x = g0 x)) (fun t => ∃ g, t = sB S 1 g ∧ (∀ j, j < 9 → g (9 * u + j) = gR X s sh m n u j) ∧ (∀ x, ¬ (9 * u ≤ x ∧ x < 9 * u + 9) → g x = g0 x)) 9
    (fun q c g hc hI => by
      obtain ⟨i1, i2⟩ := hI
      refine ⟨vp_updL g (9 * u + c) (gR X s sh m n u c), ⟨fun j hj => ?_, fun x hx => ?_⟩, ?_⟩
      · rw [updL_ap]
        by_cases e : j = c
        · rw [if_pos (by rw [e]), e]
        · rw [if_neg (by omega)]; exact i1 j (by omega)
      · rw [updL_ap, if_neg (by omega)]; exact i2 x hx
      · have hx63 : ¬ (nI (9 * u + c) < 0 ∨ 63 ≤ 9 * u + c) := fun e => by
          rcases e with e | e
          · exact nI_pos (by omega) e
          · omega
        show fX7_worksRules_L18 (nI s) sh p3 (nI u) (q + 1) (sB S 1 g) (nI c) = _
        rw [fX7_worksRules_L18, if_neg (show ¬ (9 : Int32) ≤ nI c from nI_ge (b := 9) hc (by omega)), show gI (sB S 1 g) 0 = nI m from h0, show gI (sB S 1 g) 1 = nI n from h1, nI_mul, ix9, nI_clamp (by omega), nI_1]
        unfold gR
        by_cases d : c < m * n
        · have ht := m_takenBy (sB S 1 g) (nI s) sh (p := c) (u := u) y1 y2 y3 y4 h0 h1 d hu (h8 u hu)
          rw [if_neg (nI_ge d (by omega)), ht, Option.bind_some, if_pos hx63, show gA (sB S 1 g) 0 = gA S 0 from rfl, isum_gM hw hsh hy hT d hu, if_pos d, sB_sB, gB_sB, if_pos rfl]
        · rw [if_pos (nI_le (by omega) (by omega)), if_pos hx63, if_neg d, sB_sB, gB_sB, if_pos rfl])
    (fun q g hI => ⟨_, by
      show fX7_worksRules_L18 (nI s) sh p3 (nI u) (q + 1) (sB S 1 g) (nI 9) = _
      rw [fX7_worksRules_L18, if_pos (show (9 : Int32) ≤ nI 9 from Int32.le_refl _)], g, rfl, hI⟩) 256 0 g0 (by omega) (by omega) ⟨fun j hj => absurd hj (Nat.not_lt_zero _), fun x _ => rfl⟩
  exact ⟨g, e1, e2, e3⟩
theorem m_rule9 {X M S : w_S} (hw : Nw X M) {s m n : Nat} {sh : Int32} (hsh : sb 2 sh) (hy : Sys s m n 0) (h6 : (pls s m n).length ≤ 6) (h0 : gI S 0 = nI m) (h1 : gI S 1 = nI n) (hT : ∀ k, k < 27 → gA S 0 k = TX X k) (h8 : ∀ u, u < (pls s m n).length → gA S 8 u = nI ((pls s m n).getD u 0)) :
    ∃ g, fX7_worksRules_L9 (nI s) sh (nI (pls s m n).length) 256 S 0 = some (sB S 1 g) ∧ (∀ u j, u < (pls s m n).length → j < 9 → g (9 * u + j) = gR X s sh m n u j) := by
  obtain ⟨t, e1, g, rfl, e2⟩ := loop_up (fun q (g : Nat → Int64) u => fX7_worksRules_L9 (nI s) sh (nI (pls s m n).length) q (sB S 1 g) u) (fun k g => ∀ u j, u < k → j < 9 → g (9 * u + j) = gR X s sh m n u j) (fun t => ∃ g, t = sB S 1 g ∧ ∀ u j, u < (pls s m n).length → j < 9 → g (9 * u + j) = gR X s sh m n u j) (pls s m n).length
    (fun q k g hk hI => by
      obtain ⟨g', a1, a2, a3⟩ := m_rule18 hw hsh hy h6 h0 h1 hT h8 hk (nI (pls s m n).length) g
      refine ⟨g', fun u j hu hj => ?_, ?_⟩
      · by_cases e : u = k
        · rw [e]; exact a2 j hj
        · rw [a3 _ (by omega)]; exact hI u j (by omega) hj
      · show fX7_worksRules_L9 (nI s) sh (nI (pls s m n).length) (q + 1) (sB S 1 g) (nI k) = _
        rw [fX7_worksRules_L9, if_neg (nI_ge hk (by omega)), a1, Option.bind_some, nI_1])
    (fun q g hI => ⟨_, by
      show fX7_worksRules_L9 (nI s) sh (nI (pls s m n).length) (q + 1) (sB S 1 g) (nI (pls s m n).length) = _
      rw [fX7_worksRules_L9, if_pos (Int32.le_refl _)], g, rfl, hI⟩) 256 0 (gB S 1) (by omega) (by omega) (fun u j hu => absurd hu (Nat.not_lt_zero _))
  simp only [sB_self] at e1
  exact ⟨g, e1, e2⟩
theorem m_ff9 {S : w_S} {g : eM} {h c : Nat} (hh : h ≤ 6) (hc : c < 9) (hg : ∀ i, i < h → gB S 1 (9 * i + c) = g i c) (p4 : Int64) (p6 : Int32) : ∀ n q r, r + n = h → n < q → fX7_worksRules_L107 S (nI h) p4 p6 (nI c) q (nI r) = some (nI (ff g c n r))
  | _, 0, _ => fun h1 h2 => absurd h2 (Nat.not_lt_zero _)
  | 0, q + 1, r => fun h1 h2 => by
    rw [fX7_worksRules_L107, ff, if_pos (by rw [nI_leI (by omega) (by omega)]; omega)]
  | n + 1, q + 1, r => fun h1 h2 => by
    rw [fX7_worksRules_L107, if_neg (nI_ge (by omega) (by omega)), ix9, if_pos (nI_inN (show 9 * r + c < 63 by omega) (by decide)), nI_clamp (by omega), hg r (by omega), ff]
    by_cases e : g r c = 0
    · rw [if_pos e, if_pos e, nI_1]
      exact m_ff9 hh hc hg p4 p6 n q (r + 1) (by omega) (by omega)
    · rw [if_neg e, if_neg e]
theorem m_swapsR (S : w_S) {a b : Nat} (ha : a < 7) (hb : b < 7) : ∃ g', fX7_swapsRules S (nI a) (nI b) = some (sB S 1 g') ∧ ∀ i j, i < 7 → j < 9 → g' (9 * i + j) = gB S 1 (9 * mSw a b i + j) := by
  obtain ⟨t, e1, g', rfl, e2⟩ := loop_up (fun q (g' : Nat → Int64) i => fX7_swapsRules_L2 (nI a) (nI b) q (sB S 1 g') i)
    (fun k g' => ∀ i j, i < 7 → j < 9 → g' (9 * i + j) = if j < k then gB S 1 (9 * mSw a b i + j) else gB S 1 (9 * i + j))
    (fun t => ∃ g', t = sB S 1 g' ∧ ∀ i j, i < 7 → j < 9 → g' (9 * i + j) = if j < 9 then gB S 1 (9 * mSw a b i + j) else gB S 1 (9 * i + j)) 9
    (fun q k g' hk hI => by
      refine ⟨vp_updL (vp_updL g' (9 * a + k) (g' (9 * b + k))) (9 * b + k) (g' (9 * a + k)), fun i j hi hj => ?_, ?_⟩
      · have hab := hI a k (by omega) (by omega)
        have hba := hI b k (by omega) (by omega)
        have hij := hI i j hi hj
        rw [if_neg (by omega)] at hab hba
        rw [updL_ap, updL_ap, hab, hba, hij]
        by_cases c1 : 9 * i + j = 9 * b + k
        · have : i = b ∧ j = k := by omega
          rw [if_pos c1, this.1, this.2, if_pos (by omega), mSw_b]
        · rw [if_neg c1]
          by_cases c2 : 9 * i + j = 9 * a + k
          · have : i = a ∧ j = k := by omega
            rw [if_pos c2, this.1, this.2, if_pos (by omega), mSw_a]
          · rw [if_neg c2]
            by_cases c3 : j < k
            · rw [if_pos c3, if_pos (by omega)]
            · rw [if_neg c3]
              by_cases c4 : j < k + 1
              · rw [if_pos c4, mSw_o (by omega) (by omega)]
              · rw [if_neg c4]
      · show fX7_swapsRules_L2 (nI a) (nI b) (q + 1) (sB S 1 g') (nI k) = _
        rw [fX7_swapsRules_L2, if_neg (show ¬ (9 : Int32) ≤ nI k from nI_ge (b := 9) hk (by omega)), ix9, ix9, if_pos (nI_inN (show 9 * a + k < 63 by omega) (by decide)), if_pos (nI_inN (show 9 * b + k < 63 by omega) (by decide)), if_pos (nI_inN (show 9 * a + k < 63 by omega) (by decide)), if_pos (nI_inN (show 9 * b + k < 63 by omega) (by decide)), nI_clamp (by omega), nI_clamp (by omega), nI_1]
        simp only [sB_sB, gB_sB, if_true])
    (fun q g' hI => ⟨_, by
      show fX7_swapsRules_L2 (nI a) (nI b) (q + 1) (sB S 1 g') (nI 9) = _
      rw [fX7_swapsRules_L2, if_pos (show (9 : Int32) ≤ nI 9 from Int32.le_refl _)], g', rfl, hI⟩) 256 0 (gB S 1) (by omega) (by omega) (fun i j _ _ => by rw [if_neg (by omega)])
  simp only [sB_self] at e1
  have e1' : fX7_swapsRules_L2 (nI a) (nI b) 256 S 0 = some (sB S 1 g') := e1
  refine ⟨g', by rw [fX7_swapsRules, e1']; rfl, fun i j hi hj => ?_⟩
  rw [e2 i j hi hj, if_pos hj]
theorem m_clearsR (S : w_S) {h p c : Nat} {d : Int64} (hh : h ≤ 6) (hp : p < h) (hc : c < 9) (hd : d ≠ 0) : ∃ g', fX7_clearsRules S (nI p) (nI h) (nI c) d = some (gB S 1 (9 * p + c), sB S 1 g') ∧ ∀ i j, i < h → j < 9 → g' (9 * i + j) = mSwe p c d (fun i j => gB S 1 (9 * i + j)) i j := by
  rw [fX7_clearsRules, ix9, if_pos (nI_inN (show 9 * p + c < 63 by omega) (by decide)), nI_clamp (by omega)]
  generalize hP : gB S 1 (9 * p + c) = P
  obtain ⟨t, e1, g', rfl, e2⟩ := loop_up (fun q (g' : Nat → Int64) i => fX7_clearsRules_L16 (nI p) (nI h) (nI c) d P q (sB S 1 g') i)
    (fun k g' => ∀ i j, i < h → j < 9 → g' (9 * i + j) = if i < k then mSwe p c d (fun i j => gB S 1 (9 * i + j)) i j else gB S 1 (9 * i + j))
    (fun t => ∃ g', t = sB S 1 g' ∧ ∀ i j, i < h → j < 9 → g' (9 * i + j) = if i < h then mSwe p c d (fun i j => gB S 1 (9 * i + j)) i j else gB S 1 (9 * i + j)) h
    (fun q k g0 hk hI => by
      have hkc := hI k c hk hc
      rw [if_neg (by omega)] at hkc
      show ∃ g'', _ ∧ fX7_clearsRules_L16 (nI p) (nI h) (nI c) d P (q + 1) (sB S 1 g0) (nI k) = _
      rw [fX7_clearsRules_L16, if_neg (nI_ge hk (by omega)), ix9, if_pos (nI_inN (show 9 * k + c < 63 by omega) (by decide)), nI_clamp (by omega), gB_sB, if_pos rfl, hkc, nI_1]
      by_cases e : k = p
      · have h39 : fX7_clearsRules_L39 (nI p) (nI h) (nI c) d P (nI k) (gB S 1 (9 * k + c)) 256 (sB S 1 g0) 0 = some (sB S 1 g0) := by
          rw [show (256 : Nat) = 255 + 1 from rfl, fX7_clearsRules_L39, if_neg (by decide), if_pos (by rw [e])]
        rw [h39, Option.bind_some]
        refine ⟨g0, fun i j hi hj => ?_, rfl⟩
        rw [hI i j hi hj]
        by_cases c1 : i < k
        · rw [if_pos c1, if_pos (by omega)]
        · rw [if_neg c1]
          by_cases c2 : i < k + 1
          · rw [if_pos c2]; unfold mSwe; rw [if_pos (by omega)]
          · rw [if_neg c2]
      · obtain ⟨t, b1, g'', rfl, b2, b3⟩ := loop_up (fun q (g' : Nat → Int64) i => fX7_clearsRules_L39 (nI p) (nI h) (nI c) d P (nI k) (gB S 1 (9 * k + c)) q (sB S 1 g') i)
          (fun v g' => (∀ j, j < 9 → g' (9 * k + j) = if j < v then mSwe p c d (fun i j => gB S 1 (9 * i + j)) k j else gB S 1 (9 * k + j)) ∧ (∀ i j, i < h → j < 9 → i ≠ k → g' (9 * i + j) = g0 (9 * i + j)))
          (fun t => ∃ g', t = sB S 1 g' ∧ (∀ j, j < 9 → g' (9 * k + j) = mSwe p c d (fun i j => gB S 1 (9 * i + j)) k j) ∧ (∀ i j, i < h → j < 9 → i ≠ k → g' (9 * i + j) = g0 (9 * i + j))) 9
          (fun q v g' hv hI' => by
            obtain ⟨i1, i2⟩ := hI'
            refine ⟨vp_updL g' (9 * k + v) (mSwe p c d (fun i j => gB S 1 (9 * i + j)) k v), ⟨fun j hj => ?_, fun i j hi hj hik => ?_⟩, ?_⟩
            · rw [updL_ap]
              by_cases c1 : j = v
              · rw [if_pos (by omega), if_pos (by omega), c1]
              · rw [if_neg (by omega), i1 j hj]
                by_cases c2 : j < v
                · rw [if_pos c2, if_pos (by omega)]
                · rw [if_neg c2, if_neg (by omega)]
            · rw [updL_ap, if_neg (by omega)]; exact i2 i j hi hj hik
            · have a1 := i1 v (by omega)
              have a2 := i2 p v hp (by omega) (fun e' => e e'.symm)
              have a3 := hI p v hp (by omega)
              rw [if_neg (by omega)] at a1
              have a4 : g' (9 * p + v) = gB S 1 (9 * p + v) := by
                rw [a2, a3]
                split
                · unfold mSwe; rw [if_pos rfl]
                · rfl
              show fX7_clearsRules_L39 (nI p) (nI h) (nI c) d P (nI k) (gB S 1 (9 * k + c)) (q + 1) (sB S 1 g') (nI v) = _
              rw [fX7_clearsRules_L39, if_neg (show ¬ (9 : Int32) ≤ nI v from nI_ge (b := 9) hv (by omega)), if_neg (show ¬ nI k = nI p by rw [nI_eq (by omega) (by omega)]; exact e), ix9, ix9, if_pos (nI_inN (show 9 * k + v < 63 by omega) (by decide)), if_pos (nI_inN (show 9 * p + v < 63 by omega) (by decide)), if_pos hd, if_pos (nI_inN (show 9 * k + v < 63 by omega) (by decide)), nI_clamp (by omega), nI_clamp (by omega), nI_1, sB_sB, gB_sB, if_pos rfl, a1, a4, Int64.mul_comm P]
              unfold mSwe
              rw [if_neg e, ← hP])
          (fun q g' hI' => ⟨_, by
            show fX7_clearsRules_L39 (nI p) (nI h) (nI c) d P (nI k) (gB S 1 (9 * k + c)) (q + 1) (sB S 1 g') (nI 9) = _
            rw [fX7_clearsRules_L39, if_pos (show (9 : Int32) ≤ nI 9 from Int32.le_refl _)], g', rfl, fun j hj => by rw [hI'.1 j hj, if_pos (by omega)], hI'.2⟩) 256 0 g0 (by omega) (by omega) ⟨fun j hj => by rw [hI k j hk hj, if_neg (by omega), if_neg (by omega)], fun _ _ _ _ _ => rfl⟩
        have b1' : fX7_clearsRules_L39 (nI p) (nI h) (nI c) d P (nI k) (gB S 1 (9 * k + c)) 256 (sB S 1 g0) 0 = some (sB S 1 g'') := b1
        rw [b1', Option.bind_some]
        refine ⟨g'', fun i j hi hj => ?_, rfl⟩
        by_cases c1 : i = k
        · rw [c1, b2 j hj, if_pos (by omega)]
        · rw [b3 i j hi hj c1, hI i j hi hj]
          by_cases c2 : i < k
          · rw [if_pos c2, if_pos (by omega)]
          · rw [if_neg c2, if_neg (by omega)])
    (fun q g' hI => ⟨_, by
      show fX7_clearsRules_L16 (nI p) (nI h) (nI c) d P (q + 1) (sB S 1 g') (nI h) = _
      rw [fX7_clearsRules_L16, if_pos (Int32.le_refl _)], g', rfl, hI⟩) 256 0 (gB S 1) (by omega) (by omega) (fun i j hi hj => by rw [if_neg (by omega)])
  simp only [sB_self] at e1
  have e1' : fX7_clearsRules_L16 (nI p) (nI h) (nI c) d P 256 S 0 = some (sB S 1 g') := e1
  rw [e1']
  refine ⟨g', rfl, fun i j hi hj => ?_⟩
  rw [e2 i j hi hj, if_pos hi]
/-- the elimination of rules -/
theorem m_rule89 (S : w_S) {m n h : Nat} {g : eM} (hm : 1 ≤ m ∧ m ≤ 3) (hn : 1 ≤ n ∧ n ≤ 3) (hh : h ≤ 6) (h0 : gI S 0 = nI m) (h1 : gI S 1 = nI n) (hg : ∀ i j, i < h → j < m * n → gB S 1 (9 * i + j) = g i j) :
    ∃ T, fX7_worksRules_L89 (nI h) 256 S 1 0 0 = some (T, (eRun h (m * n) (e0 g)).2.1) ∧ frR S T ∧ gB T 2 = gB S 2 ∧ (∀ c, c < m * n → gA T 11 c = (eRun h (m * n) (e0 g)).2.2.2.1 c) ∧ (∀ i j, i < h → j < m * n → gB T 1 (9 * i + j) = (eRun h (m * n) (e0 g)).2.2.2.2 i j) := by
  have h9 := mn_le9 hm.2 hn.2
  obtain ⟨t, e1, e2⟩ := loop_up (fun q (z : w_S × Int64 × Int32) i => fX7_worksRules_L89 (nI h) q z.1 z.2.1 z.2.2 i)
    (fun k z => frR S z.1 ∧ gB z.1 2 = gB S 2 ∧ z.2.1 = (eRun h k (e0 g)).2.1 ∧ z.2.2 = nI (eRun h k (e0 g)).1 ∧ (∀ c, c < k → gA z.1 11 c = (eRun h k (e0 g)).2.2.2.1 c) ∧ (∀ i j, i < h → j < m * n → gB z.1 1 (9 * i + j) = (eRun h k (e0 g)).2.2.2.2 i j))
    (fun t => frR S t.1 ∧ gB t.1 2 = gB S 2 ∧ t.2 = (eRun h (m * n) (e0 g)).2.1 ∧ (∀ c, c < m * n → gA t.1 11 c = (eRun h (m * n) (e0 g)).2.2.2.1 c) ∧ (∀ i j, i < h → j < m * n → gB t.1 1 (9 * i + j) = (eRun h (m * n) (e0 g)).2.2.2.2 i j)) (m * n)
    (fun q k z hk hI => by
      obtain ⟨T, v4, v6⟩ := z
      obtain ⟨fr, a2, aL, aR, aA, aB⟩ := hI
      have hR := eR_le h (e0 g) (Nat.zero_le _) k
      have hD := eD_ne h (e0 g) (Nat.zero_le _) (show (1 : Int64) ≠ 0 by decide) k
      have e7 : eRun h (k + 1) (e0 g) = eStep h k (eRun h k (e0 g)) := rfl
      rw [e7]
      generalize eRun h k (e0 g) = E at *
      obtain ⟨r, d, f, pv, gg⟩ := E
      have hR0 : (e0 g).1 = 0 := rfl
      simp only [hR0] at *
      have aL' : v4 = d := aL
      have aR' : v6 = nI r := aR
      subst aL' aR'
      have hff := ff_rng gg k (h - r) r
      have hx := m_ff9 (S := T) (g := gg) hh (show k < 9 by omega) (fun i hi => aB i k hi (by omega)) v4 (nI r) (h - r) 256 r (by omega) (by omega)
      have hE : eStep h k (r, v4, f, pv, gg) = if ff gg k (h - r) r = h then (r, v4, f, upd pv k (-1), gg) else (r + 1, gg (ff gg k (h - r) r) k, f + (if ff gg k (h - r) r = r then 0 else 1), upd pv k (nI r), mSwe r k v4 (mSwp (ff gg k (h - r) r) r gg)) := rfl
      rw [hE]
      have hx9 : ¬ (nI k < 0 ∨ 9 ≤ k) := fun e => by
        rcases e with e | e
        · exact nI_pos (by omega) e
        · omega
      show ∃ z', _ ∧ fX7_worksRules_L89 (nI h) (q + 1) T v4 (nI r) (nI k) = _
      rw [fX7_worksRules_L89, fr.1 0, fr.1 1, h0, h1, nI_mul, if_neg (nI_ge (by omega) (by omega)), hx, Option.bind_some, nI_clamp (show k < 2 ^ 31 by omega), nI_1]
      by_cases c : ff gg k (h - r) r = h
      · rw [if_pos c, c, if_pos (Int32.le_refl _), Option.bind_some, if_pos hx9, if_pos (Int32.le_refl _)]
        refine ⟨(sA T 11 (upd (gA T 11) k (-1)), v4, nI r), ⟨frR_tr fr (frR_A T _), a2, rfl, rfl, fun c' hc' => ?_, aB⟩, rfl⟩
        show upd (gA T 11) k (-1) c' = upd pv k (-1) c'
        rw [upd_ap, upd_ap]
        by_cases e : c' = k
        · rw [if_pos e, if_pos e]
        · rw [if_neg e, if_neg e]; exact aA c' (by omega)
      · rw [if_neg c, if_neg (nI_ge (by omega) (by omega)), Option.bind_some, if_pos hx9, if_neg (nI_ge (by omega) (by omega))]
        obtain ⟨g1, b1, b2⟩ := m_swapsR (sA T 11 (upd (gA T 11) k (nI r))) (a := ff gg k (h - r) r) (b := r) (by omega) (by omega)
        obtain ⟨g2, c1, c2⟩ := m_clearsR (sB (sA T 11 (upd (gA T 11) k (nI r))) 1 g1) (h := h) (p := r) (c := k) (d := v4) hh (by omega) (by omega) hD
        have sw : ∀ i j, i < h → j < m * n → gB (sB (sA T 11 (upd (gA T 11) k (nI r))) 1 g1) 1 (9 * i + j) = mSwp (ff gg k (h - r) r) r gg i j := fun i j hi hj => by
          have hm2 : mSw (ff gg k (h - r) r) r i < h := by unfold mSw; split <;> (try split) <;> omega
          rw [gB_sB, if_pos rfl, b2 i j (by omega) (by omega)]
          exact aB _ j hm2 hj
        have c3 : gB (sB (sA T 11 (upd (gA T 11) k (nI r))) 1 g1) 1 (9 * r + k) = gg (ff gg k (h - r) r) k := by
          rw [sw r k (by omega) hk]
          unfold mSwp mSw
          by_cases e : r = ff gg k (h - r) r
          · rw [if_pos e, ← e]
          · rw [if_neg e, if_pos rfl]
        rw [b1, Option.bind_some, c1, Option.bind_some, nI_1]
        refine ⟨(sB (sB (sA T 11 (upd (gA T 11) k (nI r))) 1 g1) 1 g2, gg (ff gg k (h - r) r) k, nI (r + 1)), ⟨frR_tr fr (frR_tr (frR_A T _) (frR_tr (frR_B _ _) (frR_B _ _))), a2, rfl, rfl, fun c' hc' => ?_, fun i j hi hj => ?_⟩, by rw [c3]⟩
        · show upd (gA T 11) k (nI r) c' = upd pv k (nI r) c'
          rw [upd_ap, upd_ap]
          by_cases e : c' = k
          · rw [if_pos e, if_pos e]
          · rw [if_neg e, if_neg e]; exact aA c' (by omega)
        · show gB (sB (sB (sA T 11 (upd (gA T 11) k (nI r))) 1 g1) 1 g2) 1 (9 * i + j) = mSwe r k v4 (mSwp (ff gg k (h - r) r) r gg) i j
          rw [gB_sB, if_pos rfl, c2 i j hi (by omega)]
          show (if i = r then gB (sB (sA T 11 (upd (gA T 11) k (nI r))) 1 g1) 1 (9 * i + j) else (gB (sB (sA T 11 (upd (gA T 11) k (nI r))) 1 g1) 1 (9 * i + j) * gB (sB (sA T 11 (upd (gA T 11) k (nI r))) 1 g1) 1 (9 * r + k) - gB (sB (sA T 11 (upd (gA T 11) k (nI r))) 1 g1) 1 (9 * i + k) * gB (sB (sA T 11 (upd (gA T 11) k (nI r))) 1 g1) 1 (9 * r + j)) / v4) = _
          rw [sw i j hi hj, sw r k (by omega) hk, sw i k hi hk, sw r j (by omega) hj]; rfl)
    (fun q z hI => by
      obtain ⟨T, v4, v6⟩ := z
      obtain ⟨fr, a2, aL, aR, aA, aB⟩ := hI
      refine ⟨(T, v4), ?_, fr, a2, aL, aA, aB⟩
      show fX7_worksRules_L89 (nI h) (q + 1) T v4 v6 (nI (m * n)) = _
      rw [fX7_worksRules_L89, fr.1 0, fr.1 1, h0, h1, nI_mul, if_pos (Int32.le_refl _)]) 256 0 (S, 1, 0) (by omega) (by omega) ⟨frR_rf S, rfl, rfl, rfl, fun c hc => absurd hc (Nat.not_lt_zero _), hg⟩
  obtain ⟨T, v4⟩ := t
  obtain ⟨f1, f2, f3, f4, f5⟩ := e2
  have f3' : v4 = _ := f3
  subst f3'
  exact ⟨T, e1, f1, f2, f4, f5⟩
/-- what C leaves, in longs -/
def ls64 (C : Nat → Int64) (E : eT) (p : Nat) : Nat → Int64
  | 0 => E.2.1 * C p
  | v + 1 => ls64 C E p v - (if E.2.2.2.1 v < 0 then 0 else C v * E.2.2.2.2 (E.2.2.2.1 v).toNatClampNeg p)
theorem m_left (S : w_S) {m n h : Nat} {E : eT} (hm : 1 ≤ m ∧ m ≤ 3) (hn : 1 ≤ n ∧ n ≤ 3) (hh : h ≤ 6) (hr : E.1 ≤ h) (h0 : gI S 0 = nI m) (h1 : gI S 1 = nI n) (hA : ∀ c, c < m * n → gA S 11 c = E.2.2.2.1 c) (hB : ∀ i j, i < h → j < m * n → gB S 1 (9 * i + j) = E.2.2.2.2 i j) (hpv : ∀ u, u < m * n → E.2.2.2.1 u = -1 ∨ ∃ i, i < E.1 ∧ E.2.2.2.1 u = nI i) (C : Nat → Int64) (hC : ∀ p, p < m * n → C p = (gA S 0 (18 + 3 * (p / n) + p % n)).toInt64) :
    ∃ g, fX7_worksRules_L195 E.2.1 256 S 0 = some (sB S 2 g) ∧ ∀ p, p < m * n → g p = ls64 C E p (m * n) := by
  have h9 := mn_le9 hm.2 hn.2
  have n0 : ¬ nI n = 0 := nI_ne0 (by omega) (by omega)
  have its : ∀ (T : w_S), gA T 0 = gA S 0 → ∀ p, p < m * n → ∃ x : Int32, fX7_its T 2 (nI (p / n)) (nI (p % n)) = some x ∧ x.toInt64 = C p := fun T hT p hp => by
    have a1 := div_lt3 hp hm.2
    have a2 := mod_lt3 hp hn.2
    refine ⟨gA S 0 (18 + 3 * (p / n) + p % n), ?_, (hC p hp).symm⟩
    generalize p / n = I at *
    generalize p % n = J at *
    rw [m_its T (by decide) (by rw [nI_toInt (by omega)]; omega) (by rw [nI_toInt (by omega)]; omega)]
    unfold at9
    rw [ti_2, nI_toInt (by omega), nI_toInt (by omega), hT]; rfl
  obtain ⟨t, e1, g, rfl, e2⟩ := loop_up (fun q (g : Nat → Int64) i => fX7_worksRules_L195 E.2.1 q (sB S 2 g) i) (fun k g => ∀ p, p < k → g p = ls64 C E p (m * n)) (fun t => ∃ g, t = sB S 2 g ∧ ∀ p, p < m * n → g p = ls64 C E p (m * n)) (m * n)
    (fun q p g hp hI => by
      obtain ⟨x, x1, x2⟩ := its (sB S 2 g) rfl p hp
      have hp9 : ¬ (nI p < 0 ∨ 9 ≤ p) := fun e => by
        rcases e with e | e
        · exact nI_pos (by omega) e
        · omega
      obtain ⟨t, b1, g', rfl, b2, b3⟩ := loop_up (fun q (g : Nat → Int64) i => fX7_worksRules_L242 E.2.1 (nI p) q (sB S 2 g) i) (fun v g' => g' p = ls64 C E p v ∧ ∀ j, j ≠ p → g' j = g j) (fun t => ∃ g', t = sB S 2 g' ∧ g' p = ls64 C E p (m * n) ∧ ∀ j, j ≠ p → g' j = g j) (m * n)
        (fun q v g' hv hI' => by
          obtain ⟨i1, i2⟩ := hI'
          obtain ⟨y, y1, y2⟩ := its (sB S 2 g') rfl v hv
          refine ⟨vp_updL g' p (ls64 C E p (v + 1)), ⟨by rw [updL_ap, if_pos rfl], fun j hj => by rw [updL_ap, if_neg hj]; exact i2 j hj⟩, ?_⟩
          show fX7_worksRules_L242 E.2.1 (nI p) (q + 1) (sB S 2 g') (nI v) = _
          rw [fX7_worksRules_L242, show gI (sB S 2 g') 0 = nI m from h0, show gI (sB S 2 g') 1 = nI n from h1, nI_mul, if_neg (nI_ge hv (by omega)), if_pos (nI_inN (show p < 9 by omega) (by decide)), if_pos (nI_inN (show v < 9 by omega) (by decide)), nI_clamp (show v < 2 ^ 31 by omega), nI_clamp (show p < 2 ^ 31 by omega), show gA (sB S 2 g') 11 v = E.2.2.2.1 v from hA v hv, nI_1]
          have hx9 : ¬ (nI v < 0 ∨ 9 ≤ v) := fun e => by
            rcases e with e | e
            · exact nI_pos (by omega) e
            · omega
          have hl : ls64 C E p (v + 1) = ls64 C E p v - (if E.2.2.2.1 v < 0 then 0 else C v * E.2.2.2.2 (E.2.2.2.1 v).toNatClampNeg p) := rfl
          rcases hpv v hv with e | ⟨i, a1, a2⟩
          · rw [e, if_neg (show ¬ (0 : Int32) ≤ -1 by decide), if_pos hp9, sB_sB, gB_sB, if_pos rfl, i1, hl, e, if_pos (show (-1 : Int32) < 0 by decide)]
          · rw [a2, if_pos (nI_nn0 _ (by omega)), if_pos n0, if_pos n0, nI_mod (by omega) (by omega), nI_div (by omega) (by omega), y1, Option.bind_some, if_pos hx9, ix9, if_pos (nI_inN (show 9 * i + p < 63 by omega) (by decide)), if_pos hp9, nI_clamp (by omega), sB_sB, gB_sB, if_pos rfl, i1, y2, show gB (sB S 2 g') 1 (9 * i + p) = E.2.2.2.2 i p from hB i p (by omega) hp, hl, a2, if_neg (nI_pos (by omega)), nI_clamp (by omega)])
        (fun q g' hI' => ⟨_, by
          show fX7_worksRules_L242 E.2.1 (nI p) (q + 1) (sB S 2 g') (nI (m * n)) = _
          rw [fX7_worksRules_L242, show gI (sB S 2 g') 0 = nI m from h0, show gI (sB S 2 g') 1 = nI n from h1, nI_mul, if_pos (Int32.le_refl _)], g', rfl, hI'⟩) 256 0 (vp_updL g p (E.2.1 * C p)) (by omega) (by omega) ⟨by rw [updL_ap, if_pos rfl]; rfl, fun j hj => by rw [updL_ap, if_neg hj]⟩
      have b1' : fX7_worksRules_L242 E.2.1 (nI p) 256 (sB S 2 (vp_updL g p (E.2.1 * C p))) 0 = some (sB S 2 g') := b1
      refine ⟨g', fun j hj => ?_, ?_⟩
      · by_cases e : j = p
        · rw [e]; exact b2
        · rw [b3 j e]; exact hI j (by omega)
      · show fX7_worksRules_L195 E.2.1 (q + 1) (sB S 2 g) (nI p) = _
        rw [fX7_worksRules_L195, show gI (sB S 2 g) 0 = nI m from h0, show gI (sB S 2 g) 1 = nI n from h1, nI_mul, if_neg (nI_ge hp (by omega)), if_pos n0, if_pos n0, nI_mod (by omega) (by omega), nI_div (by omega) (by omega), x1, Option.bind_some, if_pos (nI_inN (show p < 9 by omega) (by decide)), nI_clamp (by omega), x2, sB_sB, gB_sB, if_pos rfl, b1', Option.bind_some, nI_1])
    (fun q g hI => ⟨_, by
      show fX7_worksRules_L195 E.2.1 (q + 1) (sB S 2 g) (nI (m * n)) = _
      rw [fX7_worksRules_L195, show gI (sB S 2 g) 0 = nI m from h0, show gI (sB S 2 g) 1 = nI n from h1, nI_mul, if_pos (Int32.le_refl _)], g, rfl, hI⟩) 256 0 (gB S 2) (by omega) (by omega) (fun p hp => absurd hp (Nat.not_lt_zero _))
  simp only [sB_self] at e1
  exact ⟨g, e1, e2⟩
