/-! ===== lay ===== -/
def nint (x : Int64) : Bool := decide (¬ x = x.toInt32.toInt64)
def nP (s m n : Nat) (E : eT) (Dv : Int64) (p : Nat) : Bool := nint (sv s m n E p / Dv)
theorem x_int41 {T : w_S} {s m n : Nat} {E : eT} (k : Wk T s m n E) (a : at19 T (m * n) (pls s m n).length (pls s m n).length E) {Dv : Int64} (hD : ¬ Dv = 0) (K : Option Int32) {i : Nat} (hi : i < m) : ∀ g q j, j + g = n → g < q → fX6_isLaidInInts_L41 K T (nI s) Dv (nI i) q (nI j) = if fb (nP s m n E Dv) g (i * n + j) = i * n + n then K else some 0
  | _, 0, _ => fun h1 h2 => absurd h2 (Nat.not_lt_zero _)
  | 0, q + 1, j => fun h1 h2 => by
    obtain ⟨k1, k2, k3, k4, k5, k6, k7, -⟩ := id k
    rw [fX6_isLaidInInts_L41, k7, fb, if_pos (by rw [nI_leI (by omega) (by omega)]; omega), if_pos (by omega)]
  | g + 1, q + 1, j => fun h1 h2 => by
    obtain ⟨k1, k2, k3, k4, k5, k6, k7, -⟩ := id k
    have hj : j < n := by omega
    have ih := x_int41 k a hD K hi g q (j + 1) (by omega) (by omega)
    rw [show i * n + (j + 1) = i * n + j + 1 by omega] at ih
    rw [fX6_isLaidInInts_L41, k7, if_neg (nI_ge hj (by omega)), x_sv k a hi hj, Option.bind_some, if_pos hD, fX6_isInt, fb, nI_1, ih]
    have hn : nP s m n E Dv (i * n + j) = decide (¬ (sv s m n E (i * n + j) / Dv) = (sv s m n E (i * n + j) / Dv).toInt32.toInt64) := rfl
    by_cases c : (sv s m n E (i * n + j) / Dv) = (sv s m n E (i * n + j) / Dv).toInt32.toInt64
    · have hf : nP s m n E Dv (i * n + j) = false := by rw [hn]; simp [← c]
      rw [if_pos c, Option.bind_some, if_neg n10, hf, if_neg (show ¬ false = true by decide)]
    · have hf : nP s m n E Dv (i * n + j) = true := by rw [hn]; simp [c]
      rw [if_neg c, Option.bind_some, if_pos rfl, hf, if_pos rfl, if_neg (by omega)]
theorem x_int26 {T : w_S} {s m n : Nat} {E : eT} (k : Wk T s m n E) (a : at19 T (m * n) (pls s m n).length (pls s m n).length E) {Dv : Int64} (hD : ¬ Dv = 0) (K : Option Int32) : ∀ g q i, i + g = m → g < q → fX6_isLaidInInts_L26 K T (nI s) Dv q (nI i) = if fb (nP s m n E Dv) (g * n) (i * n) = m * n then K else some 0
  | _, 0, _ => fun h1 h2 => absurd h2 (Nat.not_lt_zero _)
  | 0, q + 1, i => fun h1 h2 => by
    obtain ⟨k1, k2, k3, k4, k5, k6, k7, -⟩ := id k
    have : i = m := by omega
    rw [fX6_isLaidInInts_L26, k6, Nat.zero_mul, fb, this, if_pos (Int32.le_refl _), if_pos rfl]
  | g + 1, q + 1, i => fun h1 h2 => by
    obtain ⟨k1, k2, k3, k4, k5, k6, k7, -⟩ := id k
    have hi : i < m := by omega
    have hmn : m * n = i * n + (g + 1) * n := by rw [← Nat.add_mul, h1]
    have hg : (g + 1) * n = n + g * n := by rw [Nat.add_mul, Nat.one_mul, Nat.add_comm]
    have h18 := x_int41 k a hD (fX6_isLaidInInts_L26 K T (nI s) Dv q (nI (i + 1))) hi n 256 0 (by omega) (by omega)
    have h18' : fX6_isLaidInInts_L41 (fX6_isLaidInInts_L26 K T (nI s) Dv q (nI (i + 1))) T (nI s) Dv (nI i) 256 0 = _ := h18
    rw [fX6_isLaidInInts_L26, k6, if_neg (nI_ge hi (by omega)), nI_1, h18', Nat.add_zero, hg, fb_add]
    have hr := fb_rg (nP s m n E Dv) n (i * n)
    by_cases c : fb (nP s m n E Dv) n (i * n) = i * n + n
    · have ih := x_int26 k a hD K g q (i + 1) (by omega) (by omega)
      rw [if_pos c, if_pos c, ih, show (i + 1) * n = i * n + n by rw [Nat.add_mul, Nat.one_mul]]
    · rw [if_neg c, if_neg c, if_neg (by omega)]
theorem x_ints {T : w_S} {s m n : Nat} {E : eT} (k : Wk T s m n E) (a : at19 T (m * n) (pls s m n).length (pls s m n).length E) {Dv al : Int64} (hD : ¬ Dv = 0) (hal : E.2.1 / Dv = al) : fX6_isLaidInInts T (nI s) Dv = some (if nint al = false ∧ fb (nP s m n E Dv) (m * n) 0 = m * n then 1 else 0) := by
  have h26 := x_int26 k a hD (some 1) m 256 0 (by omega) (by have := k.2.1; omega)
  have h26' : fX6_isLaidInInts_L26 (some 1) T (nI s) Dv 256 0 = _ := h26
  rw [fX6_isLaidInInts, if_neg hD, if_pos hD, a.2.2.2.1, hal, fX6_isInt, h26', Nat.zero_mul]
  have hn : nint al = decide (¬ al = al.toInt32.toInt64) := rfl
  by_cases c : al = al.toInt32.toInt64
  · have hf : nint al = false := by rw [hn]; simp [← c]
    rw [if_pos c, Option.bind_some, if_neg n10, hf]
    by_cases d : fb (nP s m n E Dv) (m * n) 0 = m * n
    · rw [if_pos d, if_pos ⟨rfl, d⟩]
    · rw [if_neg d, if_neg (fun e => d e.2)]
  · have hf : nint al = true := by rw [hn]; simp [c]
    rw [if_neg c, Option.bind_some, if_pos rfl, hf, if_neg (fun e => by cases e.1)]
theorem m_l77 {T' : w_S} {s m n : Nat} {E : eT} (k : Wk T' s m n E) (b : atM T' (m * n) (pls s m n).length (pls s m n).length E) (h8 : ∀ u, u < (pls s m n).length → gA T' 8 u = nI ((pls s m n).getD u 0)) (a2 : Int32) {Dv al : Int64} (hDv : Dv.toInt = sgI E.2.1 (GG E.2.1.toInt.natAbs (vN s m n E) (m * n))) (hal : al.toInt = ((E.2.1.toInt.natAbs / GG E.2.1.toInt.natAbs (vN s m n E) (m * n) : Nat) : Int)) : fX7_lay_L77 T' a2 (nI s) al 256 (if nint al = false then 1 else 0) 0 = some (if nint al = false ∧ fb (nP s m n E Dv) (m * n) 0 = m * n then 1 else 0) := by
  obtain ⟨k1, k2, k3, k4, k5, k6, k7, k8, k9, k10, k11, k12⟩ := id k
  have h9 := mn_le9 k2.2 k3.2
  have n0 : ¬ nI n = 0 := nI_ne0 (by omega) (by omega)
  obtain ⟨t, e1, e2⟩ := loop_up (fun q (v : Int32) j => fX7_lay_L77 T' a2 (nI s) al q v j) (fun p v => v = if nint al = false ∧ fb (nP s m n E Dv) p 0 = p then 1 else 0) (fun v => v = if nint al = false ∧ fb (nP s m n E Dv) (m * n) 0 = m * n then 1 else 0) (m * n)
    (fun q p v hp hI => by
      obtain ⟨x, y, s1, s2, s3, s4, s5, s6⟩ := shares k hDv hal hp
      refine ⟨if nint al = false ∧ fb (nP s m n E Dv) (p + 1) 0 = p + 1 then 1 else 0, rfl, ?_⟩
      show fX7_lay_L77 T' a2 (nI s) al (q + 1) v (nI p) = _
      rw [fX7_lay_L77, k6, k7, nI_mul, if_neg (nI_ge hp (by omega)), if_pos n0, if_pos n0, nI_mod (by omega) (by omega), nI_div (by omega) (by omega), m_sv k b h8 hp, Option.bind_some, b.2.2.2.1, s1, Option.bind_some, if_pos n0, if_pos n0, Option.bind_some, s2, Option.bind_some, if_pos s3, s4, nI_1, hI]
      have hn : nP s m n E Dv p = decide (¬ (sv s m n E p / Dv) = (sv s m n E p / Dv).toInt32.toInt64) := rfl
      by_cases c : nint al = false ∧ fb (nP s m n E Dv) p 0 = p
      · rw [if_pos c, if_neg n10]
        by_cases d : (sv s m n E p / Dv) = (sv s m n E p / Dv).toInt32.toInt64
        · have hf : nP s m n E Dv p = false := by rw [hn]; simp [← d]
          rw [if_pos d, if_pos ⟨c.1, (fb_s _ p).2 ⟨c.2, hf⟩⟩]
        · have hf : nP s m n E Dv p = true := by rw [hn]; simp [d]
          rw [if_neg d, if_neg (fun e => by have := ((fb_s _ p).1 e.2).2; rw [hf] at this; cases this)]
      · rw [if_neg c, if_pos rfl, if_neg (fun e => c ⟨e.1, ((fb_s _ p).1 e.2).1⟩)])
    (fun q v hI => ⟨v, by
      show fX7_lay_L77 T' a2 (nI s) al (q + 1) v (nI (m * n)) = _
      rw [fX7_lay_L77, k6, k7, nI_mul, if_pos (Int32.le_refl _)], hI⟩) 256 0 (if nint al = false then 1 else 0) (by omega) (by omega) (by
        show _ = if nint al = false ∧ fb (nP s m n E Dv) 0 0 = 0 then (1 : Int32) else 0
        by_cases c : nint al = false
        · rw [if_pos c, if_pos ⟨c, rfl⟩]
        · rw [if_neg c, if_neg (fun e => c e.1)])
  rw [← e2]; exact e1
theorem m_l214 {T' : w_S} {s m n : Nat} {E : eT} (k : Wk T' s m n E) (b : atM T' (m * n) (pls s m n).length (pls s m n).length E) (h8 : ∀ u, u < (pls s m n).length → gA T' 8 u = nI ((pls s m n).getD u 0)) {kk : Nat} (hkk : kk < 4) {Dv al : Int64} (hDv : Dv.toInt = sgI E.2.1 (GG E.2.1.toInt.natAbs (vN s m n E) (m * n))) (hal : al.toInt = ((E.2.1.toInt.natAbs / GG E.2.1.toInt.natAbs (vN s m n E) (m * n) : Nat) : Int)) : ∃ g, fX7_lay_L214 (nI kk) (nI s) al 256 T' 0 = some (sB T' 3 g) ∧ (∀ j, j < 40 → g (40 * kk + j) = if j < m * n then sv s m n E j / Dv else 0) ∧ (∀ j, ¬ (40 * kk ≤ j ∧ j < 40 * kk + 40) → g j = gB T' 3 j) := by
  obtain ⟨k1, k2, k3, k4, k5, k6, k7, k8, k9, k10, k11, k12⟩ := id k
  have h9 := mn_le9 k2.2 k3.2
  have n0 : ¬ nI n = 0 := nI_ne0 (by omega) (by omega)
  obtain ⟨t, e1, g, rfl, e2, e3⟩ := loop_up (fun q (g : Nat → Int64) j => fX7_lay_L214 (nI kk) (nI s) al q (sB T' 3 g) j) (fun c g => (∀ j, j < c → g (40 * kk + j) = if j < m * n then sv s m n E j / Dv else 0) ∧ (∀ j, ¬ (40 * kk ≤ j ∧ j < 40 * kk + 40) → g j = gB T' 3 j)) (fun t => ∃ g, t = sB T' 3 g ∧ (∀ j, j < 40 → g (40 * kk + j) = if j < m * n then sv s m n E j / Dv else 0) ∧ (∀ j, ¬ (40 * kk ≤ j ∧ j < 40 * kk + 40) → g j = gB T' 3 j)) 40
    (fun q c g hc hI => by
      obtain ⟨i1, i2⟩ := hI
      refine ⟨vp_updL g (40 * kk + c) (if c < m * n then sv s m n E c / Dv else 0), ⟨fun j hj => ?_, fun j hj => ?_⟩, ?_⟩
      · rw [updL_ap]
        by_cases e : j = c
        · rw [if_pos (by rw [e]), e]
        · rw [if_neg (by omega)]; exact i1 j (by omega)
      · rw [updL_ap, if_neg (by omega)]; exact i2 j hj
      · have k' : Wk (sB T' 3 g) s m n E := k
        have b' : atM (sB T' 3 g) (m * n) (pls s m n).length (pls s m n).length E := b
        have hx160 : ¬ (nI (40 * kk + c) < 0 ∨ 160 ≤ 40 * kk + c) := fun e => by
          rcases e with e | e
          · exact nI_pos (by omega) e
          · omega
        show fX7_lay_L214 (nI kk) (nI s) al (q + 1) (sB T' 3 g) (nI c) = _
        rw [fX7_lay_L214, show (40 : Int32) = nI 40 from rfl, if_neg (nI_ge hc (by omega)), show gI (sB T' 3 g) 0 = nI m from k6, show gI (sB T' 3 g) 1 = nI n from k7, nI_mul, ← (show (40 : Int32) = nI 40 from rfl), ixs4, if_pos (nI_inN (show 40 * kk + c < 160 by omega) (by decide)), nI_clamp (by omega), nI_1]
        by_cases d : c < m * n
        · obtain ⟨x, y, s1, s2, s3, s4, s5, s6⟩ := shares k hDv hal d
          rw [if_neg (nI_ge d (by omega)), if_pos n0, if_pos n0, nI_mod (by omega) (by omega), nI_div (by omega) (by omega), m_sv k' b' h8 d, Option.bind_some, show gL (sB T' 3 g) 0 = E.2.1 from b.2.2.2.1, s1, Option.bind_some, if_pos n0, if_pos n0, Option.bind_some, s2, Option.bind_some, if_pos s3, if_pos hx160, s4, if_pos d, sB_sB, gB_sB, if_pos rfl]
        · rw [if_pos (nI_le (by omega) (by omega)), if_neg d, sB_sB, gB_sB, if_pos rfl])
    (fun q g hI => ⟨_, by
      show fX7_lay_L214 (nI kk) (nI s) al (q + 1) (sB T' 3 g) (nI 40) = _
      rw [fX7_lay_L214, show (40 : Int32) = nI 40 from rfl, if_pos (Int32.le_refl _)], g, rfl, hI⟩) 256 0 (gB T' 3) (by omega) (by omega) ⟨fun j hj => absurd hj (Nat.not_lt_zero _), fun j _ => rfl⟩
  simp only [sB_self] at e1
  exact ⟨g, e1, e2, e3⟩
theorem x_l135_30 {T : w_S} {s m n : Nat} {E : eT} (k : Wk T s m n E) (a : at19 T (m * n) (pls s m n).length (pls s m n).length E) {Dv : Int64} (hD : ¬ Dv = 0) (hL : gI T 29 = nI (m * n)) (h2 : gI T 28 = 2) {i : Nat} (hi : i < m) (g0 : Nat → Int64) : ∃ g, fX6_lay_L135_30 (nI s) Dv (nI i) 256 (sB T 2 g0) 0 = some (sB T 2 g) ∧ (∀ j, g j = if i * n ≤ j ∧ j < i * n + n then (sv s m n E j / Dv).toInt32.toInt64 else g0 j) := by
  obtain ⟨k1, k2, k3, k4, k5, k6, k7, -⟩ := id k
  have h9 := mn_le9 k2.2 k3.2
  obtain ⟨t, e1, g, rfl, e2⟩ := loop_up (fun q (g : Nat → Int64) j => fX6_lay_L135_30 (nI s) Dv (nI i) q (sB T 2 g) j) (fun c g => ∀ j, g j = if i * n ≤ j ∧ j < i * n + c then (sv s m n E j / Dv).toInt32.toInt64 else g0 j) (fun t => ∃ g, t = sB T 2 g ∧ ∀ j, g j = if i * n ≤ j ∧ j < i * n + n then (sv s m n E j / Dv).toInt32.toInt64 else g0 j) n
    (fun q c g hc hI => by
      have hp := pl_lt hi hc
      refine ⟨vp_updL g (i * n + c) (sv s m n E (i * n + c) / Dv).toInt32.toInt64, fun j => ?_, ?_⟩
      · rw [updL_ap]
        by_cases e : j = i * n + c
        · rw [if_pos e, if_pos (by omega), e]
        · rw [if_neg e, hI j]
          by_cases f : i * n ≤ j ∧ j < i * n + c
          · rw [if_pos f, if_pos (by omega)]
          · rw [if_neg f, if_neg (by omega)]
      · have k' : Wk (sB T 2 g) s m n E := k
        have a' : at19 (sB T 2 g) (m * n) (pls s m n).length (pls s m n).length E := a
        show fX6_lay_L135_30 (nI s) Dv (nI i) (q + 1) (sB T 2 g) (nI c) = _
        rw [fX6_lay_L135_30, show gI (sB T 2 g) 1 = nI n from k7, if_neg (nI_ge hc (by omega)), x_sv k' a' hi hc, Option.bind_some, if_pos hD, nI_mul, nI_add, x_write0]
        unfold px_write
        rw [if_neg (nI_pos (by omega)), show gI (sB T 2 g) (29 + 2 * 0) = nI (m * n) from hL, if_neg (nI_ge hp (by omega)), show (40 : Int32) = nI 40 from rfl, if_neg (nI_ge (by omega) (by omega)), Option.bind_some, nI_clamp (by omega), show gI (sB T 2 g) (28 + 2 * 0) = 2 from h2, nI_1]
        show fX6_lay_L135_30 (nI s) Dv (nI i) q (sB (sB T 2 g) 2 (vp_updL (gB (sB T 2 g) 2) (i * n + c) (px_nar 2 (sv s m n E (i * n + c) / Dv)))) (nI (c + 1)) = _
        rw [sB_sB, gB_sB, if_pos rfl]; rfl)
    (fun q g hI => ⟨_, by
      show fX6_lay_L135_30 (nI s) Dv (nI i) (q + 1) (sB T 2 g) (nI n) = _
      rw [fX6_lay_L135_30, show gI (sB T 2 g) 1 = nI n from k7, if_pos (Int32.le_refl _)], g, rfl, hI⟩) 256 0 g0 (by omega) (by omega) (fun j => by rw [if_neg (by omega)])
  exact ⟨g, e1, e2⟩
theorem x_l120_30 {T : w_S} {s m n : Nat} {E : eT} (k : Wk T s m n E) (a : at19 T (m * n) (pls s m n).length (pls s m n).length E) {Dv : Int64} (hD : ¬ Dv = 0) (hL : gI T 29 = nI (m * n)) (h2 : gI T 28 = 2) : ∃ g, fX6_lay_L120_30 (nI s) Dv 256 T 0 = some (sB T 2 g) ∧ (∀ j, g j = if j < m * n then (sv s m n E j / Dv).toInt32.toInt64 else gB T 2 j) := by
  obtain ⟨k1, k2, k3, k4, k5, k6, k7, -⟩ := id k
  obtain ⟨t, e1, g, rfl, e2⟩ := loop_up (fun q (g : Nat → Int64) j => fX6_lay_L120_30 (nI s) Dv q (sB T 2 g) j) (fun c g => ∀ j, g j = if j < c * n then (sv s m n E j / Dv).toInt32.toInt64 else gB T 2 j) (fun t => ∃ g, t = sB T 2 g ∧ ∀ j, g j = if j < m * n then (sv s m n E j / Dv).toInt32.toInt64 else gB T 2 j) m
    (fun q i g hi hI => by
      obtain ⟨g', f1, f2⟩ := x_l135_30 k a hD hL h2 hi g
      refine ⟨g', fun j => ?_, ?_⟩
      · rw [f2 j, hI j, Nat.add_mul, Nat.one_mul]
        by_cases e : i * n ≤ j ∧ j < i * n + n
        · rw [if_pos e, if_pos e.2]
        · rw [if_neg e]
          by_cases f : j < i * n
          · rw [if_pos f, if_pos (by omega)]
          · rw [if_neg f, if_neg (by omega)]
      · show fX6_lay_L120_30 (nI s) Dv (q + 1) (sB T 2 g) (nI i) = _
        rw [fX6_lay_L120_30, show gI (sB T 2 g) 0 = nI m from k6, if_neg (nI_ge hi (by omega)), f1, Option.bind_some, nI_1])
    (fun q g hI => ⟨_, by
      show fX6_lay_L120_30 (nI s) Dv (q + 1) (sB T 2 g) (nI m) = _
      rw [fX6_lay_L120_30, show gI (sB T 2 g) 0 = nI m from k6, if_pos (Int32.le_refl _)], g, rfl, hI⟩) 256 0 (gB T 2) (by omega) (by omega) (fun j => by rw [Nat.zero_mul, if_neg (by omega)])
  simp only [sB_self] at e1
  exact ⟨g, e1, e2⟩
theorem x_put30 {T : w_S} {s m n : Nat} {E : eT} (k : Wk T s m n E) (a : at19 T (m * n) (pls s m n).length (pls s m n).length E) {Dv : Int64} (hD : ¬ Dv = 0) : ∃ f, (fX2_renew_30 T 2 ((gI T 0) * (gI T 1))).bind (fun r114 => (fX6_lay_L120_30 (nI s) Dv 256 r114 0).bind (fun q120 => (if ¬ Dv = 0 then some (((gL q120 0) / Dv).toInt32, q120) else none))) = some ((E.2.1 / Dv).toInt32, sB (sI (sI T (28 + 2 * 0) 2) (29 + 2 * 0) (nI (m * n))) (2 + 0) f) ∧ ∀ j, j < 40 → f j = if j < m * n then (sv s m n E j / Dv).toInt32.toInt64 else 0 := by
  obtain ⟨k1, k2, k3, k4, k5, k6, k7, -⟩ := id k
  have h9 := mn_le9 k2.2 k3.2
  obtain ⟨f0, f1, f2⟩ := x_rnw T (k := 0) (by omega) 2 (nI (m * n))
  have f1' : fX2_renew_30 T 2 (nI (m * n)) = some (sB (sI (sI T (28 + 2 * 0) 2) (29 + 2 * 0) (nI (m * n))) (2 + 0) f0) := by
    have e := px_lenN (n := nI (m * n)) (nI_nn0 _ (by omega)) (by rw [show (40 : Int32) = nI 40 from rfl]; exact nI_le (by omega) (by omega))
    rw [e] at f1; exact f1
  have k' : Wk (sB (sI (sI T (28 + 2 * 0) 2) (29 + 2 * 0) (nI (m * n))) (2 + 0) f0) s m n E := k
  have a' : at19 (sB (sI (sI T (28 + 2 * 0) 2) (29 + 2 * 0) (nI (m * n))) (2 + 0) f0) (m * n) (pls s m n).length (pls s m n).length E := a
  obtain ⟨g, g1, g2⟩ := x_l120_30 k' a' hD rfl rfl
  refine ⟨g, ?_, fun j hj => ?_⟩
  · rw [k6, k7, nI_mul, f1', Option.bind_some, g1, Option.bind_some, if_pos hD]
    have e : gL (sB (sB (sI (sI T (28 + 2 * 0) 2) (29 + 2 * 0) (nI (m * n))) (2 + 0) f0) 2 g) 0 = E.2.1 := a.2.2.2.1
    rw [e]
    show some (_, sB (sB (sI (sI T (28 + 2 * 0) 2) (29 + 2 * 0) (nI (m * n))) 2 f0) 2 g) = _
    rw [sB_sB]
  · rw [g2 j]
    by_cases c : j < m * n
    · rw [if_pos c, if_pos c]
    · rw [if_neg c, if_neg c]
      show gB (sB (sI (sI T (28 + 2 * 0) 2) (29 + 2 * 0) (nI (m * n))) 2 f0) 2 j = 0
      rw [gB_sB, if_pos rfl]; exact f2 j hj
theorem x_l135_32 {T : w_S} {s m n : Nat} {E : eT} (k : Wk T s m n E) (a : at19 T (m * n) (pls s m n).length (pls s m n).length E) {Dv : Int64} (hD : ¬ Dv = 0) (hL : gI T 31 = nI (m * n)) (h2 : gI T 30 = 2) {i : Nat} (hi : i < m) (g0 : Nat → Int64) : ∃ g, fX6_lay_L135_32 (nI s) Dv (nI i) 256 (sB T 3 g0) 0 = some (sB T 3 g) ∧ (∀ j, g j = if i * n ≤ j ∧ j < i * n + n then (sv s m n E j / Dv).toInt32.toInt64 else g0 j) := by
  obtain ⟨k1, k2, k3, k4, k5, k6, k7, -⟩ := id k
  have h9 := mn_le9 k2.2 k3.2
  obtain ⟨t, e1, g, rfl, e2⟩ := loop_up (fun q (g : Nat → Int64) j => fX6_lay_L135_32 (nI s) Dv (nI i) q (sB T 3 g) j) (fun c g => ∀ j, g j = if i * n ≤ j ∧ j < i * n + c then (sv s m n E j / Dv).toInt32.toInt64 else g0 j) (fun t => ∃ g, t = sB T 3 g ∧ ∀ j, g j = if i * n ≤ j ∧ j < i * n + n then (sv s m n E j / Dv).toInt32.toInt64 else g0 j) n
    (fun q c g hc hI => by
      have hp := pl_lt hi hc
      refine ⟨vp_updL g (i * n + c) (sv s m n E (i * n + c) / Dv).toInt32.toInt64, fun j => ?_, ?_⟩
      · rw [updL_ap]
        by_cases e : j = i * n + c
        · rw [if_pos e, if_pos (by omega), e]
        · rw [if_neg e, hI j]
          by_cases f : i * n ≤ j ∧ j < i * n + c
          · rw [if_pos f, if_pos (by omega)]
          · rw [if_neg f, if_neg (by omega)]
      · have k' : Wk (sB T 3 g) s m n E := k
        have a' : at19 (sB T 3 g) (m * n) (pls s m n).length (pls s m n).length E := a
        show fX6_lay_L135_32 (nI s) Dv (nI i) (q + 1) (sB T 3 g) (nI c) = _
        rw [fX6_lay_L135_32, show gI (sB T 3 g) 1 = nI n from k7, if_neg (nI_ge hc (by omega)), x_sv k' a' hi hc, Option.bind_some, if_pos hD, nI_mul, nI_add, x_write1]
        unfold px_write
        rw [if_neg (nI_pos (by omega)), show gI (sB T 3 g) (29 + 2 * 1) = nI (m * n) from hL, if_neg (nI_ge hp (by omega)), show (40 : Int32) = nI 40 from rfl, if_neg (nI_ge (by omega) (by omega)), Option.bind_some, nI_clamp (by omega), show gI (sB T 3 g) (28 + 2 * 1) = 2 from h2, nI_1]
        show fX6_lay_L135_32 (nI s) Dv (nI i) q (sB (sB T 3 g) 3 (vp_updL (gB (sB T 3 g) 3) (i * n + c) (px_nar 2 (sv s m n E (i * n + c) / Dv)))) (nI (c + 1)) = _
        rw [sB_sB, gB_sB, if_pos rfl]; rfl)
    (fun q g hI => ⟨_, by
      show fX6_lay_L135_32 (nI s) Dv (nI i) (q + 1) (sB T 3 g) (nI n) = _
      rw [fX6_lay_L135_32, show gI (sB T 3 g) 1 = nI n from k7, if_pos (Int32.le_refl _)], g, rfl, hI⟩) 256 0 g0 (by omega) (by omega) (fun j => by rw [if_neg (by omega)])
  exact ⟨g, e1, e2⟩
theorem x_l120_32 {T : w_S} {s m n : Nat} {E : eT} (k : Wk T s m n E) (a : at19 T (m * n) (pls s m n).length (pls s m n).length E) {Dv : Int64} (hD : ¬ Dv = 0) (hL : gI T 31 = nI (m * n)) (h2 : gI T 30 = 2) : ∃ g, fX6_lay_L120_32 (nI s) Dv 256 T 0 = some (sB T 3 g) ∧ (∀ j, g j = if j < m * n then (sv s m n E j / Dv).toInt32.toInt64 else gB T 3 j) := by
  obtain ⟨k1, k2, k3, k4, k5, k6, k7, -⟩ := id k
  obtain ⟨t, e1, g, rfl, e2⟩ := loop_up (fun q (g : Nat → Int64) j => fX6_lay_L120_32 (nI s) Dv q (sB T 3 g) j) (fun c g => ∀ j, g j = if j < c * n then (sv s m n E j / Dv).toInt32.toInt64 else gB T 3 j) (fun t => ∃ g, t = sB T 3 g ∧ ∀ j, g j = if j < m * n then (sv s m n E j / Dv).toInt32.toInt64 else gB T 3 j) m
    (fun q i g hi hI => by
      obtain ⟨g', f1, f2⟩ := x_l135_32 k a hD hL h2 hi g
      refine ⟨g', fun j => ?_, ?_⟩
      · rw [f2 j, hI j, Nat.add_mul, Nat.one_mul]
        by_cases e : i * n ≤ j ∧ j < i * n + n
        · rw [if_pos e, if_pos e.2]
        · rw [if_neg e]
          by_cases f : j < i * n
          · rw [if_pos f, if_pos (by omega)]
          · rw [if_neg f, if_neg (by omega)]
      · show fX6_lay_L120_32 (nI s) Dv (q + 1) (sB T 3 g) (nI i) = _
        rw [fX6_lay_L120_32, show gI (sB T 3 g) 0 = nI m from k6, if_neg (nI_ge hi (by omega)), f1, Option.bind_some, nI_1])
    (fun q g hI => ⟨_, by
      show fX6_lay_L120_32 (nI s) Dv (q + 1) (sB T 3 g) (nI m) = _
      rw [fX6_lay_L120_32, show gI (sB T 3 g) 0 = nI m from k6, if_pos (Int32.le_refl _)], g, rfl, hI⟩) 256 0 (gB T 3) (by omega) (by omega) (fun j => by rw [Nat.zero_mul, if_neg (by omega)])
  simp only [sB_self] at e1
  exact ⟨g, e1, e2⟩
theorem x_put32 {T : w_S} {s m n : Nat} {E : eT} (k : Wk T s m n E) (a : at19 T (m * n) (pls s m n).length (pls s m n).length E) {Dv : Int64} (hD : ¬ Dv = 0) : ∃ f, (fX2_renew_32 T 2 ((gI T 0) * (gI T 1))).bind (fun r114 => (fX6_lay_L120_32 (nI s) Dv 256 r114 0).bind (fun q120 => (if ¬ Dv = 0 then some (((gL q120 0) / Dv).toInt32, q120) else none))) = some ((E.2.1 / Dv).toInt32, sB (sI (sI T (28 + 2 * 1) 2) (29 + 2 * 1) (nI (m * n))) (2 + 1) f) ∧ ∀ j, j < 40 → f j = if j < m * n then (sv s m n E j / Dv).toInt32.toInt64 else 0 := by
  obtain ⟨k1, k2, k3, k4, k5, k6, k7, -⟩ := id k
  have h9 := mn_le9 k2.2 k3.2
  obtain ⟨f0, f1, f2⟩ := x_rnw T (k := 1) (by omega) 2 (nI (m * n))
  have f1' : fX2_renew_32 T 2 (nI (m * n)) = some (sB (sI (sI T (28 + 2 * 1) 2) (29 + 2 * 1) (nI (m * n))) (2 + 1) f0) := by
    have e := px_lenN (n := nI (m * n)) (nI_nn0 _ (by omega)) (by rw [show (40 : Int32) = nI 40 from rfl]; exact nI_le (by omega) (by omega))
    rw [e] at f1; exact f1
  have k' : Wk (sB (sI (sI T (28 + 2 * 1) 2) (29 + 2 * 1) (nI (m * n))) (2 + 1) f0) s m n E := k
  have a' : at19 (sB (sI (sI T (28 + 2 * 1) 2) (29 + 2 * 1) (nI (m * n))) (2 + 1) f0) (m * n) (pls s m n).length (pls s m n).length E := a
  obtain ⟨g, g1, g2⟩ := x_l120_32 k' a' hD rfl rfl
  refine ⟨g, ?_, fun j hj => ?_⟩
  · rw [k6, k7, nI_mul, f1', Option.bind_some, g1, Option.bind_some, if_pos hD]
    have e : gL (sB (sB (sI (sI T (28 + 2 * 1) 2) (29 + 2 * 1) (nI (m * n))) (2 + 1) f0) 3 g) 0 = E.2.1 := a.2.2.2.1
    rw [e]
    show some (_, sB (sB (sI (sI T (28 + 2 * 1) 2) (29 + 2 * 1) (nI (m * n))) 3 f0) 3 g) = _
    rw [sB_sB]
  · rw [g2 j]
    by_cases c : j < m * n
    · rw [if_pos c, if_pos c]
    · rw [if_neg c, if_neg c]
      show gB (sB (sI (sI T (28 + 2 * 1) 2) (29 + 2 * 1) (nI (m * n))) 3 f0) 3 j = 0
      rw [gB_sB, if_pos rfl]; exact f2 j hj
theorem x_l135_34 {T : w_S} {s m n : Nat} {E : eT} (k : Wk T s m n E) (a : at19 T (m * n) (pls s m n).length (pls s m n).length E) {Dv : Int64} (hD : ¬ Dv = 0) (hL : gI T 33 = nI (m * n)) (h2 : gI T 32 = 2) {i : Nat} (hi : i < m) (g0 : Nat → Int64) : ∃ g, fX6_lay_L135_34 (nI s) Dv (nI i) 256 (sB T 4 g0) 0 = some (sB T 4 g) ∧ (∀ j, g j = if i * n ≤ j ∧ j < i * n + n then (sv s m n E j / Dv).toInt32.toInt64 else g0 j) := by
  obtain ⟨k1, k2, k3, k4, k5, k6, k7, -⟩ := id k
  have h9 := mn_le9 k2.2 k3.2
  obtain ⟨t, e1, g, rfl, e2⟩ := loop_up (fun q (g : Nat → Int64) j => fX6_lay_L135_34 (nI s) Dv (nI i) q (sB T 4 g) j) (fun c g => ∀ j, g j = if i * n ≤ j ∧ j < i * n + c then (sv s m n E j / Dv).toInt32.toInt64 else g0 j) (fun t => ∃ g, t = sB T 4 g ∧ ∀ j, g j = if i * n ≤ j ∧ j < i * n + n then (sv s m n E j / Dv).toInt32.toInt64 else g0 j) n
    (fun q c g hc hI => by
      have hp := pl_lt hi hc
      refine ⟨vp_updL g (i * n + c) (sv s m n E (i * n + c) / Dv).toInt32.toInt64, fun j => ?_, ?_⟩
      · rw [updL_ap]
        by_cases e : j = i * n + c
        · rw [if_pos e, if_pos (by omega), e]
        · rw [if_neg e, hI j]
          by_cases f : i * n ≤ j ∧ j < i * n + c
          · rw [if_pos f, if_pos (by omega)]
          · rw [if_neg f, if_neg (by omega)]
      · have k' : Wk (sB T 4 g) s m n E := k
        have a' : at19 (sB T 4 g) (m * n) (pls s m n).length (pls s m n).length E := a
        show fX6_lay_L135_34 (nI s) Dv (nI i) (q + 1) (sB T 4 g) (nI c) = _
        rw [fX6_lay_L135_34, show gI (sB T 4 g) 1 = nI n from k7, if_neg (nI_ge hc (by omega)), x_sv k' a' hi hc, Option.bind_some, if_pos hD, nI_mul, nI_add, x_write2]
        unfold px_write
        rw [if_neg (nI_pos (by omega)), show gI (sB T 4 g) (29 + 2 * 2) = nI (m * n) from hL, if_neg (nI_ge hp (by omega)), show (40 : Int32) = nI 40 from rfl, if_neg (nI_ge (by omega) (by omega)), Option.bind_some, nI_clamp (by omega), show gI (sB T 4 g) (28 + 2 * 2) = 2 from h2, nI_1]
        show fX6_lay_L135_34 (nI s) Dv (nI i) q (sB (sB T 4 g) 4 (vp_updL (gB (sB T 4 g) 4) (i * n + c) (px_nar 2 (sv s m n E (i * n + c) / Dv)))) (nI (c + 1)) = _
        rw [sB_sB, gB_sB, if_pos rfl]; rfl)
    (fun q g hI => ⟨_, by
      show fX6_lay_L135_34 (nI s) Dv (nI i) (q + 1) (sB T 4 g) (nI n) = _
      rw [fX6_lay_L135_34, show gI (sB T 4 g) 1 = nI n from k7, if_pos (Int32.le_refl _)], g, rfl, hI⟩) 256 0 g0 (by omega) (by omega) (fun j => by rw [if_neg (by omega)])
  exact ⟨g, e1, e2⟩
theorem x_l120_34 {T : w_S} {s m n : Nat} {E : eT} (k : Wk T s m n E) (a : at19 T (m * n) (pls s m n).length (pls s m n).length E) {Dv : Int64} (hD : ¬ Dv = 0) (hL : gI T 33 = nI (m * n)) (h2 : gI T 32 = 2) : ∃ g, fX6_lay_L120_34 (nI s) Dv 256 T 0 = some (sB T 4 g) ∧ (∀ j, g j = if j < m * n then (sv s m n E j / Dv).toInt32.toInt64 else gB T 4 j) := by
  obtain ⟨k1, k2, k3, k4, k5, k6, k7, -⟩ := id k
  obtain ⟨t, e1, g, rfl, e2⟩ := loop_up (fun q (g : Nat → Int64) j => fX6_lay_L120_34 (nI s) Dv q (sB T 4 g) j) (fun c g => ∀ j, g j = if j < c * n then (sv s m n E j / Dv).toInt32.toInt64 else gB T 4 j) (fun t => ∃ g, t = sB T 4 g ∧ ∀ j, g j = if j < m * n then (sv s m n E j / Dv).toInt32.toInt64 else gB T 4 j) m
    (fun q i g hi hI => by
      obtain ⟨g', f1, f2⟩ := x_l135_34 k a hD hL h2 hi g
      refine ⟨g', fun j => ?_, ?_⟩
      · rw [f2 j, hI j, Nat.add_mul, Nat.one_mul]
        by_cases e : i * n ≤ j ∧ j < i * n + n
        · rw [if_pos e, if_pos e.2]
        · rw [if_neg e]
          by_cases f : j < i * n
          · rw [if_pos f, if_pos (by omega)]
          · rw [if_neg f, if_neg (by omega)]
      · show fX6_lay_L120_34 (nI s) Dv (q + 1) (sB T 4 g) (nI i) = _
        rw [fX6_lay_L120_34, show gI (sB T 4 g) 0 = nI m from k6, if_neg (nI_ge hi (by omega)), f1, Option.bind_some, nI_1])
    (fun q g hI => ⟨_, by
      show fX6_lay_L120_34 (nI s) Dv (q + 1) (sB T 4 g) (nI m) = _
      rw [fX6_lay_L120_34, show gI (sB T 4 g) 0 = nI m from k6, if_pos (Int32.le_refl _)], g, rfl, hI⟩) 256 0 (gB T 4) (by omega) (by omega) (fun j => by rw [Nat.zero_mul, if_neg (by omega)])
  simp only [sB_self] at e1
  exact ⟨g, e1, e2⟩
theorem x_put34 {T : w_S} {s m n : Nat} {E : eT} (k : Wk T s m n E) (a : at19 T (m * n) (pls s m n).length (pls s m n).length E) {Dv : Int64} (hD : ¬ Dv = 0) : ∃ f, (fX2_renew_34 T 2 ((gI T 0) * (gI T 1))).bind (fun r114 => (fX6_lay_L120_34 (nI s) Dv 256 r114 0).bind (fun q120 => (if ¬ Dv = 0 then some (((gL q120 0) / Dv).toInt32, q120) else none))) = some ((E.2.1 / Dv).toInt32, sB (sI (sI T (28 + 2 * 2) 2) (29 + 2 * 2) (nI (m * n))) (2 + 2) f) ∧ ∀ j, j < 40 → f j = if j < m * n then (sv s m n E j / Dv).toInt32.toInt64 else 0 := by
  obtain ⟨k1, k2, k3, k4, k5, k6, k7, -⟩ := id k
  have h9 := mn_le9 k2.2 k3.2
  obtain ⟨f0, f1, f2⟩ := x_rnw T (k := 2) (by omega) 2 (nI (m * n))
  have f1' : fX2_renew_34 T 2 (nI (m * n)) = some (sB (sI (sI T (28 + 2 * 2) 2) (29 + 2 * 2) (nI (m * n))) (2 + 2) f0) := by
    have e := px_lenN (n := nI (m * n)) (nI_nn0 _ (by omega)) (by rw [show (40 : Int32) = nI 40 from rfl]; exact nI_le (by omega) (by omega))
    rw [e] at f1; exact f1
  have k' : Wk (sB (sI (sI T (28 + 2 * 2) 2) (29 + 2 * 2) (nI (m * n))) (2 + 2) f0) s m n E := k
  have a' : at19 (sB (sI (sI T (28 + 2 * 2) 2) (29 + 2 * 2) (nI (m * n))) (2 + 2) f0) (m * n) (pls s m n).length (pls s m n).length E := a
  obtain ⟨g, g1, g2⟩ := x_l120_34 k' a' hD rfl rfl
  refine ⟨g, ?_, fun j hj => ?_⟩
  · rw [k6, k7, nI_mul, f1', Option.bind_some, g1, Option.bind_some, if_pos hD]
    have e : gL (sB (sB (sI (sI T (28 + 2 * 2) 2) (29 + 2 * 2) (nI (m * n))) (2 + 2) f0) 4 g) 0 = E.2.1 := a.2.2.2.1
    rw [e]
    show some (_, sB (sB (sI (sI T (28 + 2 * 2) 2) (29 + 2 * 2) (nI (m * n))) 4 f0) 4 g) = _
    rw [sB_sB]
  · rw [g2 j]
    by_cases c : j < m * n
    · rw [if_pos c, if_pos c]
    · rw [if_neg c, if_neg c]
      show gB (sB (sI (sI T (28 + 2 * 2) 2) (29 + 2 * 2) (nI (m * n))) 4 f0) 4 j = 0
      rw [gB_sB, if_pos rfl]; exact f2 j hj
theorem x_l135_36 {T : w_S} {s m n : Nat} {E : eT} (k : Wk T s m n E) (a : at19 T (m * n) (pls s m n).length (pls s m n).length E) {Dv : Int64} (hD : ¬ Dv = 0) (hL : gI T 35 = nI (m * n)) (h2 : gI T 34 = 2) {i : Nat} (hi : i < m) (g0 : Nat → Int64) : ∃ g, fX6_lay_L135_36 (nI s) Dv (nI i) 256 (sB T 5 g0) 0 = some (sB T 5 g) ∧ (∀ j, g j = if i * n ≤ j ∧ j < i * n + n then (sv s m n E j / Dv).toInt32.toInt64 else g0 j) := by
  obtain ⟨k1, k2, k3, k4, k5, k6, k7, -⟩ := id k
  have h9 := mn_le9 k2.2 k3.2
  obtain ⟨t, e1, g, rfl, e2⟩ := loop_up (fun q (g : Nat → Int64) j => fX6_lay_L135_36 (nI s) Dv (nI i) q (sB T 5 g) j) (fun c g => ∀ j, g j = if i * n ≤ j ∧ j < i * n + c then (sv s m n E j / Dv).toInt32.toInt64 else g0 j) (fun t => ∃ g, t = sB T 5 g ∧ ∀ j, g j = if i * n ≤ j ∧ j < i * n + n then (sv s m n E j / Dv).toInt32.toInt64 else g0 j) n
    (fun q c g hc hI => by
      have hp := pl_lt hi hc
      refine ⟨vp_updL g (i * n + c) (sv s m n E (i * n + c) / Dv).toInt32.toInt64, fun j => ?_, ?_⟩
      · rw [updL_ap]
        by_cases e : j = i * n + c
        · rw [if_pos e, if_pos (by omega), e]
        · rw [if_neg e, hI j]
          by_cases f : i * n ≤ j ∧ j < i * n + c
          · rw [if_pos f, if_pos (by omega)]
          · rw [if_neg f, if_neg (by omega)]
      · have k' : Wk (sB T 5 g) s m n E := k
        have a' : at19 (sB T 5 g) (m * n) (pls s m n).length (pls s m n).length E := a
        show fX6_lay_L135_36 (nI s) Dv (nI i) (q + 1) (sB T 5 g) (nI c) = _
        rw [fX6_lay_L135_36, show gI (sB T 5 g) 1 = nI n from k7, if_neg (nI_ge hc (by omega)), x_sv k' a' hi hc, Option.bind_some, if_pos hD, nI_mul, nI_add, x_write3]
        unfold px_write
        rw [if_neg (nI_pos (by omega)), show gI (sB T 5 g) (29 + 2 * 3) = nI (m * n) from hL, if_neg (nI_ge hp (by omega)), show (40 : Int32) = nI 40 from rfl, if_neg (nI_ge (by omega) (by omega)), Option.bind_some, nI_clamp (by omega), show gI (sB T 5 g) (28 + 2 * 3) = 2 from h2, nI_1]
        show fX6_lay_L135_36 (nI s) Dv (nI i) q (sB (sB T 5 g) 5 (vp_updL (gB (sB T 5 g) 5) (i * n + c) (px_nar 2 (sv s m n E (i * n + c) / Dv)))) (nI (c + 1)) = _
        rw [sB_sB, gB_sB, if_pos rfl]; rfl)
    (fun q g hI => ⟨_, by
      show fX6_lay_L135_36 (nI s) Dv (nI i) (q + 1) (sB T 5 g) (nI n) = _
      rw [fX6_lay_L135_36, show gI (sB T 5 g) 1 = nI n from k7, if_pos (Int32.le_refl _)], g, rfl, hI⟩) 256 0 g0 (by omega) (by omega) (fun j => by rw [if_neg (by omega)])
  exact ⟨g, e1, e2⟩
theorem x_l120_36 {T : w_S} {s m n : Nat} {E : eT} (k : Wk T s m n E) (a : at19 T (m * n) (pls s m n).length (pls s m n).length E) {Dv : Int64} (hD : ¬ Dv = 0) (hL : gI T 35 = nI (m * n)) (h2 : gI T 34 = 2) : ∃ g, fX6_lay_L120_36 (nI s) Dv 256 T 0 = some (sB T 5 g) ∧ (∀ j, g j = if j < m * n then (sv s m n E j / Dv).toInt32.toInt64 else gB T 5 j) := by
  obtain ⟨k1, k2, k3, k4, k5, k6, k7, -⟩ := id k
  obtain ⟨t, e1, g, rfl, e2⟩ := loop_up (fun q (g : Nat → Int64) j => fX6_lay_L120_36 (nI s) Dv q (sB T 5 g) j) (fun c g => ∀ j, g j = if j < c * n then (sv s m n E j / Dv).toInt32.toInt64 else gB T 5 j) (fun t => ∃ g, t = sB T 5 g ∧ ∀ j, g j = if j < m * n then (sv s m n E j / Dv).toInt32.toInt64 else gB T 5 j) m
    (fun q i g hi hI => by
      obtain ⟨g', f1, f2⟩ := x_l135_36 k a hD hL h2 hi g
      refine ⟨g', fun j => ?_, ?_⟩
      · rw [f2 j, hI j, Nat.add_mul, Nat.one_mul]
        by_cases e : i * n ≤ j ∧ j < i * n + n
        · rw [if_pos e, if_pos e.2]
        · rw [if_neg e]
          by_cases f : j < i * n
          · rw [if_pos f, if_pos (by omega)]
          · rw [if_neg f, if_neg (by omega)]
      · show fX6_lay_L120_36 (nI s) Dv (q + 1) (sB T 5 g) (nI i) = _
        rw [fX6_lay_L120_36, show gI (sB T 5 g) 0 = nI m from k6, if_neg (nI_ge hi (by omega)), f1, Option.bind_some, nI_1])
    (fun q g hI => ⟨_, by
      show fX6_lay_L120_36 (nI s) Dv (q + 1) (sB T 5 g) (nI m) = _
      rw [fX6_lay_L120_36, show gI (sB T 5 g) 0 = nI m from k6, if_pos (Int32.le_refl _)], g, rfl, hI⟩) 256 0 (gB T 5) (by omega) (by omega) (fun j => by rw [Nat.zero_mul, if_neg (by omega)])
  simp only [sB_self] at e1
  exact ⟨g, e1, e2⟩
theorem x_put36 {T : w_S} {s m n : Nat} {E : eT} (k : Wk T s m n E) (a : at19 T (m * n) (pls s m n).length (pls s m n).length E) {Dv : Int64} (hD : ¬ Dv = 0) : ∃ f, (fX2_renew_36 T 2 ((gI T 0) * (gI T 1))).bind (fun r114 => (fX6_lay_L120_36 (nI s) Dv 256 r114 0).bind (fun q120 => (if ¬ Dv = 0 then some (((gL q120 0) / Dv).toInt32, q120) else none))) = some ((E.2.1 / Dv).toInt32, sB (sI (sI T (28 + 2 * 3) 2) (29 + 2 * 3) (nI (m * n))) (2 + 3) f) ∧ ∀ j, j < 40 → f j = if j < m * n then (sv s m n E j / Dv).toInt32.toInt64 else 0 := by
  obtain ⟨k1, k2, k3, k4, k5, k6, k7, -⟩ := id k
  have h9 := mn_le9 k2.2 k3.2
  obtain ⟨f0, f1, f2⟩ := x_rnw T (k := 3) (by omega) 2 (nI (m * n))
  have f1' : fX2_renew_36 T 2 (nI (m * n)) = some (sB (sI (sI T (28 + 2 * 3) 2) (29 + 2 * 3) (nI (m * n))) (2 + 3) f0) := by
    have e := px_lenN (n := nI (m * n)) (nI_nn0 _ (by omega)) (by rw [show (40 : Int32) = nI 40 from rfl]; exact nI_le (by omega) (by omega))
    rw [e] at f1; exact f1
  have k' : Wk (sB (sI (sI T (28 + 2 * 3) 2) (29 + 2 * 3) (nI (m * n))) (2 + 3) f0) s m n E := k
  have a' : at19 (sB (sI (sI T (28 + 2 * 3) 2) (29 + 2 * 3) (nI (m * n))) (2 + 3) f0) (m * n) (pls s m n).length (pls s m n).length E := a
  obtain ⟨g, g1, g2⟩ := x_l120_36 k' a' hD rfl rfl
  refine ⟨g, ?_, fun j hj => ?_⟩
  · rw [k6, k7, nI_mul, f1', Option.bind_some, g1, Option.bind_some, if_pos hD]
    have e : gL (sB (sB (sI (sI T (28 + 2 * 3) 2) (29 + 2 * 3) (nI (m * n))) (2 + 3) f0) 5 g) 0 = E.2.1 := a.2.2.2.1
    rw [e]
    show some (_, sB (sB (sI (sI T (28 + 2 * 3) 2) (29 + 2 * 3) (nI (m * n))) 5 f0) 5 g) = _
    rw [sB_sB]
  · rw [g2 j]
    by_cases c : j < m * n
    · rw [if_pos c, if_pos c]
    · rw [if_neg c, if_neg c]
      show gB (sB (sI (sI T (28 + 2 * 3) 2) (29 + 2 * 3) (nI (m * n))) 5 f0) 5 j = 0
      rw [gB_sB, if_pos rfl]; exact f2 j hj
theorem eq_lay : E_lay Rel := by
  intro X M h e a
  have hw := nw_of h.1
  obtain ⟨⟨e1, e2, e3, e4⟩, hm, hn, hq, hT, h6, h7, o4, -⟩ := id hw
  rw [fX6_lay, fX7_lay, x_hasEq X e hq, m_isEq M e (by rw [e4]; exact hq), e4, x_isSheet, m_isSheet]
  by_cases he : 0 ≤ e.toInt ∧ e.toInt < (gI X 3).toInt
  · rw [if_pos he, Option.bind_some, Option.bind_some, if_neg n10, if_neg n10]
    by_cases ha : 0 ≤ a.toInt ∧ a.toInt < 4
    · rw [if_pos ha, Option.bind_some, Option.bind_some, if_neg n10, if_neg n10]
      obtain ⟨s, m, n, sh, q⟩ := eqA_of h he
      obtain ⟨q1, q2, q3, q4, q5, q6, q7, q8, q9, q10, q11, q12, q13, q14⟩ := id q
      have c1 := x_kindOf X q14 q13
      rw [show e.toInt.toNat = e.toNatClampNeg from rfl, q8] at c1
      have p1 := x_fits X q6 q4 q5 q2 q3
      obtain ⟨f, p2⟩ := m_isFit M q6 q4 q5 (by rw [e1]; exact q2) (by rw [e2]; exact q3)
      have h48 := Rel_8 h f
      rw [c1, Option.bind_some, p1, Option.bind_some, one_ite, if_pos q12, q10, p2, Option.bind_some, one_ite]
      by_cases c : (s ≤ 1 ∨ m = n) ∧ (pls s m n).length ≤ 6
      · have q' := EqA_T q (frX_rf X) (frM_8 M f) h48
        obtain ⟨T, T', t1, t2, t3, t4, t5, t6, t7, t8, t9, t10, t11, t12⟩ := two_frac h48 q' c.1 c.2
        have h9 := mn_le9 q4.2 q5.2
        have k1 := x_slv h9 (by omega) t8 t5
        have k2 := m_slv h9 (by omega) t8 t6
        obtain ⟨r1, r2, r3, r4, r5, r6, r7, r8, r9, r10, r11, r12, r13, r14⟩ := id t4
        rw [if_pos c, t1, Option.bind_some, k1, Option.bind_some, bit_ite, if_pos c, t2, Option.bind_some, k2, Option.bind_some, bit_ite]
        by_cases sl : slv (m * n) (pls s m n).length (eE X (nI s) s sh m n 0) = true
        · have hq4 : s < 4 ∨ m = n := by omega
          have b0 : ∀ p, p < m * n → (sv s m n (eE X (nI s) s sh m n 0) p).toInt.natAbs < 9223372036854775808 := fun p hp => by
            have a5 : p % n < n := Nat.mod_lt p (by omega)
            have a6 : p / n < m := by rw [Nat.div_lt_iff_lt_mul (by omega)]; exact hp
            exact vs_abs' q6 q4 q5 hq4 a6 a5 (fun u hu => isol_abs t11 (by omega) t12 hu)
          have m0 : gI T' 0 = nI m := by rw [r1.1.1]; exact r2
          have m1 : gI T' 1 = nI n := by rw [r1.1.2.1]; exact r3
          have kX : Wk T s m n (eE X (nI s) s sh m n 0) := ⟨q6, q4, q5, hq4, c.2, r2, r3, t8, t11, t9, t10, b0⟩
          have kM : Wk T' s m n (eE X (nI s) s sh m n 0) := ⟨q6, q4, q5, hq4, c.2, m0, m1, t8, t11, t9, t10, b0⟩
          generalize eE X (nI s) s sh m n 0 = E at *
          have N0 : 0 < E.2.1.toInt.natAbs := by have : E.2.1.toInt ≠ 0 := fun e => t9 (l0.2 e); omega
          have G0 := GG_pos N0 (vN s m n E) (m * n)
          obtain ⟨Dv, d1, d2⟩ := x_divisor kX t5
          obtain ⟨al, l1, l2⟩ := m_scale kM t6 t7
          have D0 : ¬ Dv = 0 := fun g => by rw [l0, d2] at g; exact sgI_0 G0 g
          have hmn : 0 < m * n := Nat.mul_pos (by omega) (by omega)
          obtain ⟨-, -, -, -, -, -, hal, -⟩ := shares kX d2 l2 hmn
          have i1 := x_ints kX t5 D0 hal
          have i2 := m_l77 kM t6 t7 a d2 l2
          have q72 : (if al = al.toInt32.toInt64 then some (1 : Int32) else some 0) = some (if nint al = false then 1 else 0) := by
            have hn : nint al = decide (¬ al = al.toInt32.toInt64) := rfl
            by_cases g : al = al.toInt32.toInt64
            · rw [if_pos g, if_pos (by rw [hn]; simp [← g])]
            · rw [if_neg g, if_neg (by rw [hn]; simp [g])]
          rw [if_pos sl, if_pos sl, d1, Option.bind_some, if_neg D0, i1, Option.bind_some, one_ite, l1, Option.bind_some, q72, Option.bind_some, i2, Option.bind_some, one_ite]
          by_cases ok : nint al = false ∧ fb (nP s m n E Dv) (m * n) 0 = m * n
          · obtain ⟨kk, hk1, rfl, hk3⟩ := nI_nn ha.1
            have hk : kk < 4 := by omega
            rw [if_pos ok, if_pos ok, if_pos (nI_inN hk (by decide)), if_pos (nI_inN hk (by decide)), nI_clamp (by omega), m0, m1, nI_mul]
            have kM' : Wk (sA (sA T' 12 (upd (gA T' 12) kk 2)) 13 (upd (gA T' 13) kk (nI (m * n)))) s m n E := kM
            have t6' : atM (sA (sA T' 12 (upd (gA T' 12) kk 2)) 13 (upd (gA T' 13) kk (nI (m * n)))) (m * n) (pls s m n).length (pls s m n).length E := t6
            obtain ⟨g, g1, g2, g3⟩ := m_l214 kM' t6' t7 hk d2 l2
            rw [g1]
            have xx : ∃ ff, (if nI kk = (0 : Int32) then (fX2_renew_30 T 2 ((gI T 0) * (gI T 1))).bind (fun r114 => (fX6_lay_L120_30 (nI s) Dv 256 r114 0).bind (fun q120 => (if ¬ Dv = 0 then some (((gL q120 0) / Dv).toInt32, q120) else none))) else if nI kk = (1 : Int32) then (fX2_renew_32 T 2 ((gI T 0) * (gI T 1))).bind (fun r114 => (fX6_lay_L120_32 (nI s) Dv 256 r114 0).bind (fun q120 => (if ¬ Dv = 0 then some (((gL q120 0) / Dv).toInt32, q120) else none))) else if nI kk = (2 : Int32) then (fX2_renew_34 T 2 ((gI T 0) * (gI T 1))).bind (fun r114 => (fX6_lay_L120_34 (nI s) Dv 256 r114 0).bind (fun q120 => (if ¬ Dv = 0 then some (((gL q120 0) / Dv).toInt32, q120) else none))) else if nI kk = (3 : Int32) then (fX2_renew_36 T 2 ((gI T 0) * (gI T 1))).bind (fun r114 => (fX6_lay_L120_36 (nI s) Dv 256 r114 0).bind (fun q120 => (if ¬ Dv = 0 then some (((gL q120 0) / Dv).toInt32, q120) else none))) else none) = some (al.toInt32, sB (sI (sI T (28 + 2 * kk) 2) (29 + 2 * kk) (nI (m * n))) (2 + kk) ff) ∧ ∀ j, j < 40 → ff j = if j < m * n then (sv s m n E j / Dv).toInt32.toInt64 else 0 := by
              rw [← hal]
              rcases (show kk = 0 ∨ kk = 1 ∨ kk = 2 ∨ kk = 3 by omega) with rfl | rfl | rfl | rfl
              · obtain ⟨ff, f1, f2⟩ := x_put30 kX t5 D0
                exact ⟨ff, by rw [if_pos (show nI 0 = 0 from rfl), f1], f2⟩
              · obtain ⟨ff, f1, f2⟩ := x_put32 kX t5 D0
                exact ⟨ff, by rw [if_neg (show ¬ nI 1 = 0 by decide), if_pos (show nI 1 = 1 from rfl), f1], f2⟩
              · obtain ⟨ff, f1, f2⟩ := x_put34 kX t5 D0
                exact ⟨ff, by rw [if_neg (show ¬ nI 2 = 0 by decide), if_neg (show ¬ nI 2 = 1 by decide), if_pos (show nI 2 = 2 from rfl), f1], f2⟩
              · obtain ⟨ff, f1, f2⟩ := x_put36 kX t5 D0
                exact ⟨ff, by rw [if_neg (show ¬ nI 3 = 0 by decide), if_neg (show ¬ nI 3 = 1 by decide), if_neg (show ¬ nI 3 = 2 by decide), if_pos (show nI 3 = 3 from rfl), f1], f2⟩
            obtain ⟨ff, x1, x2⟩ := xx
            rw [x1]
            refine ⟨_, _, rfl, rfl, rfl, ?_⟩
            have ones : ∀ j, j < m * n → (sv s m n E j / Dv).toInt32.toInt64 = sv s m n E j / Dv := fun j hj => by
              have hfb : ∀ p, p ≤ m * n → fb (nP s m n E Dv) p 0 = p := by
                intro p hp
                have h1 := fb_add (nP s m n E Dv) p (m * n - p) 0
                rw [show p + (m * n - p) = m * n by omega, ok.2, Nat.zero_add] at h1
                have hr := fb_rg (nP s m n E Dv) p 0
                by_cases g : fb (nP s m n E Dv) p 0 = p
                · exact g
                · rw [if_neg g] at h1; omega
              have h3 := ((fb_s _ j).1 (hfb (j + 1) hj)).2
              have h4 : decide (¬ (sv s m n E j / Dv) = (sv s m n E j / Dv).toInt32.toInt64) = false := h3
              have h5 := of_decide_eq_false h4
              exact (Classical.not_not.1 h5).symm
            refine rel_sheet t3 hk (fun j a1 a2 => by rw [gI_sB, gI_sI, if_neg a2, gI_sI, if_neg a1]) rfl (fun j a1 => by rw [gB_sB, if_neg a1]; rfl) rfl (fun j a1 a2 => by rw [gA_sB, gA_sA, if_neg a2, gA_sA, if_neg a1]) (fun j a1 => ⟨?_, ?_⟩) (fun j a1 a2 => by rw [gB_sB, if_pos rfl, g3 j a2]; rfl) ?_ ?_ ?_ ?_ ?_ (fun j hj => ?_)
            · show upd (gA T' 12) kk 2 j = _
              rw [upd_ap, if_neg a1]
            · show upd (gA T' 13) kk (nI (m * n)) j = _
              rw [upd_ap, if_neg a1]
            · rw [gI_sB, gI_sI, if_neg (by omega), gI_sI, if_pos rfl]
              show (2 : Int32) = upd (gA T' 12) kk 2 kk
              rw [upd_ap, if_pos rfl]
            · rw [gI_sB, gI_sI, if_pos rfl]
              show nI (m * n) = upd (gA T' 13) kk (nI (m * n)) kk
              rw [upd_ap, if_pos rfl]
            · rw [gI_sB, gI_sI, if_neg (by omega), gI_sI, if_pos rfl]; exact ⟨by decide, by decide⟩
            · rw [gI_sB, gI_sI, if_pos rfl]; unfold bnd; rw [nI_toInt (by omega)]; omega
            · rw [gI_sB, gI_sI, if_neg (by omega), gI_sI, if_pos rfl]; intro g; exact absurd g (by decide)
            · rw [gB_sB, if_pos rfl, gB_sB, if_pos rfl, x2 j hj, g2 j hj]
              by_cases g : j < m * n
              · rw [if_pos g, if_pos g, ones j g]
              · rw [if_neg g, if_neg g]
          · rw [if_neg ok, if_neg ok]; exact ⟨_, _, rfl, rfl, rfl, t3⟩
        · rw [if_neg sl, if_neg sl]; exact ⟨_, _, rfl, rfl, rfl, t3⟩
      · rw [if_neg c, if_neg c]; exact ⟨_, _, rfl, rfl, rfl, h48⟩
    · rw [if_neg ha]; exact ⟨_, _, rfl, rfl, rfl, h⟩
  · rw [if_neg he]; exact ⟨_, _, rfl, rfl, rfl, h⟩
