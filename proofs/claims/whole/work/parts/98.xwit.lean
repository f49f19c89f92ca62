/-! ===== witness: alike ===== -/
theorem ff_all (g : eM) (c : Nat) : ∀ n r, (∀ i, r ≤ i → i < r + n → g i c = 0) → ff g c n r = r + n
  | 0, r, _ => rfl
  | n + 1, r, h => by
    rw [ff, if_pos (h r (Nat.le_refl _) (by omega)), ff_all g c n (r + 1) (fun i a b => h i (by omega) (by omega))]; omega
/-- fractions that are the same -/
theorem red_same {a b a' b' : Int} {g g' : Nat} {al be al' be' : Int} (h : a * b' = a' * b) (ha : a = g * al) (hb : b = g * be) (ha' : a' = g' * al') (hb' : b' = g' * be') (hg : 0 < g) (hg' : 0 < g') (hc : Nat.gcd al.natAbs be.natAbs = 1) (hc' : Nat.gcd al'.natAbs be'.natAbs = 1) (p : 0 < be) (p' : 0 < be') : al = al' ∧ be = be' := by
  have k1 : al * be' = al' * be := by
    have : ((g : Int) * g') * (al * be') = ((g : Int) * g') * (al' * be) := by
      rw [ha, hb, ha', hb'] at h; grind
    exact Int.eq_of_mul_eq_mul_left (by have := Int.mul_pos (Int.ofNat_lt.2 hg) (Int.ofNat_lt.2 hg'); omega) this
  have k2 : al.natAbs * be'.natAbs = al'.natAbs * be.natAbs := by
    have := congrArg Int.natAbs k1
    rwa [Int.natAbs_mul, Int.natAbs_mul] at this
  have d1 : be.natAbs ∣ be'.natAbs := by
    have : be.natAbs ∣ al.natAbs * be'.natAbs := ⟨al'.natAbs, by rw [k2, Nat.mul_comm]⟩
    exact Nat.Coprime.dvd_of_dvd_mul_left (show Nat.Coprime be.natAbs al.natAbs by unfold Nat.Coprime; rw [Nat.gcd_comm]; exact hc) this
  have d2 : be'.natAbs ∣ be.natAbs := by
    have : be'.natAbs ∣ al'.natAbs * be.natAbs := ⟨al.natAbs, by rw [← k2, Nat.mul_comm]⟩
    exact Nat.Coprime.dvd_of_dvd_mul_left (show Nat.Coprime be'.natAbs al'.natAbs by unfold Nat.Coprime; rw [Nat.gcd_comm]; exact hc') this
  have e := Nat.dvd_antisymm d1 d2
  have eb : be = be' := by omega
  refine ⟨?_, eb⟩
  rw [← eb] at k1
  exact Int.eq_of_mul_eq_mul_right (by omega) k1
/-- a fraction's parts, in lowest terms -/
theorem parts64 {x y D : Int64} (hx : x.toInt ≠ -9223372036854775808) (hy : y.toInt ≠ -9223372036854775808) (y0 : y.toInt ≠ 0) (hD : D.toInt = (if 0 < y.toInt then ((Nat.gcd x.toInt.natAbs y.toInt.natAbs : Nat) : Int) else -((Nat.gcd x.toInt.natAbs y.toInt.natAbs : Nat) : Int))) :
    ∃ (g : Nat) (al be : Int) (σ : Int), (σ = 1 ∨ σ = -1) ∧ σ * x.toInt = g * al ∧ σ * y.toInt = g * be ∧ 0 < g ∧ 0 < be ∧ Nat.gcd al.natAbs be.natAbs = 1 ∧ (x / D).toInt = al ∧ (y / D).toInt = be := by
  have g0 : 0 < Nat.gcd x.toInt.natAbs y.toInt.natAbs := Nat.gcd_pos_of_pos_right _ (by omega)
  obtain ⟨u, hu⟩ := Nat.gcd_dvd_left x.toInt.natAbs y.toInt.natAbs
  obtain ⟨v, hv⟩ := Nat.gcd_dvd_right x.toInt.natAbs y.toInt.natAbs
  have hcop : Nat.gcd u v = 1 := by
    have : Nat.gcd x.toInt.natAbs y.toInt.natAbs * Nat.gcd u v = Nat.gcd x.toInt.natAbs y.toInt.natAbs * 1 := by
      rw [← Nat.gcd_mul_left, ← hu, ← hv, Nat.mul_one]
    exact Nat.eq_of_mul_eq_mul_left g0 this
  generalize Nat.gcd x.toInt.natAbs y.toInt.natAbs = g at *
  have hux : ((x.toInt.natAbs : Nat) : Int) = (g : Int) * (u : Int) := by rw [hu, Int.natCast_mul]
  have hvy : ((y.toInt.natAbs : Nat) : Int) = (g : Int) * (v : Int) := by rw [hv, Int.natCast_mul]
  have v0 : 0 < v := Nat.pos_of_ne_zero (fun e => by rw [e, Nat.mul_zero] at hv; omega)
  have dx := div64 (x := x) (y := D) (fun e => hx e.1)
  have dy := div64 (x := y) (y := D) (fun e => hy e.1)
  have gz : (g : Int) ≠ 0 := by omega
  by_cases c : 0 < y.toInt
  · rw [if_pos c] at hD
    have ey : y.toInt = (g : Int) * v := by omega
    by_cases s : 0 ≤ x.toInt
    · have ex : x.toInt = (g : Int) * u := by omega
      exact ⟨g, u, v, 1, Or.inl rfl, by omega, by omega, g0, by omega, by simpa using hcop, by rw [dx, hD, ex]; exact Int.mul_tdiv_cancel_left _ gz, by rw [dy, hD, ey]; exact Int.mul_tdiv_cancel_left _ gz⟩
    · have ex : x.toInt = (g : Int) * (-(u : Int)) := by rw [Int.mul_neg]; omega
      exact ⟨g, -(u : Int), v, 1, Or.inl rfl, by omega, by omega, g0, by omega, by simpa using hcop, by rw [dx, hD, ex]; exact Int.mul_tdiv_cancel_left _ gz, by rw [dy, hD, ey]; exact Int.mul_tdiv_cancel_left _ gz⟩
  · rw [if_neg c] at hD
    have ey : y.toInt = -(g : Int) * v := by rw [Int.neg_mul]; omega
    have gz' : -(g : Int) ≠ 0 := by omega
    by_cases s : 0 ≤ x.toInt
    · have ex : x.toInt = -(g : Int) * (-(u : Int)) := by rw [Int.neg_mul_neg]; omega
      exact ⟨g, -(u : Int), v, -1, Or.inr rfl, by rw [Int.mul_neg]; omega, by omega, g0, by omega, by simpa using hcop, by rw [dx, hD, ex]; exact Int.mul_tdiv_cancel_left _ gz', by rw [dy, hD, ey]; exact Int.mul_tdiv_cancel_left _ gz'⟩
    · have ex : x.toInt = -(g : Int) * (u : Int) := by rw [Int.neg_mul]; omega
      exact ⟨g, u, v, -1, Or.inr rfl, by omega, by omega, g0, by omega, by simpa using hcop, by rw [dx, hD, ex]; exact Int.mul_tdiv_cancel_left _ gz', by rw [dy, hD, ey]; exact Int.mul_tdiv_cancel_left _ gz'⟩
theorem frac_two {x y x' y' : Int64} (part : Int32) (hx : x.toInt ≠ -9223372036854775808) (hy : y.toInt ≠ -9223372036854775808) (hx' : x'.toInt ≠ -9223372036854775808) (hy' : y'.toInt ≠ -9223372036854775808) (y0 : y ≠ 0) (y0' : y' ≠ 0) (h : x.toInt * y'.toInt = x'.toInt * y.toInt) : ∃ z, fX6_fractionPart x y part = some z ∧ fX7_partOf x' y' part = some z := by
  obtain ⟨D, d1, d2, -⟩ := frac_eq x y part hx hy y0
  obtain ⟨D', e1, -, e3⟩ := frac_eq x' y' part hx' hy' y0'
  obtain ⟨g, al, be, σ, s1, s2, s3, s4, s5, s6, s7, s8⟩ := parts64 hx hy (fun e => y0 (l0.2 e)) d1
  obtain ⟨g', al', be', σ', t1, t2, t3, t4, t5, t6, t7, t8⟩ := parts64 hx' hy' (fun e => y0' (l0.2 e)) e1
  have hh : (σ * x.toInt) * (σ' * y'.toInt) = (σ' * x'.toInt) * (σ * y.toInt) := by
    have : (σ * σ') * (x.toInt * y'.toInt) = (σ * σ') * (x'.toInt * y.toInt) := by rw [h]
    grind
  obtain ⟨r1, r2⟩ := red_same hh s2 s3 t2 t3 s4 t4 s6 t6 s5 t5
  have q1 : x / D = x' / D' := by rw [l_eq, s7, t7, r1]
  have q2 : y / D = y' / D' := by rw [l_eq, s8, t8, r2]
  exact ⟨_, d2, by rw [e3, q1, q2]⟩
/-! what C leaves: the long is the number -/
def lsI (C : Nat → Int64) (E : eT) (p : Nat) : Nat → Int
  | 0 => E.2.1.toInt * (C p).toInt
  | v + 1 => lsI C E p v - (if E.2.2.2.1 v < 0 then 0 else (C v).toInt * (E.2.2.2.2 (E.2.2.2.1 v).toNatClampNeg p).toInt)
theorem ls_bmod (C : Nat → Int64) (E : eT) (p : Nat) : ∀ v, (ls64 C E p v).toInt = (lsI C E p v).bmod (2 ^ 64)
  | 0 => Int64.toInt_mul _ _
  | v + 1 => by
    show (ls64 C E p v - (if E.2.2.2.1 v < 0 then 0 else C v * E.2.2.2.2 (E.2.2.2.1 v).toNatClampNeg p)).toInt = (lsI C E p v - _).bmod (2 ^ 64)
    rw [Int64.toInt_sub, ls_bmod C E p v]
    by_cases c : E.2.2.2.1 v < 0
    · rw [if_pos c, if_pos c, Int.bmod_sub_bmod]; rfl
    · rw [if_neg c, if_neg c, Int64.toInt_mul, Int.sub_bmod_bmod, Int.bmod_sub_bmod]
theorem lsI_sum (C : Nat → Int64) (E : eT) (p : Nat) : ∀ v, lsI C E p v = E.2.1.toInt * (C p).toInt - sumI (fun v => if E.2.2.2.1 v < 0 then 0 else (C v).toInt * (E.2.2.2.2 (E.2.2.2.1 v).toNatClampNeg p).toInt) v
  | 0 => by show E.2.1.toInt * (C p).toInt = E.2.1.toInt * (C p).toInt - (0 : Int); omega
  | v + 1 => by
    show lsI C E p v - (if E.2.2.2.1 v < 0 then 0 else (C v).toInt * (E.2.2.2.2 (E.2.2.2.1 v).toNatClampNeg p).toInt) = _ - (sumI (fun v => if E.2.2.2.1 v < 0 then 0 else (C v).toInt * (E.2.2.2.2 (E.2.2.2.1 v).toNatClampNeg p).toInt) v + (if E.2.2.2.1 v < 0 then 0 else (C v).toInt * (E.2.2.2.2 (E.2.2.2.1 v).toNatClampNeg p).toInt))
    rw [lsI_sum C E p v]; omega
theorem lsI_lW {A : Nat → dV} {w q : Nat} {Er : eT} {πr : Nat → Nat} {csr : List Nat} (Hr : EI A w q q Er πr csr) (hw : w ≤ 9) (C : Nat → Int64) (hC : ∀ p, p < q → (C p).toInt = A w p) {p : Nat} (hp : p < q) : lsI C Er p q = lW A w Er πr csr p := by
  rw [lsI_sum, hC p hp]
  have hrq := Hr.2.1
  by_cases c : p ∈ csr
  · rw [lW_piv c]
    obtain ⟨k, k1, k2⟩ := pc_of Hr c
    rw [sumI_one hp (fun v hv hne => ?_)]
    · obtain ⟨l, l1, l2, l3, l4⟩ := pv_piv Hr hw k1
      rw [k2] at l2
      show _ - (if Er.2.2.2.1 p < 0 then 0 else (C p).toInt * (Er.2.2.2.2 (Er.2.2.2.1 p).toNatClampNeg p).toInt) = 0
      have d1 := pU_d Hr k1
      rw [k2] at d1
      rw [l2, if_neg (nI_pos (by omega)), nI_clamp (by omega), l4, pU_cell Hr k1 (by omega), d1, hC p hp, Int.mul_comm]; omega
    · rcases pv_cs Hr hv hw with ⟨e1, e2⟩ | ⟨l, l1, l2, l3⟩
      · rw [e1, if_pos (by decide)]
      · have kl : k ≠ l := fun e => hne (by rw [← l3, ← e, k2])
        rw [l2, if_neg (nI_pos (by omega)), nI_clamp (by omega), pU_cell Hr l1 (by omega), ← k2, pU_0 Hr l1 k1 kl]; simp
  · rw [← lW_free Hr hw hp c]
    unfold ev
    show _ = sumI (fun j => A w j * zK Er p q j) q + A w q * zK Er p q q
    rw [zK_w]
    have e : sumI (fun j => A w j * zK Er p q j) q = sumI (fun j => 1 * (if j = p then Er.2.1.toInt * A w p else 0) + (-1) * (if Er.2.2.2.1 j < 0 then 0 else (C j).toInt * (Er.2.2.2.2 (Er.2.2.2.1 j).toNatClampNeg p).toInt)) q := by
      refine sumI_c (fun j hj => ?_)
      by_cases jp : j = p
      · rw [jp, zK_f hp, if_pos rfl]
        rcases pv_cs Hr hp hw with ⟨e1, e2⟩ | ⟨l, l1, l2, l3⟩
        · rw [e1, if_pos (by decide), Int.mul_comm]; omega
        · exact absurd (by rw [← l3]; exact pc_mem Hr l1) c
      · rw [if_neg jp]
        unfold zK
        rw [if_neg (by omega), if_neg jp]
        by_cases g : Er.2.2.2.1 j < 0
        · rw [if_pos g, if_pos g]; simp
        · rw [if_neg g, if_neg g, hC j hj, Int.mul_neg]; omega
    rw [e, sumI_lin, sumI_one hp (fun j hj hne => if_neg hne), if_pos rfl]
    omega
theorem m_first (S : w_S) {m n : Nat} (h9 : m * n ≤ 9) (h0 : gI S 0 = nI m) (h1 : gI S 1 = nI n) (a2 a3 a4 : Int32) (d : Int64) : ∀ g q p, p + g = m * n → g < q → fX7_witness_L57 S a2 a3 a4 d q (nI p) = some (nI (fb (fun p => decide (¬ gB S 2 p = 0)) g p))
  | _, 0, _ => fun h1 h2 => absurd h2 (Nat.not_lt_zero _)
  | 0, q + 1, p => fun h1' h2 => by
    rw [fX7_witness_L57, h0, h1, nI_mul, fb, if_pos (by rw [nI_leI (by omega) (by omega)]; omega)]
  | g + 1, q + 1, p => fun h1' h2 => by
    rw [fX7_witness_L57, h0, h1, nI_mul, if_neg (nI_ge (by omega) (by omega)), if_pos (nI_inN (show p < 9 by omega) (by decide)), nI_clamp (by omega), fb, nI_1]
    by_cases c : gB S 2 p = 0
    · rw [if_pos c, if_neg (by simp [c])]
      exact m_first S h9 h0 h1 a2 a3 a4 d g q (p + 1) (by omega) (by omega)
    · rw [if_neg c, if_pos (by simp [c])]
theorem fb_before (P : Nat → Bool) : ∀ n p i, p ≤ i → i < fb P n p → P i = false
  | 0, p, i => fun h1 h2 => by rw [fb] at h2; omega
  | n + 1, p, i => fun h1 h2 => by
    rw [fb] at h2
    by_cases c : P p = true
    · rw [if_pos c] at h2; omega
    · rw [if_neg c] at h2
      by_cases e : i = p
      · rw [e]; simpa using c
      · exact fb_before P n (p + 1) i (by omega) h2
/-- the model's numbers -/
theorem m_rules {X M : w_S} (hw : Nw X M) {s m n : Nat} {sh : Int32} (hsh : sb 2 sh) (hy : Sys s m n 0) (h6 : (pls s m n).length ≤ 6) (h0 : gI M 0 = nI m) (h1 : gI M 1 = nI n) (hpv : ∀ u, u < m * n → (eRl X s sh m n).2.2.2.1 u = -1 ∨ ∃ i, i < (eRl X s sh m n).1 ∧ (eRl X s sh m n).2.2.2.1 u = nI i) :
    ∃ S, fX7_worksRules M (nI s) sh = some ((eRl X s sh m n).2.1, S) ∧ frM M S ∧ (∀ c, c < m * n → gA S 11 c = (eRl X s sh m n).2.2.2.1 c) ∧ (∀ i j, i < (pls s m n).length → j < m * n → gB S 1 (9 * i + j) = (eRl X s sh m n).2.2.2.2 i j) ∧ (∀ p, p < m * n → gB S 2 p = ls64 (fun p => gM0 X (nI s) s sh m n 0 p (pls s m n).length) (eRl X s sh m n) p (m * n)) := by
  obtain ⟨y1, y2, y3, y4, y5, y6⟩ := id hy
  obtain ⟨-, -, -, -, hT, -⟩ := id hw
  have h9 := mn_le9 y2.2 y3.2
  obtain ⟨p, p1, p2⟩ := m_unknowns M y1 y2 y3 h0 h1
  obtain ⟨g, g1, g2⟩ := m_rule9 (S := sA M 8 p) hw hsh hy h6 h0 h1 hT p2
  obtain ⟨T, t1, t2, t3, t4, t5⟩ := m_rule89 (sB (sA M 8 p) 1 g) (h := (pls s m n).length) (g := gR X s sh m n) y2 y3 h6 h0 h1 (fun i j hi hj => by rw [gB_sB, if_pos rfl]; exact g2 i j hi (by omega))
  have hr := (eR_le (pls s m n).length (e0 (gR X s sh m n)) (Nat.zero_le _) (m * n)).1
  obtain ⟨g', l1, l2⟩ := m_left T (h := (pls s m n).length) (E := eRl X s sh m n) y2 y3 h6 hr (by rw [t2.1 0]; exact h0) (by rw [t2.1 1]; exact h1) t4 t5 hpv (fun p => gM0 X (nI s) s sh m n 0 p (pls s m n).length) (fun q hq => by
    rw [t2.2.1 0 (by omega)]
    show gM0 X (nI s) s sh m n 0 q (pls s m n).length = (gA M 0 _).toInt64
    have a := div_lt3 hq y2.2
    have b := mod_lt3 hq y3.2
    unfold gM0 fin
    rw [Nat.zero_mul, Nat.sub_zero, if_neg (Nat.lt_irrefl _), if_pos rfl, Nat.zero_add]
    generalize q / n = I at *
    generalize q % n = J at *
    rw [hT _ (by omega)])
  refine ⟨sB T 2 g', ?_, frM_tr (frM_8 M p) (frR_M (frR_tr (frR_B _ g) (frR_tr t2 (frR_C T g')))), fun c hc => t4 c hc, fun i j hi hj => t5 i j hi hj, fun q hq => by rw [gB_sB, if_pos rfl]; exact l2 q hq⟩
  have t1' : fX7_worksRules_L89 (nI (pls s m n).length) 256 (sB (sA M 8 p) 1 g) 1 0 0 = some (T, (eRl X s sh m n).2.1) := t1
  rw [fX7_worksRules, p1, Option.bind_some, g1, Option.bind_some, t1', Option.bind_some, l1]; rfl
