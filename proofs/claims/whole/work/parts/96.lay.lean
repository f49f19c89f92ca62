/-! ===== laid out: the divisors ===== -/
theorem nat_ne (a : Nat) : (a : Int) ≠ -9223372036854775808 := by omega
def GG (N : Nat) (vv : Nat → Nat) : Nat → Nat
  | 0 => N
  | p + 1 => Nat.gcd (vv p) (GG N vv p)
theorem GG_pos {N : Nat} (hN : 0 < N) (vv : Nat → Nat) : ∀ p, 0 < GG N vv p
  | 0 => hN
  | p + 1 => Nat.gcd_pos_of_pos_right _ (GG_pos hN vv p)
theorem GG_N (N : Nat) (vv : Nat → Nat) : ∀ p, GG N vv p ∣ N
  | 0 => Nat.dvd_refl N
  | p + 1 => Nat.dvd_trans (Nat.gcd_dvd_right _ _) (GG_N N vv p)
theorem GG_le {N : Nat} {vv : Nat → Nat} : ∀ {p q : Nat}, p ≤ q → GG N vv q ∣ GG N vv p := by
  intro p q
  induction q with
  | zero => intro h; rw [show p = 0 by omega]; exact Nat.dvd_refl _
  | succ q ih =>
    intro h
    by_cases e : p = q + 1
    · rw [e]; exact Nat.dvd_refl _
    · exact Nat.dvd_trans (Nat.gcd_dvd_right _ _) (ih (by omega))
theorem GG_v {N : Nat} {vv : Nat → Nat} {p q : Nat} (h : p < q) : GG N vv q ∣ vv p := Nat.dvd_trans (GG_le (show p + 1 ≤ q from h)) (Nat.gcd_dvd_left _ _)
theorem GG_s (N : Nat) (vv : Nat → Nat) (p : Nat) : GG N vv (p + 1) = Nat.gcd (GG N vv p) (Nat.gcd (vv p) N) := by
  show Nat.gcd (vv p) (GG N vv p) = _
  apply Nat.dvd_antisymm
  · exact Nat.dvd_gcd (Nat.gcd_dvd_right _ _) (Nat.dvd_gcd (Nat.gcd_dvd_left _ _) (Nat.dvd_trans (Nat.gcd_dvd_right _ _) (GG_N N vv p)))
  · exact Nat.dvd_gcd (Nat.dvd_trans (Nat.gcd_dvd_right _ _) (Nat.gcd_dvd_left _ _)) (Nat.gcd_dvd_left _ _)
/-- the least common multiple of shares -/
theorem lcm_share {N a b : Nat} (hN : 0 < N) (ha : a ∣ N) (hb : b ∣ N) : (N / a) / Nat.gcd (N / a) (N / b) * (N / b) = N / Nat.gcd a b := by
  obtain ⟨x, hx⟩ := ha
  obtain ⟨y, hy⟩ := hb
  have a0 : 0 < a := Nat.pos_of_ne_zero (fun e => by rw [e, Nat.zero_mul] at hx; omega)
  have b0 : 0 < b := Nat.pos_of_ne_zero (fun e => by rw [e, Nat.zero_mul] at hy; omega)
  have e1 : N / a = x := by rw [hx, Nat.mul_div_cancel_left _ a0]
  have e2 : N / b = y := by rw [hy, Nat.mul_div_cancel_left _ b0]
  rw [e1, e2]
  have g0 : 0 < Nat.gcd a b := Nat.gcd_pos_of_pos_left _ a0
  have x0 : 0 < x := Nat.pos_of_ne_zero (fun e => by rw [e, Nat.mul_zero] at hx; omega)
  have h0 : 0 < Nat.gcd x y := Nat.gcd_pos_of_pos_left _ x0
  obtain ⟨u, hu⟩ := Nat.gcd_dvd_left x y
  obtain ⟨v, hv⟩ := Nat.gcd_dvd_right x y
  have e3 : x / Nat.gcd x y = u := by
    have := Nat.mul_div_cancel_left u h0
    rw [← hu] at this; exact this
  rw [e3]
  -- u * y is the least common multiple: N = gcd a b * (u * y)
  have key : Nat.gcd a b * (u * y) = N := by
    have h1 : Nat.gcd (a * (u * y)) (b * (u * y)) = Nat.gcd a b * (u * y) := Nat.gcd_mul_right a (u * y) b
    rw [← h1]
    have s1 : a * (u * y) = N * v := by
      rw [hx]
      have : u * y = x * v := by
        calc u * y = u * (Nat.gcd x y * v) := by rw [← hv]
          _ = (Nat.gcd x y * u) * v := by rw [← Nat.mul_assoc, Nat.mul_comm u]
          _ = x * v := by rw [← hu]
      rw [this, Nat.mul_assoc]
    have s2 : b * (u * y) = N * u := by
      rw [hy, Nat.mul_comm u y, Nat.mul_assoc]
    rw [s1, s2, Nat.gcd_mul_left]
    have s3 : Nat.gcd v u = 1 := by
      have : Nat.gcd x y * Nat.gcd u v = Nat.gcd x y * 1 := by
        rw [← Nat.gcd_mul_left, ← hu, ← hv, Nat.mul_one]
      rw [Nat.gcd_comm]
      exact Nat.eq_of_mul_eq_mul_left h0 this
    rw [s3, Nat.mul_one]
  have := Nat.mul_div_cancel_left (u * y) g0
  rw [key] at this
  exact this.symm
def sgI (d : Int64) (g : Nat) : Int := if 0 < d.toInt then (g : Int) else -(g : Int)
theorem sgI_0 {d : Int64} {g : Nat} (h : 0 < g) : sgI d g ≠ 0 := by unfold sgI; split <;> omega
theorem sgI_abs (d : Int64) (g : Nat) : (sgI d g).natAbs = g := by unfold sgI; split <;> omega
theorem sgI_self (d : Int64) : sgI d d.toInt.natAbs = d.toInt := by unfold sgI; split <;> omega
theorem sgI_pos {d : Int64} {g : Nat} (h : 0 < g) : 0 < sgI d g ↔ 0 < d.toInt := by unfold sgI; split <;> omega
theorem sgI_mul (d : Int64) (g k : Nat) : sgI d (g * k) = sgI d g * (k : Int) := by
  unfold sgI
  split
  · rw [Int.natCast_mul]
  · rw [Int.natCast_mul, Int.neg_mul]
/-- a share in longs -/
theorem sdiv {v D : Int64} {d : Int64} {g : Nat} {t : Int} (hD : D.toInt = sgI d g) (hg : 0 < g) (hv : v.toInt = sgI d g * t) (hb : v.toInt ≠ -9223372036854775808) : (v / D).toInt = t := by
  rw [div64 (fun e => hb e.1), hD, hv]
  exact Int.mul_tdiv_cancel_left t (sgI_0 hg)
/-- the shares by G, and by g first -/
theorem two_div {v d D Dv : Int64} {G g k l : Nat} (hG : 0 < G) (hgk : g = G * k) (hN : d.toInt.natAbs = g * l) (hl : 0 < l) (hk : 0 < k) (hgv : g ∣ v.toInt.natAbs) (hD : D.toInt = sgI d g) (hDv : Dv.toInt = sgI d G) (hv : v.toInt ≠ -9223372036854775808) (hd : d.toInt ≠ -9223372036854775808) {al : Int64} (hal : al.toInt = ((d.toInt.natAbs / G : Nat) : Int)) : (v / D) * (al / (d / D)) = v / Dv ∧ d / Dv = al ∧ (d / D).toInt = ((d.toInt.natAbs / g : Nat) : Int) := by
  have hg : 0 < g := by rw [hgk]; exact Nat.mul_pos hG hk
  obtain ⟨q, hq⟩ := hgv
  have hx := fb_rngL v
  have hdd := fb_rngL d
  have e0 : d.toInt = sgI d g * (l : Int) := by rw [← sgI_mul, ← hN, sgI_self]
  have e1 : (d / D).toInt = (l : Int) := sdiv hD hg e0 hd
  have n1 : d.toInt.natAbs / G = k * l := by rw [hN, hgk, Nat.mul_assoc, Nat.mul_div_cancel_left _ hG]
  have n2 : d.toInt.natAbs / g = l := by rw [hN, Nat.mul_div_cancel_left _ hg]
  have e2 : (al / (d / D)).toInt = (k : Int) := by
    rw [div64 (fun e => by rw [e1] at e; omega), hal, n1, e1, Int.natCast_mul, Int.mul_comm]
    exact Int.mul_tdiv_cancel_left _ (by omega)
  obtain ⟨t, ht⟩ : ∃ t : Int, v.toInt = sgI d g * t := by
    by_cases c : 0 < d.toInt
    · refine ⟨if 0 ≤ v.toInt then (q : Int) else -(q : Int), ?_⟩
      unfold sgI; rw [if_pos c]
      have : ((v.toInt.natAbs : Nat) : Int) = (g : Int) * (q : Int) := by rw [hq, Int.natCast_mul]
      split
      · omega
      · rw [Int.mul_neg]; omega
    · refine ⟨if 0 ≤ v.toInt then -(q : Int) else (q : Int), ?_⟩
      unfold sgI; rw [if_neg c]
      have : ((v.toInt.natAbs : Nat) : Int) = (g : Int) * (q : Int) := by rw [hq, Int.natCast_mul]
      split
      · rw [Int.neg_mul_neg]; omega
      · rw [Int.neg_mul]; omega
  have e3 : (v / D).toInt = t := sdiv hD hg ht hv
  have e4 : (v / Dv).toInt = (k : Int) * t := sdiv hDv hG (by rw [ht, hgk, sgI_mul, Int.mul_assoc]) hv
  have hr := fb_rngL (v / Dv)
  refine ⟨?_, ?_, by rw [e1, n2]⟩
  · rw [l_eq, fb_mulL (by rw [e3, e2, Int.mul_comm, ← e4]; exact hr.1) (by rw [e3, e2, Int.mul_comm, ← e4]; exact hr.2), e3, e2, e4, Int.mul_comm]
  · rw [l_eq, sdiv hDv hG (t := ((k * l : Nat) : Int)) (by rw [← sgI_mul, ← Nat.mul_assoc, ← hgk, ← hN, sgI_self]) hd, hal, n1]
/-- what stands at place p of a solution -/
def sv (s m n : Nat) (E : eT) (p : Nat) : Int64 := vs s n (p / n) (p % n) (isol E (pls s m n).length)
/-- all that is known of a system worked out -/
def Wk (T : w_S) (s m n : Nat) (E : eT) : Prop := s < 7 ∧ (1 ≤ m ∧ m ≤ 3) ∧ (1 ≤ n ∧ n ≤ 3) ∧ (s < 4 ∨ m = n) ∧ (pls s m n).length ≤ 6 ∧ gI T 0 = nI m ∧ gI T 1 = nI n ∧ E.1 ≤ m * n ∧ (∀ u, u < (pls s m n).length → E.2.2.2.1 u = -1 ∨ ∃ i, i < E.1 ∧ E.2.2.2.1 u = nI i) ∧ E.2.1 ≠ 0 ∧ E.2.1.toInt.natAbs < 9223372036854775808 ∧ (∀ p, p < m * n → (sv s m n E p).toInt.natAbs < 9223372036854775808)
theorem x_sv {T : w_S} {s m n : Nat} {E : eT} (k : Wk T s m n E) (a : at19 T (m * n) (pls s m n).length (pls s m n).length E) {i j : Nat} (hi : i < m) (hj : j < n) : fX6_solutionAbove T (nI s) (nI i) (nI j) = some (sv s m n E (i * n + j)) := by
  obtain ⟨k1, k2, k3, k4, k5, k6, k7, k8, k9, -⟩ := k
  unfold sv
  rw [(dv hj).1, (dv hj).2]
  exact x_solA k1 k2 k3 k4 hi hj k7 a (mn_le9 k2.2 k3.2) k8 k9
theorem m_sv {T : w_S} {s m n : Nat} {E : eT} (k : Wk T s m n E) (a : atM T (m * n) (pls s m n).length (pls s m n).length E) (h8 : ∀ u, u < (pls s m n).length → gA T 8 u = nI ((pls s m n).getD u 0)) {p : Nat} (hp : p < m * n) : fX7_shapedSum T (nI s) (nI (p / n)) (nI (p % n)) (-1) = some (sv s m n E p) := by
  obtain ⟨k1, k2, k3, k4, k5, k6, k7, k8, k9, -⟩ := k
  have a5 : p % n < n := Nat.mod_lt p (by omega)
  have a6 : p / n < m := by rw [Nat.div_lt_iff_lt_mul (by omega)]; exact hp
  exact m_ssum k1 k2 k3 k4 a6 a5 k7 a (by omega) (mn_le9 k2.2 k3.2) k8 k9 h8 (-1) _ (Or.inl ⟨rfl, rfl⟩)
def vN (s m n : Nat) (E : eT) (p : Nat) : Nat := (sv s m n E p).toInt.natAbs
/-- the class's divisor -/
theorem x_div26 {T : w_S} {s m n : Nat} {E : eT} (k : Wk T s m n E) (a : at19 T (m * n) (pls s m n).length (pls s m n).length E) {i : Nat} (hi : i < m) (v : Int64) (hv : v.toInt = sgI E.2.1 (GG E.2.1.toInt.natAbs (vN s m n E) (i * n))) : ∃ r, fX6_solutionDivisor_L26 T (nI s) (nI i) 256 v 0 = some r ∧ r.toInt = sgI E.2.1 (GG E.2.1.toInt.natAbs (vN s m n E) ((i + 1) * n)) := by
  obtain ⟨k1, k2, k3, k4, k5, k6, k7, k8, k9, k10, k11, k12⟩ := id k
  have N0 : 0 < E.2.1.toInt.natAbs := by have : E.2.1.toInt ≠ 0 := fun e => k10 (l0.2 e); omega
  have h9 := mn_le9 k2.2 k3.2
  obtain ⟨t, e1, e2⟩ := loop_up (fun q (v : Int64) j => fX6_solutionDivisor_L26 T (nI s) (nI i) q v j) (fun j v => v.toInt = sgI E.2.1 (GG E.2.1.toInt.natAbs (vN s m n E) (i * n + j))) (fun v => v.toInt = sgI E.2.1 (GG E.2.1.toInt.natAbs (vN s m n E) (i * n + n))) n
    (fun q j v hj hI => by
      have G0 := GG_pos N0 (vN s m n E) (i * n + j)
      have v0 : v ≠ 0 := fun e => by rw [l0, hI] at e; exact sgI_0 G0 e
      obtain ⟨r, r1, r2⟩ := x_cd (sv s m n E (i * n + j)) v v0
      refine ⟨r, ?_, ?_⟩
      · rw [r2, hI, sgI_abs]
        show _ = sgI E.2.1 (Nat.gcd (vN s m n E (i * n + j)) (GG E.2.1.toInt.natAbs (vN s m n E) (i * n + j)))
        by_cases c : 0 < E.2.1.toInt
        · rw [if_pos ((sgI_pos G0).2 c)]; unfold sgI vN; rw [if_pos c]
        · rw [if_neg (fun e => c ((sgI_pos G0).1 e))]; unfold sgI vN; rw [if_neg c]
      · show fX6_solutionDivisor_L26 T (nI s) (nI i) (q + 1) v (nI j) = _
        rw [fX6_solutionDivisor_L26, k7, if_neg (nI_ge hj (by omega)), x_sv k a hi hj, Option.bind_some, r1, Option.bind_some, nI_1])
    (fun q v hI => ⟨v, by
      show fX6_solutionDivisor_L26 T (nI s) (nI i) (q + 1) v (nI n) = _
      rw [fX6_solutionDivisor_L26, k7, if_pos (Int32.le_refl _)], hI⟩) 256 0 v (by omega) (by omega) hv
  exact ⟨t, e1, by rw [Nat.add_mul, Nat.one_mul]; exact e2⟩
theorem x_divisor {T : w_S} {s m n : Nat} {E : eT} (k : Wk T s m n E) (a : at19 T (m * n) (pls s m n).length (pls s m n).length E) : ∃ r, fX6_solutionDivisor T (nI s) = some r ∧ r.toInt = sgI E.2.1 (GG E.2.1.toInt.natAbs (vN s m n E) (m * n)) := by
  obtain ⟨k1, k2, k3, k4, k5, k6, k7, k8, k9, k10, k11, k12⟩ := id k
  obtain ⟨t, e1, e2⟩ := loop_up (fun q (v : Int64) j => fX6_solutionDivisor_L11 T (nI s) q v j) (fun i v => v.toInt = sgI E.2.1 (GG E.2.1.toInt.natAbs (vN s m n E) (i * n))) (fun v => v.toInt = sgI E.2.1 (GG E.2.1.toInt.natAbs (vN s m n E) (m * n))) m
    (fun q i v hi hI => by
      obtain ⟨r, r1, r2⟩ := x_div26 k a hi v hI
      refine ⟨r, r2, ?_⟩
      show fX6_solutionDivisor_L11 T (nI s) (q + 1) v (nI i) = _
      rw [fX6_solutionDivisor_L11, k6, if_neg (nI_ge hi (by omega)), r1, Option.bind_some, nI_1])
    (fun q v hI => ⟨v, by
      show fX6_solutionDivisor_L11 T (nI s) (q + 1) v (nI m) = _
      rw [fX6_solutionDivisor_L11, k6, if_pos (Int32.le_refl _)], hI⟩) 256 0 (gL T 0) (by omega) (by omega) (by rw [a.2.2.2.1, Nat.zero_mul]; exact (sgI_self _).symm)
  have e1' : fX6_solutionDivisor_L11 T (nI s) 256 (gL T 0) 0 = some t := e1
  exact ⟨t, by rw [fX6_solutionDivisor, e1']; rfl, e2⟩
/-- the shares at place p, in both ways -/
theorem shares {s m n : Nat} {T : w_S} {E : eT} (k : Wk T s m n E) {Dv al : Int64} (hDv : Dv.toInt = sgI E.2.1 (GG E.2.1.toInt.natAbs (vN s m n E) (m * n))) (hal : al.toInt = ((E.2.1.toInt.natAbs / GG E.2.1.toInt.natAbs (vN s m n E) (m * n) : Nat) : Int)) {p : Nat} (hp : p < m * n) : ∃ a b : Int64, fX7_partOf (sv s m n E p) E.2.1 0 = some a ∧ fX7_partOf (sv s m n E p) E.2.1 1 = some b ∧ ¬ b = 0 ∧ a * (al / b) = sv s m n E p / Dv ∧ E.2.1 / Dv = al ∧ b.toInt = ((E.2.1.toInt.natAbs / Nat.gcd (vN s m n E p) E.2.1.toInt.natAbs : Nat) : Int) := by
  obtain ⟨k1, k2, k3, k4, k5, k6, k7, k8, k9, k10, k11, k12⟩ := id k
  have hv := abs_ne (k12 p hp)
  have hd := abs_ne k11
  have N0 : 0 < E.2.1.toInt.natAbs := by have : E.2.1.toInt ≠ 0 := fun e => k10 (l0.2 e); omega
  obtain ⟨D, d1, -, d3⟩ := frac_eq (sv s m n E p) E.2.1 0 hv hd k10
  obtain ⟨D', d1', -, d3'⟩ := frac_eq (sv s m n E p) E.2.1 1 hv hd k10
  have DD : D' = D := by rw [l_eq, d1, d1']
  rw [DD, if_neg n10] at d3'
  rw [if_pos rfl] at d3
  have hD : D.toInt = sgI E.2.1 (Nat.gcd (vN s m n E p) E.2.1.toInt.natAbs) := d1
  have g0 : 0 < Nat.gcd (vN s m n E p) E.2.1.toInt.natAbs := Nat.gcd_pos_of_pos_right _ N0
  have G0 := GG_pos N0 (vN s m n E) (m * n)
  obtain ⟨kk, hkk⟩ : GG E.2.1.toInt.natAbs (vN s m n E) (m * n) ∣ Nat.gcd (vN s m n E p) E.2.1.toInt.natAbs := Nat.dvd_gcd (GG_v hp) (GG_N _ _ _)
  obtain ⟨l, hl⟩ := Nat.gcd_dvd_right (vN s m n E p) E.2.1.toInt.natAbs
  have l0' : 0 < l := Nat.pos_of_ne_zero (fun e => by rw [e, Nat.mul_zero] at hl; omega)
  have kk0 : 0 < kk := Nat.pos_of_ne_zero (fun e => by rw [e, Nat.mul_zero] at hkk; omega)
  obtain ⟨t1, t2, t3⟩ := two_div (v := sv s m n E p) G0 hkk hl l0' kk0 (Nat.gcd_dvd_left _ _) hD hDv hv hd hal
  refine ⟨_, _, d3, d3', fun e => ?_, t1, t2, t3⟩
  rw [l0, t3] at e
  have := Nat.div_mul_cancel (Nat.gcd_dvd_right (vN s m n E p) E.2.1.toInt.natAbs)
  have e' : E.2.1.toInt.natAbs / Nat.gcd (vN s m n E p) E.2.1.toInt.natAbs = 0 := by omega
  rw [e', Nat.zero_mul] at this
  omega
/-- the model's scale -/
theorem m_scale {T' : w_S} {s m n : Nat} {E : eT} (k : Wk T' s m n E) (b : atM T' (m * n) (pls s m n).length (pls s m n).length E) (h8 : ∀ u, u < (pls s m n).length → gA T' 8 u = nI ((pls s m n).getD u 0)) : ∃ r, fX7_leastScale T' (nI s) = some r ∧ r.toInt = ((E.2.1.toInt.natAbs / GG E.2.1.toInt.natAbs (vN s m n E) (m * n) : Nat) : Int) := by
  obtain ⟨k1, k2, k3, k4, k5, k6, k7, k8, k9, k10, k11, k12⟩ := id k
  have h9 := mn_le9 k2.2 k3.2
  have n0 : ¬ nI n = 0 := nI_ne0 (by omega) (by omega)
  have hd := abs_ne k11
  have N0 : 0 < E.2.1.toInt.natAbs := by have : E.2.1.toInt ≠ 0 := fun e => k10 (l0.2 e); omega
  obtain ⟨t, e1, e2⟩ := loop_up (fun q (v : Int64) j => fX7_leastScale_L5 T' (nI s) q v j) (fun p v => v.toInt = ((E.2.1.toInt.natAbs / GG E.2.1.toInt.natAbs (vN s m n E) p : Nat) : Int)) (fun v => v.toInt = ((E.2.1.toInt.natAbs / GG E.2.1.toInt.natAbs (vN s m n E) (m * n) : Nat) : Int)) (m * n)
    (fun q p v hp hI => by
      have hv := abs_ne (k12 p hp)
      -- the share's lower part
      obtain ⟨D', d1', -, d3'⟩ := frac_eq (sv s m n E p) E.2.1 1 hv hd k10
      rw [if_neg n10] at d3'
      have hD : D'.toInt = sgI E.2.1 (Nat.gcd (vN s m n E p) E.2.1.toInt.natAbs) := d1'
      have g0 : 0 < Nat.gcd (vN s m n E p) E.2.1.toInt.natAbs := Nat.gcd_pos_of_pos_right _ N0
      obtain ⟨l, hl⟩ := Nat.gcd_dvd_right (vN s m n E p) E.2.1.toInt.natAbs
      have hb : (E.2.1 / D').toInt = ((E.2.1.toInt.natAbs / Nat.gcd (vN s m n E p) E.2.1.toInt.natAbs : Nat) : Int) := by
        have e5 : E.2.1.toInt.natAbs / Nat.gcd (vN s m n E p) E.2.1.toInt.natAbs = l := by
          have := Nat.mul_div_cancel_left l g0
          rw [← hl] at this; exact this
        rw [e5]
        exact sdiv hD g0 (by rw [← sgI_mul, ← hl, sgI_self]) hd
      have G0 := GG_pos N0 (vN s m n E) p
      have hrv : E.2.1.toInt.natAbs / GG E.2.1.toInt.natAbs (vN s m n E) p ≤ E.2.1.toInt.natAbs := Nat.div_le_self _ _
      have hrb : E.2.1.toInt.natAbs / Nat.gcd (vN s m n E p) E.2.1.toInt.natAbs ≤ E.2.1.toInt.natAbs := Nat.div_le_self _ _
      have pv : 0 < E.2.1.toInt.natAbs / GG E.2.1.toInt.natAbs (vN s m n E) p := Nat.div_pos (Nat.le_of_dvd N0 (GG_N _ _ _)) G0
      obtain ⟨r, r1, r2⟩ := m_common v (E.2.1 / D') (by rw [hI]; exact nat_ne _) (by rw [hb]; exact nat_ne _)
      rw [hI, hb, Int.natAbs_natCast, Int.natAbs_natCast] at r2
      have hls := lcm_share N0 (GG_N E.2.1.toInt.natAbs (vN s m n E) p) (Nat.gcd_dvd_right (vN s m n E p) E.2.1.toInt.natAbs)
      rw [← GG_s] at hls
      have r0 : 0 < Nat.gcd (E.2.1.toInt.natAbs / GG E.2.1.toInt.natAbs (vN s m n E) p) (E.2.1.toInt.natAbs / Nat.gcd (vN s m n E p) E.2.1.toInt.natAbs) := Nat.gcd_pos_of_pos_left _ pv
      have rn : ¬ r = 0 := fun e => by rw [l0, r2] at e; omega
      have hq : (v / r).toInt = ((E.2.1.toInt.natAbs / GG E.2.1.toInt.natAbs (vN s m n E) p / Nat.gcd (E.2.1.toInt.natAbs / GG E.2.1.toInt.natAbs (vN s m n E) p) (E.2.1.toInt.natAbs / Nat.gcd (vN s m n E p) E.2.1.toInt.natAbs) : Nat) : Int) := by
        rw [div64 (fun e => by rw [r2] at e; omega), hI, r2, tdiv_pp]
      have hG1 : E.2.1.toInt.natAbs / GG E.2.1.toInt.natAbs (vN s m n E) (p + 1) ≤ E.2.1.toInt.natAbs := Nat.div_le_self _ _
      have hm : (v / r).toInt * (E.2.1 / D').toInt = ((E.2.1.toInt.natAbs / GG E.2.1.toInt.natAbs (vN s m n E) (p + 1) : Nat) : Int) := by
        rw [hq, hb, ← Int.natCast_mul, hls]
      refine ⟨(v / r) * (E.2.1 / D'), ?_, ?_⟩
      · rw [fb_mulL (by rw [hm]; omega) (by rw [hm]; omega), hm]
      · show fX7_leastScale_L5 T' (nI s) (q + 1) v (nI p) = _
        rw [fX7_leastScale_L5, k6, k7, nI_mul, if_neg (nI_ge hp (by omega)), if_pos n0, if_pos n0, nI_mod (by omega) (by omega), nI_div (by omega) (by omega), m_sv k b h8 hp, Option.bind_some, b.2.2.2.1, d3', Option.bind_some, r1, Option.bind_some, if_pos rn, nI_1])
    (fun q v hI => ⟨v, by
      show fX7_leastScale_L5 T' (nI s) (q + 1) v (nI (m * n)) = _
      rw [fX7_leastScale_L5, k6, k7, nI_mul, if_pos (Int32.le_refl _)], hI⟩) 256 0 1 (by omega) (by omega) (by show (1 : Int64).toInt = _; rw [show GG E.2.1.toInt.natAbs (vN s m n E) 0 = E.2.1.toInt.natAbs from rfl, Nat.div_self N0]; rfl)
  have e1' : fX7_leastScale_L5 T' (nI s) 256 1 0 = some t := e1
  exact ⟨t, by rw [fX7_leastScale, e1']; rfl, e2⟩
