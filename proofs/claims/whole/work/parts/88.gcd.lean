/-! ===== common divisors ===== -/
theorem rem64 (p q : Int64) : (p - p / q * q).toInt = p.toInt.tmod q.toInt := by
  have hP := fb_rngL p
  have hQ := fb_rngL q
  rw [Int64.toInt_sub, Int64.toInt_mul, Int64.toInt_div, Int.bmod_mul_bmod, Int.sub_bmod_bmod, Int.mul_comm, ← Int.tmod_def]
  apply fb_bmodL
  · by_cases h : q.toInt = 0
    · rw [h, Int.tmod_zero]; exact hP.1
    · have h1 := Int.natAbs_tmod p.toInt q.toInt
      have h2 : p.toInt.natAbs % q.toInt.natAbs < q.toInt.natAbs := Nat.mod_lt _ (by omega)
      omega
  · by_cases h : q.toInt = 0
    · rw [h, Int.tmod_zero]; exact hP.2
    · have h1 := Int.natAbs_tmod p.toInt q.toInt
      have h2 : p.toInt.natAbs % q.toInt.natAbs < q.toInt.natAbs := Nat.mod_lt _ (by omega)
      omega
theorem rem_n {p q : Int64} {a b : Nat} (hp : p.toInt = -(a : Int)) (hq : q.toInt = -(b : Int)) : (p - p / q * q).toInt = -((a % b : Nat) : Int) := by
  rw [rem64, hp, hq, Int.neg_tmod, Int.tmod_neg, Int.ofNat_tmod]
theorem rem_p {p q : Int64} {a b : Nat} (hp : p.toInt = (a : Int)) (hq : q.toInt = (b : Int)) : (p - p / q * q).toInt = ((a % b : Nat) : Int) := by
  rw [rem64, hp, hq, Int.ofNat_tmod]
theorem l0 {q : Int64} : q = 0 ↔ q.toInt = 0 := by rw [l_eq, tl_0]
theorem half_lt {a b k : Nat} (h : b < 2 ^ (k + 1)) (h1 : a % b ≠ 0) (hb : b ≠ 0) : b % (a % b) < 2 ^ k := by
  have h2 : a % b < b := Nat.mod_lt a (by omega)
  have h3 : b % (a % b) < a % b := Nat.mod_lt b (by omega)
  rw [Nat.pow_succ] at h
  generalize a % b = r at *
  have h4 : b % r ≤ b - r := by
    have e : b % r = (b - r) % r := by rw [Nat.mod_eq_sub_mod (by omega)]
    rw [e]; exact Nat.mod_le _ _
  omega
theorem gcd2 {a b : Nat} : Nat.gcd a b = Nat.gcd b (a % b) := by rw [Nat.gcd_comm a b, Nat.gcd_rec b a, Nat.gcd_comm]
theorem x_euc (y : Int64) : ∀ (k a b : Nat) (p q : Int64) (n v : Nat), p.toInt = -(a : Int) → q.toInt = -(b : Int) → b < 2 ^ k → v + 2 * k < 200 → 2 * k < n → ∃ r, fX6_commonDivisor_L31 y n p q (nI v) = some r ∧ r.toInt = -((Nat.gcd a b : Nat) : Int) := by
  intro k
  induction k with
  | zero =>
    intro a b p q n v hp hq hb hv hn
    obtain ⟨n, rfl⟩ : ∃ q', n = q' + 1 := ⟨n - 1, by omega⟩
    have b0 : b = 0 := by simpa using hb
    refine ⟨p, ?_, by rw [b0, Nat.gcd_zero_right]; exact hp⟩
    rw [fX6_commonDivisor_L31, show (200 : Int32) = nI 200 from rfl, if_neg (nI_ge (by omega) (by omega)), if_pos (l0.2 (by rw [hq, b0]; rfl))]
  | succ k ih =>
    intro a b p q n v hp hq hb hv hn
    obtain ⟨n, rfl⟩ : ∃ q', n = q' + 1 := ⟨n - 1, by omega⟩
    rw [fX6_commonDivisor_L31, show (200 : Int32) = nI 200 from rfl, if_neg (nI_ge (by omega) (by omega))]
    by_cases b0 : b = 0
    · rw [if_pos (l0.2 (by rw [hq, b0]; rfl))]
      exact ⟨p, rfl, by rw [b0, Nat.gcd_zero_right]; exact hp⟩
    · have q0 : ¬ q = 0 := fun e => by rw [l0, hq] at e; omega
      have r1 := rem_n hp hq
      rw [if_neg q0, if_pos q0, nI_1]
      obtain ⟨n, rfl⟩ : ∃ q', n = q' + 1 := ⟨n - 1, by omega⟩
      generalize p - p / q * q = p1 at r1
      rw [fX6_commonDivisor_L31, show (200 : Int32) = nI 200 from rfl, if_neg (nI_ge (by omega) (by omega))]
      by_cases r0 : a % b = 0
      · rw [if_pos (l0.2 (by rw [r1, r0]; rfl))]
        exact ⟨q, rfl, by rw [gcd2, r0, Nat.gcd_zero_right]; exact hq⟩
      · have p0 : ¬ p1 = 0 := fun e => by rw [l0, r1] at e; omega
        have r2 := rem_n hq r1
        rw [if_neg p0, if_pos p0, nI_1]
        obtain ⟨r, e1, e2⟩ := ih (a % b) (b % (a % b)) _ _ n (v + 1 + 1) r1 r2 (half_lt hb r0 b0) (by omega) (by omega)
        exact ⟨r, e1, by rw [gcd2, gcd2]; exact e2⟩
theorem r_euc (y1 y2 : Int64) (y3 : Int32) (y4 y5 : Int64) : ∀ (k a b : Nat) (p q : Int64) (n : Nat), p.toInt = -(a : Int) → q.toInt = -(b : Int) → b < 2 ^ k → 2 * k < n → ∃ r, fX7_ratio_L64 y1 y2 y3 y4 y5 n p q = some r ∧ r.toInt = -((Nat.gcd a b : Nat) : Int) := by
  intro k
  induction k with
  | zero =>
    intro a b p q n hp hq hb hn
    obtain ⟨n, rfl⟩ : ∃ q', n = q' + 1 := ⟨n - 1, by omega⟩
    have b0 : b = 0 := by simpa using hb
    refine ⟨p, ?_, by rw [b0, Nat.gcd_zero_right]; exact hp⟩
    rw [fX7_ratio_L64, if_pos (l0.2 (by rw [hq, b0]; rfl))]
  | succ k ih =>
    intro a b p q n hp hq hb hn
    obtain ⟨n, rfl⟩ : ∃ q', n = q' + 1 := ⟨n - 1, by omega⟩
    rw [fX7_ratio_L64]
    by_cases b0 : b = 0
    · rw [if_pos (l0.2 (by rw [hq, b0]; rfl))]
      exact ⟨p, rfl, by rw [b0, Nat.gcd_zero_right]; exact hp⟩
    · have q0 : ¬ q = 0 := fun e => by rw [l0, hq] at e; omega
      have r1 := rem_n hp hq
      rw [if_neg q0, if_pos q0]
      obtain ⟨n, rfl⟩ : ∃ q', n = q' + 1 := ⟨n - 1, by omega⟩
      generalize p - p / q * q = p1 at r1
      rw [fX7_ratio_L64]
      by_cases r0 : a % b = 0
      · rw [if_pos (l0.2 (by rw [r1, r0]; rfl))]
        exact ⟨q, rfl, by rw [gcd2, r0, Nat.gcd_zero_right]; exact hq⟩
      · have p0 : ¬ p1 = 0 := fun e => by rw [l0, r1] at e; omega
        have r2 := rem_n hq r1
        rw [if_neg p0, if_pos p0]
        obtain ⟨r, e1, e2⟩ := ih (a % b) (b % (a % b)) _ _ n r1 r2 (half_lt hb r0 b0) (by omega)
        exact ⟨r, e1, by rw [gcd2, gcd2]; exact e2⟩
theorem m_euc : ∀ (k a b : Nat) (p q : Int64) (n : Nat), p.toInt = (a : Int) → q.toInt = (b : Int) → b < 2 ^ k → 2 * k < n → ∃ r, fX7_common_L28 n p q = some r ∧ r.toInt = ((Nat.gcd a b : Nat) : Int) := by
  intro k
  induction k with
  | zero =>
    intro a b p q n hp hq hb hn
    obtain ⟨n, rfl⟩ : ∃ q', n = q' + 1 := ⟨n - 1, by omega⟩
    have b0 : b = 0 := by simpa using hb
    refine ⟨p, ?_, by rw [b0, Nat.gcd_zero_right]; exact hp⟩
    rw [fX7_common_L28, if_pos (l0.2 (by rw [hq, b0]; rfl))]
  | succ k ih =>
    intro a b p q n hp hq hb hn
    obtain ⟨n, rfl⟩ : ∃ q', n = q' + 1 := ⟨n - 1, by omega⟩
    rw [fX7_common_L28]
    by_cases b0 : b = 0
    · rw [if_pos (l0.2 (by rw [hq, b0]; rfl))]
      exact ⟨p, rfl, by rw [b0, Nat.gcd_zero_right]; exact hp⟩
    · have q0 : ¬ q = 0 := fun e => by rw [l0, hq] at e; omega
      have r1 := rem_p hp hq
      rw [if_neg q0, if_pos q0]
      obtain ⟨n, rfl⟩ : ∃ q', n = q' + 1 := ⟨n - 1, by omega⟩
      generalize p - p / q * q = p1 at r1
      rw [fX7_common_L28]
      by_cases r0 : a % b = 0
      · rw [if_pos (l0.2 (by rw [r1, r0]; rfl))]
        exact ⟨q, rfl, by rw [gcd2, r0, Nat.gcd_zero_right]; exact hq⟩
      · have p0 : ¬ p1 = 0 := fun e => by rw [l0, r1] at e; omega
        have r2 := rem_p hq r1
        rw [if_neg p0, if_pos p0]
        obtain ⟨r, e1, e2⟩ := ih (a % b) (b % (a % b)) _ _ n r1 r2 (half_lt hb r0 b0) (by omega)
        exact ⟨r, e1, by rw [gcd2, gcd2]; exact e2⟩
theorem negL {x : Int64} (h : x.toInt ≠ -9223372036854775808) : (-x).toInt = -x.toInt := by
  have := fb_rngL x
  rw [Int64.toInt_neg, fb_bmodL (by omega) (by omega)]
theorem tl_low : (-9223372036854775808 : Int64).toInt = -9223372036854775808 := rfl
/-- below 0, as large -/
theorem down64 (x : Int64) : ∃ p, (if 0 < x then some (-x) else some x) = some p ∧ p.toInt = -((x.toInt.natAbs : Nat) : Int) := by
  have := fb_rngL x
  by_cases c : 0 < x
  · rw [if_pos c]
    rw [l_lt, tl_0] at c
    exact ⟨_, rfl, by rw [negL (by omega)]; omega⟩
  · rw [if_neg c]
    rw [l_lt, tl_0] at c
    exact ⟨_, rfl, by omega⟩
theorem down64' (x : Int64) : ∃ p, (if x < 0 then some x else some (-x)) = some p ∧ p.toInt = -((x.toInt.natAbs : Nat) : Int) := by
  have := fb_rngL x
  by_cases c : x < 0
  · rw [if_pos c]
    rw [l_lt, tl_0] at c
    exact ⟨_, rfl, by omega⟩
  · rw [if_neg c]
    rw [l_lt, tl_0] at c
    exact ⟨_, rfl, by rw [negL (by omega)]; omega⟩
/-- the class's divisor: the greatest common one, with the sign of y -/
theorem x_cd (x y : Int64) (hy : y ≠ 0) : ∃ r, fX6_commonDivisor x y = some r ∧ r.toInt = (if 0 < y.toInt then ((Nat.gcd x.toInt.natAbs y.toInt.natAbs : Nat) : Int) else -((Nat.gcd x.toInt.natAbs y.toInt.natAbs : Nat) : Int)) := by
  obtain ⟨p, p1, p2⟩ := down64 x
  obtain ⟨q, q1, q2⟩ := down64 y
  have hy' := fb_rngL y
  obtain ⟨r, e1, e2⟩ := x_euc y 64 _ _ p q 256 0 p2 q2 (by omega) (by omega) (by omega)
  have y0 : y.toInt ≠ 0 := fun e => hy (l0.2 e)
  have gl : Nat.gcd x.toInt.natAbs y.toInt.natAbs ≤ y.toInt.natAbs := Nat.gcd_le_right _ (by omega)
  have e1' : fX6_commonDivisor_L31 y 256 p q 0 = some r := e1
  rw [fX6_commonDivisor, p1, Option.bind_some, q1, Option.bind_some, e1', Option.bind_some]
  by_cases c : 0 < y
  · rw [if_pos c]
    rw [l_lt, tl_0] at c
    exact ⟨_, rfl, by rw [if_pos c, negL (by omega)]; omega⟩
  · rw [if_neg c]
    rw [l_lt, tl_0] at c
    exact ⟨_, rfl, by rw [if_neg c]; exact e2⟩
theorem div64 {x y : Int64} (h : ¬ (x.toInt = -9223372036854775808 ∧ y.toInt = -1)) : (x / y).toInt = x.toInt.tdiv y.toInt := by
  have hx := fb_rngL x
  rw [Int64.toInt_div]
  have h1 : (x.toInt.tdiv y.toInt).natAbs = x.toInt.natAbs / y.toInt.natAbs := Int.natAbs_tdiv x.toInt y.toInt
  have h2 : x.toInt.natAbs / y.toInt.natAbs ≤ x.toInt.natAbs := Nat.div_le_self _ _
  have h3 : x.toInt.tdiv y.toInt ≠ 9223372036854775808 := fun e => by
    have e1 : x.toInt.natAbs / y.toInt.natAbs = 9223372036854775808 := by rw [← h1, e]; rfl
    have e2 : x.toInt = -9223372036854775808 := by omega
    have e3 : y.toInt.natAbs = 1 := by
      rcases Nat.lt_or_ge y.toInt.natAbs 2 with g | g
      · rcases (show y.toInt.natAbs = 0 ∨ y.toInt.natAbs = 1 by omega) with f | f
        · rw [f, Nat.div_zero] at e1; omega
        · exact f
      · have : x.toInt.natAbs / y.toInt.natAbs ≤ x.toInt.natAbs / 2 := Nat.div_le_div_left g (by omega)
        omega
    rcases (show y.toInt = 1 ∨ y.toInt = -1 by omega) with f | f
    · rw [f, Int.tdiv_one] at e; omega
    · exact h ⟨e2, f⟩
  generalize x.toInt.natAbs / y.toInt.natAbs = w at *
  exact fb_bmodL (by omega) (by omega)
theorem tdiv_pp (a g : Nat) : ((a : Int)).tdiv (g : Int) = ((a / g : Nat) : Int) := (Int.ofNat_tdiv a g).symm
theorem tdiv_np (a g : Nat) : (-(a : Int)).tdiv (g : Int) = -((a / g : Nat) : Int) := by rw [Int.neg_tdiv, tdiv_pp]
theorem tdiv_pn (a g : Nat) : ((a : Int)).tdiv (-(g : Int)) = -((a / g : Nat) : Int) := by rw [Int.tdiv_neg, tdiv_pp]
theorem tdiv_nn (a g : Nat) : (-(a : Int)).tdiv (-(g : Int)) = ((a / g : Nat) : Int) := by rw [Int.tdiv_neg, Int.neg_tdiv, tdiv_pp, Int.neg_neg]
/-- a share, counted below 0 -/
theorem share {p q : Int64} {a g : Nat} (hp : p.toInt = -(a : Int)) (hq : q.toInt = -(g : Int)) (hg : 0 < g) (hd : g ∣ a) : ∃ u, (if q = -9223372036854775808 then (if p = 0 then some 0 else some (-1)) else (if ¬ (-q) = 0 then some (p / (-q)) else none)) = some u ∧ u.toInt = -((a / g : Nat) : Int) := by
  have h1 := fb_rngL p
  have h2 := fb_rngL q
  by_cases c : q = -9223372036854775808
  · have cg : g = 9223372036854775808 := by
      have := congrArg Int64.toInt c
      rw [tl_low, hq] at this; omega
    rw [if_pos c]
    by_cases d : p = 0
    · rw [if_pos d]
      have : a = 0 := by rw [l0, hp] at d; omega
      exact ⟨0, rfl, by rw [this, Nat.zero_div]; rfl⟩
    · rw [if_neg d]
      have a0 : a ≠ 0 := fun e => d (l0.2 (by rw [hp, e]; rfl))
      have := Nat.le_of_dvd (by omega) hd
      have ag : a = g := by omega
      exact ⟨-1, rfl, by rw [ag, Nat.div_self hg]; rfl⟩
  · have q1 : q.toInt ≠ -9223372036854775808 := fun e => c (by rw [l_eq, e, tl_low])
    have q2 : (-q).toInt = (g : Int) := by rw [negL q1, hq]; omega
    have q3 : ¬ (-q) = 0 := fun e => by rw [l0, q2] at e; omega
    rw [if_neg c, if_pos q3]
    exact ⟨_, rfl, by rw [div64 (fun e => by rw [q2] at e; omega), hp, q2, tdiv_np]⟩
theorem sgn64 (x : Int64) : (if x < 0 then some (1 : Int32) else some 0) = some (if x.toInt < 0 then 1 else 0) := by
  by_cases c : x < 0
  · rw [if_pos c]; rw [l_lt, tl_0] at c; rw [if_pos c]
  · rw [if_neg c]; rw [l_lt, tl_0] at c; rw [if_neg c]
theorem eq_ratio : E_ratio Rel := by
  intro X M h x y part
  rw [fX6_ratio, fX7_ratio, x_isPart', m_part]
  by_cases hp : 0 ≤ part.toInt ∧ part.toInt ≤ 1
  · rw [if_pos hp, Option.bind_some, Option.bind_some, if_neg n10, if_neg n10]
    by_cases y0 : y = 0
    · obtain ⟨p, p1, p2⟩ := down64 x
      obtain ⟨q, q1, q2⟩ := down64 y
      obtain ⟨r, e1, e2⟩ := x_euc y 64 _ _ p q 256 0 p2 q2 (by have := fb_rngL y; omega) (by omega) (by omega)
      have e1' : fX6_commonDivisor_L31 y 256 p q 0 = some r := e1
      have hcd : ∃ r, fX6_commonDivisor x y = some r := by
        rw [fX6_commonDivisor, p1, Option.bind_some, q1, Option.bind_some, e1', Option.bind_some]
        split <;> exact ⟨_, rfl⟩
      obtain ⟨r', hr'⟩ := hcd
      rw [fX6_fractionPart, hr', Option.bind_some, if_pos y0, if_pos y0]
      exact ⟨_, _, rfl, rfl, rfl, h⟩
    · obtain ⟨r, r1, r2⟩ := x_cd x y y0
      obtain ⟨p, p1, p2⟩ := down64' x
      obtain ⟨q, q1, q2⟩ := down64' y
      have hy := fb_rngL y
      have hx := fb_rngL x
      have yn : y.toInt ≠ 0 := fun e => y0 (l0.2 e)
      obtain ⟨g0, e1, e2⟩ := r_euc x y part p q 64 _ _ p q 256 p2 q2 (by omega) (by omega)
      have gp : 0 < Nat.gcd x.toInt.natAbs y.toInt.natAbs := Nat.gcd_pos_of_pos_right _ (by omega)
      have gl : Nat.gcd x.toInt.natAbs y.toInt.natAbs ≤ y.toInt.natAbs := Nat.gcd_le_right _ (by omega)
      have gda := Nat.gcd_dvd_left x.toInt.natAbs y.toInt.natAbs
      have gdb := Nat.gcd_dvd_right x.toInt.natAbs y.toInt.natAbs
      obtain ⟨up, u1, u2⟩ := share p2 e2 gp gda
      obtain ⟨dn, d1, d2⟩ := share q2 e2 gp gdb
      have gzx : Nat.gcd x.toInt.natAbs y.toInt.natAbs = 1 → x.toInt.natAbs / Nat.gcd x.toInt.natAbs y.toInt.natAbs = x.toInt.natAbs := fun e => by rw [e, Nat.div_one]
      have gzy : Nat.gcd x.toInt.natAbs y.toInt.natAbs = 1 → y.toInt.natAbs / Nat.gcd x.toInt.natAbs y.toInt.natAbs = y.toInt.natAbs := fun e => by rw [e, Nat.div_one]
      have gbx : 2 ≤ Nat.gcd x.toInt.natAbs y.toInt.natAbs → x.toInt.natAbs / Nat.gcd x.toInt.natAbs y.toInt.natAbs ≤ x.toInt.natAbs / 2 := fun e => Nat.div_le_div_left e (by omega)
      have gby : 2 ≤ Nat.gcd x.toInt.natAbs y.toInt.natAbs → y.toInt.natAbs / Nat.gcd x.toInt.natAbs y.toInt.natAbs ≤ y.toInt.natAbs / 2 := fun e => Nat.div_le_div_left e (by omega)
      rw [fX6_fractionPart, r1, Option.bind_some, if_neg y0, if_neg y0, p1, Option.bind_some, q1, Option.bind_some, e1, Option.bind_some, u1, Option.bind_some, d1, Option.bind_some, sgn64, Option.bind_some, sgn64, Option.bind_some]
      have r0 : ¬ r = 0 := fun e => by rw [l0, r2] at e; split at e <;> omega
      -- the three numbers
      have tx : ∀ (c : ¬ (x.toInt = -9223372036854775808 ∧ r.toInt = -1)), (x / r).toInt = if (x.toInt < 0) = (y.toInt < 0) then ((x.toInt.natAbs / Nat.gcd x.toInt.natAbs y.toInt.natAbs : Nat) : Int) else -((x.toInt.natAbs / Nat.gcd x.toInt.natAbs y.toInt.natAbs : Nat) : Int) := by
        intro c
        rw [div64 c, r2]
        by_cases s1 : x.toInt < 0
        · have ex : x.toInt = -((x.toInt.natAbs : Nat) : Int) := by omega
          by_cases s2 : y.toInt < 0
          · rw [if_neg (by omega), if_pos (by rw [eq_true s1, eq_true s2])]
            conv => lhs; lhs; rw [ex]
            rw [tdiv_nn]
          · rw [if_pos (by omega), if_neg (by rw [eq_true s1, eq_false s2]; simp)]
            conv => lhs; lhs; rw [ex]
            rw [tdiv_np]
        · have ex : x.toInt = ((x.toInt.natAbs : Nat) : Int) := by omega
          by_cases s2 : y.toInt < 0
          · rw [if_neg (by omega), if_neg (by rw [eq_false s1, eq_true s2]; simp)]
            conv => lhs; lhs; rw [ex]
            rw [tdiv_pn]
          · rw [if_pos (by omega), if_pos (by rw [eq_false s1, eq_false s2])]
            conv => lhs; lhs; rw [ex]
            rw [tdiv_pp]
      have ty : ∀ (c : ¬ (y.toInt = -9223372036854775808 ∧ r.toInt = -1)), (y / r).toInt = ((y.toInt.natAbs / Nat.gcd x.toInt.natAbs y.toInt.natAbs : Nat) : Int) := by
        intro c
        rw [div64 c, r2]
        by_cases s2 : y.toInt < 0
        · have ey : y.toInt = -((y.toInt.natAbs : Nat) : Int) := by omega
          rw [if_neg (by omega)]
          conv => lhs; lhs; rw [ey]
          rw [tdiv_nn]
        · have ey : y.toInt = ((y.toInt.natAbs : Nat) : Int) := by omega
          rw [if_pos (by omega)]
          conv => lhs; lhs; rw [ey]
          rw [tdiv_pp]
      have sg : ∀ (A B : Prop) [Decidable A] [Decidable B], ((if (if A then (1 : Int32) else 0) = (if B then 1 else 0) then some (0 : Int32) else some 1)) = some (if (A = B) then 0 else 1) := by
        intro A B _ _
        by_cases a : A <;> by_cases b : B <;> simp [a, b]
      rw [sg, Option.bind_some, if_neg r0]
      have mn : ∀ w : Int64, w = -9223372036854775808 ↔ w.toInt = -9223372036854775808 := fun w => by rw [l_eq, tl_low]
      have rm1 : r = -1 ↔ (y.toInt < 0 ∧ Nat.gcd x.toInt.natAbs y.toInt.natAbs = 1) := by
        rw [l_eq, r2, tn_1]
        by_cases s2 : y.toInt < 0
        · rw [if_neg (by omega)]; omega
        · rw [if_pos (by omega)]; omega
      have gx2 : Nat.gcd x.toInt.natAbs y.toInt.natAbs = 1 ∨ 2 ≤ Nat.gcd x.toInt.natAbs y.toInt.natAbs := by omega
      have p01 : part = 0 ∨ part = 1 := by rw [i_eq, i_eq, ti_0, ti_1]; omega
      by_cases RX : r = -1 ∧ (x = -9223372036854775808 ∨ y = -9223372036854775808)
      · obtain ⟨f, f1, f2⟩ := far_told (-16)
        refine ⟨f, f, ?_, ?_, rfl, h⟩
        · rw [if_pos RX.1]
          by_cases c : x = -9223372036854775808
          · rw [if_pos c, f1]; rfl
          · rw [if_neg c, if_pos (RX.2.resolve_left c), f1]; rfl
        · obtain ⟨s2, g1⟩ := rm1.1 RX.1
          have A1 := gzx g1
          have B1 := gzy g1
          by_cases c : dn = -9223372036854775808
          · rw [if_pos c, f2]; rfl
          · rw [if_neg c]
            have xm : x.toInt = -9223372036854775808 := by
              rcases RX.2 with e | e
              · exact (mn x).1 e
              · exact absurd ((mn dn).2 (by rw [d2, B1]; rw [mn] at e; omega)) c
            have S : (x.toInt < 0) = (y.toInt < 0) := by rw [eq_true (show x.toInt < 0 by omega), eq_true s2]
            rw [if_pos S, if_pos rfl, if_pos ((mn up).2 (by rw [u2, A1]; omega)), f2]; rfl
      · have dn0 : ¬ dn = -9223372036854775808 := fun e => by
          rw [mn, d2] at e
          rcases gx2 with g1 | g2
          · have B1 := gzy g1
            exact RX ⟨rm1.2 ⟨by omega, g1⟩, Or.inr ((mn y).2 (by omega))⟩
          · have := gby g2; omega
        have up0 : (x.toInt < 0) = (y.toInt < 0) → ¬ up = -9223372036854775808 := fun S e => by
          rw [mn, u2] at e
          rcases gx2 with g1 | g2
          · have A1 := gzx g1
            have xm : x.toInt = -9223372036854775808 := by omega
            have s2 : y.toInt < 0 := by rw [← S]; omega
            exact RX ⟨rm1.2 ⟨s2, g1⟩, Or.inl ((mn x).2 xm)⟩
          · have := gbx g2; omega
        have nx : ¬ (x.toInt = -9223372036854775808 ∧ r.toInt = -1) := fun e => RX ⟨by rw [l_eq, tn_1]; exact e.2, Or.inl ((mn x).2 e.1)⟩
        have ny : ¬ (y.toInt = -9223372036854775808 ∧ r.toInt = -1) := fun e => RX ⟨by rw [l_eq, tn_1]; exact e.2, Or.inr ((mn y).2 e.1)⟩
        have ux := tx nx
        have uy := ty ny
        have dnn : (-dn).toInt = ((y.toInt.natAbs / Nat.gcd x.toInt.natAbs y.toInt.natAbs : Nat) : Int) := by
          rw [negL (fun e => dn0 ((mn dn).2 e)), d2, Int.neg_neg]
        have lhs : (if r = -1 then (if x = -9223372036854775808 then (fX6_far (-16)).bind (fun r53 => some r53) else (if y = -9223372036854775808 then (fX6_far (-16)).bind (fun r53 => some r53) else (if part = 0 then (if ¬ r = 0 then some (x / r) else none) else (if ¬ r = 0 then some (y / r) else none)))) else (if part = 0 then (if ¬ r = 0 then some (x / r) else none) else (if ¬ r = 0 then some (y / r) else none))) = some (if part = 0 then x / r else y / r) := by
          rw [if_pos r0, if_pos r0, some_ite]
          by_cases c : r = -1
          · rw [if_pos c, if_neg (fun e => RX ⟨c, Or.inl e⟩), if_neg (fun e => RX ⟨c, Or.inr e⟩)]
          · rw [if_neg c]
        rw [lhs]
        refine ⟨_, _, rfl, ?_, rfl, h⟩
        rw [if_neg dn0]
        by_cases S : (x.toInt < 0) = (y.toInt < 0)
        · rw [if_pos S, if_pos rfl, if_neg (up0 S), if_pos rfl]
          rw [if_pos S] at ux
          have upn : (-up).toInt = ((x.toInt.natAbs / Nat.gcd x.toInt.natAbs y.toInt.natAbs : Nat) : Int) := by
            rw [negL (fun e => up0 S ((mn up).2 e)), u2, Int.neg_neg]
          rcases p01 with rfl | rfl
          · rw [if_neg (show ¬ (0 : Int32) = 1 by decide), if_pos rfl]
            congr 1; rw [l_eq, upn, ux]
          · rw [if_pos rfl, if_neg n10]
            congr 1; rw [l_eq, dnn, uy]
        · rw [if_neg S, if_neg n10, if_neg n10]
          rw [if_neg S] at ux
          rcases p01 with rfl | rfl
          · rw [if_neg (show ¬ (0 : Int32) = 1 by decide), if_pos rfl]
            congr 1; rw [l_eq, u2, ux]
          · rw [if_pos rfl, if_neg n10]
            congr 1; rw [l_eq, dnn, uy]
  · rw [if_neg hp]; exact ⟨_, _, rfl, rfl, rfl, h⟩
