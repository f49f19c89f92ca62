/-! ===== fractions that both tell alike ===== -/
theorem up64 (x : Int64) (h : x.toInt ≠ -9223372036854775808) : ∃ p, (if x < 0 then some (-x) else some x) = some p ∧ p.toInt = ((x.toInt.natAbs : Nat) : Int) := by
  by_cases c : x < 0
  · rw [if_pos c]
    rw [l_lt, tl_0] at c
    exact ⟨_, rfl, by rw [negL h]; omega⟩
  · rw [if_neg c]
    rw [l_lt, tl_0] at c
    exact ⟨_, rfl, by omega⟩
theorem m_common (x y : Int64) (hx : x.toInt ≠ -9223372036854775808) (hy : y.toInt ≠ -9223372036854775808) : ∃ r, fX7_common x y = some r ∧ r.toInt = ((Nat.gcd x.toInt.natAbs y.toInt.natAbs : Nat) : Int) := by
  obtain ⟨p, p1, p2⟩ := up64 x hx
  obtain ⟨q, q1, q2⟩ := up64 y hy
  have hy' := fb_rngL y
  obtain ⟨r, e1, e2⟩ := m_euc 64 _ _ p q 256 p2 q2 (by omega) (by omega)
  exact ⟨r, by rw [fX7_common, p1, Option.bind_some, q1, Option.bind_some, e1]; rfl, e2⟩
theorem frac_eq (x y : Int64) (part : Int32) (hx : x.toInt ≠ -9223372036854775808) (hy : y.toInt ≠ -9223372036854775808) (y0 : y ≠ 0) : ∃ D : Int64, D.toInt = (if 0 < y.toInt then ((Nat.gcd x.toInt.natAbs y.toInt.natAbs : Nat) : Int) else -((Nat.gcd x.toInt.natAbs y.toInt.natAbs : Nat) : Int)) ∧ fX6_fractionPart x y part = some (if part = 0 then x / D else y / D) ∧ fX7_partOf x y part = some (if part = 0 then x / D else y / D) := by
  obtain ⟨D, d1, d2⟩ := x_cd x y y0
  obtain ⟨r, r1, r2⟩ := m_common x y hx hy
  have yn : y.toInt ≠ 0 := fun e => y0 (l0.2 e)
  have gp : 0 < Nat.gcd x.toInt.natAbs y.toInt.natAbs := Nat.gcd_pos_of_pos_right _ (by omega)
  have hy' := fb_rngL y
  have gl : Nat.gcd x.toInt.natAbs y.toInt.natAbs ≤ y.toInt.natAbs := Nat.gcd_le_right _ (by omega)
  have D0 : ¬ D = 0 := fun e => by rw [l0, d2] at e; split at e <;> omega
  have mn : ∀ w : Int64, w = -9223372036854775808 ↔ w.toInt = -9223372036854775808 := fun w => by rw [l_eq, tl_low]
  refine ⟨D, d2, ?_, ?_⟩
  · rw [fX6_fractionPart, d1, Option.bind_some, if_neg y0, if_neg D0, if_neg (fun e => hx ((mn x).1 e)), if_neg (fun e => hy ((mn y).1 e)), if_pos D0, if_pos D0, some_ite]
    split <;> rfl
  · rw [fX7_partOf, r1]
    by_cases c : y < 0
    · have e : -r = D := by
        rw [l_lt, tl_0] at c
        rw [l_eq, d2, if_neg (by omega), negL (by omega), r2]
      rw [if_pos c, Option.bind_some, Option.bind_some, e, if_pos D0, if_pos D0, some_ite]
    · have e : r = D := by
        rw [l_lt, tl_0] at c
        rw [l_eq, d2, if_pos (by omega), r2]
      rw [if_neg c, Option.bind_some, Option.bind_some, e, if_pos D0, if_pos D0, some_ite]
/-! ===== how large coefficients are ===== -/
def shrb (i j k l : Nat) : Nat := (if l = j then 5 + (if i = k then 2 else 0) else 0) + (if k = i then 5 else 0)
def CB (s n i j u : Nat) : Nat → Nat
  | 0 => 0
  | q + 1 => CB s n i j u q + (w32 s n q u).toInt.natAbs * shrb i j (q / n) (q % n)
theorem shr_b {T : Nat → Int32} (hb : ∀ k, k < 18 → sb 5 (T k)) (kd : Int32) {sh : Int32} (hsh : sb 2 sh) {i j k l : Nat} (hi : i < 3) (hj : j < 3) (hk : k < 3) (hl : l < 3) : sb (shrb i j k l) (shr T kd sh i j k l) := by
  have z0 : sb 0 0 := (by decide : (0 : Int32).toInt.natAbs ≤ 0)
  unfold shr shrb
  have a1 : sb (if l = j then 5 + (if i = k then 2 else 0) else 0) (if l = j then T (3 * i + k) + (if i = k then sh else 0) else 0) := by
    split
    · by_cases c : i = k
      · rw [if_pos c, if_pos c]; exact (sb_add (a := 5) (b := 2) (hb _ (by omega)) hsh (by omega)).1
      · rw [if_neg c, if_neg c]; exact (sb_add (a := 5) (b := 0) (hb _ (by omega)) z0 (by omega)).1
    · exact z0
  have a2 : sb (if k = i then 5 else 0) (if k = i then rE T kd (nI l) (nI j) else 0) := by
    split
    · exact rE_sb hb kd hl hj
    · exact z0
  exact (sb_add a1 a2 (by split <;> split <;> (try split) <;> omega)).1
theorem shrb_12 (i j k l : Nat) : shrb i j k l ≤ 12 := by unfold shrb; split <;> split <;> (try split) <;> omega
theorem isum_b {T : Nat → Int32} (hb : ∀ k, k < 18 → sb 5 (T k)) (kd : Int32) {s : Nat} (hs : s < 7) {sh : Int32} (hsh : sb 2 sh) {m n : Nat} (hm : m ≤ 3) (hn : n ≤ 3) {i j u : Nat} (hi : i < 3) (hj : j < 3) (hu : u < 9) : ∀ q, q ≤ m * n → sb (CB s n i j u q) (isum T kd s sh n i j u q) ∧ CB s n i j u q ≤ 12 * q := by
  have h9 := mn_le9 hm hn
  intro q
  induction q with
  | zero => intro _; exact ⟨Nat.le_refl _, Nat.le_refl _⟩
  | succ q ih =>
    intro hq
    obtain ⟨h1, h2⟩ := ih (by omega)
    have hw : (w32 s n q u).toInt.natAbs ≤ 1 := by
      rcases w_tab s hs n (by omega) q (by omega) u hu with e | e | e <;> rw [e] <;> decide
    have hsb := shr_b hb kd hsh hi hj (div_lt3 (show q < m * n by omega) hm) (mod_lt3 (show q < m * n by omega) hn)
    have h12 := shrb_12 i j (q / n) (q % n)
    have hle : (w32 s n q u).toInt.natAbs * shrb i j (q / n) (q % n) ≤ 1 * 12 := Nat.mul_le_mul hw h12
    have ht : sb ((w32 s n q u).toInt.natAbs * shrb i j (q / n) (q % n)) (tm T kd s sh n i j q u) := (sb_mul (a := (w32 s n q u).toInt.natAbs) (Nat.le_refl _) hsb (by omega)).1
    show sb (CB s n i j u q + _) (isum T kd s sh n i j u q + tm T kd s sh n i j q u) ∧ CB s n i j u q + _ ≤ _
    exact ⟨(sb_add h1 ht (by omega)).1, by omega⟩
def sq (a : Nat) : Nat := a * a
def sumN (f : Nat → Nat) : Nat → Nat
  | 0 => 0
  | k + 1 => sumN f k + f k
/-- the rows' sums of squares -/
theorem row344 (s : Nat) (hs : s < 7) (m : Nat) (hm : m < 4) (n : Nat) (hn : n < 4) (h1 : 1 ≤ m ∧ 1 ≤ n ∧ (s < 4 ∨ m = n) ∧ (pls s m n).length ≤ 6) (p : Nat) (hp : p < m * n) : sumN (fun u => sq (CB s n (p / n) (p % n) u (m * n))) (pls s m n).length ≤ 344 := by
  have h : tabB (fun s m n q u => !(decide (u = 0 ∧ (1 ≤ m ∧ 1 ≤ n ∧ (s < 4 ∨ m = n) ∧ (pls s m n).length ≤ 6) ∧ q < m * n)) || decide (sumN (fun u => sq (CB s n (q / n) (q % n) u (m * n))) (pls s m n).length ≤ 344)) = true := by decide +kernel
  have h9 : m * n ≤ 9 := mn_le9 (by omega) (by omega)
  exact of_decide_eq_true (imp_of (tab_of h hs hm hn (q := p) (u := 0) (by omega) (by omega)) (decide_eq_true ⟨rfl, h1, hp⟩))
