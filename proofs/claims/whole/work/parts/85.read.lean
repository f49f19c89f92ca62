/-! ===== readers: the sums ===== -/
def lf (T : Nat → Int32) (sh : Int32) (i k : Nat) : Int32 := T (3 * i + k) + (if i = k then sh else 0)
def A8 (T : Nat → Int32) (sh : Int32) (n : Nat) (x : Nat → Int64) (i j : Nat) : Nat → Int64
  | 0 => 0
  | k + 1 => A8 T sh n x i j k + (lf T sh i k).toInt64 * x (k * n + j)
def Q8 (T : Nat → Int32) (kd : Int32) (n : Nat) (x : Nat → Int64) (i j : Nat) : Nat → Int64
  | 0 => 0
  | l + 1 => Q8 T kd n x i j l + x (i * n + l) * (rE T kd (nI l) (nI j)).toInt64
def ms (T : Nat → Int32) (kd sh : Int32) (n : Nat) (x : Nat → Int64) (i j : Nat) : Nat → Int64
  | 0 => 0
  | q + 1 => ms T kd sh n x i j q + (shr T kd sh i j (q / n) (q % n)).toInt64 * x q
theorem shr_64 {T : Nat → Int32} (hb : ∀ k, k < 18 → sb 5 (T k)) (kd : Int32) {sh : Int32} (hsh : sb 2 sh) {i j k l : Nat} (hi : i < 3) (hj : j < 3) (hk : k < 3) (hl : l < 3) : (shr T kd sh i j k l).toInt64 = (if l = j then (lf T sh i k).toInt64 else 0) + (if k = i then (rE T kd (nI l) (nI j)).toInt64 else 0) := by
  have z5 : sb 5 0 := (by decide : (0 : Int32).toInt.natAbs ≤ 5)
  have z7 : sb 7 0 := (by decide : (0 : Int32).toInt.natAbs ≤ 7)
  have z2 : sb 2 0 := (by decide : (0 : Int32).toInt.natAbs ≤ 2)
  unfold shr lf
  have a1 : sb 7 (if l = j then T (3 * i + k) + (if i = k then sh else 0) else 0) := by
    split
    · refine (sb_add (a := 5) (b := 2) (hb _ (by omega)) ?_ (by omega)).1
      split
      · exact hsh
      · exact z2
    · exact z7
  have a2 : sb 5 (if k = i then rE T kd (nI l) (nI j) else 0) := by
    split
    · exact rE_sb hb kd hl hj
    · exact z5
  rw [(sb_add (a := 7) (b := 5) a1 a2 (by omega)).2]
  congr 1
  · split <;> rfl
  · split <;> rfl
theorem ms_row {T : Nat → Int32} (hb : ∀ k, k < 18 → sb 5 (T k)) (kd : Int32) {sh : Int32} (hsh : sb 2 sh) {n i j k : Nat} (hn : 1 ≤ n ∧ n ≤ 3) (x : Nat → Int64) (hi : i < 3) (hj : j < n) (hk : k < 3) : ∀ l, l ≤ n → ms T kd sh n x i j (k * n + l) = ms T kd sh n x i j (k * n) + (if j < l then (lf T sh i k).toInt64 * x (k * n + j) else 0) + (if k = i then Q8 T kd n x i j l else 0) := by
  intro l
  induction l with
  | zero => intro _; rw [if_neg (by omega)]; unfold Q8; rw [Nat.add_zero]; split <;> simp
  | succ l ih =>
    intro hl
    have dk : (k * n + l) / n = k := by rw [Nat.mul_comm, Nat.mul_add_div (by omega), Nat.div_eq_of_lt (by omega), Nat.add_zero]
    have dl : (k * n + l) % n = l := by rw [Nat.mul_comm, Nat.mul_add_mod]; exact Nat.mod_eq_of_lt (by omega)
    show ms T kd sh n x i j (k * n + l) + (shr T kd sh i j ((k * n + l) / n) ((k * n + l) % n)).toInt64 * x (k * n + l) = _
    rw [dk, dl, ih (by omega), shr_64 hb kd hsh hi (show j < 3 by omega) hk (show l < 3 by omega)]
    by_cases c1 : l = j
    · have t1 : (if j < l then (lf T sh i k).toInt64 * x (k * n + j) else 0) = 0 := if_neg (by omega)
      have t2 : (if j < l + 1 then (lf T sh i k).toInt64 * x (k * n + j) else 0) = (lf T sh i k).toInt64 * x (k * n + j) := if_pos (by omega)
      rw [t1, t2, if_pos c1]
      by_cases c2 : k = i
      · simp only [if_pos c2]
        show _ = _ + (Q8 T kd n x i j l + x (i * n + l) * (rE T kd (nI l) (nI j)).toInt64)
        rw [c2, c1]; grind
      · simp only [if_neg c2]; rw [c1]; grind
    · rw [if_neg c1]
      have e3 : (if j < l + 1 then (lf T sh i k).toInt64 * x (k * n + j) else 0) = (if j < l then (lf T sh i k).toInt64 * x (k * n + j) else 0) := by
        by_cases c3 : j < l
        · rw [if_pos c3, if_pos (by omega)]
        · rw [if_neg c3, if_neg (by omega)]
      rw [e3]
      by_cases c2 : k = i
      · simp only [if_pos c2]
        show _ = _ + (Q8 T kd n x i j l + x (i * n + l) * (rE T kd (nI l) (nI j)).toInt64)
        rw [c2]; grind
      · simp only [if_neg c2]; grind
theorem ms_all {T : Nat → Int32} (hb : ∀ k, k < 18 → sb 5 (T k)) (kd : Int32) {sh : Int32} (hsh : sb 2 sh) {n i j : Nat} (hn : 1 ≤ n ∧ n ≤ 3) (x : Nat → Int64) (hi : i < 3) (hj : j < n) : ∀ k, k ≤ 3 → ms T kd sh n x i j (k * n) = A8 T sh n x i j k + (if i < k then Q8 T kd n x i j n else 0) := by
  intro k
  induction k with
  | zero => intro _; rw [Nat.zero_mul]; unfold ms A8; rw [if_neg (by omega)]; rfl
  | succ k ih =>
    intro hk
    rw [Nat.add_mul, Nat.one_mul, ms_row hb kd hsh hn x hi hj (by omega) n (Nat.le_refl _), if_pos hj, ih (by omega)]
    show _ = A8 T sh n x i j k + (lf T sh i k).toInt64 * x (k * n + j) + _
    by_cases c : k = i
    · rw [if_pos c, if_neg (by omega), if_pos (by omega)]; grind
    · rw [if_neg c]
      by_cases d : i < k
      · rw [if_pos d, if_pos (by omega)]; grind
      · rw [if_neg d, if_neg (by omega)]; grind
/-- the first place of which P -/
def fb (P : Nat → Bool) : Nat → Nat → Nat
  | 0, p => p
  | n + 1, p => if P p then p else fb P n (p + 1)
theorem fb_rg (P : Nat → Bool) : ∀ n p, p ≤ fb P n p ∧ fb P n p ≤ p + n
  | 0, p => ⟨Nat.le_refl _, Nat.le_refl _⟩
  | n + 1, p => by
    rw [fb]
    split
    · omega
    · have := fb_rg P n (p + 1); omega
theorem fb_add (P : Nat → Bool) : ∀ a b p, fb P (a + b) p = if fb P a p = p + a then fb P b (p + a) else fb P a p
  | 0, b, p => by rw [Nat.zero_add, fb, if_pos (by omega), Nat.add_zero]
  | a + 1, b, p => by
    rw [show a + 1 + b = (a + b) + 1 by omega, fb, fb]
    by_cases c : P p = true
    · rw [if_pos c, if_pos c, if_neg (by omega)]
    · rw [if_neg c, if_neg c, fb_add P a b (p + 1), show p + 1 + a = p + (a + 1) by omega]
/-- the sum at place p isn't d times C -/
def wrg (T : Nat → Int32) (kd sh : Int32) (m n : Nat) (x : Nat → Int64) (d : Int32) (p : Nat) : Bool := decide ((A8 T sh n x (p / n) (p % n) m + Q8 T kd n x (p / n) (p % n) n) ≠ d.toInt64 * (T (18 + 3 * (p / n) + p % n)).toInt64)
/-- X is not of the shape there -/
def msh (s n : Nat) (x : Nat → Int64) (p : Nat) : Bool := if s = 4 then decide (¬ (p / n = p % n) ∧ ¬ x p = 0) else if s = 5 then decide (¬ x p = x (n * (p % n) + p / n)) else if s = 6 then decide (¬ x p = - x (n * (p % n) + p / n)) else false
theorem ite_dec {α : Type} {c : Prop} [Decidable c] (x y : α) : (if decide (¬ c) = true then x else y) = if c then y else x := by
  by_cases h : c
  · rw [if_pos h, if_neg (by simp [h])]
  · rw [if_neg h, if_pos (by simp [h])]
theorem dv {n k l : Nat} (hl : l < n) : (k * n + l) / n = k ∧ (k * n + l) % n = l := ⟨by rw [Nat.mul_comm, Nat.mul_add_div (by omega), Nat.div_eq_of_lt hl, Nat.add_zero], by rw [Nat.mul_comm, Nat.mul_add_mod]; exact Nat.mod_eq_of_lt hl⟩
theorem pl_lt {m n k l : Nat} (hk : k < m) (hl : l < n) : k * n + l < m * n := Nat.lt_of_lt_of_le (show k * n + l < (k + 1) * n by rw [Nat.add_mul, Nat.one_mul]; omega) (Nat.mul_le_mul_right n hk)
theorem x_C (S : w_S) {i j : Nat} (hi : i < 3) (hj : j < 3) : fX4_entry_1 S 2 (nI i) (nI j) = some (TX S (18 + 3 * i + j)) := by
  rw [x_entry S (by decide) (by rw [nI_toInt (by omega)]; omega) (by rw [nI_toInt (by omega)]; omega)]
  unfold at9; rw [ti_2, nI_toInt (by omega), nI_toInt (by omega)]; rfl
/-- sides and shape -/
def Sid (S : w_S) (m n : Nat) : Prop := gI S 0 = nI m ∧ gI S 1 = nI n ∧ (1 ≤ m ∧ m ≤ 3) ∧ (1 ≤ n ∧ n ≤ 3)
/-! ===== the class reads sheet 30 ===== -/
theorem x_read30 (S : w_S) {m n p : Nat} (h : Sid S m n) (hL : gI S 29 = nI (m * n)) (hp : p < m * n) : fX2_read_30 S (nI p) = some (gB S 2 p) := by
  obtain ⟨h0, h1, h2, h3⟩ := h
  have h9 := mn_le9 h2.2 h3.2
  rw [fX2_read_30, hL, if_neg (nI_pos (by omega)), if_neg (nI_ge hp (by omega)), show (40 : Int32) = nI 40 from rfl, if_neg (nI_ge (by omega) (by omega)), if_pos (nI_inN (show p < 40 by omega) (by decide)), nI_clamp (by omega)]
theorem x_sumAt30 (S : w_S) (kd sh : Int32) {m n i j : Nat} (h : Sid S m n) (hL : gI S 29 = nI (m * n)) (hi : i < m) (hj : j < n) : fX6_sumAt_30 S kd sh (nI i) (nI j) = some (A8 (TX S) sh n (gB S 2) i j m + Q8 (TX S) kd n (gB S 2) i j n) := by
  obtain ⟨h0, h1, h2, h3⟩ := id h
  have h9 := mn_le9 h2.2 h3.2
  obtain ⟨t, e1, rfl⟩ := loop_up (fun q (v : Int64) k => fX6_sumAt_30_L6 S kd sh (nI i) (nI j) q v k) (fun k v => v = A8 (TX S) sh n (gB S 2) i j k) (fun t => t = A8 (TX S) sh n (gB S 2) i j m) m
    (fun q k v hk hI => ⟨v + (lf (TX S) sh i k).toInt64 * gB S 2 (k * n + j), by rw [hI]; rfl, by
      show fX6_sumAt_30_L6 S kd sh (nI i) (nI j) (q + 1) v (nI k) = _
      rw [fX6_sumAt_30_L6, h0, h1, if_neg (nI_ge hk (by omega)), x_left S sh (by omega) (by omega), Option.bind_some, nI_mul, nI_add, x_read30 S h hL (pl_lt hk hj), Option.bind_some, nI_1]; rfl⟩)
    (fun q v hI => ⟨v, by
      show fX6_sumAt_30_L6 S kd sh (nI i) (nI j) (q + 1) v (nI m) = _
      rw [fX6_sumAt_30_L6, h0, if_pos (Int32.le_refl _)], hI⟩) 256 0 0 (by omega) (by omega) rfl
  obtain ⟨t, f1, rfl⟩ := loop_up (fun q (v : Int64) k => fX6_sumAt_30_L63 S kd (nI i) (nI j) q v k) (fun l v => v = A8 (TX S) sh n (gB S 2) i j m + Q8 (TX S) kd n (gB S 2) i j l) (fun t => t = A8 (TX S) sh n (gB S 2) i j m + Q8 (TX S) kd n (gB S 2) i j n) n
    (fun q k v hk hI => ⟨v + gB S 2 (i * n + k) * (rE (TX S) kd (nI k) (nI j)).toInt64, by rw [hI, Int64.add_assoc]; rfl, by
      show fX6_sumAt_30_L63 S kd (nI i) (nI j) (q + 1) v (nI k) = _
      rw [fX6_sumAt_30_L63, h1, if_neg (nI_ge hk (by omega)), nI_mul, nI_add, x_read30 S h hL (pl_lt hi hk), Option.bind_some, x_right S kd (by rw [nI_toInt (by omega)]; omega) (by rw [nI_toInt (by omega)]; omega), Option.bind_some, nI_1]⟩)
    (fun q v hI => ⟨v, by
      show fX6_sumAt_30_L63 S kd (nI i) (nI j) (q + 1) v (nI n) = _
      rw [fX6_sumAt_30_L63, h1, if_pos (Int32.le_refl _)], hI⟩) 256 0 (A8 (TX S) sh n (gB S 2) i j m) (by omega) (by omega) (by show _ = _ + (0 : Int64); rw [Int64.add_zero])
  have e1' : fX6_sumAt_30_L6 S kd sh (nI i) (nI j) 256 0 0 = some _ := e1
  have f1' : fX6_sumAt_30_L63 S kd (nI i) (nI j) 256 _ 0 = some _ := f1
  rw [fX6_sumAt_30, e1', Option.bind_some, f1']; rfl
theorem x_wrong18_30 (K : Option Int32) (S : w_S) (kd sh d : Int32) {m n i : Nat} (h : Sid S m n) (hL : gI S 29 = nI (m * n)) (hi : i < m) : ∀ g q j, j + g = n → g < q → fX6_firstWrong_30_L18 K S kd sh d (nI i) q (nI j) = if fb (wrg (TX S) kd sh m n (gB S 2) d) g (i * n + j) = i * n + n then K else some (nI (fb (wrg (TX S) kd sh m n (gB S 2) d) g (i * n + j)))
  | _, 0, _ => fun h1 h2 => absurd h2 (Nat.not_lt_zero _)
  | 0, q + 1, j => fun h1 h2 => by
    obtain ⟨h0, h1', h2', h3⟩ := id h
    rw [fX6_firstWrong_30_L18, h1', fb, if_pos (by rw [nI_leI (by omega) (by omega)]; omega), if_pos (by omega)]
  | g + 1, q + 1, j => fun h1 h2 => by
    obtain ⟨h0, h1', h2', h3⟩ := id h
    have h9 := mn_le9 h2'.2 h3.2
    have hj : j < n := by omega
    have hp := pl_lt hi hj
    rw [fX6_firstWrong_30_L18, h1', if_neg (nI_ge hj (by omega)), x_sumAt30 S kd sh h hL hi hj, Option.bind_some, x_C S (by omega) (by omega), Option.bind_some, fb, nI_1, nI_mul, nI_add]
    unfold wrg
    rw [(dv hj).1, (dv hj).2, ite_dec]
    split
    · have := x_wrong18_30 K S kd sh d h hL hi g q (j + 1) (by omega) (by omega)
      rw [show i * n + (j + 1) = i * n + j + 1 by omega] at this
      exact this
    · rw [if_neg (by omega)]
theorem x_wrong3_30 (K : Option Int32) (S : w_S) (kd sh d : Int32) {m n : Nat} (h : Sid S m n) (hL : gI S 29 = nI (m * n)) : ∀ g q i, i + g = m → g < q → fX6_firstWrong_30_L3 K S kd sh d q (nI i) = if fb (wrg (TX S) kd sh m n (gB S 2) d) (g * n) (i * n) = m * n then K else some (nI (fb (wrg (TX S) kd sh m n (gB S 2) d) (g * n) (i * n)))
  | _, 0, _ => fun h1 h2 => absurd h2 (Nat.not_lt_zero _)
  | 0, q + 1, i => fun h1 h2 => by
    obtain ⟨h0, h1', h2', h3⟩ := id h
    have : i = m := by omega
    rw [fX6_firstWrong_30_L3, h0, Nat.zero_mul, fb, this, if_pos (Int32.le_refl _), if_pos rfl]
  | g + 1, q + 1, i => fun h1 h2 => by
    obtain ⟨h0, h1', h2', h3⟩ := id h
    have hi : i < m := by omega
    have hmn : m * n = i * n + (g + 1) * n := by rw [← Nat.add_mul, h1]
    have hg : (g + 1) * n = n + g * n := by rw [Nat.add_mul, Nat.one_mul, Nat.add_comm]
    have h18 := x_wrong18_30 (fX6_firstWrong_30_L3 K S kd sh d q (nI (i + 1))) S kd sh d h hL hi n 256 0 (by omega) (by omega)
    have h18' : fX6_firstWrong_30_L18 (fX6_firstWrong_30_L3 K S kd sh d q (nI (i + 1))) S kd sh d (nI i) 256 0 = _ := h18
    rw [fX6_firstWrong_30_L3, h0, if_neg (nI_ge hi (by omega)), nI_1, h18', Nat.add_zero, hg, fb_add]
    have hr := fb_rg (wrg (TX S) kd sh m n (gB S 2) d) n (i * n)
    by_cases c : fb (wrg (TX S) kd sh m n (gB S 2) d) n (i * n) = i * n + n
    · have ih := x_wrong3_30 K S kd sh d h hL g q (i + 1) (by omega) (by omega)
      rw [if_pos c, if_pos c, ih, show (i + 1) * n = i * n + n by rw [Nat.add_mul, Nat.one_mul]]
    · rw [if_neg c, if_neg c, if_neg (by omega)]
theorem x_wrong30 (S : w_S) (kd sh d : Int32) {m n : Nat} (h : Sid S m n) (hL : gI S 29 = nI (m * n)) : fX6_firstWrong_30 S kd sh d = some (nI (fb (wrg (TX S) kd sh m n (gB S 2) d) (m * n) 0)) := by
  obtain ⟨h0, h1, h2, h3⟩ := id h
  have := x_wrong3_30 (some (nI (m * n))) S kd sh d h hL m 256 0 (by omega) (by omega)
  have t' : fX6_firstWrong_30_L3 (some (nI (m * n))) S kd sh d 256 0 = _ := this
  rw [fX6_firstWrong_30, h0, h1, nI_mul, t', Nat.zero_mul]
  split
  · rename_i e; rw [e]
  · rfl
theorem x_shape34_30 (K : Option Int32) (S : w_S) {s m n i : Nat} (hs : 4 ≤ s ∧ s < 7) (h : Sid S m n) (hq : m = n) (hL : gI S 29 = nI (m * n)) (hi : i < m) : ∀ g q j, j + g = n → g < q → fX6_isOfShape_30_L34 K S (nI s) (nI i) q (nI j) = if fb (msh s n (gB S 2)) g (i * n + j) = i * n + n then K else some 0
  | _, 0, _ => fun h1 h2 => absurd h2 (Nat.not_lt_zero _)
  | 0, q + 1, j => fun h1 h2 => by
    obtain ⟨h0, h1', h2', h3⟩ := id h
    rw [fX6_isOfShape_30_L34, h1', fb, if_pos (by rw [nI_leI (by omega) (by omega)]; omega), if_pos (by omega)]
  | g + 1, q + 1, j => fun h1 h2 => by
    obtain ⟨h0, h1', h2', h3⟩ := id h
    have hj : j < n := by omega
    have ih := x_shape34_30 K S hs h hq hL hi g q (j + 1) (by omega) (by omega)
    rw [show i * n + (j + 1) = i * n + j + 1 by omega] at ih
    have hnn : n * j + i = j * n + i := by rw [Nat.mul_comm]
    rw [fX6_isOfShape_30_L34, h1', if_neg (nI_ge hj (by omega)), nI_mul, nI_mul, nI_add, nI_add, x_read30 S h hL (pl_lt hi hj), Option.bind_some, x_read30 S h hL (pl_lt (show j < m by omega) (show i < n by omega)), Option.bind_some, nI_1, fb, if_neg n10, if_pos (show (0 : Int32) = 0 from rfl), show (4 : Int32) = nI 4 from rfl, show (5 : Int32) = nI 5 from rfl, ih]
    have hm : msh s n (gB S 2) (i * n + j) = if s = 4 then decide (¬ (i = j) ∧ ¬ gB S 2 (i * n + j) = 0) else if s = 5 then decide (¬ gB S 2 (i * n + j) = gB S 2 (j * n + i)) else if s = 6 then decide (¬ gB S 2 (i * n + j) = - gB S 2 (j * n + i)) else false := by
      unfold msh
      rw [(dv hj).1, (dv hj).2, hnn]
    simp only [nI_eq (show s < 2 ^ 31 by omega) (show 4 < 2 ^ 31 by omega), nI_eq (show s < 2 ^ 31 by omega) (show 5 < 2 ^ 31 by omega), nI_eq (show i < 2 ^ 31 by omega) (show j < 2 ^ 31 by omega)]
    have fin0 : msh s n (gB S 2) (i * n + j) = true → some 0 = if (if msh s n (gB S 2) (i * n + j) = true then i * n + j else fb (msh s n (gB S 2)) g (i * n + j + 1)) = i * n + n then K else some (0 : Int32) := fun e => by rw [if_pos e, if_neg (by omega)]
    have fin1 : msh s n (gB S 2) (i * n + j) = false → (if fb (msh s n (gB S 2)) g (i * n + j + 1) = i * n + n then K else some 0) = if (if msh s n (gB S 2) (i * n + j) = true then i * n + j else fb (msh s n (gB S 2)) g (i * n + j + 1)) = i * n + n then K else some (0 : Int32) := fun e => by rw [e, if_neg (show ¬ false = true by decide)]
    by_cases c4 : s = 4
    · rw [if_pos c4]
      rw [if_pos c4] at hm
      by_cases c : i = j
      · rw [if_pos c]; exact fin1 (by rw [hm]; simp [c])
      · rw [if_neg c]
        by_cases e : gB S 2 (i * n + j) = 0
        · rw [if_pos e]; exact fin1 (by rw [hm]; simp [e])
        · rw [if_neg e]; exact fin0 (by rw [hm]; simp [c, e])
    · rw [if_neg c4]
      rw [if_neg c4] at hm
      by_cases c5 : s = 5
      · rw [if_pos c5]
        rw [if_pos c5] at hm
        by_cases e : gB S 2 (i * n + j) = gB S 2 (j * n + i)
        · rw [if_pos e]; exact fin1 (by rw [hm]; simp [e])
        · rw [if_neg e]; exact fin0 (by rw [hm]; simp [e])
      · rw [if_neg c5]
        rw [if_neg c5, if_pos (by omega)] at hm
        by_cases e : gB S 2 (i * n + j) = - gB S 2 (j * n + i)
        · rw [if_pos e]; exact fin1 (by rw [hm]; simp [e])
        · rw [if_neg e]; exact fin0 (by rw [hm]; simp [e])
theorem x_shape20_30 (K : Option Int32) (S : w_S) {s m n : Nat} (hs : 4 ≤ s ∧ s < 7) (h : Sid S m n) (hq : m = n) (hL : gI S 29 = nI (m * n)) : ∀ g q i, i + g = m → g < q → fX6_isOfShape_30_L20 K S (nI s) q (nI i) = if fb (msh s n (gB S 2)) (g * n) (i * n) = m * n then K else some 0
  | _, 0, _ => fun h1 h2 => absurd h2 (Nat.not_lt_zero _)
  | 0, q + 1, i => fun h1 h2 => by
    obtain ⟨h0, h1', h2', h3⟩ := id h
    have : i = m := by omega
    rw [fX6_isOfShape_30_L20, h0, Nat.zero_mul, fb, this, if_pos (Int32.le_refl _), if_pos rfl]
  | g + 1, q + 1, i => fun h1 h2 => by
    obtain ⟨h0, h1', h2', h3⟩ := id h
    have hi : i < m := by omega
    have hmn : m * n = i * n + (g + 1) * n := by rw [← Nat.add_mul, h1]
    have hg : (g + 1) * n = n + g * n := by rw [Nat.add_mul, Nat.one_mul, Nat.add_comm]
    have h18 := x_shape34_30 (fX6_isOfShape_30_L20 K S (nI s) q (nI (i + 1))) S hs h hq hL hi n 256 0 (by omega) (by omega)
    have h18' : fX6_isOfShape_30_L34 (fX6_isOfShape_30_L20 K S (nI s) q (nI (i + 1))) S (nI s) (nI i) 256 0 = _ := h18
    rw [fX6_isOfShape_30_L20, h0, if_neg (nI_ge hi (by omega)), nI_1, h18', Nat.add_zero, hg, fb_add]
    have hr := fb_rg (msh s n (gB S 2)) n (i * n)
    by_cases c : fb (msh s n (gB S 2)) n (i * n) = i * n + n
    · have ih := x_shape20_30 K S hs h hq hL g q (i + 1) (by omega) (by omega)
      rw [if_pos c, if_pos c, ih, show (i + 1) * n = i * n + n by rw [Nat.add_mul, Nat.one_mul]]
    · rw [if_neg c, if_neg c, if_neg (by omega)]
theorem x_shape30 (S : w_S) {s m n : Nat} (hs : s < 7) (h : Sid S m n) (hq : s ≤ 1 ∨ m = n) (hL : gI S 29 = nI (m * n)) : fX6_isOfShape_30 S (nI s) = some (if fb (msh s n (gB S 2)) (m * n) 0 = m * n then 1 else 0) := by
  obtain ⟨h0, h1, h2, h3⟩ := id h
  rw [fX6_isOfShape_30, show (4 : Int32) = nI 4 from rfl, show (5 : Int32) = nI 5 from rfl, show (6 : Int32) = nI 6 from rfl]
  simp only [nI_eq (show s < 2 ^ 31 by omega) (show 4 < 2 ^ 31 by omega), nI_eq (show s < 2 ^ 31 by omega) (show 5 < 2 ^ 31 by omega), nI_eq (show s < 2 ^ 31 by omega) (show 6 < 2 ^ 31 by omega)]
  by_cases c : 4 ≤ s
  · have := x_shape20_30 (some 1) S ⟨c, hs⟩ h (by omega) hL m 256 0 (by omega) (by omega)
    have t' : fX6_isOfShape_30_L20 (some 1) S (nI s) 256 0 = _ := this
    rw [t', Nat.zero_mul, some_ite]
    by_cases c4 : s = 4
    · rw [if_pos c4]
    · rw [if_neg c4]
      by_cases c5 : s = 5
      · rw [if_pos c5]
      · rw [if_neg c5, if_pos (by omega)]
  · have z : ∀ g p, fb (msh s n (gB S 2)) g p = p + g := by
      intro g
      induction g with
      | zero => intro p; rfl
      | succ g ih =>
        intro p
        have hf : msh s n (gB S 2) p = false := by unfold msh; rw [if_neg (by omega), if_neg (by omega), if_neg (by omega)]
        rw [fb, hf, ih, if_neg (by decide)]; omega
    rw [if_neg (by omega), if_neg (by omega), if_neg (by omega), z, if_pos (by omega)]
/-! ===== the class reads sheet 32 ===== -/
theorem x_read32 (S : w_S) {m n p : Nat} (h : Sid S m n) (hL : gI S 31 = nI (m * n)) (hp : p < m * n) : fX2_read_32 S (nI p) = some (gB S 3 p) := by
  obtain ⟨h0, h1, h2, h3⟩ := h
  have h9 := mn_le9 h2.2 h3.2
  rw [fX2_read_32, hL, if_neg (nI_pos (by omega)), if_neg (nI_ge hp (by omega)), show (40 : Int32) = nI 40 from rfl, if_neg (nI_ge (by omega) (by omega)), if_pos (nI_inN (show p < 40 by omega) (by decide)), nI_clamp (by omega)]
theorem x_sumAt32 (S : w_S) (kd sh : Int32) {m n i j : Nat} (h : Sid S m n) (hL : gI S 31 = nI (m * n)) (hi : i < m) (hj : j < n) : fX6_sumAt_32 S kd sh (nI i) (nI j) = some (A8 (TX S) sh n (gB S 3) i j m + Q8 (TX S) kd n (gB S 3) i j n) := by
  obtain ⟨h0, h1, h2, h3⟩ := id h
  have h9 := mn_le9 h2.2 h3.2
  obtain ⟨t, e1, rfl⟩ := loop_up (fun q (v : Int64) k => fX6_sumAt_32_L6 S kd sh (nI i) (nI j) q v k) (fun k v => v = A8 (TX S) sh n (gB S 3) i j k) (fun t => t = A8 (TX S) sh n (gB S 3) i j m) m
    (fun q k v hk hI => ⟨v + (lf (TX S) sh i k).toInt64 * gB S 3 (k * n + j), by rw [hI]; rfl, by
      show fX6_sumAt_32_L6 S kd sh (nI i) (nI j) (q + 1) v (nI k) = _
      rw [fX6_sumAt_32_L6, h0, h1, if_neg (nI_ge hk (by omega)), x_left S sh (by omega) (by omega), Option.bind_some, nI_mul, nI_add, x_read32 S h hL (pl_lt hk hj), Option.bind_some, nI_1]; rfl⟩)
    (fun q v hI => ⟨v, by
      show fX6_sumAt_32_L6 S kd sh (nI i) (nI j) (q + 1) v (nI m) = _
      rw [fX6_sumAt_32_L6, h0, if_pos (Int32.le_refl _)], hI⟩) 256 0 0 (by omega) (by omega) rfl
  obtain ⟨t, f1, rfl⟩ := loop_up (fun q (v : Int64) k => fX6_sumAt_32_L63 S kd (nI i) (nI j) q v k) (fun l v => v = A8 (TX S) sh n (gB S 3) i j m + Q8 (TX S) kd n (gB S 3) i j l) (fun t => t = A8 (TX S) sh n (gB S 3) i j m + Q8 (TX S) kd n (gB S 3) i j n) n
    (fun q k v hk hI => ⟨v + gB S 3 (i * n + k) * (rE (TX S) kd (nI k) (nI j)).toInt64, by rw [hI, Int64.add_assoc]; rfl, by
      show fX6_sumAt_32_L63 S kd (nI i) (nI j) (q + 1) v (nI k) = _
      rw [fX6_sumAt_32_L63, h1, if_neg (nI_ge hk (by omega)), nI_mul, nI_add, x_read32 S h hL (pl_lt hi hk), Option.bind_some, x_right S kd (by rw [nI_toInt (by omega)]; omega) (by rw [nI_toInt (by omega)]; omega), Option.bind_some, nI_1]⟩)
    (fun q v hI => ⟨v, by
      show fX6_sumAt_32_L63 S kd (nI i) (nI j) (q + 1) v (nI n) = _
      rw [fX6_sumAt_32_L63, h1, if_pos (Int32.le_refl _)], hI⟩) 256 0 (A8 (TX S) sh n (gB S 3) i j m) (by omega) (by omega) (by show _ = _ + (0 : Int64); rw [Int64.add_zero])
  have e1' : fX6_sumAt_32_L6 S kd sh (nI i) (nI j) 256 0 0 = some _ := e1
  have f1' : fX6_sumAt_32_L63 S kd (nI i) (nI j) 256 _ 0 = some _ := f1
  rw [fX6_sumAt_32, e1', Option.bind_some, f1']; rfl
theorem x_wrong18_32 (K : Option Int32) (S : w_S) (kd sh d : Int32) {m n i : Nat} (h : Sid S m n) (hL : gI S 31 = nI (m * n)) (hi : i < m) : ∀ g q j, j + g = n → g < q → fX6_firstWrong_32_L18 K S kd sh d (nI i) q (nI j) = if fb (wrg (TX S) kd sh m n (gB S 3) d) g (i * n + j) = i * n + n then K else some (nI (fb (wrg (TX S) kd sh m n (gB S 3) d) g (i * n + j)))
  | _, 0, _ => fun h1 h2 => absurd h2 (Nat.not_lt_zero _)
  | 0, q + 1, j => fun h1 h2 => by
    obtain ⟨h0, h1', h2', h3⟩ := id h
    rw [fX6_firstWrong_32_L18, h1', fb, if_pos (by rw [nI_leI (by omega) (by omega)]; omega), if_pos (by omega)]
  | g + 1, q + 1, j => fun h1 h2 => by
    obtain ⟨h0, h1', h2', h3⟩ := id h
    have h9 := mn_le9 h2'.2 h3.2
    have hj : j < n := by omega
    have hp := pl_lt hi hj
    rw [fX6_firstWrong_32_L18, h1', if_neg (nI_ge hj (by omega)), x_sumAt32 S kd sh h hL hi hj, Option.bind_some, x_C S (by omega) (by omega), Option.bind_some, fb, nI_1, nI_mul, nI_add]
    unfold wrg
    rw [(dv hj).1, (dv hj).2, ite_dec]
    split
    · have := x_wrong18_32 K S kd sh d h hL hi g q (j + 1) (by omega) (by omega)
      rw [show i * n + (j + 1) = i * n + j + 1 by omega] at this
      exact this
    · rw [if_neg (by omega)]
theorem x_wrong3_32 (K : Option Int32) (S : w_S) (kd sh d : Int32) {m n : Nat} (h : Sid S m n) (hL : gI S 31 = nI (m * n)) : ∀ g q i, i + g = m → g < q → fX6_firstWrong_32_L3 K S kd sh d q (nI i) = if fb (wrg (TX S) kd sh m n (gB S 3) d) (g * n) (i * n) = m * n then K else some (nI (fb (wrg (TX S) kd sh m n (gB S 3) d) (g * n) (i * n)))
  | _, 0, _ => fun h1 h2 => absurd h2 (Nat.not_lt_zero _)
  | 0, q + 1, i => fun h1 h2 => by
    obtain ⟨h0, h1', h2', h3⟩ := id h
    have : i = m := by omega
    rw [fX6_firstWrong_32_L3, h0, Nat.zero_mul, fb, this, if_pos (Int32.le_refl _), if_pos rfl]
  | g + 1, q + 1, i => fun h1 h2 => by
    obtain ⟨h0, h1', h2', h3⟩ := id h
    have hi : i < m := by omega
    have hmn : m * n = i * n + (g + 1) * n := by rw [← Nat.add_mul, h1]
    have hg : (g + 1) * n = n + g * n := by rw [Nat.add_mul, Nat.one_mul, Nat.add_comm]
    have h18 := x_wrong18_32 (fX6_firstWrong_32_L3 K S kd sh d q (nI (i + 1))) S kd sh d h hL hi n 256 0 (by omega) (by omega)
    have h18' : fX6_firstWrong_32_L18 (fX6_firstWrong_32_L3 K S kd sh d q (nI (i + 1))) S kd sh d (nI i) 256 0 = _ := h18
    rw [fX6_firstWrong_32_L3, h0, if_neg (nI_ge hi (by omega)), nI_1, h18', Nat.add_zero, hg, fb_add]
    have hr := fb_rg (wrg (TX S) kd sh m n (gB S 3) d) n (i * n)
    by_cases c : fb (wrg (TX S) kd sh m n (gB S 3) d) n (i * n) = i * n + n
    · have ih := x_wrong3_32 K S kd sh d h hL g q (i + 1) (by omega) (by omega)
      rw [if_pos c, if_pos c, ih, show (i + 1) * n = i * n + n by rw [Nat.add_mul, Nat.one_mul]]
    · rw [if_neg c, if_neg c, if_neg (by omega)]
theorem x_wrong32 (S : w_S) (kd sh d : Int32) {m n : Nat} (h : Sid S m n) (hL : gI S 31 = nI (m * n)) : fX6_firstWrong_32 S kd sh d = some (nI (fb (wrg (TX S) kd sh m n (gB S 3) d) (m * n) 0)) := by
  obtain ⟨h0, h1, h2, h3⟩ := id h
  have := x_wrong3_32 (some (nI (m * n))) S kd sh d h hL m 256 0 (by omega) (by omega)
  have t' : fX6_firstWrong_32_L3 (some (nI (m * n))) S kd sh d 256 0 = _ := this
  rw [fX6_firstWrong_32, h0, h1, nI_mul, t', Nat.zero_mul]
  split
  · rename_i e; rw [e]
  · rfl
theorem x_shape34_32 (K : Option Int32) (S : w_S) {s m n i : Nat} (hs : 4 ≤ s ∧ s < 7) (h : Sid S m n) (hq : m = n) (hL : gI S 31 = nI (m * n)) (hi : i < m) : ∀ g q j, j + g = n → g < q → fX6_isOfShape_32_L34 K S (nI s) (nI i) q (nI j) = if fb (msh s n (gB S 3)) g (i * n + j) = i * n + n then K else some 0
  | _, 0, _ => fun h1 h2 => absurd h2 (Nat.not_lt_zero _)
  | 0, q + 1, j => fun h1 h2 => by
    obtain ⟨h0, h1', h2', h3⟩ := id h
    rw [fX6_isOfShape_32_L34, h1', fb, if_pos (by rw [nI_leI (by omega) (by omega)]; omega), if_pos (by omega)]
  | g + 1, q + 1, j => fun h1 h2 => by
    obtain ⟨h0, h1', h2', h3⟩ := id h
    have hj : j < n := by omega
    have ih := x_shape34_32 K S hs h hq hL hi g q (j + 1) (by omega) (by omega)
    rw [show i * n + (j + 1) = i * n + j + 1 by omega] at ih
    have hnn : n * j + i = j * n + i := by rw [Nat.mul_comm]
    rw [fX6_isOfShape_32_L34, h1', if_neg (nI_ge hj (by omega)), nI_mul, nI_mul, nI_add, nI_add, x_read32 S h hL (pl_lt hi hj), Option.bind_some, x_read32 S h hL (pl_lt (show j < m by omega) (show i < n by omega)), Option.bind_some, nI_1, fb, if_neg n10, if_pos (show (0 : Int32) = 0 from rfl), show (4 : Int32) = nI 4 from rfl, show (5 : Int32) = nI 5 from rfl, ih]
    have hm : msh s n (gB S 3) (i * n + j) = if s = 4 then decide (¬ (i = j) ∧ ¬ gB S 3 (i * n + j) = 0) else if s = 5 then decide (¬ gB S 3 (i * n + j) = gB S 3 (j * n + i)) else if s = 6 then decide (¬ gB S 3 (i * n + j) = - gB S 3 (j * n + i)) else false := by
      unfold msh
      rw [(dv hj).1, (dv hj).2, hnn]
    simp only [nI_eq (show s < 2 ^ 31 by omega) (show 4 < 2 ^ 31 by omega), nI_eq (show s < 2 ^ 31 by omega) (show 5 < 2 ^ 31 by omega), nI_eq (show i < 2 ^ 31 by omega) (show j < 2 ^ 31 by omega)]
    have fin0 : msh s n (gB S 3) (i * n + j) = true → some 0 = if (if msh s n (gB S 3) (i * n + j) = true then i * n + j else fb (msh s n (gB S 3)) g (i * n + j + 1)) = i * n + n then K else some (0 : Int32) := fun e => by rw [if_pos e, if_neg (by omega)]
    have fin1 : msh s n (gB S 3) (i * n + j) = false → (if fb (msh s n (gB S 3)) g (i * n + j + 1) = i * n + n then K else some 0) = if (if msh s n (gB S 3) (i * n + j) = true then i * n + j else fb (msh s n (gB S 3)) g (i * n + j + 1)) = i * n + n then K else some (0 : Int32) := fun e => by rw [e, if_neg (show ¬ false = true by decide)]
    by_cases c4 : s = 4
    · rw [if_pos c4]
      rw [if_pos c4] at hm
      by_cases c : i = j
      · rw [if_pos c]; exact fin1 (by rw [hm]; simp [c])
      · rw [if_neg c]
        by_cases e : gB S 3 (i * n + j) = 0
        · rw [if_pos e]; exact fin1 (by rw [hm]; simp [e])
        · rw [if_neg e]; exact fin0 (by rw [hm]; simp [c, e])
    · rw [if_neg c4]
      rw [if_neg c4] at hm
      by_cases c5 : s = 5
      · rw [if_pos c5]
        rw [if_pos c5] at hm
        by_cases e : gB S 3 (i * n + j) = gB S 3 (j * n + i)
        · rw [if_pos e]; exact fin1 (by rw [hm]; simp [e])
        · rw [if_neg e]; exact fin0 (by rw [hm]; simp [e])
      · rw [if_neg c5]
        rw [if_neg c5, if_pos (by omega)] at hm
        by_cases e : gB S 3 (i * n + j) = - gB S 3 (j * n + i)
        · rw [if_pos e]; exact fin1 (by rw [hm]; simp [e])
        · rw [if_neg e]; exact fin0 (by rw [hm]; simp [e])
theorem x_shape20_32 (K : Option Int32) (S : w_S) {s m n : Nat} (hs : 4 ≤ s ∧ s < 7) (h : Sid S m n) (hq : m = n) (hL : gI S 31 = nI (m * n)) : ∀ g q i, i + g = m → g < q → fX6_isOfShape_32_L20 K S (nI s) q (nI i) = if fb (msh s n (gB S 3)) (g * n) (i * n) = m * n then K else some 0
  | _, 0, _ => fun h1 h2 => absurd h2 (Nat.not_lt_zero _)
  | 0, q + 1, i => fun h1 h2 => by
    obtain ⟨h0, h1', h2', h3⟩ := id h
    have : i = m := by omega
    rw [fX6_isOfShape_32_L20, h0, Nat.zero_mul, fb, this, if_pos (Int32.le_refl _), if_pos rfl]
  | g + 1, q + 1, i => fun h1 h2 => by
    obtain ⟨h0, h1', h2', h3⟩ := id h
    have hi : i < m := by omega
    have hmn : m * n = i * n + (g + 1) * n := by rw [← Nat.add_mul, h1]
    have hg : (g + 1) * n = n + g * n := by rw [Nat.add_mul, Nat.one_mul, Nat.add_comm]
    have h18 := x_shape34_32 (fX6_isOfShape_32_L20 K S (nI s) q (nI (i + 1))) S hs h hq hL hi n 256 0 (by omega) (by omega)
    have h18' : fX6_isOfShape_32_L34 (fX6_isOfShape_32_L20 K S (nI s) q (nI (i + 1))) S (nI s) (nI i) 256 0 = _ := h18
    rw [fX6_isOfShape_32_L20, h0, if_neg (nI_ge hi (by omega)), nI_1, h18', Nat.add_zero, hg, fb_add]
    have hr := fb_rg (msh s n (gB S 3)) n (i * n)
    by_cases c : fb (msh s n (gB S 3)) n (i * n) = i * n + n
    · have ih := x_shape20_32 K S hs h hq hL g q (i + 1) (by omega) (by omega)
      rw [if_pos c, if_pos c, ih, show (i + 1) * n = i * n + n by rw [Nat.add_mul, Nat.one_mul]]
    · rw [if_neg c, if_neg c, if_neg (by omega)]
theorem x_shape32 (S : w_S) {s m n : Nat} (hs : s < 7) (h : Sid S m n) (hq : s ≤ 1 ∨ m = n) (hL : gI S 31 = nI (m * n)) : fX6_isOfShape_32 S (nI s) = some (if fb (msh s n (gB S 3)) (m * n) 0 = m * n then 1 else 0) := by
  obtain ⟨h0, h1, h2, h3⟩ := id h
  rw [fX6_isOfShape_32, show (4 : Int32) = nI 4 from rfl, show (5 : Int32) = nI 5 from rfl, show (6 : Int32) = nI 6 from rfl]
  simp only [nI_eq (show s < 2 ^ 31 by omega) (show 4 < 2 ^ 31 by omega), nI_eq (show s < 2 ^ 31 by omega) (show 5 < 2 ^ 31 by omega), nI_eq (show s < 2 ^ 31 by omega) (show 6 < 2 ^ 31 by omega)]
  by_cases c : 4 ≤ s
  · have := x_shape20_32 (some 1) S ⟨c, hs⟩ h (by omega) hL m 256 0 (by omega) (by omega)
    have t' : fX6_isOfShape_32_L20 (some 1) S (nI s) 256 0 = _ := this
    rw [t', Nat.zero_mul, some_ite]
    by_cases c4 : s = 4
    · rw [if_pos c4]
    · rw [if_neg c4]
      by_cases c5 : s = 5
      · rw [if_pos c5]
      · rw [if_neg c5, if_pos (by omega)]
  · have z : ∀ g p, fb (msh s n (gB S 3)) g p = p + g := by
      intro g
      induction g with
      | zero => intro p; rfl
      | succ g ih =>
        intro p
        have hf : msh s n (gB S 3) p = false := by unfold msh; rw [if_neg (by omega), if_neg (by omega), if_neg (by omega)]
        rw [fb, hf, ih, if_neg (by decide)]; omega
    rw [if_neg (by omega), if_neg (by omega), if_neg (by omega), z, if_pos (by omega)]
/-! ===== the class reads sheet 34 ===== -/
theorem x_read34 (S : w_S) {m n p : Nat} (h : Sid S m n) (hL : gI S 33 = nI (m * n)) (hp : p < m * n) : fX2_read_34 S (nI p) = some (gB S 4 p) := by
  obtain ⟨h0, h1, h2, h3⟩ := h
  have h9 := mn_le9 h2.2 h3.2
  rw [fX2_read_34, hL, if_neg (nI_pos (by omega)), if_neg (nI_ge hp (by omega)), show (40 : Int32) = nI 40 from rfl, if_neg (nI_ge (by omega) (by omega)), if_pos (nI_inN (show p < 40 by omega) (by decide)), nI_clamp (by omega)]
theorem x_sumAt34 (S : w_S) (kd sh : Int32) {m n i j : Nat} (h : Sid S m n) (hL : gI S 33 = nI (m * n)) (hi : i < m) (hj : j < n) : fX6_sumAt_34 S kd sh (nI i) (nI j) = some (A8 (TX S) sh n (gB S 4) i j m + Q8 (TX S) kd n (gB S 4) i j n) := by
  obtain ⟨h0, h1, h2, h3⟩ := id h
  have h9 := mn_le9 h2.2 h3.2
  obtain ⟨t, e1, rfl⟩ := loop_up (fun q (v : Int64) k => fX6_sumAt_34_L6 S kd sh (nI i) (nI j) q v k) (fun k v => v = A8 (TX S) sh n (gB S 4) i j k) (fun t => t = A8 (TX S) sh n (gB S 4) i j m) m
    (fun q k v hk hI => ⟨v + (lf (TX S) sh i k).toInt64 * gB S 4 (k * n + j), by rw [hI]; rfl, by
      show fX6_sumAt_34_L6 S kd sh (nI i) (nI j) (q + 1) v (nI k) = _
      rw [fX6_sumAt_34_L6, h0, h1, if_neg (nI_ge hk (by omega)), x_left S sh (by omega) (by omega), Option.bind_some, nI_mul, nI_add, x_read34 S h hL (pl_lt hk hj), Option.bind_some, nI_1]; rfl⟩)
    (fun q v hI => ⟨v, by
      show fX6_sumAt_34_L6 S kd sh (nI i) (nI j) (q + 1) v (nI m) = _
      rw [fX6_sumAt_34_L6, h0, if_pos (Int32.le_refl _)], hI⟩) 256 0 0 (by omega) (by omega) rfl
  obtain ⟨t, f1, rfl⟩ := loop_up (fun q (v : Int64) k => fX6_sumAt_34_L63 S kd (nI i) (nI j) q v k) (fun l v => v = A8 (TX S) sh n (gB S 4) i j m + Q8 (TX S) kd n (gB S 4) i j l) (fun t => t = A8 (TX S) sh n (gB S 4) i j m + Q8 (TX S) kd n (gB S 4) i j n) n
    (fun q k v hk hI => ⟨v + gB S 4 (i * n + k) * (rE (TX S) kd (nI k) (nI j)).toInt64, by rw [hI, Int64.add_assoc]; rfl, by
      show fX6_sumAt_34_L63 S kd (nI i) (nI j) (q + 1) v (nI k) = _
      rw [fX6_sumAt_34_L63, h1, if_neg (nI_ge hk (by omega)), nI_mul, nI_add, x_read34 S h hL (pl_lt hi hk), Option.bind_some, x_right S kd (by rw [nI_toInt (by omega)]; omega) (by rw [nI_toInt (by omega)]; omega), Option.bind_some, nI_1]⟩)
    (fun q v hI => ⟨v, by
      show fX6_sumAt_34_L63 S kd (nI i) (nI j) (q + 1) v (nI n) = _
      rw [fX6_sumAt_34_L63, h1, if_pos (Int32.le_refl _)], hI⟩) 256 0 (A8 (TX S) sh n (gB S 4) i j m) (by omega) (by omega) (by show _ = _ + (0 : Int64); rw [Int64.add_zero])
  have e1' : fX6_sumAt_34_L6 S kd sh (nI i) (nI j) 256 0 0 = some _ := e1
  have f1' : fX6_sumAt_34_L63 S kd (nI i) (nI j) 256 _ 0 = some _ := f1
  rw [fX6_sumAt_34, e1', Option.bind_some, f1']; rfl
theorem x_wrong18_34 (K : Option Int32) (S : w_S) (kd sh d : Int32) {m n i : Nat} (h : Sid S m n) (hL : gI S 33 = nI (m * n)) (hi : i < m) : ∀ g q j, j + g = n → g < q → fX6_firstWrong_34_L18 K S kd sh d (nI i) q (nI j) = if fb (wrg (TX S) kd sh m n (gB S 4) d) g (i * n + j) = i * n + n then K else some (nI (fb (wrg (TX S) kd sh m n (gB S 4) d) g (i * n + j)))
  | _, 0, _ => fun h1 h2 => absurd h2 (Nat.not_lt_zero _)
  | 0, q + 1, j => fun h1 h2 => by
    obtain ⟨h0, h1', h2', h3⟩ := id h
    rw [fX6_firstWrong_34_L18, h1', fb, if_pos (by rw [nI_leI (by omega) (by omega)]; omega), if_pos (by omega)]
  | g + 1, q + 1, j => fun h1 h2 => by
    obtain ⟨h0, h1', h2', h3⟩ := id h
    have h9 := mn_le9 h2'.2 h3.2
    have hj : j < n := by omega
    have hp := pl_lt hi hj
    rw [fX6_firstWrong_34_L18, h1', if_neg (nI_ge hj (by omega)), x_sumAt34 S kd sh h hL hi hj, Option.bind_some, x_C S (by omega) (by omega), Option.bind_some, fb, nI_1, nI_mul, nI_add]
    unfold wrg
    rw [(dv hj).1, (dv hj).2, ite_dec]
    split
    · have := x_wrong18_34 K S kd sh d h hL hi g q (j + 1) (by omega) (by omega)
      rw [show i * n + (j + 1) = i * n + j + 1 by omega] at this
      exact this
    · rw [if_neg (by omega)]
theorem x_wrong3_34 (K : Option Int32) (S : w_S) (kd sh d : Int32) {m n : Nat} (h : Sid S m n) (hL : gI S 33 = nI (m * n)) : ∀ g q i, i + g = m → g < q → fX6_firstWrong_34_L3 K S kd sh d q (nI i) = if fb (wrg (TX S) kd sh m n (gB S 4) d) (g * n) (i * n) = m * n then K else some (nI (fb (wrg (TX S) kd sh m n (gB S 4) d) (g * n) (i * n)))
  | _, 0, _ => fun h1 h2 => absurd h2 (Nat.not_lt_zero _)
  | 0, q + 1, i => fun h1 h2 => by
    obtain ⟨h0, h1', h2', h3⟩ := id h
    have : i = m := by omega
    rw [fX6_firstWrong_34_L3, h0, Nat.zero_mul, fb, this, if_pos (Int32.le_refl _), if_pos rfl]
  | g + 1, q + 1, i => fun h1 h2 => by
    obtain ⟨h0, h1', h2', h3⟩ := id h
    have hi : i < m := by omega
    have hmn : m * n = i * n + (g + 1) * n := by rw [← Nat.add_mul, h1]
    have hg : (g + 1) * n = n + g * n := by rw [Nat.add_mul, Nat.one_mul, Nat.add_comm]
    have h18 := x_wrong18_34 (fX6_firstWrong_34_L3 K S kd sh d q (nI (i + 1))) S kd sh d h hL hi n 256 0 (by omega) (by omega)
    have h18' : fX6_firstWrong_34_L18 (fX6_firstWrong_34_L3 K S kd sh d q (nI (i + 1))) S kd sh d (nI i) 256 0 = _ := h18
    rw [fX6_firstWrong_34_L3, h0, if_neg (nI_ge hi (by omega)), nI_1, h18', Nat.add_zero, hg, fb_add]
    have hr := fb_rg (wrg (TX S) kd sh m n (gB S 4) d) n (i * n)
    by_cases c : fb (wrg (TX S) kd sh m n (gB S 4) d) n (i * n) = i * n + n
    · have ih := x_wrong3_34 K S kd sh d h hL g q (i + 1) (by omega) (by omega)
      rw [if_pos c, if_pos c, ih, show (i + 1) * n = i * n + n by rw [Nat.add_mul, Nat.one_mul]]
    · rw [if_neg c, if_neg c, if_neg (by omega)]
theorem x_wrong34 (S : w_S) (kd sh d : Int32) {m n : Nat} (h : Sid S m n) (hL : gI S 33 = nI (m * n)) : fX6_firstWrong_34 S kd sh d = some (nI (fb (wrg (TX S) kd sh m n (gB S 4) d) (m * n) 0)) := by
  obtain ⟨h0, h1, h2, h3⟩ := id h
  have := x_wrong3_34 (some (nI (m * n))) S kd sh d h hL m 256 0 (by omega) (by omega)
  have t' : fX6_firstWrong_34_L3 (some (nI (m * n))) S kd sh d 256 0 = _ := this
  rw [fX6_firstWrong_34, h0, h1, nI_mul, t', Nat.zero_mul]
  split
  · rename_i e; rw [e]
  · rfl
theorem x_shape34_34 (K : Option Int32) (S : w_S) {s m n i : Nat} (hs : 4 ≤ s ∧ s < 7) (h : Sid S m n) (hq : m = n) (hL : gI S 33 = nI (m * n)) (hi : i < m) : ∀ g q j, j + g = n → g < q → fX6_isOfShape_34_L34 K S (nI s) (nI i) q (nI j) = if fb (msh s n (gB S 4)) g (i * n + j) = i * n + n then K else some 0
  | _, 0, _ => fun h1 h2 => absurd h2 (Nat.not_lt_zero _)
  | 0, q + 1, j => fun h1 h2 => by
    obtain ⟨h0, h1', h2', h3⟩ := id h
    rw [fX6_isOfShape_34_L34, h1', fb, if_pos (by rw [nI_leI (by omega) (by omega)]; omega), if_pos (by omega)]
  | g + 1, q + 1, j => fun h1 h2 => by
    obtain ⟨h0, h1', h2', h3⟩ := id h
    have hj : j < n := by omega
    have ih := x_shape34_34 K S hs h hq hL hi g q (j + 1) (by omega) (by omega)
    rw [show i * n + (j + 1) = i * n + j + 1 by omega] at ih
    have hnn : n * j + i = j * n + i := by rw [Nat.mul_comm]
    rw [fX6_isOfShape_34_L34, h1', if_neg (nI_ge hj (by omega)), nI_mul, nI_mul, nI_add, nI_add, x_read34 S h hL (pl_lt hi hj), Option.bind_some, x_read34 S h hL (pl_lt (show j < m by omega) (show i < n by omega)), Option.bind_some, nI_1, fb, if_neg n10, if_pos (show (0 : Int32) = 0 from rfl), show (4 : Int32) = nI 4 from rfl, show (5 : Int32) = nI 5 from rfl, ih]
    have hm : msh s n (gB S 4) (i * n + j) = if s = 4 then decide (¬ (i = j) ∧ ¬ gB S 4 (i * n + j) = 0) else if s = 5 then decide (¬ gB S 4 (i * n + j) = gB S 4 (j * n + i)) else if s = 6 then decide (¬ gB S 4 (i * n + j) = - gB S 4 (j * n + i)) else false := by
      unfold msh
      rw [(dv hj).1, (dv hj).2, hnn]
    simp only [nI_eq (show s < 2 ^ 31 by omega) (show 4 < 2 ^ 31 by omega), nI_eq (show s < 2 ^ 31 by omega) (show 5 < 2 ^ 31 by omega), nI_eq (show i < 2 ^ 31 by omega) (show j < 2 ^ 31 by omega)]
    have fin0 : msh s n (gB S 4) (i * n + j) = true → some 0 = if (if msh s n (gB S 4) (i * n + j) = true then i * n + j else fb (msh s n (gB S 4)) g (i * n + j + 1)) = i * n + n then K else some (0 : Int32) := fun e => by rw [if_pos e, if_neg (by omega)]
    have fin1 : msh s n (gB S 4) (i * n + j) = false → (if fb (msh s n (gB S 4)) g (i * n + j + 1) = i * n + n then K else some 0) = if (if msh s n (gB S 4) (i * n + j) = true then i * n + j else fb (msh s n (gB S 4)) g (i * n + j + 1)) = i * n + n then K else some (0 : Int32) := fun e => by rw [e, if_neg (show ¬ false = true by decide)]
    by_cases c4 : s = 4
    · rw [if_pos c4]
      rw [if_pos c4] at hm
      by_cases c : i = j
      · rw [if_pos c]; exact fin1 (by rw [hm]; simp [c])
      · rw [if_neg c]
        by_cases e : gB S 4 (i * n + j) = 0
        · rw [if_pos e]; exact fin1 (by rw [hm]; simp [e])
        · rw [if_neg e]; exact fin0 (by rw [hm]; simp [c, e])
    · rw [if_neg c4]
      rw [if_neg c4] at hm
      by_cases c5 : s = 5
      · rw [if_pos c5]
        rw [if_pos c5] at hm
        by_cases e : gB S 4 (i * n + j) = gB S 4 (j * n + i)
        · rw [if_pos e]; exact fin1 (by rw [hm]; simp [e])
        · rw [if_neg e]; exact fin0 (by rw [hm]; simp [e])
      · rw [if_neg c5]
        rw [if_neg c5, if_pos (by omega)] at hm
        by_cases e : gB S 4 (i * n + j) = - gB S 4 (j * n + i)
        · rw [if_pos e]; exact fin1 (by rw [hm]; simp [e])
        · rw [if_neg e]; exact fin0 (by rw [hm]; simp [e])
theorem x_shape20_34 (K : Option Int32) (S : w_S) {s m n : Nat} (hs : 4 ≤ s ∧ s < 7) (h : Sid S m n) (hq : m = n) (hL : gI S 33 = nI (m * n)) : ∀ g q i, i + g = m → g < q → fX6_isOfShape_34_L20 K S (nI s) q (nI i) = if fb (msh s n (gB S 4)) (g * n) (i * n) = m * n then K else some 0
  | _, 0, _ => fun h1 h2 => absurd h2 (Nat.not_lt_zero _)
  | 0, q + 1, i => fun h1 h2 => by
    obtain ⟨h0, h1', h2', h3⟩ := id h
    have : i = m := by omega
    rw [fX6_isOfShape_34_L20, h0, Nat.zero_mul, fb, this, if_pos (Int32.le_refl _), if_pos rfl]
  | g + 1, q + 1, i => fun h1 h2 => by
    obtain ⟨h0, h1', h2', h3⟩ := id h
    have hi : i < m := by omega
    have hmn : m * n = i * n + (g + 1) * n := by rw [← Nat.add_mul, h1]
    have hg : (g + 1) * n = n + g * n := by rw [Nat.add_mul, Nat.one_mul, Nat.add_comm]
    have h18 := x_shape34_34 (fX6_isOfShape_34_L20 K S (nI s) q (nI (i + 1))) S hs h hq hL hi n 256 0 (by omega) (by omega)
    have h18' : fX6_isOfShape_34_L34 (fX6_isOfShape_34_L20 K S (nI s) q (nI (i + 1))) S (nI s) (nI i) 256 0 = _ := h18
    rw [fX6_isOfShape_34_L20, h0, if_neg (nI_ge hi (by omega)), nI_1, h18', Nat.add_zero, hg, fb_add]
    have hr := fb_rg (msh s n (gB S 4)) n (i * n)
    by_cases c : fb (msh s n (gB S 4)) n (i * n) = i * n + n
    · have ih := x_shape20_34 K S hs h hq hL g q (i + 1) (by omega) (by omega)
      rw [if_pos c, if_pos c, ih, show (i + 1) * n = i * n + n by rw [Nat.add_mul, Nat.one_mul]]
    · rw [if_neg c, if_neg c, if_neg (by omega)]
theorem x_shape34 (S : w_S) {s m n : Nat} (hs : s < 7) (h : Sid S m n) (hq : s ≤ 1 ∨ m = n) (hL : gI S 33 = nI (m * n)) : fX6_isOfShape_34 S (nI s) = some (if fb (msh s n (gB S 4)) (m * n) 0 = m * n then 1 else 0) := by
  obtain ⟨h0, h1, h2, h3⟩ := id h
  rw [fX6_isOfShape_34, show (4 : Int32) = nI 4 from rfl, show (5 : Int32) = nI 5 from rfl, show (6 : Int32) = nI 6 from rfl]
  simp only [nI_eq (show s < 2 ^ 31 by omega) (show 4 < 2 ^ 31 by omega), nI_eq (show s < 2 ^ 31 by omega) (show 5 < 2 ^ 31 by omega), nI_eq (show s < 2 ^ 31 by omega) (show 6 < 2 ^ 31 by omega)]
  by_cases c : 4 ≤ s
  · have := x_shape20_34 (some 1) S ⟨c, hs⟩ h (by omega) hL m 256 0 (by omega) (by omega)
    have t' : fX6_isOfShape_34_L20 (some 1) S (nI s) 256 0 = _ := this
    rw [t', Nat.zero_mul, some_ite]
    by_cases c4 : s = 4
    · rw [if_pos c4]
    · rw [if_neg c4]
      by_cases c5 : s = 5
      · rw [if_pos c5]
      · rw [if_neg c5, if_pos (by omega)]
  · have z : ∀ g p, fb (msh s n (gB S 4)) g p = p + g := by
      intro g
      induction g with
      | zero => intro p; rfl
      | succ g ih =>
        intro p
        have hf : msh s n (gB S 4) p = false := by unfold msh; rw [if_neg (by omega), if_neg (by omega), if_neg (by omega)]
        rw [fb, hf, ih, if_neg (by decide)]; omega
    rw [if_neg (by omega), if_neg (by omega), if_neg (by omega), z, if_pos (by omega)]
/-! ===== the class reads sheet 36 ===== -/
theorem x_read36 (S : w_S) {m n p : Nat} (h : Sid S m n) (hL : gI S 35 = nI (m * n)) (hp : p < m * n) : fX2_read_36 S (nI p) = some (gB S 5 p) := by
  obtain ⟨h0, h1, h2, h3⟩ := h
  have h9 := mn_le9 h2.2 h3.2
  rw [fX2_read_36, hL, if_neg (nI_pos (by omega)), if_neg (nI_ge hp (by omega)), show (40 : Int32) = nI 40 from rfl, if_neg (nI_ge (by omega) (by omega)), if_pos (nI_inN (show p < 40 by omega) (by decide)), nI_clamp (by omega)]
theorem x_sumAt36 (S : w_S) (kd sh : Int32) {m n i j : Nat} (h : Sid S m n) (hL : gI S 35 = nI (m * n)) (hi : i < m) (hj : j < n) : fX6_sumAt_36 S kd sh (nI i) (nI j) = some (A8 (TX S) sh n (gB S 5) i j m + Q8 (TX S) kd n (gB S 5) i j n) := by
  obtain ⟨h0, h1, h2, h3⟩ := id h
  have h9 := mn_le9 h2.2 h3.2
  obtain ⟨t, e1, rfl⟩ := loop_up (fun q (v : Int64) k => fX6_sumAt_36_L6 S kd sh (nI i) (nI j) q v k) (fun k v => v = A8 (TX S) sh n (gB S 5) i j k) (fun t => t = A8 (TX S) sh n (gB S 5) i j m) m
    (fun q k v hk hI => ⟨v + (lf (TX S) sh i k).toInt64 * gB S 5 (k * n + j), by rw [hI]; rfl, by
      show fX6_sumAt_36_L6 S kd sh (nI i) (nI j) (q + 1) v (nI k) = _
      rw [fX6_sumAt_36_L6, h0, h1, if_neg (nI_ge hk (by omega)), x_left S sh (by omega) (by omega), Option.bind_some, nI_mul, nI_add, x_read36 S h hL (pl_lt hk hj), Option.bind_some, nI_1]; rfl⟩)
    (fun q v hI => ⟨v, by
      show fX6_sumAt_36_L6 S kd sh (nI i) (nI j) (q + 1) v (nI m) = _
      rw [fX6_sumAt_36_L6, h0, if_pos (Int32.le_refl _)], hI⟩) 256 0 0 (by omega) (by omega) rfl
  obtain ⟨t, f1, rfl⟩ := loop_up (fun q (v : Int64) k => fX6_sumAt_36_L63 S kd (nI i) (nI j) q v k) (fun l v => v = A8 (TX S) sh n (gB S 5) i j m + Q8 (TX S) kd n (gB S 5) i j l) (fun t => t = A8 (TX S) sh n (gB S 5) i j m + Q8 (TX S) kd n (gB S 5) i j n) n
    (fun q k v hk hI => ⟨v + gB S 5 (i * n + k) * (rE (TX S) kd (nI k) (nI j)).toInt64, by rw [hI, Int64.add_assoc]; rfl, by
      show fX6_sumAt_36_L63 S kd (nI i) (nI j) (q + 1) v (nI k) = _
      rw [fX6_sumAt_36_L63, h1, if_neg (nI_ge hk (by omega)), nI_mul, nI_add, x_read36 S h hL (pl_lt hi hk), Option.bind_some, x_right S kd (by rw [nI_toInt (by omega)]; omega) (by rw [nI_toInt (by omega)]; omega), Option.bind_some, nI_1]⟩)
    (fun q v hI => ⟨v, by
      show fX6_sumAt_36_L63 S kd (nI i) (nI j) (q + 1) v (nI n) = _
      rw [fX6_sumAt_36_L63, h1, if_pos (Int32.le_refl _)], hI⟩) 256 0 (A8 (TX S) sh n (gB S 5) i j m) (by omega) (by omega) (by show _ = _ + (0 : Int64); rw [Int64.add_zero])
  have e1' : fX6_sumAt_36_L6 S kd sh (nI i) (nI j) 256 0 0 = some _ := e1
  have f1' : fX6_sumAt_36_L63 S kd (nI i) (nI j) 256 _ 0 = some _ := f1
  rw [fX6_sumAt_36, e1', Option.bind_some, f1']; rfl
theorem x_wrong18_36 (K : Option Int32) (S : w_S) (kd sh d : Int32) {m n i : Nat} (h : Sid S m n) (hL : gI S 35 = nI (m * n)) (hi : i < m) : ∀ g q j, j + g = n → g < q → fX6_firstWrong_36_L18 K S kd sh d (nI i) q (nI j) = if fb (wrg (TX S) kd sh m n (gB S 5) d) g (i * n + j) = i * n + n then K else some (nI (fb (wrg (TX S) kd sh m n (gB S 5) d) g (i * n + j)))
  | _, 0, _ => fun h1 h2 => absurd h2 (Nat.not_lt_zero _)
  | 0, q + 1, j => fun h1 h2 => by
    obtain ⟨h0, h1', h2', h3⟩ := id h
    rw [fX6_firstWrong_36_L18, h1', fb, if_pos (by rw [nI_leI (by omega) (by omega)]; omega), if_pos (by omega)]
  | g + 1, q + 1, j => fun h1 h2 => by
    obtain ⟨h0, h1', h2', h3⟩ := id h
    have h9 := mn_le9 h2'.2 h3.2
    have hj : j < n := by omega
    have hp := pl_lt hi hj
    rw [fX6_firstWrong_36_L18, h1', if_neg (nI_ge hj (by omega)), x_sumAt36 S kd sh h hL hi hj, Option.bind_some, x_C S (by omega) (by omega), Option.bind_some, fb, nI_1, nI_mul, nI_add]
    unfold wrg
    rw [(dv hj).1, (dv hj).2, ite_dec]
    split
    · have := x_wrong18_36 K S kd sh d h hL hi g q (j + 1) (by omega) (by omega)
      rw [show i * n + (j + 1) = i * n + j + 1 by omega] at this
      exact this
    · rw [if_neg (by omega)]
theorem x_wrong3_36 (K : Option Int32) (S : w_S) (kd sh d : Int32) {m n : Nat} (h : Sid S m n) (hL : gI S 35 = nI (m * n)) : ∀ g q i, i + g = m → g < q → fX6_firstWrong_36_L3 K S kd sh d q (nI i) = if fb (wrg (TX S) kd sh m n (gB S 5) d) (g * n) (i * n) = m * n then K else some (nI (fb (wrg (TX S) kd sh m n (gB S 5) d) (g * n) (i * n)))
  | _, 0, _ => fun h1 h2 => absurd h2 (Nat.not_lt_zero _)
  | 0, q + 1, i => fun h1 h2 => by
    obtain ⟨h0, h1', h2', h3⟩ := id h
    have : i = m := by omega
    rw [fX6_firstWrong_36_L3, h0, Nat.zero_mul, fb, this, if_pos (Int32.le_refl _), if_pos rfl]
  | g + 1, q + 1, i => fun h1 h2 => by
    obtain ⟨h0, h1', h2', h3⟩ := id h
    have hi : i < m := by omega
    have hmn : m * n = i * n + (g + 1) * n := by rw [← Nat.add_mul, h1]
    have hg : (g + 1) * n = n + g * n := by rw [Nat.add_mul, Nat.one_mul, Nat.add_comm]
    have h18 := x_wrong18_36 (fX6_firstWrong_36_L3 K S kd sh d q (nI (i + 1))) S kd sh d h hL hi n 256 0 (by omega) (by omega)
    have h18' : fX6_firstWrong_36_L18 (fX6_firstWrong_36_L3 K S kd sh d q (nI (i + 1))) S kd sh d (nI i) 256 0 = _ := h18
    rw [fX6_firstWrong_36_L3, h0, if_neg (nI_ge hi (by omega)), nI_1, h18', Nat.add_zero, hg, fb_add]
    have hr := fb_rg (wrg (TX S) kd sh m n (gB S 5) d) n (i * n)
    by_cases c : fb (wrg (TX S) kd sh m n (gB S 5) d) n (i * n) = i * n + n
    · have ih := x_wrong3_36 K S kd sh d h hL g q (i + 1) (by omega) (by omega)
      rw [if_pos c, if_pos c, ih, show (i + 1) * n = i * n + n by rw [Nat.add_mul, Nat.one_mul]]
    · rw [if_neg c, if_neg c, if_neg (by omega)]
theorem x_wrong36 (S : w_S) (kd sh d : Int32) {m n : Nat} (h : Sid S m n) (hL : gI S 35 = nI (m * n)) : fX6_firstWrong_36 S kd sh d = some (nI (fb (wrg (TX S) kd sh m n (gB S 5) d) (m * n) 0)) := by
  obtain ⟨h0, h1, h2, h3⟩ := id h
  have := x_wrong3_36 (some (nI (m * n))) S kd sh d h hL m 256 0 (by omega) (by omega)
  have t' : fX6_firstWrong_36_L3 (some (nI (m * n))) S kd sh d 256 0 = _ := this
  rw [fX6_firstWrong_36, h0, h1, nI_mul, t', Nat.zero_mul]
  split
  · rename_i e; rw [e]
  · rfl
theorem x_shape34_36 (K : Option Int32) (S : w_S) {s m n i : Nat} (hs : 4 ≤ s ∧ s < 7) (h : Sid S m n) (hq : m = n) (hL : gI S 35 = nI (m * n)) (hi : i < m) : ∀ g q j, j + g = n → g < q → fX6_isOfShape_36_L34 K S (nI s) (nI i) q (nI j) = if fb (msh s n (gB S 5)) g (i * n + j) = i * n + n then K else some 0
  | _, 0, _ => fun h1 h2 => absurd h2 (Nat.not_lt_zero _)
  | 0, q + 1, j => fun h1 h2 => by
    obtain ⟨h0, h1', h2', h3⟩ := id h
    rw [fX6_isOfShape_36_L34, h1', fb, if_pos (by rw [nI_leI (by omega) (by omega)]; omega), if_pos (by omega)]
  | g + 1, q + 1, j => fun h1 h2 => by
    obtain ⟨h0, h1', h2', h3⟩ := id h
    have hj : j < n := by omega
    have ih := x_shape34_36 K S hs h hq hL hi g q (j + 1) (by omega) (by omega)
    rw [show i * n + (j + 1) = i * n + j + 1 by omega] at ih
    have hnn : n * j + i = j * n + i := by rw [Nat.mul_comm]
    rw [fX6_isOfShape_36_L34, h1', if_neg (nI_ge hj (by omega)), nI_mul, nI_mul, nI_add, nI_add, x_read36 S h hL (pl_lt hi hj), Option.bind_some, x_read36 S h hL (pl_lt (show j < m by omega) (show i < n by omega)), Option.bind_some, nI_1, fb, if_neg n10, if_pos (show (0 : Int32) = 0 from rfl), show (4 : Int32) = nI 4 from rfl, show (5 : Int32) = nI 5 from rfl, ih]
    have hm : msh s n (gB S 5) (i * n + j) = if s = 4 then decide (¬ (i = j) ∧ ¬ gB S 5 (i * n + j) = 0) else if s = 5 then decide (¬ gB S 5 (i * n + j) = gB S 5 (j * n + i)) else if s = 6 then decide (¬ gB S 5 (i * n + j) = - gB S 5 (j * n + i)) else false := by
      unfold msh
      rw [(dv hj).1, (dv hj).2, hnn]
    simp only [nI_eq (show s < 2 ^ 31 by omega) (show 4 < 2 ^ 31 by omega), nI_eq (show s < 2 ^ 31 by omega) (show 5 < 2 ^ 31 by omega), nI_eq (show i < 2 ^ 31 by omega) (show j < 2 ^ 31 by omega)]
    have fin0 : msh s n (gB S 5) (i * n + j) = true → some 0 = if (if msh s n (gB S 5) (i * n + j) = true then i * n + j else fb (msh s n (gB S 5)) g (i * n + j + 1)) = i * n + n then K else some (0 : Int32) := fun e => by rw [if_pos e, if_neg (by omega)]
    have fin1 : msh s n (gB S 5) (i * n + j) = false → (if fb (msh s n (gB S 5)) g (i * n + j + 1) = i * n + n then K else some 0) = if (if msh s n (gB S 5) (i * n + j) = true then i * n + j else fb (msh s n (gB S 5)) g (i * n + j + 1)) = i * n + n then K else some (0 : Int32) := fun e => by rw [e, if_neg (show ¬ false = true by decide)]
    by_cases c4 : s = 4
    · rw [if_pos c4]
      rw [if_pos c4] at hm
      by_cases c : i = j
      · rw [if_pos c]; exact fin1 (by rw [hm]; simp [c])
      · rw [if_neg c]
        by_cases e : gB S 5 (i * n + j) = 0
        · rw [if_pos e]; exact fin1 (by rw [hm]; simp [e])
        · rw [if_neg e]; exact fin0 (by rw [hm]; simp [c, e])
    · rw [if_neg c4]
      rw [if_neg c4] at hm
      by_cases c5 : s = 5
      · rw [if_pos c5]
        rw [if_pos c5] at hm
        by_cases e : gB S 5 (i * n + j) = gB S 5 (j * n + i)
        · rw [if_pos e]; exact fin1 (by rw [hm]; simp [e])
        · rw [if_neg e]; exact fin0 (by rw [hm]; simp [e])
      · rw [if_neg c5]
        rw [if_neg c5, if_pos (by omega)] at hm
        by_cases e : gB S 5 (i * n + j) = - gB S 5 (j * n + i)
        · rw [if_pos e]; exact fin1 (by rw [hm]; simp [e])
        · rw [if_neg e]; exact fin0 (by rw [hm]; simp [e])
theorem x_shape20_36 (K : Option Int32) (S : w_S) {s m n : Nat} (hs : 4 ≤ s ∧ s < 7) (h : Sid S m n) (hq : m = n) (hL : gI S 35 = nI (m * n)) : ∀ g q i, i + g = m → g < q → fX6_isOfShape_36_L20 K S (nI s) q (nI i) = if fb (msh s n (gB S 5)) (g * n) (i * n) = m * n then K else some 0
  | _, 0, _ => fun h1 h2 => absurd h2 (Nat.not_lt_zero _)
  | 0, q + 1, i => fun h1 h2 => by
    obtain ⟨h0, h1', h2', h3⟩ := id h
    have : i = m := by omega
    rw [fX6_isOfShape_36_L20, h0, Nat.zero_mul, fb, this, if_pos (Int32.le_refl _), if_pos rfl]
  | g + 1, q + 1, i => fun h1 h2 => by
    obtain ⟨h0, h1', h2', h3⟩ := id h
    have hi : i < m := by omega
    have hmn : m * n = i * n + (g + 1) * n := by rw [← Nat.add_mul, h1]
    have hg : (g + 1) * n = n + g * n := by rw [Nat.add_mul, Nat.one_mul, Nat.add_comm]
    have h18 := x_shape34_36 (fX6_isOfShape_36_L20 K S (nI s) q (nI (i + 1))) S hs h hq hL hi n 256 0 (by omega) (by omega)
    have h18' : fX6_isOfShape_36_L34 (fX6_isOfShape_36_L20 K S (nI s) q (nI (i + 1))) S (nI s) (nI i) 256 0 = _ := h18
    rw [fX6_isOfShape_36_L20, h0, if_neg (nI_ge hi (by omega)), nI_1, h18', Nat.add_zero, hg, fb_add]
    have hr := fb_rg (msh s n (gB S 5)) n (i * n)
    by_cases c : fb (msh s n (gB S 5)) n (i * n) = i * n + n
    · have ih := x_shape20_36 K S hs h hq hL g q (i + 1) (by omega) (by omega)
      rw [if_pos c, if_pos c, ih, show (i + 1) * n = i * n + n by rw [Nat.add_mul, Nat.one_mul]]
    · rw [if_neg c, if_neg c, if_neg (by omega)]
theorem x_shape36 (S : w_S) {s m n : Nat} (hs : s < 7) (h : Sid S m n) (hq : s ≤ 1 ∨ m = n) (hL : gI S 35 = nI (m * n)) : fX6_isOfShape_36 S (nI s) = some (if fb (msh s n (gB S 5)) (m * n) 0 = m * n then 1 else 0) := by
  obtain ⟨h0, h1, h2, h3⟩ := id h
  rw [fX6_isOfShape_36, show (4 : Int32) = nI 4 from rfl, show (5 : Int32) = nI 5 from rfl, show (6 : Int32) = nI 6 from rfl]
  simp only [nI_eq (show s < 2 ^ 31 by omega) (show 4 < 2 ^ 31 by omega), nI_eq (show s < 2 ^ 31 by omega) (show 5 < 2 ^ 31 by omega), nI_eq (show s < 2 ^ 31 by omega) (show 6 < 2 ^ 31 by omega)]
  by_cases c : 4 ≤ s
  · have := x_shape20_36 (some 1) S ⟨c, hs⟩ h (by omega) hL m 256 0 (by omega) (by omega)
    have t' : fX6_isOfShape_36_L20 (some 1) S (nI s) 256 0 = _ := this
    rw [t', Nat.zero_mul, some_ite]
    by_cases c4 : s = 4
    · rw [if_pos c4]
    · rw [if_neg c4]
      by_cases c5 : s = 5
      · rw [if_pos c5]
      · rw [if_neg c5, if_pos (by omega)]
  · have z : ∀ g p, fb (msh s n (gB S 5)) g p = p + g := by
      intro g
      induction g with
      | zero => intro p; rfl
      | succ g ih =>
        intro p
        have hf : msh s n (gB S 5) p = false := by unfold msh; rw [if_neg (by omega), if_neg (by omega), if_neg (by omega)]
        rw [fb, hf, ih, if_neg (by decide)]; omega
    rw [if_neg (by omega), if_neg (by omega), if_neg (by omega), z, if_pos (by omega)]
