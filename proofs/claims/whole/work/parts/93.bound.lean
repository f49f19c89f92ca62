/-! ===== the systems' determinants are small ===== -/
theorem lt63 {z A : Int} (h : z * z ≤ A) (hA : A < 85070591730234615865843651857942052864) : z.natAbs < 9223372036854775808 := by
  rcases Nat.lt_or_ge z.natAbs 9223372036854775808 with g | g
  · exact g
  · have h1 := Nat.mul_le_mul g g
    have h2 := Int.natAbs_mul_self (a := z)
    generalize z.natAbs = a at *
    generalize z * z = b at *
    have h3 : ((9223372036854775808 * 9223372036854775808 : Nat) : Int) ≤ ((a * a : Nat) : Int) := Int.ofNat_le.2 h1
    omega
theorem p2_nn (cs : List Nat) : ∀ R, 0 ≤ p2 cs R
  | [] => by show (0 : Int) ≤ 1; decide
  | v :: R => Int.mul_nonneg (n2_nn cs v) (p2_nn cs R)
theorem p2_le {cs : List Nat} {B : Nat} : ∀ R : List dV, (∀ r ∈ R, n2 cs r ≤ (B : Int)) → p2 cs R ≤ ((B ^ R.length : Nat) : Int)
  | [], _ => Int.le_refl _
  | v :: R, h => by
    have h1 := p2_le R (fun r hr => h r (List.mem_cons_of_mem _ hr))
    have h2 := h v List.mem_cons_self
    have h3 := Int.mul_le_mul h2 h1 (p2_nn cs R) (Int.natCast_nonneg _)
    have e : ((B ^ (v :: R).length : Nat) : Int) = (B : Int) * ((B ^ R.length : Nat) : Int) := by
      rw [List.length_cons, Nat.pow_succ, Nat.mul_comm, Int.natCast_mul]
    show n2 cs v * p2 cs R ≤ _
    rw [e]; exact h3
def sumI (f : Nat → Int) : Nat → Int
  | 0 => 0
  | k + 1 => sumI f k + f k
theorem sumI_mono {f : Nat → Int} (h : ∀ u, 0 ≤ f u) : ∀ {a b : Nat}, a ≤ b → sumI f a ≤ sumI f b := by
  intro a b hab
  induction b with
  | zero => have : a = 0 := by omega
            rw [this]; exact Int.le_refl _
  | succ b ih =>
    by_cases e : a = b + 1
    · rw [e]; exact Int.le_refl _
    · have := ih (by omega)
      have := h b
      show sumI f a ≤ sumI f b + f b
      omega
theorem n2_dec (v : dV) : ∀ (cs : List Nat) (k : Nat), Dec cs k → n2 cs v ≤ sumI (fun u => v u * v u) k
  | [], k, _ => by
    have := sumI_mono (f := fun u => v u * v u) (fun u => sq_nn _) (Nat.zero_le k)
    exact this
  | c :: cs, k, h => by
    have h1 := n2_dec v cs c h.2
    have h2 := sumI_mono (f := fun u => v u * v u) (fun u => sq_nn _) (show c + 1 ≤ k from h.1)
    have h3 : sumI (fun u => v u * v u) (c + 1) = sumI (fun u => v u * v u) c + v c * v c := rfl
    show v c * v c + n2 cs v ≤ _
    omega
theorem n2_set (v : dV) : ∀ (cs : List Nat) (k j : Nat), n2 (cs.set k j) v ≤ v j * v j + n2 cs v
  | [], k, j => by show n2 [] v ≤ _; have := sq_nn (v j); omega
  | c :: cs, 0, j => by
    show v j * v j + n2 cs v ≤ v j * v j + (v c * v c + n2 cs v)
    have := sq_nn (v c); omega
  | c :: cs, k + 1, j => by
    have := n2_set v cs k j
    show v c * v c + n2 (cs.set k j) v ≤ v j * v j + (v c * v c + n2 cs v)
    omega
theorem sq2 (x y : Int) : (x * y) * (x * y) = (x * x) * (y * y) := by grind
/-- rows with sums of squares up to B (all columns but the last), C each -/
theorem hb_of {V : Nat → dV} {h w : Nat} {B C : Nat} (hB : ∀ i, i < h → sumI (fun u => V i u * V i u) w ≤ (B : Int)) (hC : ∀ i j, i < h → j ≤ w → V i j * V i j ≤ (C : Int)) (hw : w ≤ 6) (h1 : 1 ≤ B) (hX : B ^ 5 * (C + B) ^ 7 < 85070591730234615865843651857942052864) : HB1 V h w ∧ HB2 V h w := by
  have key : ∀ {cs c' : List Nat} {L L' : List Nat}, L.length ≤ 5 → L'.length ≤ 7 → (∀ i ∈ L, n2 cs (V i) ≤ (B : Int)) → (∀ i ∈ L', n2 c' (V i) ≤ ((C + B : Nat) : Int)) → (dt cs (L.map V) * dt c' (L'.map V)).natAbs < 9223372036854775808 := by
    intro cs c' L L' l1 l2 b1 b2
    have a1 := hadamard cs (L.map V)
    have a2 := hadamard c' (L'.map V)
    have a3 := p2_le (cs := cs) (B := B) (L.map V) (fun r hr => by
      obtain ⟨i, i1, i2⟩ := List.mem_map.1 hr
      rw [← i2]; exact b1 i i1)
    have a4 := p2_le (cs := c') (B := C + B) (L'.map V) (fun r hr => by
      obtain ⟨i, i1, i2⟩ := List.mem_map.1 hr
      rw [← i2]; exact b2 i i1)
    rw [List.length_map] at a3 a4
    have a5 : B ^ L.length * (C + B) ^ L'.length ≤ B ^ 5 * (C + B) ^ 7 := Nat.mul_le_mul (Nat.pow_le_pow_right (by omega) l1) (Nat.pow_le_pow_right (by omega) l2)
    have a6 := Int.mul_le_mul (Int.le_trans a1 a3) (Int.le_trans a2 a4) (sq_nn _) (Int.natCast_nonneg _)
    rw [← sq2, ← Int.natCast_mul] at a6
    refine lt63 a6 ?_
    have := Int.ofNat_lt.2 (Nat.lt_of_le_of_lt a5 hX)
    exact this
  have low : ∀ {cs : List Nat} {k i : Nat}, Dec cs k → k ≤ w → i < h → n2 cs (V i) ≤ (B : Int) := fun hd hk hi => Int.le_trans (n2_dec _ _ _ hd) (Int.le_trans (sumI_mono (fun u => sq_nn _) hk) (hB _ hi))
  refine ⟨fun cs L c p u j hd nd hi hl hj => ?_, fun cs L c p k j hd nd hi hl hj hk => ?_⟩
  · have hlen := Dec_len hd
    simp only [List.length_cons] at hlen
    refine key (by omega) (by simp only [List.length_cons]; omega) (fun i im => low hd.2 (by have := hd.1; omega) (hi i (List.mem_cons_of_mem _ (List.mem_cons_of_mem _ im)))) (fun i im => ?_)
    have e1 := hC i j (hi i im) hj
    have e2 := low hd (Nat.le_refl _) (hi i im)
    show V i j * V i j + n2 (c :: cs) (V i) ≤ _
    rw [Int.natCast_add]; omega
  · have hlen := Dec_len hd
    simp only [List.length_cons] at hlen
    refine key (by omega) (by simp only [List.length_cons]; omega) (fun i im => low hd.2 (by have := hd.1; omega) (hi i (List.mem_cons_of_mem _ im))) (fun i im => ?_)
    have e1 := hC i j (hi i im) hj
    have e2 := low hd (Nat.le_refl _) (hi i im)
    have e3 := n2_set (V i) (c :: cs) k j
    rw [Int.natCast_add]; omega
/-- in the end: what stands in pivots' rows, and the pivots -/
theorem end_of {V : Nat → dV} {h w : Nat} {B C : Nat} (hB : ∀ i, i < h → sumI (fun u => V i u * V i u) w ≤ (B : Int)) (hC : ∀ i j, i < h → j ≤ w → V i j * V i j ≤ (C : Int)) (hw : w ≤ 6) (h1 : 1 ≤ B) (hX : B ^ 5 * (C + B) ^ 7 < 85070591730234615865843651857942052864) {E : eT} {π : Nat → Nat} {cs : List Nat} (H : EI V h w w E π cs) : E.2.1.toInt.natAbs < 9223372036854775808 ∧ ∀ i j, i < E.1 → j ≤ w → (E.2.2.2.2 i j).toInt.natAbs < 9223372036854775808 := by
  obtain ⟨q1, q2, q3, q4, q5, q6, q7, q8, q9, q10, q11, q12⟩ := H
  have hlen := Dec_len q5
  have gen : ∀ c' : List Nat, (∀ i, i < h → n2 c' (V i) ≤ ((C + B : Nat) : Int)) → (dt c' ((idx π E.1).map V)).natAbs < 9223372036854775808 := by
    intro c' hc
    have a2 := hadamard c' ((idx π E.1).map V)
    have a4 := p2_le (cs := c') (B := C + B) ((idx π E.1).map V) (fun r hr => by
      obtain ⟨i, i1, i2⟩ := List.mem_map.1 hr
      obtain ⟨i', i3, i4⟩ := idx_mem i1
      rw [← i2, i4]; exact hc _ (q3 _ (by omega)))
    rw [List.length_map, idx_len] at a4
    have a5 : (C + B) ^ E.1 ≤ (C + B) ^ 7 := Nat.pow_le_pow_right (by omega) (by omega)
    have a6 : (C + B) ^ 7 ≤ B ^ 5 * (C + B) ^ 7 := Nat.le_mul_of_pos_left _ (Nat.pow_pos (by omega))
    refine lt63 (Int.le_trans a2 a4) ?_
    exact Int.ofNat_lt.2 (Nat.lt_of_le_of_lt (Nat.le_trans a5 a6) hX)
  have low : ∀ i, i < h → n2 cs (V i) ≤ (B : Int) := fun i hi => Int.le_trans (n2_dec _ _ _ q5) (hB i hi)
  refine ⟨?_, fun i j hi hj => ?_⟩
  · rw [← q6]
    exact gen cs (fun i hi => by have := low i hi; rw [Int.natCast_add]; omega)
  · rw [q9 i j hi hj]
    refine gen _ (fun i' hi' => ?_)
    have e1 := n2_set (V i') cs (E.1 - 1 - i) j
    have e2 := hC i' j hi' hj
    have e3 := low i' hi'
    rw [Int.natCast_add]; omega
/-! ===== the system of an equation ===== -/
def VX (X : w_S) (s : Nat) (sh : Int32) (m n : Nat) : Nat → dV := fun i j => (gM0 X (nI s) s sh m n 0 i j).toInt
theorem vx_u {X M : w_S} (hw : Nw X M) {s m n : Nat} {sh : Int32} (hsh : sb 2 sh) (hy : Sys s m n 0) {i u : Nat} (hi : i < m * n) (hu : u < (pls s m n).length) : VX X s sh m n i u = (isum (TX X) (nI s) s sh n (i / n) (i % n) u (m * n)).toInt ∧ (VX X s sh m n i u).natAbs ≤ CB s n (i / n) (i % n) u (m * n) := by
  have hb := nw_sb5 hw
  obtain ⟨y1, y2, y3, y4, y5, y6⟩ := hy
  have hpl := pls_len (s := s) y2.2 y3.2
  have a := div_lt3 hi y2.2
  have b := mod_lt3 hi y3.2
  have e : VX X s sh m n i u = (isum (TX X) (nI s) s sh n (i / n) (i % n) u (m * n)).toInt := by
    unfold VX gM0 fin
    rw [Nat.zero_mul, Nat.sub_zero, if_pos hu, Nat.zero_add, Nat.add_zero, (sums_eq hb (nI s) y1 hsh y2.2 y3.2 a b (show u < 9 by omega) (m * n) (Nat.le_refl _)).2, i_l]
  exact ⟨e, by rw [e]; exact (isum_b hb (nI s) y1 hsh y2.2 y3.2 a b (show u < 9 by omega) (m * n) (Nat.le_refl _)).1⟩
theorem vx_c {X M : w_S} (hw : Nw X M) {s m n : Nat} {sh : Int32} (hy : Sys s m n 0) {i : Nat} (hi : i < m * n) : VX X s sh m n i (pls s m n).length = (TX X (18 + 3 * (i / n) + i % n)).toInt ∧ (VX X s sh m n i (pls s m n).length).natAbs ≤ 50 := by
  obtain ⟨_, _, _, _, _, _, _, _, _, o6⟩ := hw
  obtain ⟨y1, y2, y3, y4, y5, y6⟩ := hy
  have a := div_lt3 hi y2.2
  have b := mod_lt3 hi y3.2
  have e : VX X s sh m n i (pls s m n).length = (TX X (18 + 3 * (i / n) + i % n)).toInt := by
    unfold VX gM0 fin
    rw [Nat.zero_mul, Nat.sub_zero, if_neg (Nat.lt_irrefl _), if_pos rfl, Nat.zero_add, i_l]
  refine ⟨e, ?_⟩
  rw [e]
  generalize i / n = I at *
  generalize i % n = J at *
  exact okT_sb o6 (by omega)
theorem abs_sq {x : Int} {a : Nat} (h : x.natAbs ≤ a) : x * x ≤ ((sq a : Nat) : Int) := by
  rw [← Int.natAbs_mul_self]
  exact Int.ofNat_le.2 (Nat.mul_le_mul h h)
theorem sumI_le {f : Nat → Int} {g : Nat → Nat} : ∀ {k : Nat}, (∀ u, u < k → f u ≤ ((g u : Nat) : Int)) → sumI f k ≤ ((sumN g k : Nat) : Int)
  | 0, _ => Int.le_refl _
  | k + 1, h => by
    have h1 := sumI_le (k := k) (fun u hu => h u (by omega))
    have h2 := h k (by omega)
    show sumI f k + f k ≤ ((sumN g k + g k : Nat) : Int)
    rw [Int.natCast_add]; omega
theorem sumN_ge {g : Nat → Nat} : ∀ {k u : Nat}, u < k → g u ≤ sumN g k
  | k + 1, u, h => by
    show g u ≤ sumN g k + g k
    by_cases e : u = k
    · rw [e]; omega
    · have := sumN_ge (g := g) (show u < k by omega); omega
theorem vx_ok {X M : w_S} (hw : Nw X M) {s m n : Nat} {sh : Int32} (hsh : sb 2 sh) (hy : Sys s m n 0) (h6 : (pls s m n).length ≤ 6) : (∀ i, i < m * n → sumI (fun u => VX X s sh m n i u * VX X s sh m n i u) (pls s m n).length ≤ ((344 : Nat) : Int)) ∧ (∀ i j, i < m * n → j ≤ (pls s m n).length → VX X s sh m n i j * VX X s sh m n i j ≤ ((2500 : Nat) : Int)) := by
  obtain ⟨y1, y2, y3, y4, y5, y6⟩ := id hy
  have tab : ∀ i, i < m * n → sumN (fun u => sq (CB s n (i / n) (i % n) u (m * n))) (pls s m n).length ≤ 344 := fun i hi => row344 s y1 m (by omega) n (by omega) ⟨y2.1, y3.1, y4, h6⟩ i hi
  refine ⟨fun i hi => ?_, fun i j hi hj => ?_⟩
  · exact Int.le_trans (sumI_le (g := fun u => sq (CB s n (i / n) (i % n) u (m * n))) (fun u hu => abs_sq (vx_u hw hsh hy hi hu).2)) (Int.ofNat_le.2 (tab i hi))
  · by_cases e : j = (pls s m n).length
    · rw [e]; exact abs_sq (a := 50) (vx_c hw hy hi).2
    · have hj' : j < (pls s m n).length := by omega
      refine Int.le_trans (abs_sq (vx_u hw hsh hy hi hj').2) (Int.ofNat_le.2 ?_)
      have := sumN_ge (g := fun u => sq (CB s n (i / n) (i % n) u (m * n))) hj'
      have := tab i hi
      exact Nat.le_trans (by assumption) (by omega)
theorem num344 : 344 ^ 5 * (2500 + 344) ^ 7 < 85070591730234615865843651857942052864 := by decide +kernel
/-- the system worked out: its state in the end -/
theorem sys_end {X M : w_S} (hw : Nw X M) {s m n : Nat} {sh : Int32} (hsh : sb 2 sh) (hy : Sys s m n 0) (h6 : (pls s m n).length ≤ 6) : ∃ π cs, EI (VX X s sh m n) (m * n) (pls s m n).length (pls s m n).length (eE X (nI s) s sh m n 0) π cs ∧ (eE X (nI s) s sh m n 0).2.1.toInt.natAbs < 9223372036854775808 ∧ ∀ i j, i < (eE X (nI s) s sh m n 0).1 → j ≤ (pls s m n).length → ((eE X (nI s) s sh m n 0).2.2.2.2 i j).toInt.natAbs < 9223372036854775808 := by
  obtain ⟨v1, v2⟩ := vx_ok hw hsh hy h6
  obtain ⟨b1, b2⟩ := hb_of v1 v2 h6 (by omega) num344
  obtain ⟨π, cs, H⟩ := ei_run (g := gM0 X (nI s) s sh m n 0) b1 b2 (fun i j _ _ => rfl) (pls s m n).length (Nat.le_refl _)
  have e : eRun (m * n) (pls s m n).length (e0 (gM0 X (nI s) s sh m n 0)) = eE X (nI s) s sh m n 0 := by unfold eE; rw [Nat.sub_zero, Nat.zero_mul, Nat.sub_zero]
  rw [e] at H
  obtain ⟨z1, z2⟩ := end_of v1 v2 h6 (by omega) num344 H
  exact ⟨π, cs, H, z1, z2⟩
