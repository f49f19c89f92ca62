/-! ===== the system of an equation: the coefficients ===== -/
def sg32 (s i j : Int32) : Int32 := if s = 4 then (if i = j then 1 else 0) else if s = 6 then (if i = j then 0 else if j ≤ i then -1 else 1) else 1
def uk32 (s n i j : Int32) : Int32 := if s = 4 then i else if s = 5 then (((if j < i then j else i) * n - (if j < i then j else i) * ((if j < i then j else i) - 1) / 2) + (if i < j then j else i)) - (if j < i then j else i) else if s = 6 then ((((if j < i then j else i) * n - (if j < i then j else i) * ((if j < i then j else i) + 1) / 2) + (if i < j then j else i)) - (if j < i then j else i)) - 1 else i * n + j
theorem x_signAt (s i j : Int32) : fX4_signAt_1 s i j = some (sg32 s i j) := by
  rw [fX4_signAt_1]; unfold sg32; simp only [some_ite]
theorem x_unknownAt (S : w_S) (s i j : Int32) : fX4_unknownAt_1 S s i j = some (uk32 s (gI S 1) i j) := by
  rw [fX4_unknownAt_1]; unfold uk32; simp only [some_ite]
/-- by what the unknown u is taken at place q -/
def w32 (s n q u : Nat) : Int32 := if sg32 (nI s) (nI (q / n)) (nI (q % n)) = 0 then 0 else if uk32 (nI s) (nI n) (nI (q / n)) (nI (q % n)) = nI u then sg32 (nI s) (nI (q / n)) (nI (q % n)) else 0
def tabB (P : Nat → Nat → Nat → Nat → Nat → Bool) : Bool := (List.range 7).all fun s => (List.range 4).all fun m => (List.range 4).all fun n => (List.range 9).all fun q => (List.range 9).all fun u => P s m n q u
theorem tab_of {P : Nat → Nat → Nat → Nat → Nat → Bool} (h : tabB P = true) {s m n q u : Nat} (hs : s < 7) (hm : m < 4) (hn : n < 4) (hq : q < 9) (hu : u < 9) : P s m n q u = true := by
  unfold tabB at h
  rw [List.all_eq_true] at h
  have h1 := h s (List.mem_range.2 hs)
  rw [List.all_eq_true] at h1
  have h2 := h1 m (List.mem_range.2 hm)
  rw [List.all_eq_true] at h2
  have h3 := h2 n (List.mem_range.2 hn)
  rw [List.all_eq_true] at h3
  have h4 := h3 q (List.mem_range.2 hq)
  rw [List.all_eq_true] at h4
  exact h4 u (List.mem_range.2 hu)
theorem imp_of {a b : Bool} (h : (!a || b) = true) (ha : a = true) : b = true := by
  rw [ha] at h; exact h
theorem uk_tab (s : Nat) (hs : s < 7) (m : Nat) (hm : m < 4) (n : Nat) (hn : n < 4) (h1 : 1 ≤ m ∧ 1 ≤ n ∧ (s < 4 ∨ m = n)) (q : Nat) (hq : q < m * n) : sg32 (nI s) (nI (q / n)) (nI (q % n)) = 0 ∨ ∃ u, u < (pls s m n).length ∧ uk32 (nI s) (nI n) (nI (q / n)) (nI (q % n)) = nI u ∧ (s = 0 → u = q) := by
  have h : tabB (fun s m n q _ => !(decide ((1 ≤ m ∧ 1 ≤ n ∧ (s < 4 ∨ m = n)) ∧ q < m * n)) || decide (sg32 (nI s) (nI (q / n)) (nI (q % n)) = 0 ∨ (uk32 (nI s) (nI n) (nI (q / n)) (nI (q % n))).toNatClampNeg < (pls s m n).length ∧ uk32 (nI s) (nI n) (nI (q / n)) (nI (q % n)) = nI (uk32 (nI s) (nI n) (nI (q / n)) (nI (q % n))).toNatClampNeg ∧ (¬ s = 0 ∨ (uk32 (nI s) (nI n) (nI (q / n)) (nI (q % n))).toNatClampNeg = q))) = true := by decide +kernel
  have h9 : m * n ≤ 9 := mn_le9 (by omega) (by omega)
  have := of_decide_eq_true (imp_of (tab_of h hs hm hn (q := q) (u := 0) (by omega) (by omega)) (decide_eq_true ⟨h1, hq⟩))
  rcases this with c | ⟨c1, c2, c3⟩
  · exact Or.inl c
  · exact Or.inr ⟨_, c1, c2, fun e => c3.resolve_left (fun f => f e)⟩
theorem sh_tab (s : Nat) (hs : s < 7) (m : Nat) (hm : m < 4) (n : Nat) (hn : n < 4) (h1 : 1 ≤ m ∧ 1 ≤ n ∧ (s < 4 ∨ m = n)) (q : Nat) (hq : q < m * n) (u : Nat) (hu : u < (pls s m n).length) : fX7_shaped (nI s) (nI (q / n)) (nI (q % n)) (nI ((pls s m n).getD u 0 / n)) (nI ((pls s m n).getD u 0 % n)) = some (w32 s n q u) := by
  have h : tabB (fun s m n q u => !(decide ((1 ≤ m ∧ 1 ≤ n ∧ (s < 4 ∨ m = n)) ∧ q < m * n ∧ u < (pls s m n).length)) || decide (fX7_shaped (nI s) (nI (q / n)) (nI (q % n)) (nI ((pls s m n).getD u 0 / n)) (nI ((pls s m n).getD u 0 % n)) = some (w32 s n q u))) = true := by decide +kernel
  have h9 : m * n ≤ 9 := mn_le9 (by omega) (by omega)
  have hl := pls_len (s := s) (m := m) (n := n) (by omega) (by omega)
  exact of_decide_eq_true (imp_of (tab_of h hs hm hn (q := q) (u := u) (by omega) (by omega)) (decide_eq_true ⟨h1, hq, hu⟩))
theorem pl_tab (s : Nat) (hs : s < 7) (m : Nat) (hm : m < 4) (n : Nat) (hn : n < 4) (h1 : 1 ≤ m ∧ 1 ≤ n ∧ (s < 4 ∨ m = n)) (u : Nat) (hu : u < (pls s m n).length) : (pls s m n).getD u 0 < m * n ∧ (s = 0 → (pls s m n).getD u 0 = u) := by
  have h : tabB (fun s m n _ u => !(decide ((1 ≤ m ∧ 1 ≤ n ∧ (s < 4 ∨ m = n)) ∧ u < (pls s m n).length)) || decide ((pls s m n).getD u 0 < m * n ∧ (¬ s = 0 ∨ (pls s m n).getD u 0 = u))) = true := by decide +kernel
  have hl := pls_len (s := s) (m := m) (n := n) (by omega) (by omega)
  have := of_decide_eq_true (imp_of (tab_of h hs hm hn (q := 0) (u := u) (by omega) (by omega)) (decide_eq_true ⟨h1, hu⟩))
  exact ⟨this.1, fun e => this.2.resolve_left (fun f => f e)⟩
theorem len0_tab : ∀ m, m < 4 → ∀ n, n < 4 → (pls 0 m n).length = m * n := by decide +kernel
theorem w_tab : ∀ s, s < 7 → ∀ n, n < 4 → ∀ q, q < 9 → ∀ u, u < 9 → w32 s n q u = 0 ∨ w32 s n q u = 1 ∨ w32 s n q u = -1 := by decide +kernel
theorem w0_tab : ∀ n, n < 4 → 1 ≤ n → ∀ q, q < 9 → ∀ u, u < 9 → q ≠ u → w32 0 n q u = 0 := by
  have h : ∀ n, n < 4 → ∀ q, q < 9 → ∀ u, u < 9 → (n = 0 ∨ q = u ∨ w32 0 n q u = 0) := by decide +kernel
  intro n hn h1 q hq u hu e
  rcases h n hn q hq u hu with c | c | c
  · omega
  · exact absurd c e
  · exact c
/-- the share of place k, l in the sum at i, j -/
def shr (T : Nat → Int32) (kd sh : Int32) (i j k l : Nat) : Int32 := (if l = j then T (3 * i + k) + (if i = k then sh else 0) else 0) + (if k = i then rE T kd (nI l) (nI j) else 0)
def tm (T : Nat → Int32) (kd : Int32) (s : Nat) (sh : Int32) (n i j q u : Nat) : Int32 := w32 s n q u * shr T kd sh i j (q / n) (q % n)
/-- the sums over the first q places, as longs and as ints -/
def psum (T : Nat → Int32) (kd : Int32) (s : Nat) (sh : Int32) (n i j u : Nat) : Nat → Int64
  | 0 => 0
  | q + 1 => psum T kd s sh n i j u q + (tm T kd s sh n i j q u).toInt64
def isum (T : Nat → Int32) (kd : Int32) (s : Nat) (sh : Int32) (n i j u : Nat) : Nat → Int32
  | 0 => 0
  | q + 1 => isum T kd s sh n i j u q + tm T kd s sh n i j q u
theorem rE_sb {T : Nat → Int32} (hb : ∀ k, k < 18 → sb 5 (T k)) (kd : Int32) {l j : Nat} (hl : l < 3) (hj : j < 3) : sb 5 (rE T kd (nI l) (nI j)) := by
  have e1 : at9 1 (nI l) (nI j) = 9 + 3 * l + j := by unfold at9; rw [ti_1, nI_toInt (by omega), nI_toInt (by omega)]; rfl
  have e2 : at9 0 (nI l) (nI j) = 3 * l + j := by unfold at9; rw [ti_0, nI_toInt (by omega), nI_toInt (by omega)]; simp
  have e3 : at9 0 (nI j) (nI l) = 3 * j + l := by unfold at9; rw [ti_0, nI_toInt (by omega), nI_toInt (by omega)]; simp
  unfold rE
  rw [e1, e2, e3]
  split
  · exact hb _ (by omega)
  · split
    · exact (by decide : (0 : Int32).toInt.natAbs ≤ 5)
    · split
      · exact (sb_neg (hb _ (by omega)) (by omega)).1
      · exact hb _ (by omega)
theorem shr_sb {T : Nat → Int32} (hb : ∀ k, k < 18 → sb 5 (T k)) (kd : Int32) {sh : Int32} (hsh : sb 2 sh) {i j k l : Nat} (hi : i < 3) (hj : j < 3) (hk : k < 3) (hl : l < 3) : sb 12 (shr T kd sh i j k l) := by
  have z5 : sb 5 0 := (by decide : (0 : Int32).toInt.natAbs ≤ 5)
  have z7 : sb 7 0 := (by decide : (0 : Int32).toInt.natAbs ≤ 7)
  have z2 : sb 2 0 := (by decide : (0 : Int32).toInt.natAbs ≤ 2)
  unfold shr
  have a1 : sb 7 (if l = j then T (3 * i + k) + (if i = k then sh else 0) else 0) := by
    split
    · refine (sb_add (a := 5) (b := 2) (hb _ (by omega)) ?_ (by omega)).1
      split
      · exact hsh
      · exact z2
    · exact z7
  have a2 : sb 5 (if k = i then rE T kd (nI l) (nI j) else 0) := by
    split
    · exact rE_sb hb kd hl hj
    · exact z5
  exact (sb_add (a := 7) (b := 5) a1 a2 (by omega)).1
theorem tm_sb {T : Nat → Int32} (hb : ∀ k, k < 18 → sb 5 (T k)) (kd : Int32) {s : Nat} (hs : s < 7) {sh : Int32} (hsh : sb 2 sh) {m n : Nat} (hm : m ≤ 3) (hn : n ≤ 3) {i j q u : Nat} (hi : i < 3) (hj : j < 3) (hq : q < m * n) (hu : u < 9) : sb 12 (tm T kd s sh n i j q u) := by
  have h9 := mn_le9 hm hn
  have hw : sb 1 (w32 s n q u) := by
    rcases w_tab s hs n (by omega) q (by omega) u hu with e | e | e <;> rw [e]
    · exact (by decide : (0 : Int32).toInt.natAbs ≤ 1)
    · exact (by decide : (1 : Int32).toInt.natAbs ≤ 1)
    · exact (by decide : (-1 : Int32).toInt.natAbs ≤ 1)
  exact (sb_mul (a := 1) (b := 12) hw (shr_sb hb kd hsh hi hj (div_lt3 hq hm) (mod_lt3 hq hn)) (by omega)).1
theorem sums_eq {T : Nat → Int32} (hb : ∀ k, k < 18 → sb 5 (T k)) (kd : Int32) {s : Nat} (hs : s < 7) {sh : Int32} (hsh : sb 2 sh) {m n : Nat} (hm : m ≤ 3) (hn : n ≤ 3) {i j u : Nat} (hi : i < 3) (hj : j < 3) (hu : u < 9) : ∀ q, q ≤ m * n → sb (12 * q) (isum T kd s sh n i j u q) ∧ psum T kd s sh n i j u q = (isum T kd s sh n i j u q).toInt64 := by
  have h9 := mn_le9 hm hn
  intro q
  induction q with
  | zero => intro _; exact ⟨Nat.le_refl _, rfl⟩
  | succ q ih =>
    intro hq
    obtain ⟨h1, h2⟩ := ih (by omega)
    have h3 := sb_add h1 (tm_sb hb kd hs hsh hm hn hi hj (q := q) (by omega) hu) (by omega)
    refine ⟨sb_le h3.1 (by omega), ?_⟩
    show psum T kd s sh n i j u q + _ = (isum T kd s sh n i j u q + _).toInt64
    rw [h3.2, h2]
theorem isum_c {T T' : Nat → Int32} (h : ∀ k, k < 27 → T k = T' k) (kd : Int32) (s : Nat) (sh : Int32) {m n : Nat} (hm : m ≤ 3) (hn : n ≤ 3) {i j u : Nat} (hi : i < 3) (hj : j < 3) : ∀ q, q ≤ m * n → isum T kd s sh n i j u q = isum T' kd s sh n i j u q := by
  intro q
  induction q with
  | zero => intro _; rfl
  | succ q ih =>
    intro hq
    have a := div_lt3 (p := q) (m := m) (n := n) (by omega) hm
    have b := mod_lt3 (p := q) (m := m) (n := n) (by omega) hn
    show isum T kd s sh n i j u q + tm T kd s sh n i j q u = isum T' kd s sh n i j u q + tm T' kd s sh n i j q u
    rw [ih (by omega)]
    unfold tm shr
    rw [h _ (by omega), rE_c h kd (i := nI (q % n)) (j := nI j) (by rw [nI_toInt (by omega)]; omega) (by rw [nI_toInt (by omega)]; omega)]
theorem psum_off {T : Nat → Int32} {kd : Int32} {sh : Int32} {n i j u : Nat} (h1 : 1 ≤ n) (hn : n ≤ 3) (hu : u < 9) : ∀ q, q ≤ u → psum T kd 0 sh n i j u q = 0 := by
  intro q
  induction q with
  | zero => intro _; rfl
  | succ q ih =>
    intro hq
    show psum T kd 0 sh n i j u q + (tm T kd 0 sh n i j q u).toInt64 = 0
    rw [ih (by omega)]
    unfold tm
    rw [w0_tab n (by omega) h1 q (by omega) u hu (by omega), Int32.zero_mul]; rfl
/-! ===== the class fills a row ===== -/
theorem x_hasCell {r c : Nat} (hr : r < 9) (hc : c < 10) : fX1_hasCell_19 (nI r) (nI c) = some 1 := by
  rw [fX1_hasCell_19, if_neg (nI_pos (by omega)), show (9 : Int32) = nI 9 from rfl, if_neg (nI_ge (by omega) (by omega)), if_neg (nI_pos (by omega)), show (10 : Int32) = nI 10 from rfl, if_neg (nI_ge (by omega) (by omega))]
theorem ix90 {r c : Nat} (hr : r < 9) (hc : c < 10) : (nI r * 10 + nI c) = nI (10 * r + c) := by
  rw [show (10 : Int32) = nI 10 from rfl, nI_mul, nI_add, Nat.mul_comm]
theorem x_cell (S : w_S) {r c : Nat} (hr : r < 9) (hc : c < 10) : fX1_cell_19 S (nI r) (nI c) = some (gB S 0 (10 * r + c)) := by
  rw [fX1_cell_19, x_hasCell hr hc, Option.bind_some, if_neg (show ¬ (1 : Int32) = 0 by decide), ix90 hr hc, if_pos (nI_inN (show 10 * r + c < 90 by omega) (by decide)), nI_clamp (by omega)]
theorem x_wr (S : w_S) {r c : Nat} (hr : r < 9) (hc : c < 10) (v : Int64) : fX1_write_19 S (nI r) (nI c) v = some (sB S 0 (vp_updL (gB S 0) (10 * r + c) v)) := by
  rw [fX1_write_19, x_hasCell hr hc, Option.bind_some, if_neg (show ¬ (1 : Int32) = 0 by decide), ix90 hr hc, if_pos (nI_inN (show 10 * r + c < 90 by omega) (by decide)), nI_clamp (by omega)]
theorem x_add (S : w_S) {r c : Nat} (hr : r < 9) (hc : c < 10) (v : Int64) : fX1_add_19 S (nI r) (nI c) v = some (sB S 0 (vp_updL (gB S 0) (10 * r + c) (gB S 0 (10 * r + c) + v))) := by
  rw [fX1_add_19, x_cell S hr hc, Option.bind_some, x_wr S hr hc]; rfl
theorem x_left (S : w_S) (sh : Int32) {i k : Nat} (hi : i < 3) (hk : k < 3) : fX4_leftEntry_1 S sh (nI i) (nI k) = some (TX S (3 * i + k) + (if i = k then sh else 0)) := by
  have e : at9 0 (nI i) (nI k) = 3 * i + k := by unfold at9; rw [ti_0, nI_toInt (by omega), nI_toInt (by omega)]; simp
  rw [fX4_leftEntry_1, x_entry S (by decide) (by rw [nI_toInt (by omega)]; omega) (by rw [nI_toInt (by omega)]; omega), e, Option.bind_some]
  by_cases c : i = k
  · rw [if_pos (by rw [c]), if_pos c]
  · rw [if_neg (by rw [nI_eq (by omega) (by omega)]; exact c), if_neg c]
/-- one place of a row -/
theorem x_step (S : w_S) (kd : Int32) {s m n fr i j k l : Nat} (sh : Int32) (hs : s < 7) (hm : 1 ≤ m ∧ m ≤ 3) (hn : 1 ≤ n ∧ n ≤ 3) (hq : s < 4 ∨ m = n) (h1 : gI S 1 = nI n) (hf : fr = 0 ∨ s = 0) (hfk : fr ≤ k) (hi : i < m) (hj : j < n) (hfi : fr ≤ i) (hk : k < m) (hl : l < n) (q : Nat) :
    ∃ g, fX6_fillRow_L37 kd (nI s) sh (nI fr) (nI i) (nI j) (nI ((i - fr) * n + j)) (nI k) (q + 1) S (nI l) = fX6_fillRow_L37 kd (nI s) sh (nI fr) (nI i) (nI j) (nI ((i - fr) * n + j)) (nI k) q (sB S 0 g) (nI (l + 1)) ∧ (∀ c, c < (pls s m n).length - fr * n → g (10 * ((i - fr) * n + j) + c) = gB S 0 (10 * ((i - fr) * n + j) + c) + (tm (TX S) kd s sh n i j (k * n + l) (c + fr * n)).toInt64) ∧ (∀ x, ¬ (10 * ((i - fr) * n + j) ≤ x ∧ x < 10 * ((i - fr) * n + j) + ((pls s m n).length - fr * n)) → g x = gB S 0 x) := by
  have h9 := mn_le9 hm.2 hn.2
  have hqn : k * n + l < m * n := Nat.lt_of_lt_of_le (show k * n + l < (k + 1) * n by rw [Nat.add_mul, Nat.one_mul]; omega) (Nat.mul_le_mul_right n hk)
  have dk : (k * n + l) / n = k := by rw [Nat.mul_comm, Nat.mul_add_div (by omega), Nat.div_eq_of_lt hl, Nat.add_zero]
  have dl : (k * n + l) % n = l := by rw [Nat.mul_comm, Nat.mul_add_mod]; exact Nat.mod_eq_of_lt hl
  have hrow : (i - fr) * n + j < m * n := Nat.lt_of_lt_of_le (show (i - fr) * n + j < (i - fr + 1) * n by rw [Nat.add_mul, Nat.one_mul]; omega) (Nat.mul_le_mul_right n (by omega))
  have hpl := pls_len (s := s) hm.2 hn.2
  have ktab := uk_tab s hs m (by omega) n (by omega) ⟨hm.1, hn.1, hq⟩ (k * n + l) hqn
  rw [dk, dl] at ktab
  have skip : ∀ A : Option w_S, A = fX6_fillRow_L37 kd (nI s) sh (nI fr) (nI i) (nI j) (nI ((i - fr) * n + j)) (nI k) q S (nI (l + 1)) → (∀ c, c < (pls s m n).length - fr * n → tm (TX S) kd s sh n i j (k * n + l) (c + fr * n) = 0) → ∃ g, A = fX6_fillRow_L37 kd (nI s) sh (nI fr) (nI i) (nI j) (nI ((i - fr) * n + j)) (nI k) q (sB S 0 g) (nI (l + 1)) ∧ (∀ c, c < (pls s m n).length - fr * n → g (10 * ((i - fr) * n + j) + c) = gB S 0 (10 * ((i - fr) * n + j) + c) + (tm (TX S) kd s sh n i j (k * n + l) (c + fr * n)).toInt64) ∧ (∀ x, ¬ (10 * ((i - fr) * n + j) ≤ x ∧ x < 10 * ((i - fr) * n + j) + ((pls s m n).length - fr * n)) → g x = gB S 0 x) := fun A hA h0 =>
    ⟨gB S 0, by rw [sB_self]; exact hA, fun c hc => by rw [h0 c hc, z64, Int64.add_zero], fun x _ => rfl⟩
  rw [fX6_fillRow_L37, h1, if_neg (nI_ge hl (by omega)), x_signAt, Option.bind_some]
  by_cases c0 : sg32 (nI s) (nI k) (nI l) = 0
  · rw [if_pos c0, nI_1]
    refine skip _ rfl (fun c hc => ?_)
    unfold tm w32
    rw [dk, dl, if_pos c0, Int32.zero_mul]
  · rw [if_neg c0]
    by_cases c1 : l = j ∨ k = i
    · obtain ⟨u, hu, hu2, hu3⟩ := ktab.resolve_left c0
      have hfu : fr * n ≤ u := by
        rcases hf with e | e
        · rw [e]; omega
        · rw [hu3 e]
          have := Nat.mul_le_mul_right n hfk
          omega
      have hidx : uk32 (nI s) (nI n) (nI k) (nI l) - nI fr * nI n = nI (u - fr * n) := by
        rw [hu2, nI_mul, nI_subN hfu (by omega)]
      have e1 : (if nI l = nI j then (fX4_leftEntry_1 S sh (nI i) (nI k)).bind (fun r123 => some r123) else some 0) = some (if l = j then TX S (3 * i + k) + (if i = k then sh else 0) else 0) := by
        rw [x_left S sh (by omega) (by omega)]
        by_cases e : l = j
        · rw [if_pos (by rw [e]), if_pos e]; rfl
        · rw [if_neg (by rw [nI_eq (by omega) (by omega)]; exact e), if_neg e]
      have e2 : (if nI k = nI i then (fX4_rightEntry_1 S kd (nI l) (nI j)).bind (fun r150 => some r150) else some 0) = some (if k = i then rE (TX S) kd (nI l) (nI j) else 0) := by
        rw [x_right S kd (by rw [nI_toInt (by omega)]; omega) (by rw [nI_toInt (by omega)]; omega)]
        by_cases e : k = i
        · rw [if_pos (by rw [e]), if_pos e]; rfl
        · rw [if_neg (by rw [nI_eq (by omega) (by omega)]; exact e), if_neg e]
      have e3 : ∀ A B : Option w_S, (if nI l = nI j then A else if nI k = nI i then A else B) = A := fun A B => by
        rcases c1 with e | e
        · rw [if_pos (by rw [e])]
        · by_cases f : nI l = nI j
          · rw [if_pos f]
          · rw [if_neg f, if_pos (by rw [e])]
      rw [e3, x_unknownAt, h1, Option.bind_some, e1, Option.bind_some, e2, Option.bind_some, hidx, x_add S (by omega) (by omega), Option.bind_some, nI_1]
      refine ⟨_, rfl, fun c hc => ?_, fun x hx => ?_⟩
      · have et : tm (TX S) kd s sh n i j (k * n + l) (c + fr * n) = if u = c + fr * n then sg32 (nI s) (nI k) (nI l) * shr (TX S) kd sh i j k l else 0 := by
          unfold tm w32
          rw [dk, dl, if_neg c0, hu2]
          by_cases e : u = c + fr * n
          · rw [if_pos (by rw [e]), if_pos e]
          · rw [if_neg (by rw [nI_eq (by omega) (by omega)]; exact e), if_neg e, Int32.zero_mul]
        rw [et, updL_ap]
        by_cases e : u = c + fr * n
        · rw [if_pos (by omega), if_pos e]
          have : u - fr * n = c := by omega
          rw [this]; rfl
        · rw [if_neg (by omega), if_neg e, z64, Int64.add_zero]
      · rw [updL_ap, if_neg (by omega)]
    · have c2 : ¬ l = j := fun e => c1 (Or.inl e)
      have c3 : ¬ k = i := fun e => c1 (Or.inr e)
      rw [if_neg (show ¬ nI l = nI j by rw [nI_eq (by omega) (by omega)]; exact c2), if_neg (show ¬ nI k = nI i by rw [nI_eq (by omega) (by omega)]; exact c3), nI_1]
      refine skip _ rfl (fun c hc => ?_)
      unfold tm shr
      rw [dk, dl, if_neg c2, if_neg c3, Int32.add_zero, Int32.mul_zero]
