/-! ===== the witness's determinants are small ===== -/
theorem dt_dup : ∀ (l : List Nat), ¬ l.Nodup → ∀ rows, dt l rows = 0
  | [], h, _ => absurd List.nodup_nil h
  | c :: cs, h, rows => by
    by_cases e : c ∈ cs
    · exact dt_head cs c rows e
    · exact dt_ext0 (fun l => dt_dup cs (fun g => h (List.nodup_cons.2 ⟨e, g⟩)) l) c rows
theorem n2_erase (v : dV) (a : Nat) : ∀ (l : List Nat), a ∈ l → n2 l v = v a * v a + n2 (l.erase a) v
  | c :: cs, h => by
    by_cases e : c = a
    · rw [e, List.erase_cons_head]; rfl
    · have hm : a ∈ cs := by
        rcases List.mem_cons.1 h with f | f
        · exact absurd f.symm e
        · exact f
      rw [List.erase_cons_tail (by simpa using e)]
      show v c * v c + n2 cs v = v a * v a + (v c * v c + n2 (cs.erase a) v)
      rw [n2_erase v a cs hm]; omega
theorem n2_nodup (v : dV) : ∀ (K : Nat) (l : List Nat), l.Nodup → (∀ i ∈ l, i < K) → n2 l v ≤ sumI (fun u => v u * v u) K
  | 0, l, _, hl => by
    cases l with
    | nil => exact Int.le_refl _
    | cons a l => exact absurd (hl a List.mem_cons_self) (Nat.not_lt_zero _)
  | K + 1, l, hn, hl => by
    by_cases c : K ∈ l
    · have h1 := n2_nodup v K (l.erase K) (hn.erase K) (fun i hi => by
        have a1 := hl i (List.mem_of_mem_erase hi)
        have a2 : i ≠ K := fun e => by rw [e] at hi; exact (List.Nodup.not_mem_erase hn) hi
        omega)
      rw [n2_erase v K l c]
      show _ ≤ sumI (fun u => v u * v u) K + v K * v K
      omega
    · have h1 := n2_nodup v K l hn (fun i hi => by
        have a1 := hl i hi
        have a2 : i ≠ K := fun e => by rw [e] at hi; exact c hi
        omega)
      have := sq_nn (v K)
      show _ ≤ sumI (fun u => v u * v u) K + v K * v K
      omega
def prodN (f : Nat → Nat) : Nat → Nat
  | 0 => 1
  | k + 1 => prodN f k * f k
def prodL (f : Nat → Nat) : List Nat → Nat
  | [] => 1
  | a :: l => f a * prodL f l
theorem prodL_erase (f : Nat → Nat) (a : Nat) : ∀ (l : List Nat), a ∈ l → prodL f l = f a * prodL f (l.erase a)
  | c :: cs, h => by
    by_cases e : c = a
    · rw [e, List.erase_cons_head]; rfl
    · have hm : a ∈ cs := by
        rcases List.mem_cons.1 h with g | g
        · exact absurd g.symm e
        · exact g
      rw [List.erase_cons_tail (by simpa using e)]
      show f c * prodL f cs = f a * (f c * prodL f (cs.erase a))
      rw [prodL_erase f a cs hm, Nat.mul_left_comm]
theorem prodL_le {f : Nat → Nat} : ∀ (K : Nat) (l : List Nat), (∀ i, i < K → 1 ≤ f i) → l.Nodup → (∀ i ∈ l, i < K) → prodL f l ≤ prodN f K
  | 0, l, _, _, hl => by
    cases l with
    | nil => exact Nat.le_refl _
    | cons a l => exact absurd (hl a List.mem_cons_self) (Nat.not_lt_zero _)
  | K + 1, l, hf, hn, hl => by
    by_cases c : K ∈ l
    · have h1 := prodL_le K (l.erase K) (fun i hi => hf i (by omega)) (hn.erase K) (fun i hi => by
        have a1 := hl i (List.mem_of_mem_erase hi)
        have a2 : i ≠ K := fun e => by rw [e] at hi; exact (List.Nodup.not_mem_erase hn) hi
        omega)
      rw [prodL_erase f K l c, Nat.mul_comm]
      exact Nat.mul_le_mul_right _ h1
    · have h1 := prodL_le K l (fun i hi => hf i (by omega)) hn (fun i hi => by
        have a1 := hl i hi
        have a2 : i ≠ K := fun e => by rw [e] at hi; exact c hi
        omega)
      exact Nat.le_trans h1 (Nat.le_mul_of_pos_right _ (hf K (by omega)))
theorem p2_prod {cs : List Nat} {V : Nat → dV} {f : Nat → Nat} : ∀ L : List Nat, (∀ i ∈ L, n2 cs (V i) ≤ (f i : Int)) → p2 cs (L.map V) ≤ ((prodL f L : Nat) : Int)
  | [], _ => Int.le_refl _
  | a :: L, h => by
    have h1 := p2_prod L (fun i hi => h i (List.mem_cons_of_mem _ hi))
    have h2 := h a List.mem_cons_self
    have h3 := Int.mul_le_mul h2 h1 (p2_nn cs _) (Int.natCast_nonneg _)
    show n2 cs (V a) * p2 cs (L.map V) ≤ ((f a * prodL f L : Nat) : Int)
    rw [Int.natCast_mul]; exact h3
/-- rows whose sums of squares are f -/
theorem dt_prod {V : Nat → dV} {h w : Nat} {f : Nat → Nat} (hf : ∀ i, i < h → sumI (fun u => V i u * V i u) (w + 1) ≤ (f i : Int)) {l L : List Nat} (hl : ∀ c ∈ l, c ≤ w) (hL : ∀ i ∈ L, i < h) : dt l (L.map V) * dt l (L.map V) ≤ ((prodL f L : Nat) : Int) := by
  by_cases c : l.Nodup
  · exact Int.le_trans (hadamard l (L.map V)) (p2_prod L (fun i hi => Int.le_trans (n2_nodup (V i) (w + 1) l c (fun j hj => by have := hl j hj; omega)) (hf i (hL i hi))))
  · rw [dt_dup l c]; exact Int.natCast_nonneg _
theorem hb_prod {V : Nat → dV} {h w μ : Nat} {f : Nat → Nat} (hf : ∀ i, i < h → sumI (fun u => V i u * V i u) (w + 1) ≤ (f i : Int)) (hμ : ∀ i, i < h → μ ≤ f i) (h1 : 1 ≤ μ) (hX : prodN f h * prodN f h < 85070591730234615865843651857942052864 * μ) : HB1 V h w ∧ HB2 V h w := by
  have f1 : ∀ i, i < h → 1 ≤ f i := fun i hi => Nat.le_trans h1 (hμ i hi)
  have key : ∀ {cs c' : List Nat} {p : Nat} {L L' : List Nat}, (∀ c ∈ cs, c ≤ w) → (∀ c ∈ c', c ≤ w) → (p :: L).Nodup → (∀ i ∈ p :: L, i < h) → L'.Nodup → (∀ i ∈ L', i < h) → (dt cs (L.map V) * dt c' (L'.map V)).natAbs < 9223372036854775808 := by
    intro cs c' p L L' hcs hc' nd hi nd' hi'
    have a1 := dt_prod hf hcs (fun i im => hi i (List.mem_cons_of_mem _ im))
    have a2 := dt_prod hf hc' hi'
    have a3 := Int.mul_le_mul a1 a2 (sq_nn _) (Int.natCast_nonneg _)
    rw [← sq2, ← Int.natCast_mul] at a3
    refine lt63 a3 ?_
    have b1 : prodL f L * μ ≤ prodN f h := by
      have := prodL_le h (p :: L) f1 nd hi
      have b0 : prodL f L * μ ≤ f p * prodL f L := by rw [Nat.mul_comm]; exact Nat.mul_le_mul_right _ (hμ p (hi p List.mem_cons_self))
      exact Nat.le_trans b0 this
    have b2 := prodL_le h L' f1 nd' hi'
    have b3 := Nat.mul_le_mul b1 b2
    have b4 : prodL f L * prodL f L' * μ < 85070591730234615865843651857942052864 * μ := by
      refine Nat.lt_of_le_of_lt ?_ hX
      calc prodL f L * prodL f L' * μ = prodL f L * μ * prodL f L' := by rw [Nat.mul_assoc, Nat.mul_comm (prodL f L') μ, ← Nat.mul_assoc]
        _ ≤ _ := b3
    have b5 := Nat.lt_of_mul_lt_mul_right b4
    exact Int.ofNat_lt.2 b5
  refine ⟨fun cs L c p u j hd nd hi hl hj => ?_, fun cs L c p k j hd nd hi hl hj hk => ?_⟩
  · have nd2 := (List.nodup_cons.1 nd).2
    exact key (p := p) (fun q hq => by have := Dec_lt hd.2 hq; have := hd.1; omega) (fun q hq => by
      rcases List.mem_cons.1 hq with e | e
      · omega
      · have := Dec_lt hd e; omega) nd2 (fun i im => hi i (List.mem_cons_of_mem _ im)) nd hi
  · exact key (p := p) (fun q hq => by have := Dec_lt hd.2 hq; have := hd.1; omega) (fun q hq => by
      rcases List.mem_or_eq_of_mem_set hq with e | e
      · have := Dec_lt hd e; omega
      · omega) nd hi nd hi
/-- in the end -/
theorem end_prod {V : Nat → dV} {h w : Nat} {f : Nat → Nat} (hf : ∀ i, i < h → sumI (fun u => V i u * V i u) (w + 1) ≤ (f i : Int)) (f1 : ∀ i, i < h → 1 ≤ f i) (hX : prodN f h < 85070591730234615865843651857942052864) {L : List Nat} (hn : L.Nodup) (hL : ∀ i ∈ L, i < h) {l : List Nat} (hl : ∀ c ∈ l, c ≤ w) : (dt l (L.map V)).natAbs < 9223372036854775808 :=
  lt63 (Int.le_trans (dt_prod hf hl hL) (Int.ofNat_le.2 (prodL_le h L f1 hn hL))) (by
    have := Int.ofNat_lt.2 hX
    exact this)
/-! ===== the rules of an equation's unknowns, and C ===== -/
def AW (X : w_S) (s : Nat) (sh : Int32) (m n : Nat) : Nat → dV := fun r j => if j < m * n then VX X s sh m n j r else if j = m * n then (if r = (pls s m n).length then 1 else 0) else if j = m * n + 1 + r then 1 else 0
theorem aw_p (X : w_S) (s : Nat) (sh : Int32) (m n : Nat) {p : Nat} (hp : p < m * n) (r : Nat) : AW X s sh m n r p = VX X s sh m n p r := if_pos hp
theorem aw_wa (X : w_S) (s : Nat) (sh : Int32) (m n : Nat) : WA (AW X s sh m n) (pls s m n).length (m * n) := by
  refine ⟨fun u hu => ?_, ?_, fun r t hr ht => ?_⟩
  · unfold AW; rw [if_neg (by omega), if_pos rfl, if_neg (by omega)]
  · unfold AW; rw [if_neg (by omega), if_pos rfl, if_pos rfl]
  · unfold AW; rw [if_neg (by omega), if_neg (by omega)]
    by_cases e : r = t
    · rw [if_pos (by omega), if_pos e]
    · rw [if_neg (by omega), if_neg e]
def NF (s m n r : Nat) : Nat := if r < (pls s m n).length then sumN (fun p => sq (CB s n (p / n) (p % n) r (m * n))) (m * n) else 22501
theorem nf_tab (s : Nat) (hs : s < 7) (m : Nat) (hm : m < 4) (n : Nat) (hn : n < 4) (h1 : 1 ≤ m ∧ 1 ≤ n ∧ (s < 4 ∨ m = n) ∧ (pls s m n).length ≤ 6) : (∀ u, u < (pls s m n).length → 144 ≤ NF s m n u) ∧ prodN (NF s m n) ((pls s m n).length + 1) * prodN (NF s m n) ((pls s m n).length + 1) < 85070591730234615865843651857942052864 * 144 := by
  have h : tabB (fun s m n q u => !(decide (q = 0 ∧ (1 ≤ m ∧ 1 ≤ n ∧ (s < 4 ∨ m = n) ∧ (pls s m n).length ≤ 6))) || ((decide (u < (pls s m n).length → 144 ≤ NF s m n u)) && (decide (u = 0 → prodN (NF s m n) ((pls s m n).length + 1) * prodN (NF s m n) ((pls s m n).length + 1) < 85070591730234615865843651857942052864 * 144)))) = true := by decide +kernel
  have t : ∀ u, u < 9 → (u < (pls s m n).length → 144 ≤ NF s m n u) ∧ (u = 0 → prodN (NF s m n) ((pls s m n).length + 1) * prodN (NF s m n) ((pls s m n).length + 1) < 85070591730234615865843651857942052864 * 144) := fun u hu => by
    have := imp_of (tab_of h hs hm hn (q := 0) (u := u) (by omega) hu) (decide_eq_true ⟨rfl, h1⟩)
    rw [Bool.and_eq_true] at this
    exact ⟨of_decide_eq_true this.1, of_decide_eq_true this.2⟩
  exact ⟨fun u hu => (t u (by omega)).1 hu, (t 0 (by omega)).2 rfl⟩
theorem sumN_cst {f : Nat → Nat} {c : Nat} : ∀ {k : Nat}, (∀ p, p < k → f p ≤ c) → sumN f k ≤ c * k
  | 0, _ => Nat.zero_le _
  | k + 1, h => by
    have h1 := sumN_cst (k := k) (fun p hp => h p (by omega))
    have h2 := h k (by omega)
    show sumN f k + f k ≤ c * (k + 1)
    rw [Nat.mul_add, Nat.mul_one]; omega
theorem aw_n2 {X M : w_S} (hw : Nw X M) {s m n : Nat} {sh : Int32} (hsh : sb 2 sh) (hy : Sys s m n 0) : ∀ r, r < (pls s m n).length + 1 → sumI (fun u => AW X s sh m n r u * AW X s sh m n r u) (m * n + 1) ≤ ((NF s m n r : Nat) : Int) := by
  intro r hr
  obtain ⟨y1, y2, y3, y4, y5, y6⟩ := id hy
  have h9 := mn_le9 y2.2 y3.2
  have e : sumI (fun u => AW X s sh m n r u * AW X s sh m n r u) (m * n + 1) = sumI (fun p => VX X s sh m n p r * VX X s sh m n p r) (m * n) + AW X s sh m n r (m * n) * AW X s sh m n r (m * n) := by
    show sumI _ (m * n) + _ = _
    rw [sumI_c (g := fun p => VX X s sh m n p r * VX X s sh m n p r) (fun p hp => by rw [aw_p X s sh m n hp])]
  rw [e]
  unfold NF
  by_cases c : r < (pls s m n).length
  · rw [if_pos c, (aw_wa X s sh m n).1 r c]
    have := sumI_le (f := fun p => VX X s sh m n p r * VX X s sh m n p r) (g := fun p => sq (CB s n (p / n) (p % n) r (m * n))) (k := m * n) (fun p hp => abs_sq (vx_u hw hsh hy hp c).2)
    omega
  · have hr' : r = (pls s m n).length := by omega
    rw [if_neg c, hr', (aw_wa X s sh m n).2.1]
    have h1 := sumI_le (f := fun p => VX X s sh m n p (pls s m n).length * VX X s sh m n p (pls s m n).length) (g := fun _ => 2500) (k := m * n) (fun p hp => abs_sq (a := 50) (vx_c hw hy hp).2)
    have h2 := sumN_cst (f := fun _ => 2500) (c := 2500) (k := m * n) (fun p _ => Nat.le_refl _)
    omega
/-- all of it -/
theorem aw_hb {X M : w_S} (hw : Nw X M) {s m n : Nat} {sh : Int32} (hsh : sb 2 sh) (hy : Sys s m n 0) (h6 : (pls s m n).length ≤ 6) : (HB1 (AW X s sh m n) ((pls s m n).length + 1) (m * n) ∧ HB2 (AW X s sh m n) ((pls s m n).length + 1) (m * n)) ∧ ∀ (L l : List Nat), L.Nodup → (∀ i ∈ L, i < (pls s m n).length + 1) → (∀ c ∈ l, c ≤ m * n) → (dt l (L.map (AW X s sh m n))).natAbs < 9223372036854775808 := by
  obtain ⟨y1, y2, y3, y4, y5, y6⟩ := id hy
  obtain ⟨t1, t2⟩ := nf_tab s y1 m (by omega) n (by omega) ⟨y2.1, y3.1, y4, h6⟩
  have f144 : ∀ i, i < (pls s m n).length + 1 → 144 ≤ NF s m n i := fun i hi => by
    by_cases c : i < (pls s m n).length
    · exact t1 i c
    · unfold NF; rw [if_neg c]; omega
  have hf := aw_n2 hw hsh hy
  refine ⟨hb_prod hf f144 (by omega) t2, fun L l hn hL hl => end_prod hf (fun i hi => by have := f144 i hi; omega) ?_ hn hL hl⟩
  rcases Nat.lt_or_ge (prodN (NF s m n) ((pls s m n).length + 1)) 85070591730234615865843651857942052864 with g | g
  · exact g
  · exfalso
    have := Nat.mul_le_mul g g
    omega
theorem hb_less {V : Nat → dV} {h h' w : Nat} (hh : h' ≤ h) (b : HB1 V h w ∧ HB2 V h w) : HB1 V h' w ∧ HB2 V h' w :=
  ⟨fun cs L c p u j hd nd hi hl hj => b.1 cs L c p u j hd nd (fun i im => by have := hi i im; omega) hl hj, fun cs L c p k j hd nd hi hl hj hk => b.2 cs L c p k j hd nd (fun i im => by have := hi i im; omega) hl hj hk⟩
