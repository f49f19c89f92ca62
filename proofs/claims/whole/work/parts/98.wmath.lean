/-! ===== the witness: two ways to it ===== -/
def zK (E : eT) (f q : Nat) : Nat → Int := fun p => if p = q then 0 else if p = f then E.2.1.toInt else if E.2.2.2.1 p < 0 then 0 else -(E.2.2.2.2 (E.2.2.2.1 p).toNatClampNeg f).toInt
def yK (E : eT) (q : Nat) : Nat → Int := fun p => if p = q then -E.2.1.toInt else if E.2.2.2.1 p < 0 then 0 else (E.2.2.2.2 (E.2.2.2.1 p).toNatClampNeg q).toInt
section
variable {V : Nat → dV} {h w : Nat} {E : eT} {π : Nat → Nat} {cs : List Nat}
theorem pv_piv (H : EI V h w w E π cs) (hh : h ≤ 9) {i : Nat} (hi : i < E.1) : ∃ k, k < E.1 ∧ E.2.2.2.1 (pc E cs i) = nI k ∧ pc E cs k = pc E cs i ∧ k = i := by
  rcases pv_cs H (pc_lt H hi) hh with ⟨e1, e2⟩ | ⟨k, k1, k2, k3⟩
  · exact absurd (pc_mem H hi) e2
  · refine ⟨k, k1, k2, k3, ?_⟩
    by_cases e : k = i
    · exact e
    · have a1 := pU_0 H hi k1 e
      rw [k3, pU_d H hi] at a1
      exact absurd a1 (ei_d H)
theorem zK_piv (H : EI V h w w E π cs) (hh : h ≤ 9) {f i : Nat} (hf : f < w) (hi : i < E.1) (hne : pc E cs i ≠ f) : zK E f w (pc E cs i) = -(pU V E π cs i f) := by
  obtain ⟨k, k1, k2, k3, k4⟩ := pv_piv H hh hi
  have hl := pc_lt H hi
  have h2 := H.2.1
  unfold zK
  rw [if_neg (by omega), if_neg hne, k2, if_neg (nI_pos (by omega)), nI_clamp (by omega), k4, pU_cell H hi (by omega)]
theorem zK_free (H : EI V h w w E π cs) (hh : h ≤ 9) {f c : Nat} (hc : c < w) (hcs : c ∉ cs) (hne : c ≠ f) : zK E f w c = 0 := by
  unfold zK
  rcases pv_cs H hc hh with ⟨e1, e2⟩ | ⟨k, k1, k2, k3⟩
  · rw [if_neg (by omega), if_neg hne, e1, if_pos (by decide)]
  · exact absurd (by rw [← k3]; exact pc_mem H k1) hcs
theorem zK_f {f : Nat} (hf : f < w) : zK E f w f = E.2.1.toInt := by unfold zK; rw [if_neg (by omega), if_pos rfl]
theorem zK_w (f : Nat) : zK E f w w = 0 := by unfold zK; rw [if_pos rfl]
theorem yK_w : yK E w w = -E.2.1.toInt := by unfold yK; rw [if_pos rfl]
theorem yK_piv (H : EI V h w w E π cs) (hh : h ≤ 9) {i : Nat} (hi : i < E.1) : yK E w (pc E cs i) = pU V E π cs i w := by
  obtain ⟨k, k1, k2, k3, k4⟩ := pv_piv H hh hi
  have hl := pc_lt H hi
  have h2 := H.2.1
  unfold yK
  rw [if_neg (by omega), k2, if_neg (nI_pos (by omega)), nI_clamp (by omega), k4, pU_cell H hi (Nat.le_refl _)]
theorem yK_free (H : EI V h w w E π cs) (hh : h ≤ 9) {c : Nat} (hc : c < w) (hcs : c ∉ cs) : yK E w c = 0 := by
  unfold yK
  rcases pv_cs H hc hh with ⟨e1, e2⟩ | ⟨k, k1, k2, k3⟩
  · rw [if_neg (by omega), e1, if_pos (by decide)]
  · exact absurd (by rw [← k3]; exact pc_mem H k1) hcs
/-- the kernel's row of f kills the pivots' rows -/
theorem zK_kp (H : EI V h w w E π cs) (hh : h ≤ 9) {f : Nat} (hf : f < w) (hfc : f ∉ cs) {i : Nat} (hi : i < E.1) : ev (w + 1) (zK E f w) (pU V E π cs i) = 0 := by
  rw [ev_free H hf hfc (fun c hc hcs hne => zK_free H hh hc hcs hne) (zK_w f) hi, zK_piv H hh hf hi (fun e => hfc (by rw [← e]; exact pc_mem H hi)), zK_f hf, Int.mul_neg, Int.mul_comm]
  omega
theorem zK_kills (H : EI V h w w E π cs) (hh : h ≤ 9) {f : Nat} (hf : f < w) (hfc : f ∉ cs) : ∀ a, a < h → ev (w + 1) (zK E f w) (V a) = 0 :=
  kills H (ev_Lf _ _) (fun i hi => zK_kp H hh hf hfc hi) (fun i hi hih => by rw [ev_wait H hi hih, zK_w]; simp)
theorem yK_kp (H : EI V h w w E π cs) (hh : h ≤ 9) {i : Nat} (hi : i < E.1) : ev (w + 1) (yK E w) (pU V E π cs i) = 0 := by
  rw [ev_piv H (fun c hc hcs => yK_free H hh hc hcs) hi, yK_piv H hh hi, yK_w, Int.mul_neg, Int.mul_comm]
  omega
end
/-- rows A: unknowns' rules, C last; columns: places, what it must be, tags -/
def WA (A : Nat → dV) (w q : Nat) : Prop := (∀ u, u < w → A u q = 0) ∧ A w q = 1 ∧ ∀ r t, r ≤ w → t ≤ w → A r (q + 1 + t) = if r = t then 1 else 0
section
variable {A B : Nat → dV} {w q : Nat} {Ec Er Eg : eT} {πc πr πg : Nat → Nat} {csc csr csg : List Nat}
/-- what C leaves -/
def lW (A : Nat → dV) (w : Nat) (Er : eT) (πr : Nat → Nat) (csr : List Nat) : dV := lft csr ((idx πr Er.1).map A) (A w)
theorem rows_lt (Hr : EI A w q q Er πr csr) : ∀ r ∈ (idx πr Er.1).map A, ∃ u, u < w ∧ r = A u := fun r hr => by
  obtain ⟨i, i1, i2⟩ := List.mem_map.1 hr
  obtain ⟨k, k1, k2⟩ := idx_mem i1
  exact ⟨i, by rw [k2]; exact Hr.2.2.1 k (by have := Hr.2.1; omega), i2.symm⟩
theorem lW_free (Hr : EI A w q q Er πr csr) (hw : w ≤ 9) {f : Nat} (hf : f < q) (hfc : f ∉ csr) : ev (q + 1) (zK Er f q) (A w) = lW A w Er πr csr f := by
  have hk := zK_kills Hr hw hf hfc
  have h1 := lft_split csr ((idx πr Er.1).map A) (A w) (ev_Lf (q + 1) (zK Er f q)) (fun r hr => by
    obtain ⟨u, u1, u2⟩ := rows_lt Hr r hr
    rw [u2]; exact hk u u1)
  have h2 : ev (q + 1) (zK Er f q) (lft csr ((idx πr Er.1).map A) (A w)) = lW A w Er πr csr f * Er.2.1.toInt := by
    unfold ev
    rw [sumI_one (show f < q + 1 by omega) (fun j hj hne => ?_), zK_f hf]
    · rfl
    · by_cases e : j = q
      · rw [e, zK_w]; simp
      · by_cases c : j ∈ csr
        · rw [lft_0 c]; simp
        · rw [zK_free Hr hw (by omega) c hne]; simp
  rw [h2, Hr.2.2.2.2.2.1, Int.mul_comm] at h1
  exact (Int.eq_of_mul_eq_mul_left (ei_d Hr) h1).symm
theorem lW_piv {j : Nat} (hj : j ∈ csr) : lW A w Er πr csr j = 0 := lft_0 hj _ _
/-- C is no sum of rules if the system can't be solved -/
theorem w_zero (hA : ∀ p u, p < q → u ≤ w → B p u = A u p) (Hr : EI A w q q Er πr csr) (Hg : EI B q w w Eg πg csg) (hw : w ≤ 9) (hq : q ≤ 9) (hs : ∀ i, Eg.1 ≤ i → i < q → lft csg ((idx πg Eg.1).map B) (B (πg i)) w = 0) : ∀ j, j < q → lW A w Er πr csr j = 0 := by
  intro j hj
  have hk := kills Hg (ev_Lf (w + 1) (yK Eg w)) (fun i hi => yK_kp Hg hq hi) (fun i hi hih => by rw [ev_wait Hg hi hih, hs i hi hih]; simp)
  have hG : Lf (fun v => dt (j :: csr) (v :: (idx πr Er.1).map A)) := fun x y a b => dt_lin (j :: csr) [] _ x y a b
  have hG0 : ∀ u, u < w → dt (j :: csr) (A u :: (idx πr Er.1).map A) = 0 := by
    intro u hu
    have hm : u ∈ idx πr w := nodup_all (idx_nd Hr.2.2.2.1 w (Nat.le_refl _)) (fun x hx => by
      obtain ⟨i, i1, i2⟩ := idx_mem hx
      rw [i2]; exact Hr.2.2.1 i i1) (idx_len πr w) hu
    obtain ⟨i, i1, i2⟩ := idx_mem hm
    by_cases c : i < Er.1
    · exact dt_mem (j :: csr) [] [] _ _ (by rw [i2]; exact List.mem_map.2 ⟨πr i, idx_in c, rfl⟩)
    · rw [i2]; exact wait_0 Hr (show Er.1 ≤ i by omega) i1 hj
  have h1 := Lf_sum hG (yK Eg w) A (w + 1)
  have hy : ∀ c, c < q → sumI (fun i => yK Eg w i * A i c) (w + 1) = 0 := by
    intro c hc
    have := hk c hc
    unfold ev at this
    rw [← this]
    exact sumI_c (fun u hu => by rw [hA c u hc (by omega), Int.mul_comm])
  have h2 : dt (j :: csr) ((fun j => sumI (fun i => yK Eg w i * A i j) (w + 1)) :: (idx πr Er.1).map A) = 0 := dt_zero (j :: csr) _ _ (fun c hc => by
    rcases List.mem_cons.1 hc with e | e
    · rw [e]; exact hy j hj
    · exact hy c (Dec_lt Hr.2.2.2.2.1 e))
  have h3 : sumI (fun i => yK Eg w i * dt (j :: csr) (A i :: (idx πr Er.1).map A)) (w + 1) = yK Eg w w * lW A w Er πr csr j := sumI_one (show w < w + 1 by omega) (fun u hu hne => by rw [hG0 u (by omega)]; simp)
  rw [h2] at h1
  have h4 : yK Eg w w * lW A w Er πr csr j = 0 := by rw [← h3]; exact h1.symm
  rw [yK_w] at h4
  rcases Int.mul_eq_zero.1 h4 with e | e
  · have := ei_d Hg; omega
  · exact e
theorem w_solv (wa : WA A w q) (hA : ∀ p u, p < q → u ≤ w → B p u = A u p) (Hr : EI A w q q Er πr csr) (Hg : EI B q w w Eg πg csg) (h0 : ∀ j, j < q → lW A w Er πr csr j = 0) : ∀ i, Eg.1 ≤ i → i < q → lft csg ((idx πg Eg.1).map B) (B (πg i)) w = 0 := by
  obtain ⟨a1, a2, a3⟩ := wa
  have tag : lW A w Er πr csr (q + 1 + w) = Er.2.1.toInt := by
    have h1 := lft_split csr ((idx πr Er.1).map A) (A w) (G := fun v => v (q + 1 + w)) (fun x y a b => rfl) (fun r hr => by
      obtain ⟨u, u1, u2⟩ := rows_lt Hr r hr
      rw [u2, a3 u w (by omega) (Nat.le_refl _), if_neg (by omega)])
    rw [a3 w w (Nat.le_refl _) (Nat.le_refl _), if_pos rfl, Hr.2.2.2.2.2.1] at h1
    unfold lW; rw [h1]; simp
  have comb : ∀ j, j < q → ev (w + 1) (fun u => lW A w Er πr csr (q + 1 + u)) (B j) = 0 := by
    intro j hj
    have hG : Lf (fun v : dV => v j - sumI (fun u => A u j * v (q + 1 + u)) (w + 1)) := fun x y a b => by
      have : sumI (fun u => A u j * (a * x (q + 1 + u) + b * y (q + 1 + u))) (w + 1) = a * sumI (fun u => A u j * x (q + 1 + u)) (w + 1) + b * sumI (fun u => A u j * y (q + 1 + u)) (w + 1) := by
        rw [← sumI_lin]; exact sumI_c (fun u _ => by grind)
      show a * x j + b * y j - sumI (fun u => A u j * (a * x (q + 1 + u) + b * y (q + 1 + u))) (w + 1) = _
      rw [this]; grind
    have hz : ∀ r, r ≤ w → A r j - sumI (fun u => A u j * A r (q + 1 + u)) (w + 1) = 0 := by
      intro r hr
      rw [sumI_one (show r < w + 1 by omega) (fun u hu hne => by rw [a3 r u hr (by omega), if_neg (fun e => hne e.symm)]; simp), a3 r r hr hr, if_pos rfl]
      omega
    have hL := sp_lft csr ((idx πr Er.1).map A) (A w) _ hG (fun r hr => by
      rcases List.mem_cons.1 hr with e | e
      · rw [e]; exact hz w (Nat.le_refl _)
      · obtain ⟨u, u1, u2⟩ := rows_lt Hr r e
        rw [u2]; exact hz u (by omega))
    have hL' : lW A w Er πr csr j - sumI (fun u => A u j * lW A w Er πr csr (q + 1 + u)) (w + 1) = 0 := hL
    rw [h0 j hj] at hL'
    unfold ev
    have e : sumI (fun u => B j u * lW A w Er πr csr (q + 1 + u)) (w + 1) = sumI (fun u => A u j * lW A w Er πr csr (q + 1 + u)) (w + 1) := sumI_c (fun u hu => by rw [hA j u hj (by omega)])
    rw [e]; omega
  intro i hi hih
  have hs := sp_lft csg ((idx πg Eg.1).map B) (B (πg i)) (ev (w + 1) (fun u => lW A w Er πr csr (q + 1 + u))) (ev_Lf _ _) (fun r hr => by
    rcases List.mem_cons.1 hr with e | e
    · rw [e]; exact comb _ (Hg.2.2.1 i hih)
    · obtain ⟨k, k1, k2⟩ := List.mem_map.1 e
      obtain ⟨l, l1, l2⟩ := idx_mem k1
      rw [← k2, l2]; exact comb _ (Hg.2.2.1 l (by have := Hg.2.1; omega)))
  rw [ev_wait Hg hi hih] at hs
  have hs' : lft csg ((idx πg Eg.1).map B) (B (πg i)) w * lW A w Er πr csr (q + 1 + w) = 0 := hs
  rw [tag] at hs'
  rcases Int.mul_eq_zero.1 hs' with e | e
  · exact e
  · exact absurd e (ei_d Hr)
/-- both solutions are one -/
theorem w_same (wa : WA A w q) (Hr : EI A w q q Er πr csr) (Hc : EI A (w + 1) q q Ec πc csc) (hw : w ≤ 8) {f : Nat} (hf : f < q) (hl : lW A w Er πr csr f ≠ 0) (h0 : ∀ j, j < f → lW A w Er πr csr j = 0) {p : Nat} (hp : p < q) : lW A w Er πr csr f * yK Ec q p = zK Er f q p * Ec.2.1.toInt := by
  obtain ⟨a1, a2, a3⟩ := wa
  have hfc : f ∉ csr := fun e => hl (lW_piv e)
  have kz := zK_kills Hr (by omega) hf hfc
  have kw := lW_free Hr (by omega) hf hfc
  -- where Z isn't 0
  have supp : ∀ p, p < q → p ∉ csc → zK Er f q p = 0 := by
    intro p hp hpc
    have kk := zK_kills Hc (by omega) hp hpc
    have beh : ∀ j, p < j → j < q + 1 → zK Ec p q j = 0 := by
      intro j h1 h2
      by_cases e : j = q
      · rw [e]; exact zK_w p
      · by_cases c : j ∈ csc
        · obtain ⟨i, i1, i2⟩ := pc_of Hc c
          rw [← i2, zK_piv Hc (by omega) hp i1 (by omega), pU_ech Hc i1 (by omega)]; rfl
        · exact zK_free Hc (by omega) (by omega) c (by omega)
    by_cases c1 : p ∈ csr
    · exfalso
      obtain ⟨i, i1, i2⟩ := pc_of Hr c1
      have z := pU_sp Hr i1 (ev (q + 1) (zK Ec p q)) (ev_Lf _ _) (fun r hr => by
        obtain ⟨u, u1, u2⟩ := rows_lt Hr r hr
        rw [u2]; exact kk u (by omega))
      unfold ev at z
      rw [sumI_one (show p < q + 1 by omega) (fun j hj hne => by
        rcases Nat.lt_or_ge j p with g | g
        · rw [pU_ech Hr i1 (by omega)]; simp
        · rw [beh j (by omega) hj]; simp), zK_f hp] at z
      have d1 := pU_d Hr i1
      rw [i2] at d1
      rw [d1] at z
      rcases Int.mul_eq_zero.1 z with e | e
      · exact ei_d Hr e
      · exact ei_d Hc e
    · by_cases c2 : p = f
      · exfalso
        have z := sp_lft csr ((idx πr Er.1).map A) (A w) (ev (q + 1) (zK Ec p q)) (ev_Lf _ _) (fun r hr => by
          rcases List.mem_cons.1 hr with e | e
          · rw [e]; exact kk w (by omega)
          · obtain ⟨u, u1, u2⟩ := rows_lt Hr r e
            rw [u2]; exact kk u (by omega))
        unfold ev at z
        rw [sumI_one (show p < q + 1 by omega) (fun j hj hne => by
          rcases Nat.lt_or_ge j p with g | g
          · have : lft csr ((idx πr Er.1).map A) (A w) j = 0 := h0 j (by omega)
            rw [this]; simp
          · rw [beh j (by omega) hj]; simp), zK_f hp] at z
        rcases Int.mul_eq_zero.1 z with e | e
        · rw [c2] at e; exact hl e
        · exact ei_d Hc e
      · exact zK_free Hr (by omega) hp c1 c2
  -- NZ kills all rows
  have kn : ∀ a, a < w + 1 → ev (q + 1) (fun j => if j = q then -(lW A w Er πr csr f) else zK Er f q j) (A a) = 0 := by
    intro a ha
    have e : ev (q + 1) (fun j => if j = q then -(lW A w Er πr csr f) else zK Er f q j) (A a) = ev (q + 1) (zK Er f q) (A a) + A a q * -(lW A w Er πr csr f) := by
      unfold ev
      show sumI _ q + A a q * (if q = q then -(lW A w Er πr csr f) else zK Er f q q) = sumI _ q + A a q * zK Er f q q + _
      rw [if_pos rfl, zK_w, sumI_c (g := fun j => A a j * zK Er f q j) (fun j hj => by
        show A a j * (if j = q then -(lW A w Er πr csr f) else zK Er f q j) = A a j * zK Er f q j
        rw [if_neg (by omega)])]
      omega
    rw [e]
    by_cases c : a = w
    · rw [c, kw, a2]; omega
    · rw [kz a (by omega), a1 a (by omega)]; simp
  -- the difference
  have key : ∀ p, p < q → lW A w Er πr csr f * yK Ec q p - Ec.2.1.toInt * zK Er f q p = 0 := by
    intro p hp
    by_cases c : p ∈ csc
    · obtain ⟨i, i1, i2⟩ := pc_of Hc c
      have e1 := yK_kp Hc (by omega) i1
      have e2 := pU_sp Hc i1 (ev (q + 1) (fun j => if j = q then -(lW A w Er πr csr f) else zK Er f q j)) (ev_Lf _ _) (fun r hr => by
        obtain ⟨k, k1, k2⟩ := List.mem_map.1 hr
        obtain ⟨l, l1, l2⟩ := idx_mem k1
        rw [← k2, l2]; exact kn _ (Hc.2.2.1 l (by have := Hc.2.1; omega)))
      have e3 := ev_piv Hc (N := fun j => lW A w Er πr csr f * yK Ec q j - Ec.2.1.toInt * (if j = q then -(lW A w Er πr csr f) else zK Er f q j)) (fun c hc hcs => by
        show lW A w Er πr csr f * yK Ec q c - Ec.2.1.toInt * (if c = q then -(lW A w Er πr csr f) else zK Er f q c) = 0
        rw [if_neg (by omega), yK_free Hc (by omega) hc hcs, supp c hc hcs]; simp) i1
      have e4 : ev (q + 1) (fun j => lW A w Er πr csr f * yK Ec q j - Ec.2.1.toInt * (if j = q then -(lW A w Er πr csr f) else zK Er f q j)) (pU A Ec πc csc i) = lW A w Er πr csr f * ev (q + 1) (yK Ec q) (pU A Ec πc csc i) + -Ec.2.1.toInt * ev (q + 1) (fun j => if j = q then -(lW A w Er πr csr f) else zK Er f q j) (pU A Ec πc csc i) := by
        unfold ev
        rw [← sumI_lin]
        exact sumI_c (fun j _ => by grind)
      rw [e4, e1, e2] at e3
      have hl2 := pc_lt Hc i1
      have e5 : Ec.2.1.toInt * (lW A w Er πr csr f * yK Ec q p - Ec.2.1.toInt * zK Er f q p) = 0 := by
        have e6 : (0 : Int) = Ec.2.1.toInt * (lW A w Er πr csr f * yK Ec q (pc Ec csc i) - Ec.2.1.toInt * (if pc Ec csc i = q then -(lW A w Er πr csr f) else zK Er f q (pc Ec csc i))) + pU A Ec πc csc i q * (lW A w Er πr csr f * yK Ec q q - Ec.2.1.toInt * (if q = q then -(lW A w Er πr csr f) else zK Er f q q)) := by
          rw [← e3]; simp
        rw [if_neg (by omega), if_pos rfl, yK_w, i2] at e6
        have e7 : lW A w Er πr csr f * -Ec.2.1.toInt - Ec.2.1.toInt * -(lW A w Er πr csr f) = 0 := by rw [Int.mul_neg, Int.mul_neg, Int.mul_comm]; omega
        rw [e7] at e6; omega
      rcases Int.mul_eq_zero.1 e5 with x | x
      · exact absurd x (ei_d Hc)
      · exact x
    · rw [yK_free Hc (by omega) hp c, supp p hp c]; simp
  have := key p hp
  rw [Int.mul_comm (zK Er f q p)]; omega
end
