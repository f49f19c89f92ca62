/-! ===== what an elimination tells of its rows ===== -/
theorem nodup_len : ∀ {h : Nat} {l : List Nat}, l.Nodup → (∀ i ∈ l, i < h) → l.length ≤ h
  | 0, l, _, hl => by
    cases l with
    | nil => exact Nat.le_refl _
    | cons a l => exact absurd (hl a List.mem_cons_self) (Nat.not_lt_zero _)
  | h + 1, l, hn, hl => by
    by_cases c : h ∈ l
    · have h1 := nodup_len (h := h) (l := l.erase h) (hn.erase h) (fun i hi => by
        have a1 := hl i (List.mem_of_mem_erase hi)
        have a2 : i ≠ h := fun e => by rw [e] at hi; exact (List.Nodup.not_mem_erase hn) hi
        omega)
      rw [List.length_erase_of_mem c] at h1
      omega
    · have h1 := nodup_len (h := h) (l := l) hn (fun i hi => by
        have a1 := hl i hi
        have a2 : i ≠ h := fun e => by rw [e] at hi; exact c hi
        omega)
      omega
theorem nodup_all {h : Nat} {l : List Nat} (hn : l.Nodup) (hl : ∀ i ∈ l, i < h) (he : l.length = h) {a : Nat} (ha : a < h) : a ∈ l := by
  by_cases c : a ∈ l
  · exact c
  · have := nodup_len (h := h) (l := a :: l) (List.nodup_cons.2 ⟨c, hn⟩) (fun i hi => by
      rcases List.mem_cons.1 hi with e | e
      · rw [e]; exact ha
      · exact hl i e)
    simp only [List.length_cons] at this
    omega
theorem sumI_0 {f : Nat → Int} : ∀ {k : Nat}, (∀ j, j < k → f j = 0) → sumI f k = 0
  | 0, _ => rfl
  | k + 1, h => by
    show sumI f k + f k = 0
    rw [sumI_0 (fun j hj => h j (by omega)), h k (by omega)]; rfl
theorem sumI_one {f : Nat → Int} : ∀ {k a : Nat}, a < k → (∀ j, j < k → j ≠ a → f j = 0) → sumI f k = f a
  | k + 1, a, ha, h => by
    show sumI f k + f k = f a
    by_cases e : a = k
    · rw [sumI_0 (fun j hj => h j (by omega) (by omega)), e]; omega
    · rw [sumI_one (show a < k by omega) (fun j hj hne => h j (by omega) hne), h k (by omega) (fun x => e x.symm)]; omega
theorem sumI_two {f : Nat → Int} {k a b : Nat} (ha : a < k) (hb : b < k) (hab : a ≠ b) (h : ∀ j, j < k → j ≠ a → j ≠ b → f j = 0) : sumI f k = f a + f b := by
  have : ∀ k, a < k → b < k → (∀ j, j < k → j ≠ a → j ≠ b → f j = 0) → sumI f k = f a + f b := by
    intro k
    induction k with
    | zero => intro h1; omega
    | succ k ih =>
      intro h1 h2 h3
      show sumI f k + f k = _
      by_cases e1 : a = k
      · rw [sumI_one (show b < k by omega) (fun j hj hne => h3 j (by omega) (by omega) hne), ← e1]; omega
      · by_cases e2 : b = k
        · rw [sumI_one (show a < k by omega) (fun j hj hne => h3 j (by omega) hne (by omega)), ← e2]
        · rw [ih (by omega) (by omega) (fun j hj => h3 j (by omega)), h3 k (by omega) (fun x => e1 x.symm) (fun x => e2 x.symm)]; omega
  exact this k ha hb h
theorem sumI_lin (a b : Int) (f g : Nat → Int) : ∀ k, sumI (fun j => a * f j + b * g j) k = a * sumI f k + b * sumI g k
  | 0 => by show (0 : Int) = a * 0 + b * 0; simp
  | k + 1 => by
    show sumI (fun j => a * f j + b * g j) k + (a * f k + b * g k) = a * (sumI f k + f k) + b * (sumI g k + g k)
    rw [sumI_lin a b f g k]; grind
theorem sumI_c {f g : Nat → Int} : ∀ {k : Nat}, (∀ j, j < k → f j = g j) → sumI f k = sumI g k
  | 0, _ => rfl
  | k + 1, h => by
    show sumI f k + f k = sumI g k + g k
    rw [sumI_c (fun j hj => h j (by omega)), h k (by omega)]
/-- a row against numbers -/
def ev (q : Nat) (N : Nat → Int) (v : dV) : Int := sumI (fun j => v j * N j) q
theorem ev_Lf (q : Nat) (N : Nat → Int) : Lf (ev q N) := fun x y a b => by
  unfold ev
  rw [← sumI_lin]
  exact sumI_c (fun j _ => by grind)
/-- vectors in sum -/
theorem Lf_sum {G : dV → Int} (hG : Lf G) (x : Nat → Int) (v : Nat → dV) : ∀ k, G (fun j => sumI (fun i => x i * v i j) k) = sumI (fun i => x i * G (v i)) k
  | 0 => Lf_0 hG
  | k + 1 => by
    have h := hG (fun j => sumI (fun i => x i * v i j) k) (v k) 1 (x k)
    rw [Lf_sum hG x v k] at h
    show G (fun j => sumI (fun i => x i * v i j) k + x k * v k j) = sumI (fun i => x i * G (v i)) k + x k * G (v k)
    have e : (fun j => 1 * sumI (fun i => x i * v i j) k + x k * v k j) = fun j => sumI (fun i => x i * v i j) k + x k * v k j := by funext j; omega
    rw [e] at h; rw [h]; omega
section
variable {V : Nat → dV} {h w : Nat} {E : eT} {π : Nat → Nat} {cs : List Nat}
/-- pivots' rows as vectors -/
def pU (V : Nat → dV) (E : eT) (π : Nat → Nat) (cs : List Nat) (i : Nat) : dV := fun j => dt (cs.set (E.1 - 1 - i) j) ((idx π E.1).map V)
def pc (E : eT) (cs : List Nat) (i : Nat) : Nat := cs.getD (E.1 - 1 - i) 0
theorem pc_mem (H : EI V h w w E π cs) {i : Nat} (hi : i < E.1) : pc E cs i ∈ cs := by
  have hl : E.1 - 1 - i < cs.length := by have := H.1; omega
  unfold pc
  rw [List.getD_eq_getElem?_getD, List.getElem?_eq_getElem hl]
  exact List.getElem_mem hl
theorem pc_lt (H : EI V h w w E π cs) {i : Nat} (hi : i < E.1) : pc E cs i < w := Dec_lt H.2.2.2.2.1 (pc_mem H hi)
theorem pc_of (H : EI V h w w E π cs) {c : Nat} (hc : c ∈ cs) : ∃ i, i < E.1 ∧ pc E cs i = c := by
  obtain ⟨m, m1, m2⟩ := mem_getD hc
  have := H.1
  exact ⟨E.1 - 1 - m, by omega, by unfold pc; rw [show E.1 - 1 - (E.1 - 1 - m) = m by omega]; exact m2⟩
theorem pU_d (H : EI V h w w E π cs) {i : Nat} (hi : i < E.1) : pU V E π cs i (pc E cs i) = E.2.1.toInt := by
  have := H.1
  rw [← H.2.2.2.2.2.1]
  exact dt_set_same cs _ (by omega) _
theorem pU_0 (H : EI V h w w E π cs) {i k : Nat} (hi : i < E.1) (hk : k < E.1) (hne : k ≠ i) : pU V E π cs i (pc E cs k) = 0 := by
  have := H.1
  exact dt_set_dup cs _ _ _ (by omega) ⟨E.1 - 1 - k, by omega, by omega, rfl⟩
theorem pU_cell (H : EI V h w w E π cs) {i j : Nat} (hi : i < E.1) (hj : j ≤ w) : (E.2.2.2.2 i j).toInt = pU V E π cs i j := H.2.2.2.2.2.2.2.2.1 i j hi hj
theorem pU_ech (H : EI V h w w E π cs) {i c : Nat} (hi : i < E.1) (hc : c < pc E cs i) : pU V E π cs i c = 0 := by
  have := pc_lt H hi
  rw [← pU_cell H hi (by omega), H.2.2.2.2.2.2.2.2.2.2.2 i c hi hc]; rfl
theorem pU_sp (H : EI V h w w E π cs) {i : Nat} (hi : i < E.1) : Sp ((idx π E.1).map V) (pU V E π cs i) := by
  have := H.1
  exact sp_set cs _ _ (by omega)
theorem ei_d (H : EI V h w w E π cs) : E.2.1.toInt ≠ 0 := H.2.2.2.2.2.2.1
theorem ei_dt (H : EI V h w w E π cs) : dt cs ((idx π E.1).map V) ≠ 0 := by rw [H.2.2.2.2.2.1]; exact ei_d H
/-- what the rows span is spanned by the pivots' rows -/
theorem sp_exp (H : EI V h w w E π cs) {z : dV} (hz : Sp ((idx π E.1).map V) z) (j : Nat) : E.2.1.toInt * z j = sumI (fun i => z (pc E cs i) * pU V E π cs i j) E.1 := by
  have hs : ∀ k, k ≤ E.1 → Sp ((idx π E.1).map V) (fun j => sumI (fun i => z (pc E cs i) * pU V E π cs i j) k) := by
    intro k
    induction k with
    | zero => intro _ G hG _; exact Lf_0 hG
    | succ k ih =>
      intro hk
      have := sp_lin 1 (z (pc E cs k)) (ih (by omega)) (pU_sp H (show k < E.1 by omega))
      have e : (fun j => 1 * sumI (fun i => z (pc E cs i) * pU V E π cs i j) k + z (pc E cs k) * pU V E π cs k j) = fun j => sumI (fun i => z (pc E cs i) * pU V E π cs i j) (k + 1) := by
        funext j
        show 1 * sumI (fun i => z (pc E cs i) * pU V E π cs i j) k + z (pc E cs k) * pU V E π cs k j = sumI (fun i => z (pc E cs i) * pU V E π cs i j) k + z (pc E cs k) * pU V E π cs k j
        omega
      rw [e] at this; exact this
  have h1 := sp_lin E.2.1.toInt 0 hz hz
  refine sp_eq (ei_dt H) (x := fun j => E.2.1.toInt * z j) (y := fun j => sumI (fun i => z (pc E cs i) * pU V E π cs i j) E.1) ?_ (hs _ (Nat.le_refl _)) (fun q hq => ?_) j
  · have e : (fun j => E.2.1.toInt * z j + 0 * z j) = fun j => E.2.1.toInt * z j := by funext j; omega
    rw [e] at h1; exact h1
  · obtain ⟨m, m1, m2⟩ := pc_of H hq
    show E.2.1.toInt * z q = sumI (fun i => z (pc E cs i) * pU V E π cs i q) E.1
    rw [sumI_one m1 (fun i hi hne => by rw [← m2, pU_0 H hi m1 (fun e => hne e.symm)]; simp), m2]
    have := pU_d H m1
    rw [m2] at this
    rw [this, Int.mul_comm]
theorem sp_kill (H : EI V h w w E π cs) {G : dV → Int} (hG : Lf G) (hp : ∀ i, i < E.1 → G (pU V E π cs i) = 0) {z : dV} (hz : Sp ((idx π E.1).map V) z) : G z = 0 := by
  have h1 := hG z z E.2.1.toInt 0
  have e : (fun j => E.2.1.toInt * z j + 0 * z j) = fun j => sumI (fun i => z (pc E cs i) * pU V E π cs i j) E.1 := by
    funext j; rw [← sp_exp H hz j]; omega
  rw [e, Lf_sum hG] at h1
  rw [sumI_0 (fun i hi => by rw [hp i hi]; simp)] at h1
  have h2 : E.2.1.toInt * G z = 0 := by omega
  rcases Int.mul_eq_zero.1 h2 with a | a
  · exact absurd a (ei_d H)
  · exact a
theorem sp_mem {R : List dV} {r : dV} (hr : r ∈ R) : Sp R r := fun G _ h => h r hr
/-- a waiting row -/
theorem wait_0 (H : EI V h w w E π cs) {i c : Nat} (hi : E.1 ≤ i) (hih : i < h) (hc : c < w) : lft cs ((idx π E.1).map V) (V (π i)) c = 0 := by
  rw [← H.2.2.2.2.2.2.2.1 i c hi hih (by omega), H.2.2.2.2.2.2.2.2.2.2.1 i c hi hih hc]; rfl
theorem lft_split (cs : List Nat) (R : List dV) (v : dV) {G : dV → Int} (hG : Lf G) (hR : ∀ r ∈ R, G r = 0) : G (lft cs R v) = dt cs R * G v := lft_fun cs R v G hG hR
/-- what vanishes at pivots' rows, and behind, vanishes at all rows -/
theorem kills (H : EI V h w w E π cs) {G : dV → Int} (hG : Lf G) (hp : ∀ i, i < E.1 → G (pU V E π cs i) = 0) (hw : ∀ i, E.1 ≤ i → i < h → G (lft cs ((idx π E.1).map V) (V (π i))) = 0) : ∀ a, a < h → G (V a) = 0 := by
  intro a ha
  have hR : ∀ r ∈ (idx π E.1).map V, G r = 0 := fun r hr => sp_kill H hG hp (sp_mem hr)
  have hm : a ∈ idx π h := nodup_all (idx_nd H.2.2.2.1 h (Nat.le_refl _)) (fun q hq => by
    obtain ⟨i, i1, i2⟩ := idx_mem hq
    rw [i2]; exact H.2.2.1 i i1) (idx_len π h) ha
  obtain ⟨i, i1, i2⟩ := idx_mem hm
  by_cases c : i < E.1
  · exact hR _ (by rw [i2]; exact List.mem_map.2 ⟨π i, idx_in c, rfl⟩)
  · have h1 := hw i (by omega) i1
    rw [lft_split cs _ _ hG hR, H.2.2.2.2.2.1] at h1
    rw [i2]
    rcases Int.mul_eq_zero.1 h1 with x | x
    · exact absurd x (ei_d H)
    · exact x
theorem ev_wait (H : EI V h w w E π cs) {N : Nat → Int} {i : Nat} (hi : E.1 ≤ i) (hih : i < h) : ev (w + 1) N (lft cs ((idx π E.1).map V) (V (π i))) = lft cs ((idx π E.1).map V) (V (π i)) w * N w := by
  unfold ev
  exact sumI_one (by omega) (fun j hj hne => by rw [wait_0 H hi hih (by omega)]; simp)
/-- numbers that are 0 but at pivots, and at w -/
theorem ev_piv (H : EI V h w w E π cs) {N : Nat → Int} (hN : ∀ c, c < w → c ∉ cs → N c = 0) {i : Nat} (hi : i < E.1) : ev (w + 1) N (pU V E π cs i) = E.2.1.toInt * N (pc E cs i) + pU V E π cs i w * N w := by
  have hl := pc_lt H hi
  unfold ev
  rw [sumI_two (show pc E cs i < w + 1 by omega) (show w < w + 1 by omega) (by omega) (fun j hj h1 h2 => ?_), pU_d H hi]
  by_cases c : j ∈ cs
  · obtain ⟨k, k1, k2⟩ := pc_of H c
    rw [← k2, pU_0 H hi k1 (fun e => h1 (by rw [← k2, e]))]; simp
  · rw [hN j (by omega) c]; simp
/-- the kernel's row of a free column -/
theorem ev_free (H : EI V h w w E π cs) {N : Nat → Int} {f : Nat} (hf : f < w) (hfc : f ∉ cs) (hN : ∀ c, c < w → c ∉ cs → c ≠ f → N c = 0) (hw : N w = 0) {i : Nat} (hi : i < E.1) : ev (w + 1) N (pU V E π cs i) = E.2.1.toInt * N (pc E cs i) + pU V E π cs i f * N f := by
  have hl := pc_lt H hi
  have hm := pc_mem H hi
  unfold ev
  rw [sumI_two (show pc E cs i < w + 1 by omega) (show f < w + 1 by omega) (fun e => hfc (by rw [← e]; exact hm)) (fun j hj h1 h2 => ?_), pU_d H hi]
  by_cases e : j = w
  · rw [e, hw]; simp
  · by_cases c : j ∈ cs
    · obtain ⟨k, k1, k2⟩ := pc_of H c
      rw [← k2, pU_0 H hi k1 (fun e => h1 (by rw [← k2, e]))]; simp
    · rw [hN j (by omega) c h2]; simp
/-- pv tells of cs -/
theorem pv_cs (H : EI V h w w E π cs) {c : Nat} (hc : c < w) (hh : h ≤ 9) : (E.2.2.2.1 c = -1 ∧ c ∉ cs) ∨ ∃ i, i < E.1 ∧ E.2.2.2.1 c = nI i ∧ pc E cs i = c := H.2.2.2.2.2.2.2.2.2.1 c hc
end
