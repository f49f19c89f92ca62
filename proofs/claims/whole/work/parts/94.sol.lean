/-! ===== solution, base ===== -/
def vs (s n i j : Nat) (I : Nat → Int64) : Int64 := if sg32 (nI s) (nI i) (nI j) = 0 then 0 else (sg32 (nI s) (nI i) (nI j)).toInt64 * I (uk32 (nI s) (nI n) (nI i) (nI j)).toNatClampNeg
def ssum (s n q : Nat) (I : Nat → Int64) : Nat → Int64
  | 0 => 0
  | u + 1 => ssum s n q I u + (w32 s n q u).toInt64 * I u
theorem ssum_vs {s m n i j : Nat} (hs : s < 7) (hm : 1 ≤ m ∧ m ≤ 3) (hn : 1 ≤ n ∧ n ≤ 3) (hq : s < 4 ∨ m = n) (hi : i < m) (hj : j < n) (I : Nat → Int64) : ssum s n (i * n + j) I (pls s m n).length = vs s n i j I := by
  have h9 := mn_le9 hm.2 hn.2
  have hpl := pls_len (s := s) hm.2 hn.2
  have ktab := uk_tab s hs m (by omega) n (by omega) ⟨hm.1, hn.1, hq⟩ (i * n + j) (pl_lt hi hj)
  have hw : ∀ u, w32 s n (i * n + j) u = if sg32 (nI s) (nI i) (nI j) = 0 then 0 else if uk32 (nI s) (nI n) (nI i) (nI j) = nI u then sg32 (nI s) (nI i) (nI j) else 0 := fun u => by unfold w32; rw [(dv hj).1, (dv hj).2]
  rw [(dv hj).1, (dv hj).2] at ktab
  unfold vs
  by_cases c : sg32 (nI s) (nI i) (nI j) = 0
  · rw [if_pos c]
    have : ∀ k, ssum s n (i * n + j) I k = 0 := by
      intro k
      induction k with
      | zero => rfl
      | succ k ih => rw [ssum, ih, hw, if_pos c, z64, Int64.zero_mul]; rfl
    exact this _
  · obtain ⟨u0, h1, h2, -⟩ := ktab.resolve_left c
    rw [if_neg c, h2, nI_clamp (by omega)]
    have : ∀ k, k ≤ (pls s m n).length → ssum s n (i * n + j) I k = if u0 < k then (sg32 (nI s) (nI i) (nI j)).toInt64 * I u0 else 0 := by
      intro k
      induction k with
      | zero => intro _; rw [if_neg (by omega)]; rfl
      | succ k ih =>
        intro hk
        rw [ssum, ih (by omega), hw, if_neg c, h2]
        by_cases d : u0 = k
        · rw [if_neg (by omega), if_pos (by rw [d]), if_pos (by omega), d, Int64.zero_add]
        · rw [if_neg (show ¬ nI u0 = nI k by rw [nI_eq (by omega) (by omega)]; exact d), z64, Int64.zero_mul, Int64.add_zero]
          by_cases e : u0 < k
          · rw [if_pos e, if_pos (by omega)]
          · rw [if_neg e, if_neg (by omega)]
    rw [this _ (Nat.le_refl _), if_pos h1]
def isol (E : eT) (w u : Nat) : Int64 := if E.2.2.2.1 u < 0 then 0 else E.2.2.2.2 (E.2.2.2.1 u).toNatClampNeg w
def ibas (E : eT) (f u : Nat) : Int64 := if E.2.2.2.1 u < 0 then (if u = f then E.2.1 else 0) else - E.2.2.2.2 (E.2.2.2.1 u).toNatClampNeg f
theorem pv_of {V : Nat → dV} {h w : Nat} {E : eT} {π : Nat → Nat} {cs : List Nat} (H : EI V h w w E π cs) {u : Nat} (hu : u < w) : E.2.2.2.1 u = -1 ∨ ∃ i, i < E.1 ∧ E.2.2.2.1 u = nI i := by
  rcases H.2.2.2.2.2.2.2.2.2.1 u hu with e | ⟨i, e1, e2, e3⟩
  · exact Or.inl e.1
  · exact Or.inr ⟨i, e1, e2⟩
theorem x_isPiv {T : w_S} {h w : Nat} {E : eT} (a : at19 T h w w E) (hw : w < 10) {u : Nat} (hu : u < w) : fX1_isPivot_19 T (nI u) = some (if E.2.2.2.1 u < 0 then 0 else 1) := by
  obtain ⟨a13, a14, a15, aL, a16, aA, aB⟩ := a
  rw [fX1_isPivot_19, a14, if_neg (nI_pos (by omega)), if_neg (nI_ge hu (by omega)), show (10 : Int32) = nI 10 from rfl, if_neg (nI_ge (by omega) (by omega)), if_pos (nI_inN (show u < 10 by omega) (by decide)), nI_clamp (by omega), aA u hu, some_ite]
theorem x_isPiv0 {T : w_S} {h w : Nat} {E : eT} (a : at19 T h w w E) (hw : w < 10) (x : Int32) (hx : ¬ ∃ u, u < w ∧ x = nI u) : fX1_isPivot_19 T x = some 0 := by
  obtain ⟨a13, a14, a15, aL, a16, aA, aB⟩ := a
  rw [fX1_isPivot_19, a14]
  by_cases c : x < 0
  · rw [if_pos c]
  · obtain ⟨u, u1, u2⟩ := nI_of c
    rw [if_neg c]
    by_cases d : nI w ≤ x
    · rw [if_pos d]
    · exact absurd ⟨u, by rw [u2, nI_leI (by omega) (by omega)] at d; omega, u2⟩ hx
theorem x_sol19 {T : w_S} {h w : Nat} {E : eT} (a : at19 T h w w E) (hh : h ≤ 9) (hw : w < 10) (hr : E.1 ≤ h) (hpv : ∀ u, u < w → E.2.2.2.1 u = -1 ∨ ∃ i, i < E.1 ∧ E.2.2.2.1 u = nI i) (x : Int32) : ∃ z, fX1_solutionAbove_19 T x = some z ∧ ∀ u, u < w → x = nI u → z = isol E w u := by
  rw [fX1_solutionAbove_19]
  by_cases c : ∃ u, u < w ∧ x = nI u
  · obtain ⟨u, hu, rfl⟩ := c
    have inj : ∀ v, v < w → nI u = nI v → u = v := fun v hv e => (nI_eq (by omega) (by omega)).1 e
    rw [x_isPiv a hw hu, Option.bind_some]
    obtain ⟨a13, a14, a15, aL, a16, aA, aB⟩ := a
    rcases hpv u hu with e | ⟨i, e1, e2⟩
    · rw [e, if_pos (by decide)]
      exact ⟨0, rfl, fun v hv ev => by rw [← inj v hv ev]; unfold isol; rw [e, if_pos (by decide)]⟩
    · rw [e2, if_neg (nI_pos (by omega)), if_neg n10, if_pos (nI_inN (show u < 10 by omega) (by decide)), nI_clamp (by omega), aA u hu, e2, a14, x_cell T (by omega) (by omega), Option.bind_some]
      exact ⟨_, rfl, fun v hv ev => by rw [← inj v hv ev]; unfold isol; rw [e2, if_neg (nI_pos (by omega)), nI_clamp (by omega), aB i w (by omega) (Nat.le_refl _)]⟩
  · rw [x_isPiv0 a hw x c, Option.bind_some, if_pos rfl]
    exact ⟨0, rfl, fun u hu e => absurd ⟨u, hu, e⟩ c⟩
theorem x_bas19 {T : w_S} {h w : Nat} {E : eT} (a : at19 T h w w E) (hh : h ≤ 9) (hw : w < 10) (hr : E.1 ≤ h) (hpv : ∀ u, u < w → E.2.2.2.1 u = -1 ∨ ∃ i, i < E.1 ∧ E.2.2.2.1 u = nI i) {f : Nat} (hf : f < w) (hff : E.2.2.2.1 f < 0) (x : Int32) : ∃ z, fX1_baseAbove_19 T (nI f) x = some z ∧ ∀ u, u < w → x = nI u → z = ibas E f u := by
  rw [fX1_baseAbove_19]
  by_cases c0 : x = nI f
  · rw [if_pos c0, a.2.2.2.1]
    refine ⟨_, rfl, fun u hu e => ?_⟩
    have : f = u := (nI_eq (by omega) (by omega)).1 (by rw [← c0, e])
    unfold ibas; rw [← this, if_pos hff, if_pos rfl]
  · rw [if_neg c0]
    by_cases c : ∃ u, u < w ∧ x = nI u
    · obtain ⟨u, hu, rfl⟩ := c
      have inj : ∀ v, v < w → nI u = nI v → u = v := fun v hv e => (nI_eq (by omega) (by omega)).1 e
      have ufn : u ≠ f := fun e => c0 (by rw [e])
      rw [x_isPiv a hw hu, Option.bind_some]
      obtain ⟨a13, a14, a15, aL, a16, aA, aB⟩ := a
      rcases hpv u hu with e | ⟨i, e1, e2⟩
      · rw [e, if_pos (by decide)]
        exact ⟨0, rfl, fun v hv ev => by rw [← inj v hv ev]; unfold ibas; rw [e, if_pos (by decide), if_neg ufn]⟩
      · rw [e2, if_neg (nI_pos (by omega)), if_neg n10, if_pos (nI_inN (show u < 10 by omega) (by decide)), nI_clamp (by omega), aA u hu, e2, x_cell T (by omega) (by omega), Option.bind_some]
        exact ⟨_, rfl, fun v hv ev => by rw [← inj v hv ev]; unfold ibas; rw [e2, if_neg (nI_pos (by omega)), nI_clamp (by omega), aB i f (by omega) (by omega)]⟩
    · rw [x_isPiv0 a hw x c, Option.bind_some, if_pos rfl]
      exact ⟨0, rfl, fun u hu e => absurd ⟨u, hu, e⟩ c⟩
theorem x_vs {s m n i j : Nat} (hs : s < 7) (hm : 1 ≤ m ∧ m ≤ 3) (hn : 1 ≤ n ∧ n ≤ 3) (hq : s < 4 ∨ m = n) (hi : i < m) (hj : j < n) {I : Nat → Int64} {z : Int64} (hz : ∀ u, u < (pls s m n).length → uk32 (nI s) (nI n) (nI i) (nI j) = nI u → z = I u) : (sg32 (nI s) (nI i) (nI j)).toInt64 * z = vs s n i j I := by
  have hpl := pls_len (s := s) hm.2 hn.2
  have ktab := uk_tab s hs m (by omega) n (by omega) ⟨hm.1, hn.1, hq⟩ (i * n + j) (pl_lt hi hj)
  rw [(dv hj).1, (dv hj).2] at ktab
  unfold vs
  by_cases c : sg32 (nI s) (nI i) (nI j) = 0
  · rw [if_pos c, c, z64, Int64.zero_mul]
  · obtain ⟨u0, h1, h2, -⟩ := ktab.resolve_left c
    rw [if_neg c, hz u0 h1 h2, h2, nI_clamp (by omega)]
theorem x_solA {T : w_S} {s m n i j h : Nat} {E : eT} (hs : s < 7) (hm : 1 ≤ m ∧ m ≤ 3) (hn : 1 ≤ n ∧ n ≤ 3) (hq : s < 4 ∨ m = n) (hi : i < m) (hj : j < n) (h1 : gI T 1 = nI n) (a : at19 T h (pls s m n).length (pls s m n).length E) (hh : h ≤ 9) (hr : E.1 ≤ h) (hpv : ∀ u, u < (pls s m n).length → E.2.2.2.1 u = -1 ∨ ∃ i, i < E.1 ∧ E.2.2.2.1 u = nI i) : fX6_solutionAbove T (nI s) (nI i) (nI j) = some (vs s n i j (isol E (pls s m n).length)) := by
  have hpl := pls_len (s := s) hm.2 hn.2
  obtain ⟨z, z1, z2⟩ := x_sol19 a hh (by omega) hr hpv (uk32 (nI s) (nI n) (nI i) (nI j))
  rw [fX6_solutionAbove, x_signAt, Option.bind_some, x_unknownAt, h1, Option.bind_some, z1, Option.bind_some, x_vs hs hm hn hq hi hj z2]
/-- the model's sum -/
theorem m_ssum {T : w_S} {s m n i j h : Nat} {E : eT} (hs : s < 7) (hm : 1 ≤ m ∧ m ≤ 3) (hn : 1 ≤ n ∧ n ≤ 3) (hq : s < 4 ∨ m = n) (hi : i < m) (hj : j < n) (h1 : gI T 1 = nI n) (a : atM T h (pls s m n).length (pls s m n).length E) (hw6 : (pls s m n).length < 8) (hh : h ≤ 9) (hr : E.1 ≤ h) (hpv : ∀ u, u < (pls s m n).length → E.2.2.2.1 u = -1 ∨ ∃ i, i < E.1 ∧ E.2.2.2.1 u = nI i) (h8 : ∀ u, u < (pls s m n).length → gA T 8 u = nI ((pls s m n).getD u 0)) (col : Int32) (I : Nat → Int64) (hI : (col = -1 ∧ I = isol E (pls s m n).length) ∨ ∃ f, f < (pls s m n).length ∧ col = nI f ∧ I = ibas E f) : fX7_shapedSum T (nI s) (nI i) (nI j) col = some (vs s n i j I) := by
  have hpl := pls_len (s := s) hm.2 hn.2
  have h9 := mn_le9 hm.2 hn.2
  obtain ⟨a13, a14, a15, aL, a16, aA, aB⟩ := a
  have n0 : ¬ nI n = 0 := nI_ne0 (by omega) (by omega)
  rw [← ssum_vs hs hm hn hq hi hj I, fX7_shapedSum]
  obtain ⟨t, e1, rfl⟩ := loop_up (fun q (v : Int64) k => fX7_shapedSum_L6 T (nI s) (nI i) (nI j) col q v k) (fun k v => v = ssum s n (i * n + j) I k) (fun t => t = ssum s n (i * n + j) I (pls s m n).length) (pls s m n).length
    (fun q u v hu hv => ⟨v + (w32 s n (i * n + j) u).toInt64 * I u, by rw [hv]; rfl, by
      have hP := (pl_tab s hs m (by omega) n (by omega) ⟨hm.1, hn.1, hq⟩ u hu).1
      have hsh := sh_tab s hs m (by omega) n (by omega) ⟨hm.1, hn.1, hq⟩ (i * n + j) (pl_lt hi hj) u hu
      rw [(dv hj).1, (dv hj).2] at hsh
      have hu9 : ¬ (nI u < 0 ∨ 9 ≤ u) := fun e => by
        rcases e with e | e
        · exact nI_pos (by omega) e
        · omega
      show fX7_shapedSum_L6 T (nI s) (nI i) (nI j) col (q + 1) v (nI u) = _
      rw [fX7_shapedSum_L6, a14, h1, if_neg (nI_ge hu (by omega)), if_pos (nI_inN (show u < 9 by omega) (by decide)), if_pos n0, if_pos (nI_inN (show u < 9 by omega) (by decide)), if_pos n0, nI_clamp (show u < 2 ^ 31 by omega), h8 u hu, nI_mod (by omega) (by omega), nI_div (by omega) (by omega), hsh, Option.bind_some, if_pos hu9, nI_1, aA u hu]
      have hq2 : (if 0 ≤ E.2.2.2.1 u then (if 0 ≤ col then (if ¬ (nI u < 0 ∨ 9 ≤ u) then (if ¬ (((8 * (E.2.2.2.1 u)) + col) < 0 ∨ 72 ≤ ((8 * (E.2.2.2.1 u)) + col).toNatClampNeg) then some (-((gB T 0) ((8 * (E.2.2.2.1 u)) + col).toNatClampNeg)) else none) else none) else (if ¬ (nI u < 0 ∨ 9 ≤ u) then (if ¬ (((8 * (E.2.2.2.1 u)) + nI (pls s m n).length) < 0 ∨ 72 ≤ ((8 * (E.2.2.2.1 u)) + nI (pls s m n).length).toNatClampNeg) then some ((gB T 0) ((8 * (E.2.2.2.1 u)) + nI (pls s m n).length).toNatClampNeg) else none) else none)) else (if nI u = col then some (gL T 0) else some 0)) = some (I u) := by
        rcases hpv u hu with e | ⟨r, e2, e3⟩
        · rw [e, if_neg (by decide)]
          rcases hI with ⟨rfl, rfl⟩ | ⟨f, f1, rfl, rfl⟩
          · rw [if_neg (show ¬ nI u = -1 by rw [nI_neg1, i_eq, nI_toInt (by omega)]; rw [← nI_neg1, tm_1]; omega)]
            unfold isol; rw [e, if_pos (by decide)]
          · unfold ibas
            rw [e, if_pos (show (-1 : Int32) < 0 by decide), aL, some_ite]
            by_cases d : u = f
            · rw [if_pos (by rw [d]), if_pos d]
            · rw [if_neg (by rw [nI_eq (by omega) (by omega)]; exact d), if_neg d]
        · rw [e3, if_pos (nI_nn0 _ (by omega)), ix8]
          rcases hI with ⟨rfl, rfl⟩ | ⟨f, f1, rfl, rfl⟩
          · rw [if_neg (show ¬ (0 : Int32) ≤ -1 by decide), if_pos hu9, if_pos (nI_inN (show 8 * r + (pls s m n).length < 72 by omega) (by decide)), nI_clamp (by omega), aB r _ (by omega) (Nat.le_refl _)]
            unfold isol; rw [e3, if_neg (nI_pos (by omega)), nI_clamp (by omega)]
          · rw [if_pos (nI_nn0 _ (by omega)), ix8, if_pos hu9, if_pos (nI_inN (show 8 * r + f < 72 by omega) (by decide)), nI_clamp (by omega), aB r f (by omega) (by omega)]
            unfold ibas; rw [e3, if_neg (nI_pos (by omega)), nI_clamp (by omega)]
      rw [hq2, Option.bind_some]⟩)
    (fun q v hv => ⟨v, by
      show fX7_shapedSum_L6 T (nI s) (nI i) (nI j) col (q + 1) v (nI (pls s m n).length) = _
      rw [fX7_shapedSum_L6, a14, if_pos (Int32.le_refl _)], hv⟩) 256 0 0 (by omega) (by omega) rfl
  have e1' : fX7_shapedSum_L6 T (nI s) (nI i) (nI j) col 256 0 0 = _ := e1
  rw [e1']; rfl
theorem sg_3 (s i j : Int32) : sg32 s i j = 0 ∨ sg32 s i j = 1 ∨ sg32 s i j = -1 := by
  unfold sg32
  split
  · split
    · exact Or.inr (Or.inl rfl)
    · exact Or.inl rfl
  · split
    · split
      · exact Or.inl rfl
      · split
        · exact Or.inr (Or.inr rfl)
        · exact Or.inr (Or.inl rfl)
    · exact Or.inr (Or.inl rfl)
theorem vs_abs {s n i j : Nat} {I : Nat → Int64} (hI : ∀ u, (I u).toInt.natAbs < 9223372036854775808) : (vs s n i j I).toInt.natAbs < 9223372036854775808 := by
  unfold vs
  split
  · decide
  · have h1 := hI (uk32 (nI s) (nI n) (nI i) (nI j)).toNatClampNeg
    generalize I (uk32 (nI s) (nI n) (nI i) (nI j)).toNatClampNeg = z at *
    rcases sg_3 (nI s) (nI i) (nI j) with e | e | e
    · rw [e, z64, Int64.zero_mul]; decide
    · rw [e, show (1 : Int32).toInt64 = 1 from rfl, Int64.one_mul]; exact h1
    · rw [e, show (-1 : Int32).toInt64 = -1 from rfl]
      rw [fb_mulL (by rw [tn_1]; omega) (by rw [tn_1]; omega), tn_1]; omega
theorem isol_abs {E : eT} {w : Nat} (hpv : ∀ u, u < w → E.2.2.2.1 u = -1 ∨ ∃ i, i < E.1 ∧ E.2.2.2.1 u = nI i) (hr : E.1 ≤ 9) (hc : ∀ i j, i < E.1 → j ≤ w → (E.2.2.2.2 i j).toInt.natAbs < 9223372036854775808) {u : Nat} (hu : u < w) : (isol E w u).toInt.natAbs < 9223372036854775808 := by
  unfold isol
  rcases hpv u hu with e | ⟨i, e1, e2⟩
  · rw [e, if_pos (by decide)]; decide
  · rw [e2, if_neg (nI_pos (by omega)), nI_clamp (by omega)]; exact hc i w e1 (Nat.le_refl _)
theorem ibas_abs {E : eT} {w : Nat} (hpv : ∀ u, u < w → E.2.2.2.1 u = -1 ∨ ∃ i, i < E.1 ∧ E.2.2.2.1 u = nI i) (hr : E.1 ≤ 9) (hd : E.2.1.toInt.natAbs < 9223372036854775808) (hc : ∀ i j, i < E.1 → j ≤ w → (E.2.2.2.2 i j).toInt.natAbs < 9223372036854775808) {f u : Nat} (hf : f < w) (hu : u < w) : (ibas E f u).toInt.natAbs < 9223372036854775808 := by
  unfold ibas
  rcases hpv u hu with e | ⟨i, e1, e2⟩
  · rw [e, if_pos (by decide)]
    split
    · exact hd
    · decide
  · rw [e2, if_neg (nI_pos (by omega)), nI_clamp (by omega)]
    have := hc i f e1 (by omega)
    rw [negL (by omega)]; omega
theorem vs_abs' {s m n i j : Nat} (hs : s < 7) (hm : 1 ≤ m ∧ m ≤ 3) (hn : 1 ≤ n ∧ n ≤ 3) (hq : s < 4 ∨ m = n) (hi : i < m) (hj : j < n) {I : Nat → Int64} (hI : ∀ u, u < (pls s m n).length → (I u).toInt.natAbs < 9223372036854775808) : (vs s n i j I).toInt.natAbs < 9223372036854775808 := by
  have hpl := pls_len (s := s) hm.2 hn.2
  have e : vs s n i j I = vs s n i j (fun u => if u < (pls s m n).length then I u else 0) := by
    rw [← ssum_vs hs hm hn hq hi hj, ← ssum_vs hs hm hn hq hi hj]
    have : ∀ k, k ≤ (pls s m n).length → ssum s n (i * n + j) I k = ssum s n (i * n + j) (fun u => if u < (pls s m n).length then I u else 0) k := by
      intro k
      induction k with
      | zero => intro _; rfl
      | succ k ih => intro hk; rw [ssum, ssum, ih (by omega), if_pos (show k < _ by omega)]
    exact this _ (Nat.le_refl _)
  rw [e]
  refine vs_abs (fun u => ?_)
  split
  · rename_i h; exact hI u h
  · decide
