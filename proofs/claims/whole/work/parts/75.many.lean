/-! ===== small numbers ===== -/
theorem nI_mul {a b : Nat} : nI a * nI b = nI (a * b) := (Int32.ofNat_mul a b).symm
theorem nI_div {a b : Nat} (ha : a < 2 ^ 31) (hb : b < 2 ^ 31) : nI a / nI b = nI (a / b) := by
  have h1 : a / b < 2 ^ 31 := Nat.lt_of_le_of_lt (Nat.div_le_self a b) ha
  rw [i_eq, Int32.toInt_div, nI_toInt ha, nI_toInt hb, nI_toInt h1, ← Int.ofNat_tdiv, fb_bmod (by generalize a / b = c at *; omega) (by generalize a / b = c at *; omega)]
theorem nI_subN {a b : Nat} (h : b ≤ a) (ha : a < 2 ^ 31) : nI a - nI b = nI (a - b) := by
  rw [i_eq, fb_subI (by rw [nI_toInt ha, nI_toInt (by omega)]; omega) (by rw [nI_toInt ha, nI_toInt (by omega)]; omega), nI_toInt ha, nI_toInt (by omega), nI_toInt (by omega)]
  omega
theorem nI_mod {a b : Nat} (ha : a < 2 ^ 31) (hb : b < 2 ^ 31) : nI a - nI a / nI b * nI b = nI (a % b) := by
  rw [nI_div ha hb, nI_mul, nI_subN (Nat.div_mul_le_self a b) ha]
  congr 1
  have := Nat.mod_add_div a b
  rw [Nat.mul_comm] at this
  omega
theorem kind_nI {k : Int32} (h : 0 ≤ k.toInt ∧ k.toInt ≤ 6) : ∃ s : Nat, s < 7 ∧ k = nI s := by
  obtain ⟨s, h1, h2, h3⟩ := nI_nn h.1
  exact ⟨s, by omega, h2⟩
theorem side_nI {k : Int32} (h : 1 ≤ k.toInt ∧ k.toInt ≤ 3) : ∃ s : Nat, (1 ≤ s ∧ s ≤ 3) ∧ k = nI s := by
  obtain ⟨s, h1, h2, h3⟩ := nI_nn (x := k) (by omega)
  exact ⟨s, by omega, h2⟩
/-! ===== unknowns ===== -/
def isU (s i j : Nat) : Bool := if s = 4 then i == j else if s = 5 then decide (i ≤ j) else if s = 6 then decide (i < j) else true
/-- the places of the unknowns, in their order -/
def pls (s m n : Nat) : List Nat := (List.range (m * n)).filter (fun p => isU s (p / n) (p % n))
theorem m_isUnknown_tab : ∀ s, s < 7 → ∀ i, i < 3 → ∀ j, j < 3 → fX7_isUnknown (nI s) (nI i) (nI j) = some (if isU s i j then 1 else 0) := by decide +kernel
theorem div_lt3 {p m n : Nat} (h : p < m * n) (hm : m ≤ 3) : p / n < 3 := by
  have hn : 0 < n := Nat.pos_of_ne_zero (fun e => by rw [e] at h; omega)
  have : p / n < m := by rw [Nat.div_lt_iff_lt_mul hn]; exact h
  omega
theorem mod_lt3 {p m n : Nat} (h : p < m * n) (hn : n ≤ 3) : p % n < 3 := by
  have hn' : 0 < n := Nat.pos_of_ne_zero (fun e => by rw [e] at h; omega)
  have : p % n < n := Nat.mod_lt p hn'
  omega
theorem mn_le9 {m n : Nat} (hm : m ≤ 3) (hn : n ≤ 3) : m * n ≤ 9 := Nat.mul_le_mul hm hn
theorem flen_le (P : Nat → Bool) (k : Nat) : ((List.range k).filter P).length ≤ k := by
  have := List.length_filter_le P (List.range k)
  rw [List.length_range] at this; exact this
theorem flt_succ (P : Nat → Bool) (k : Nat) : (List.range (k + 1)).filter P = (List.range k).filter P ++ (if P k then [k] else []) := by
  rw [List.range_succ, List.filter_append]
  congr 1
  by_cases h : P k <;> simp [h]
theorem m_unknowns (S : w_S) {s m n : Nat} (hs : s < 7) (hm : 1 ≤ m ∧ m ≤ 3) (hn : 1 ≤ n ∧ n ≤ 3) (h0 : gI S 0 = nI m) (h1 : gI S 1 = nI n) : ∃ f, fX7_unknownsOf S (nI s) = some (nI (pls s m n).length, sA S 8 f) ∧ ∀ u, u < (pls s m n).length → f u = nI ((pls s m n).getD u 0) := by
  have h9 := mn_le9 hm.2 hn.2
  rw [fX7_unknownsOf]
  obtain ⟨t, e1, f, rfl, e2⟩ := loop_up (fun k (z : (Nat → Int32) × Int32) i => fX7_unknownsOf_L4 (nI s) k (sA S 8 z.1) z.2 i) (fun k z => z.2 = nI ((List.range k).filter (fun p => isU s (p / n) (p % n))).length ∧ ∀ u, u < ((List.range k).filter (fun p => isU s (p / n) (p % n))).length → z.1 u = nI (((List.range k).filter (fun p => isU s (p / n) (p % n))).getD u 0)) (fun t => ∃ f, t = (sA S 8 f, nI (pls s m n).length) ∧ ∀ u, u < (pls s m n).length → f u = nI ((pls s m n).getD u 0)) (m * n)
    (fun q k z hk hI => by
      obtain ⟨i1, i2⟩ := hI
      have hl := flen_le (fun p => isU s (p / n) (p % n)) k
      have hU := m_isUnknown_tab s hs (k / n) (div_lt3 hk hm.2) (k % n) (mod_lt3 hk hn.2)
      have hx : fX7_unknownsOf_L4 (nI s) (q + 1) (sA S 8 z.1) z.2 (nI k) = if isU s (k / n) (k % n) then fX7_unknownsOf_L4 (nI s) q (sA S 8 (upd z.1 ((List.range k).filter (fun p => isU s (p / n) (p % n))).length (nI k))) (z.2 + 1) (nI k + 1) else fX7_unknownsOf_L4 (nI s) q (sA S 8 z.1) z.2 (nI k + 1) := by
        rw [fX7_unknownsOf_L4]
        simp only [gI_sA, h0, h1]
        rw [nI_mul, if_neg (by rw [nI_leI (by omega) (by omega)]; omega), if_pos (nI_ne0 (by omega) (by omega)), if_pos (nI_ne0 (by omega) (by omega)), nI_mod (by omega) (by omega), nI_div (by omega) (by omega), hU, Option.bind_some]
        by_cases c : isU s (k / n) (k % n) = true
        · rw [if_pos c, if_neg (by decide), if_pos c, i1, if_pos (nI_inN (show _ < 9 by omega) (by decide)), sA_sA, gA_sA, if_pos rfl, nI_clamp (by omega)]
        · rw [if_neg c, if_pos rfl, if_neg c]
      show ∃ z', _ ∧ fX7_unknownsOf_L4 (nI s) (q + 1) (sA S 8 z.1) z.2 (nI k) = _
      rw [hx]
      by_cases c : isU s (k / n) (k % n) = true
      · refine ⟨(upd z.1 ((List.range k).filter (fun p => isU s (p / n) (p % n))).length (nI k), z.2 + 1), ⟨?_, ?_⟩, ?_⟩
        · rw [flt_succ, if_pos c, List.length_append, List.length_singleton, i1, nI_1]
        · intro u hu
          rw [flt_succ, if_pos c] at hu ⊢
          rw [List.length_append, List.length_singleton] at hu
          show upd z.1 _ _ u = _
          rw [upd_ap]
          by_cases e : u = ((List.range k).filter (fun p => isU s (p / n) (p % n))).length
          · rw [if_pos e, e, List.getD_eq_getElem?_getD, List.getElem?_append_right (Nat.le_refl _), Nat.sub_self]; rfl
          · rw [if_neg e, i2 u (by omega), List.getD_eq_getElem?_getD, List.getD_eq_getElem?_getD, List.getElem?_append_left (by omega)]
        · rw [if_pos c, nI_1]
      · refine ⟨z, ⟨?_, ?_⟩, ?_⟩
        · rw [flt_succ, if_neg c, List.append_nil]; exact i1
        · rw [flt_succ, if_neg c, List.append_nil]; exact i2
        · rw [if_neg c, nI_1])
    (fun q z hI => ⟨(sA S 8 z.1, z.2), by
      show fX7_unknownsOf_L4 (nI s) (q + 1) (sA S 8 z.1) z.2 (nI (m * n)) = _
      rw [fX7_unknownsOf_L4]
      simp only [gI_sA, h0, h1]
      rw [nI_mul, if_pos (Int32.le_refl _)], z.1, by rw [hI.1]; rfl, hI.2⟩) 256 0 (gA S 8, 0) (by omega) (by omega) ⟨rfl, fun u hu => absurd hu (Nat.not_lt_zero _)⟩
  have e1' : fX7_unknownsOf_L4 (nI s) 256 S 0 0 = some (sA S 8 f, nI (pls s m n).length) := by
    have := e1
    simp only [sA_self] at this
    exact this
  rw [e1']
  exact ⟨f, rfl, e2⟩
def un32 (k m n : Int32) : Int32 := if k = 4 then m else if k = 5 then m * (m + 1) / 2 else if k = 6 then m * (m - 1) / 2 else m * n
theorem un_tab : ∀ s, s < 7 → ∀ m, m < 4 → ∀ n, n < 4 → (1 ≤ m ∧ 1 ≤ n ∧ (s < 4 ∨ m = n)) → un32 (nI s) (nI m) (nI n) = nI (pls s m n).length := by decide +kernel
theorem x_unknowns (S : w_S) {s m n : Nat} (hs : s < 7) (hm : 1 ≤ m ∧ m ≤ 3) (hn : 1 ≤ n ∧ n ≤ 3) (h0 : gI S 0 = nI m) (h1 : gI S 1 = nI n) (hq : 4 ≤ s → m = n) : fX4_unknowns_1 S (nI s) = some (nI (pls s m n).length) := by
  rw [← un_tab s hs m (by omega) n (by omega) ⟨hm.1, hn.1, by omega⟩, fX4_unknowns_1, h0, h1]
  unfold un32
  simp only [some_ite]
theorem likeN {s m n : Nat} (hs : s < 7) (hm : m ≤ 3) (hn : n ≤ 3) : (nI s = 0 ∨ nI s = 1 ∨ nI m = nI n) ↔ (s ≤ 1 ∨ m = n) := by
  rw [show (0 : Int32) = nI 0 from rfl, show (1 : Int32) = nI 1 from rfl, nI_eq (by omega) (by omega), nI_eq (by omega) (by omega), nI_eq (by omega) (by omega)]
  omega
theorem pls_len {s m n : Nat} (hm : m ≤ 3) (hn : n ≤ 3) : (pls s m n).length ≤ 9 := Nat.le_trans (flen_le _ _) (mn_le9 hm hn)
theorem x_fits (S : w_S) {s m n : Nat} (hs : s < 7) (hm : 1 ≤ m ∧ m ≤ 3) (hn : 1 ≤ n ∧ n ≤ 3) (h0 : gI S 0 = nI m) (h1 : gI S 1 = nI n) : fX4_fits_1 S (nI s) = some (if (s ≤ 1 ∨ m = n) ∧ (pls s m n).length ≤ 6 then 1 else 0) := by
  have hp := pls_len (s := s) hm.2 hn.2
  rw [fX4_fits_1, x_hasRight, h0, h1]
  by_cases c : s ≤ 1 ∨ m = n
  · rw [if_pos ((likeN hs hm.2 hn.2).2 c), Option.bind_some, if_neg (by decide), x_unknowns S hs hm hn h0 h1 (by omega), Option.bind_some, show (6 : Int32) = nI 6 from rfl]
    by_cases d : (pls s m n).length ≤ 6
    · rw [if_neg (nI_nlt (by omega) (by omega)), if_pos ⟨c, d⟩]
    · rw [if_pos (nI_lt (by omega) (by omega)), if_neg (fun e => d e.2)]
  · rw [if_neg (fun e => c ((likeN hs hm.2 hn.2).1 e)), Option.bind_some, if_pos rfl, if_neg (fun e => c e.1)]
theorem m_isFit (S : w_S) {s m n : Nat} (hs : s < 7) (hm : 1 ≤ m ∧ m ≤ 3) (hn : 1 ≤ n ∧ n ≤ 3) (h0 : gI S 0 = nI m) (h1 : gI S 1 = nI n) : ∃ f, fX7_isFit S (nI s) = some ((if (s ≤ 1 ∨ m = n) ∧ (pls s m n).length ≤ 6 then 1 else 0), sA S 8 f) := by
  have hp := pls_len (s := s) hm.2 hn.2
  rw [fX7_isFit, m_isLike S (by rw [nI_toInt (by omega)]; omega), h0, h1]
  by_cases c : s ≤ 1 ∨ m = n
  · obtain ⟨f, f1, -⟩ := m_unknowns S hs hm hn h0 h1
    rw [if_pos ((likeN hs hm.2 hn.2).2 c), Option.bind_some, if_neg (by decide), f1, Option.bind_some, show (6 : Int32) = nI 6 from rfl]
    refine ⟨f, ?_⟩
    by_cases d : (pls s m n).length ≤ 6
    · rw [if_neg (nI_nlt (by omega) (by omega)), if_pos ⟨c, d⟩]
    · rw [if_pos (nI_lt (by omega) (by omega)), if_neg (fun e => d e.2)]
  · rw [if_neg (fun e => c ((likeN hs hm.2 hn.2).1 e)), Option.bind_some, if_pos rfl, if_neg (fun e => c e.1)]
    exact ⟨gA S 8, by rw [sA_self]⟩
theorem frM_8 (M : w_S) (f : Nat → Int32) : frM M (sA M 8 f) := ⟨fun _ _ => rfl, fun k _ h => by rw [gA_sA, if_neg (by omega)], rfl⟩
theorem Rel_8 {X M : w_S} (h : Rel X M) (f : Nat → Int32) : Rel X (sA M 8 f) := Rel_S h (frX_rf X) (frM_8 M f)
/-! ===== the sets of fitting kinds, of splits ===== -/
theorem fit_set {X M : w_S} (h : Rel X M) : ∃ v f, fX4_fittingSet_1 X = some v ∧ fX7_fitting M = some (v, sA M 8 f) := by
  obtain ⟨⟨e1, e2, e3, e4⟩, hm, hn, hq, hT, h6, h7, o4, -⟩ := nw_of h.1
  obtain ⟨m, hm', em⟩ := side_nI hm
  obtain ⟨n, hn', en⟩ := side_nI hn
  obtain ⟨N, hN, eN, eN2⟩ := nI_nn hq.1
  obtain ⟨t, t', z1, z2, z3, f, z4⟩ := loop2 (fun k (v : Int32) i => fX4_fittingSet_1_L4 X k v i) (fun k (z : w_S × Int32) i => fX7_fitting_L4 k z.1 z.2 i) (fun k v z => v = z.2 ∧ ∃ f, z.1 = sA M 8 f) (fun v z => v = z.2 ∧ ∃ f, z.1 = sA M 8 f) N
    (fun q q' k v z hk hI => by
      obtain ⟨i1, f, i2⟩ := hI
      obtain ⟨s, hs, es⟩ := kind_nI (o4 k (by omega))
      obtain ⟨g, g1⟩ := m_isFit (sA M 8 f) hs hm' hn' (by show gI M 0 = _; rw [e1, em]) (by show gI M 1 = _; rw [e2, en])
      have x1 : fX4_fittingSet_1_L4 X (q + 1) v (nI k) = if (s ≤ 1 ∨ m = n) ∧ (pls s m n).length ≤ 6 then fX4_fittingSet_1_L4 X q (v ||| (1 <<< ((nI k) &&& 31))) (nI k + 1) else fX4_fittingSet_1_L4 X q (v ||| 0) (nI k + 1) := by
        rw [fX4_fittingSet_1_L4, if_neg (by rw [eN, nI_leI (by omega) (by omega)]; omega), x_kindOf X hq.2 (by rw [nI_toInt (by omega)]; omega), Option.bind_some, nI_toInt (by omega), show (k : Int).toNat = k from rfl, es, x_fits X hs hm' hn' em en, Option.bind_some]
        split
        · rw [if_neg (by decide)]
        · rw [if_pos rfl]
      have x2 : fX7_fitting_L4 (q' + 1) (sA M 8 f) v (nI k) = if (s ≤ 1 ∨ m = n) ∧ (pls s m n).length ≤ 6 then fX7_fitting_L4 q' (sA M 8 g) (v ||| (1 <<< ((nI k) &&& 31))) (nI k + 1) else fX7_fitting_L4 q' (sA M 8 g) (v ||| 0) (nI k + 1) := by
        rw [fX7_fitting_L4]
        rw [show gI (sA M 8 f) 2 = gI X 3 from e4, show gA (sA M 8 f) 3 = gA M 3 from rfl, if_neg (by rw [eN, nI_leI (by omega) (by omega)]; omega), if_pos (nI_inN (show k < 6 by omega) (by decide)), nI_clamp (by omega), h6 k (by omega), es, g1, Option.bind_some, sA_sA]
        split
        · exact if_neg (show ¬ (1 : Int32) = 0 by decide)
        · exact if_pos rfl
      obtain ⟨z1, z2⟩ := z
      have i1' : v = z2 := i1
      subst i1'
      have i2' : z1 = sA M 8 f := i2
      subst i2'
      show ∃ t t', _ ∧ fX4_fittingSet_1_L4 X (q + 1) v (nI k) = _ ∧ fX7_fitting_L4 (q' + 1) (sA M 8 f) v (nI k) = _
      rw [x1, x2]
      by_cases c : (s ≤ 1 ∨ m = n) ∧ (pls s m n).length ≤ 6
      · rw [if_pos c, if_pos c, nI_1]
        exact ⟨_, (_, _), ⟨rfl, g, rfl⟩, rfl, rfl⟩
      · rw [if_neg c, if_neg c, nI_1]
        exact ⟨_, (_, _), ⟨rfl, g, rfl⟩, rfl, rfl⟩)
    (fun q q' v z hI => by
      obtain ⟨z1, z2⟩ := z
      obtain ⟨i1, f, i2⟩ := hI
      have i2' : z1 = sA M 8 f := i2
      subst i2'
      refine ⟨v, (sA M 8 f, z2), ?_, ?_, i1, f, rfl⟩
      · show fX4_fittingSet_1_L4 X (q + 1) v (nI N) = _
        rw [fX4_fittingSet_1_L4, if_pos (by rw [eN]; exact Int32.le_refl _)]
      · show fX7_fitting_L4 (q' + 1) (sA M 8 f) z2 (nI N) = _
        rw [fX7_fitting_L4]
        rw [show gI (sA M 8 f) 2 = gI X 3 from e4, if_pos (by rw [eN]; exact Int32.le_refl _)]) N 256 256 0 0 (M, 0) (by omega) (by omega) (by omega) (by omega) ⟨rfl, gA M 8, by rw [sA_self]⟩
  have z1' : fX4_fittingSet_1_L4 X 256 0 0 = some t := z1
  have z2' : fX7_fitting_L4 256 M 0 0 = some t' := z2
  refine ⟨t, f, by rw [fX4_fittingSet_1, z1']; rfl, ?_⟩
  rw [fX7_fitting, z2', Option.bind_some, z3, z4]
theorem in_3 {x r : Int32} (h0 : 0 ≤ x.toInt) (h : ¬ r ≤ x) (hr : r.toInt ≤ 3) : 0 ≤ x.toInt ∧ x.toInt < 3 := by
  rw [i_le] at h; omega
theorem inc_toInt {x : Int32} (h : x.toInt < 2147483647) : (x + 1).toInt = x.toInt + 1 := by
  have := fb_rng x
  rw [fb_addI (by rw [ti_1]; omega) (by rw [ti_1]; omega), ti_1]
/-- the loops of both, fuel by fuel -/
theorem splits_in {X M : w_S} (hT : ∀ k, k < 27 → gA M 0 k = TX X k) {p1 p2 : Int32} (h1 : p1.toInt ≤ 3) (h2 : 0 ≤ p2.toInt ∧ p2.toInt < 3) (k : Option Int32) : ∀ (n : Nat) (v : Int32), 0 ≤ v.toInt → fX4_splits_1_L27 k X p1 p2 n v = fX7_splits_L12 k M p1 p2 n v := by
  intro n
  induction n with
  | zero => intro v hv; rfl
  | succ n ih =>
    intro v hv
    rw [fX4_splits_1_L27, fX7_splits_L12]
    by_cases c : p1 ≤ v
    · rw [if_pos c, if_pos c]
    · have h3 := in_3 hv c h1
      rw [if_neg c, if_neg c, x_entry X (by decide) h2 h3, m_its M (by decide) h2 h3, hT _ (at9_lt (by decide) h2 h3), Option.bind_some, Option.bind_some, ih (v + 1) (by rw [inc_toInt (by omega)]; omega)]
theorem splits_out {X M : w_S} (hT : ∀ k, k < 27 → gA M 0 k = TX X k) (e1 : gI M 0 = gI X 0) (hm : (gI X 0).toInt ≤ 3) {p1 : Int32} (h1 : p1.toInt ≤ 3) (k : Option Int32) : ∀ (n : Nat) (v : Int32), 0 ≤ v.toInt → fX4_splits_1_L17 k X p1 n v = fX7_splits_L2 k M p1 n v := by
  intro n
  induction n with
  | zero => intro v hv; rfl
  | succ n ih =>
    intro v hv
    rw [fX4_splits_1_L17, fX7_splits_L2, e1]
    by_cases c : gI X 0 ≤ v
    · rw [if_pos c, if_pos c]
    · have h3 := in_3 hv c hm
      rw [if_neg c, if_neg c, ih (v + 1) (by rw [inc_toInt (by omega)]; omega), splits_in hT h1 h3 _ 256 0 (by decide)]
theorem splits_in_some {M : w_S} (k : Option Int32) (hk : ∃ v, k = some v) {p1 p2 : Int32} (h1 : 0 ≤ p1.toInt ∧ p1.toInt ≤ 3) (h2 : 0 ≤ p2.toInt ∧ p2.toInt < 3) : ∀ (d n : Nat) (v : Int32), 0 ≤ v.toInt → d + v.toInt.toNat = 4 → 4 < n + v.toInt.toNat → ∃ w, fX7_splits_L12 k M p1 p2 n v = some w := by
  intro d
  induction d with
  | zero =>
    intro n v hv hd hn
    match n, hn with
    | n + 1, _ => rw [fX7_splits_L12, if_pos (by rw [i_le]; omega)]; exact hk
    | 0, hn => omega
  | succ d ih =>
    intro n v hv hd hn
    match n, hn with
    | n + 1, hn =>
      rw [fX7_splits_L12]
      by_cases c : p1 ≤ v
      · rw [if_pos c]; exact hk
      · have h3 := in_3 hv c h1.2
        rw [if_neg c, m_its M (by decide) h2 h3, Option.bind_some]
        split
        · have e := inc_toInt (x := v) (by omega)
          exact ih n (v + 1) (by omega) (by omega) (by omega)
        · exact ⟨_, rfl⟩
    | 0, hn => omega
theorem splits_out_some {M : w_S} (hm : 0 ≤ (gI M 0).toInt ∧ (gI M 0).toInt ≤ 3) {p1 : Int32} (h1 : 0 ≤ p1.toInt ∧ p1.toInt ≤ 3) : ∀ (d n : Nat) (v : Int32), 0 ≤ v.toInt → d + v.toInt.toNat = 4 → 4 < n + v.toInt.toNat → ∃ w, fX7_splits_L2 (some 1) M p1 n v = some w := by
  intro d
  induction d with
  | zero =>
    intro n v hv hd hn
    match n, hn with
    | n + 1, _ => rw [fX7_splits_L2, if_pos (by rw [i_le]; omega)]; exact ⟨_, rfl⟩
    | 0, hn => omega
  | succ d ih =>
    intro n v hv hd hn
    match n, hn with
    | n + 1, hn =>
      rw [fX7_splits_L2]
      by_cases c : gI M 0 ≤ v
      · rw [if_pos c]; exact ⟨_, rfl⟩
      · have h3 := in_3 hv c hm.2
        have e := inc_toInt (x := v) (by omega)
        rw [if_neg c]
        exact splits_in_some _ (ih n (v + 1) (by omega) (by omega) (by omega)) h1 h3 4 256 0 (by decide) rfl (by decide)
    | 0, hn => omega
theorem splits_eq {X M : w_S} (h : Rel X M) {s : Int32} (hs : 1 ≤ s.toInt) (hs2 : s.toInt < (gI X 0).toInt) : ∃ v, fX4_splits_1 X s = some v ∧ fX7_splits M s = some v := by
  obtain ⟨⟨e1, e2, e3, e4⟩, hm, hn, hq, hT, -⟩ := nw_of h.1
  obtain ⟨v, hv⟩ := splits_out_some (M := M) (by rw [e1]; omega) (p1 := s) (by omega) (4 - s.toInt.toNat) 256 s (by omega) (by omega) (by omega)
  refine ⟨v, ?_, hv⟩
  rw [fX4_splits_1, if_neg (show ¬ s < 1 by rw [i_lt, ti_1]; omega), if_pos (show s < gI X 0 by rw [i_lt]; exact hs2), splits_out hT e1 hm.2 (by omega) _ 256 s (by omega)]
  exact hv
theorem split_set {X M : w_S} (h : Rel X M) : ∃ v, fX4_splitSet_1 X = some v ∧ fX7_splitting M = some v := by
  obtain ⟨⟨e1, e2, e3, e4⟩, hm, hn, hq, hT, -⟩ := nw_of h.1
  obtain ⟨m, hm', em⟩ := side_nI hm
  obtain ⟨t, t', z1, z2, z3⟩ := loop2 (fun k (v : Int32) i => fX4_splitSet_1_L4 X k v i) (fun k (v : Int32) i => fX7_splitting_L4 M k v i) (fun k v v' => 1 ≤ k ∧ v = v') (fun v v' => v = v') m
    (fun q q' k v v' hk hI => by
      obtain ⟨i0, rfl⟩ := hI
      obtain ⟨w, w1, w2⟩ := splits_eq h (s := nI k) (by rw [nI_toInt (by omega)]; omega) (by rw [em, nI_toInt (by omega), nI_toInt (by omega)]; omega)
      show ∃ t t', _ ∧ fX4_splitSet_1_L4 X (q + 1) v (nI k) = _ ∧ fX7_splitting_L4 M (q' + 1) v (nI k) = _
      rw [fX4_splitSet_1_L4, fX7_splitting_L4, e1, em, if_neg (by rw [nI_leI (by omega) (by omega)]; omega), if_neg (by rw [nI_leI (by omega) (by omega)]; omega), w1, w2, Option.bind_some, Option.bind_some, nI_1]
      by_cases c : w = 0
      · rw [if_pos c, if_pos c]; exact ⟨_, _, ⟨by omega, rfl⟩, rfl, rfl⟩
      · rw [if_neg c, if_neg c]; exact ⟨_, _, ⟨by omega, rfl⟩, rfl, rfl⟩)
    (fun q q' v v' hI => ⟨v, v', by
      show fX4_splitSet_1_L4 X (q + 1) v (nI m) = _
      rw [fX4_splitSet_1_L4, em, if_pos (Int32.le_refl _)], by
      show fX7_splitting_L4 M (q' + 1) v' (nI m) = _
      rw [fX7_splitting_L4, e1, em, if_pos (Int32.le_refl _)], hI.2⟩) (m - 1) 256 256 1 0 0 (by omega) (by omega) (by omega) (by omega) ⟨by omega, rfl⟩
  have z1' : fX4_splitSet_1_L4 X 256 0 1 = some t := z1
  have z2' : fX7_splitting_L4 M 256 0 1 = some t' := z2
  exact ⟨t, by rw [fX4_splitSet_1, z1']; rfl, by rw [fX7_splitting, z2', z3]; rfl⟩
theorem eq_many : E_many Rel := by
  intro X M h w
  obtain ⟨⟨e1, e2, e3, e4⟩, -⟩ := nw_of h.1
  obtain ⟨v5, f5, a5, b5⟩ := fit_set h
  obtain ⟨v6, a6, b6⟩ := split_set h
  rw [fX6_many, fX7_many, a5, b5, a6, b6]
  by_cases c0 : w = 0
  · rw [if_pos c0, if_pos c0]; exact ⟨_, _, rfl, rfl, e1.symm, h⟩
  rw [if_neg c0, if_neg c0]
  by_cases c1 : w = 1
  · rw [if_pos c1, if_pos c1]; exact ⟨_, _, rfl, rfl, e2.symm, h⟩
  rw [if_neg c1, if_neg c1]
  by_cases c2 : w = 2
  · rw [if_pos c2, if_pos c2]; exact ⟨_, _, rfl, rfl, e4.symm, h⟩
  rw [if_neg c2, if_neg c2]
  by_cases c3 : w = 3
  · rw [if_pos c3, if_pos c3]; exact ⟨_, _, rfl, rfl, h.2.2.1.1, h⟩
  rw [if_neg c3, if_neg c3]
  by_cases c4 : w = 4
  · rw [if_pos c4, if_pos c4]; exact ⟨_, _, rfl, rfl, h.2.2.2.2.2.1, h⟩
  rw [if_neg c4, if_neg c4]
  by_cases c5 : w = 5
  · rw [if_pos c5, if_pos c5]; exact ⟨_, _, rfl, rfl, rfl, Rel_8 h f5⟩
  rw [if_neg c5, if_neg c5]
  by_cases c6 : w = 6
  · rw [if_pos c6, if_pos c6]; exact ⟨_, _, rfl, rfl, rfl, h⟩
  rw [if_neg c6, if_neg c6]
  exact ⟨_, _, rfl, rfl, rfl, h⟩
