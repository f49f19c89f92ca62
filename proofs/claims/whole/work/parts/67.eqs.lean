/-! ===== the tests of both sides ===== -/
theorem x_hasEq (S : w_S) (e : Int32) (hq : 0 ≤ (gI S 3).toInt ∧ (gI S 3).toInt ≤ 6) : fX4_hasEquation_1 S e = if 0 ≤ e.toInt ∧ e.toInt < (gI S 3).toInt then some 1 else some 0 := by
  rw [fX4_hasEquation_1]; simp only [i_lt, i_le, ti_0, ti_6]; grind
theorem m_isEq (S : w_S) (e : Int32) (hq : 0 ≤ (gI S 2).toInt ∧ (gI S 2).toInt ≤ 6) : fX7_isEquation S e = if 0 ≤ e.toInt ∧ e.toInt < (gI S 2).toInt then some 1 else some 0 := by
  have e1 : ((gI S 2) - 1).toInt = (gI S 2).toInt - 1 := fb_subI (by rw [ti_1]; omega) (by rw [ti_1]; omega)
  rw [fX7_isEquation, m_in32]
  simp only [Option.bind_some, ite01, i_l, e1, tl_0, some_ite]
  by_cases h : 0 ≤ e.toInt ∧ e.toInt < (gI S 2).toInt
  · rw [if_pos h, if_pos (by omega)]; rfl
  · rw [if_neg h, if_neg (by omega)]; rfl
theorem x_isKind' (k : Int32) : fX6_isKind k = if 0 ≤ k.toInt ∧ k.toInt ≤ 6 then some 1 else some 0 := by rw [x_isKind, some_ite]
theorem m_isKind' (k : Int32) : fX7_isKind k = if 0 ≤ k.toInt ∧ k.toInt ≤ 6 then some 1 else some 0 := by rw [m_isKind, some_ite]
theorem x_isShift (k : Int32) : fX6_isShift k = if -2 ≤ k.toInt ∧ k.toInt ≤ 2 then some 1 else some 0 := by
  rw [fX6_isShift]; simp only [i_lt, tm_2, ti_2]; grind
theorem m_shift (k : Int32) : fX7_in k.toInt64 (-2) 2 = if -2 ≤ k.toInt ∧ k.toInt ≤ 2 then some 1 else some 0 := by
  rw [m_in32, some_ite, tn_2, tl_2]
theorem x_isSheet (k : Int32) : fX6_isSheet k = if 0 ≤ k.toInt ∧ k.toInt < 4 then some 1 else some 0 := by
  rw [fX6_isSheet]; simp only [i_lt, i_le, ti_0, ti_4]; grind
theorem x_isShelf (k : Int32) : fX6_isShelf k = if 0 ≤ k.toInt ∧ k.toInt < 4 then some 1 else some 0 := by
  rw [fX6_isShelf]; simp only [i_lt, i_le, ti_0, ti_4]; grind
theorem m_isSheet (k : Int32) : fX7_isSheet k = if 0 ≤ k.toInt ∧ k.toInt < 4 then some 1 else some 0 := by
  rw [fX7_isSheet, m_in32]
  simp only [Option.bind_some, ite01, tl_0, tl_3, some_ite]
  by_cases h : 0 ≤ k.toInt ∧ k.toInt < 4
  · rw [if_pos h, if_pos (by omega)]; rfl
  · rw [if_neg h, if_neg (by omega)]; rfl
theorem m_isShelf (k : Int32) : fX7_isShelf k = if 0 ≤ k.toInt ∧ k.toInt < 4 then some 1 else some 0 := by
  rw [fX7_isShelf, m_in32]
  simp only [Option.bind_some, ite01, tl_0, tl_3, some_ite]
  by_cases h : 0 ≤ k.toInt ∧ k.toInt < 4
  · rw [if_pos h, if_pos (by omega)]; rfl
  · rw [if_neg h, if_neg (by omega)]; rfl
theorem x_isSort (k : Int32) : fX6_isSort k = if 0 ≤ k.toInt ∧ k.toInt ≤ 3 then some 1 else some 0 := by
  rw [fX6_isSort]; simp only [i_lt, i_le, ti_0, ti_3]; grind
theorem x_isPart' (k : Int32) : fX6_isPart k = if 0 ≤ k.toInt ∧ k.toInt ≤ 1 then some 1 else some 0 := by
  rw [fX6_isPart]; simp only [i_eq, ti_0, ti_1]; grind
theorem x_kindOf (S : w_S) {e : Int32} (hq : (gI S 3).toInt ≤ 6) (he : 0 ≤ e.toInt ∧ e.toInt < (gI S 3).toInt) : fX4_kindOf_1 S e = some (gA S 3 e.toInt.toNat) := by
  rw [fX4_kindOf_1, x_hasEq S e (by omega), if_pos he]
  simp only [Option.bind_some, one0, if_false]
  rw [if_pos (ix_ok (by omega) (by omega))]; rfl
theorem x_shiftOf (S : w_S) {e : Int32} (hq : (gI S 3).toInt ≤ 6) (he : 0 ≤ e.toInt ∧ e.toInt < (gI S 3).toInt) : fX4_shiftOf_1 S e = some (gA S 4 e.toInt.toNat) := by
  rw [fX4_shiftOf_1, x_hasEq S e (by omega), if_pos he]
  simp only [Option.bind_some, one0, if_false]
  rw [if_pos (ix_ok (by omega) (by omega))]; rfl
theorem x_become (S : w_S) {e : Int32} (hq : (gI S 3).toInt ≤ 6) (he : 0 ≤ e.toInt ∧ e.toInt < (gI S 3).toInt) (k s : Int32) : fX4_become_1 S e k s = some (sA (sA S 3 (upd (gA S 3) e.toInt.toNat k)) 4 (upd (gA S 4) e.toInt.toNat s)) := by
  rw [fX4_become_1, x_hasEq S e (by omega), if_pos he]
  simp only [Option.bind_some, one0, if_false]
  rw [if_pos (ix_ok (by omega) (by omega)), if_pos (ix_ok (by omega) (by omega))]; rfl
theorem x_hasRight (S : w_S) (k : Int32) : fX4_hasRight_1 S k = if k = 0 ∨ k = 1 ∨ gI S 0 = gI S 1 then some 1 else some 0 := by
  rw [fX4_hasRight_1]; grind
theorem m_isLike (S : w_S) {k : Int32} (hk : 0 ≤ k.toInt) : fX7_isLike S k = if k = 0 ∨ k = 1 ∨ gI S 0 = gI S 1 then some 1 else some 0 := by
  have : (k ≤ 1) ↔ k = 0 ∨ k = 1 := by rw [i_le, i_eq, i_eq, ti_0, ti_1]; omega
  rw [fX7_isLike]
  by_cases h : k = 0 ∨ k = 1
  · rw [if_pos (this.2 h), if_pos (by grind)]
  · rw [if_neg (fun e => h (this.1 e))]
    by_cases g : gI S 0 = gI S 1
    · rw [if_pos g.symm, if_pos (by grind)]
    · rw [if_neg (fun e => g e.symm), if_neg (by grind)]
theorem m_dim (x : Int32) {n : Int32} (hn : 1 ≤ n.toInt ∧ n.toInt ≤ 3) : fX7_in x.toInt64 0 ((n - 1).toInt64) = if 0 ≤ x.toInt ∧ x.toInt < n.toInt then some 1 else some 0 := by
  have e1 : (n - 1).toInt = n.toInt - 1 := fb_subI (by rw [ti_1]; omega) (by rw [ti_1]; omega)
  rw [m_in32, i_l, e1, tl_0, some_ite]
  by_cases h : 0 ≤ x.toInt ∧ x.toInt < n.toInt
  · rw [if_pos h, if_pos (by omega)]
  · rw [if_neg h, if_neg (by omega)]
theorem m_part (x : Int32) : fX7_in x.toInt64 0 1 = if 0 ≤ x.toInt ∧ x.toInt ≤ 1 then some 1 else some 0 := by
  rw [m_in32, tl_0, tl_1, some_ite]
theorem x_rowIn (S : w_S) (i j : Int32) : fX4_hasEntry_1 S 1 i j = if (0 ≤ i.toInt ∧ i.toInt < (gI S 1).toInt) ∧ 0 ≤ j.toInt ∧ j.toInt < (gI S 1).toInt then some 1 else some 0 := by
  rw [x_hasEntry]; unfold isAt
  rw [if_pos rfl, if_neg (show ¬ ((1 : Int32) = 0) by decide), ti_1]; grind
theorem x_cIn (S : w_S) (i j : Int32) : fX4_hasEntry_1 S 2 i j = if (0 ≤ i.toInt ∧ i.toInt < (gI S 0).toInt) ∧ 0 ≤ j.toInt ∧ j.toInt < (gI S 1).toInt then some 1 else some 0 := by
  rw [x_hasEntry]; unfold isAt
  rw [if_neg (show ¬ ((2 : Int32) = 1) by decide), if_neg (show ¬ ((2 : Int32) = 0) by decide), ti_2]; grind
theorem m_isPart (S : w_S) (e i j p : Int32) (hm : 1 ≤ (gI S 0).toInt ∧ (gI S 0).toInt ≤ 3) (hn : 1 ≤ (gI S 1).toInt ∧ (gI S 1).toInt ≤ 3) (hq : 0 ≤ (gI S 2).toInt ∧ (gI S 2).toInt ≤ 6) : fX7_isPart S e i j p = if (0 ≤ e.toInt ∧ e.toInt < (gI S 2).toInt) ∧ ((0 ≤ i.toInt ∧ i.toInt < (gI S 0).toInt) ∧ 0 ≤ j.toInt ∧ j.toInt < (gI S 1).toInt) ∧ 0 ≤ p.toInt ∧ p.toInt ≤ 1 then some 1 else some 0 := by
  rw [fX7_isPart, m_isEq S e hq, m_dim i hm, m_dim j hn, m_part]
  simp only [ite_bind, Option.bind_some, one0, zero0, ↓reduceIte]
  grind
/-! ===== character ===== -/
theorem eq_character : E_character Rel := by
  intro X M h t k
  have hw := nw_of h.1
  rw [fX6_character, fX7_character, m_in32]
  by_cases hc : t = 0 ∨ t = 1
  · have ht : 0 ≤ t.toInt ∧ t.toInt ≤ 2 := by rcases hc with rfl | rfl <;> decide
    obtain ⟨r, h1, h2, h3, h4, h5⟩ := nw_sq hw ht (fun e => by subst e; rcases hc with hc | hc <;> exact absurd hc (by decide))
    obtain ⟨v1, a1, a2⟩ := mn1 ht h1 h3 h4 h5
    obtain ⟨v2, b1, b2⟩ := mn2 ht h1 h3 h4 h5
    obtain ⟨v, c1, c2⟩ := mnr ht h1 h3 h4 h5
    have hb : 1 ≤ r.toInt ∧ r.toInt ≤ 3 := side_of h1
    rw [if_pos (show (0 : Int64).toInt ≤ t.toInt ∧ t.toInt ≤ (1 : Int64).toInt by rw [tl_0, tl_1]; rcases hc with rfl | rfl <;> decide)]
    simp only [h2, h3, Option.bind_some, one0, if_false, m_in32, i_l, tl_0, some_ite, ite_bind, zero0, if_true]
    have hx : ∀ Y Z W : Option Int64, (if t = 0 then Y else if t = 1 then Y else Z) = Y := fun Y Z W => by
      rcases hc with rfl | rfl
      · rw [if_pos rfl]
      · rw [if_neg (by decide), if_pos rfl]
    rw [hx _ _ none]
    by_cases hk : 0 ≤ k.toInt ∧ k.toInt ≤ r.toInt
    · rw [if_neg (by rw [i_lt, ti_0]; omega), if_pos (by rw [i_le]; omega), if_pos hk]
      have h4k : k = 0 ∨ k = 1 ∨ k = 2 ∨ k = 3 := by
        rw [i_eq, i_eq, i_eq, i_eq, ti_0, ti_1, ti_2, ti_3]; omega
      rcases h1 with rfl | rfl | rfl
      · rcases h4k with rfl | rfl | rfl | rfl
        · exact ⟨-v, -v, by rw [show (1 : Int32) - 0 = 1 from rfl, c1]; rfl, by rw [c2]; rfl, rfl, h⟩
        · exact ⟨1, 1, rfl, rfl, rfl, h⟩
        · exact absurd hk (by decide)
        · exact absurd hk (by decide)
      · rcases h4k with rfl | rfl | rfl | rfl
        · exact ⟨v, v, by rw [show (2 : Int32) - 0 = 2 from rfl, c1]; rfl, by rw [c2]; rfl, rfl, h⟩
        · exact ⟨-v1, -v1, by rw [show (2 : Int32) - 1 = 1 from rfl, a1]; rfl, by rw [a2]; rfl, rfl, h⟩
        · exact ⟨1, 1, rfl, rfl, rfl, h⟩
        · exact absurd hk (by decide)
      · rcases h4k with rfl | rfl | rfl | rfl
        · exact ⟨-v, -v, by rw [show (3 : Int32) - 0 = 3 from rfl, c1]; rfl, by rw [c2]; rfl, rfl, h⟩
        · exact ⟨v2, v2, by rw [show (3 : Int32) - 1 = 2 from rfl, b1]; rfl, by rw [b2]; rfl, rfl, h⟩
        · exact ⟨-v1, -v1, by rw [show (3 : Int32) - 2 = 1 from rfl, a1]; rfl, by rw [a2]; rfl, rfl, h⟩
        · exact ⟨1, 1, rfl, rfl, rfl, h⟩
    · rw [if_neg hk]
      by_cases k0 : k < 0
      · rw [if_pos k0]; exact ⟨_, _, rfl, rfl, rfl, h⟩
      · rw [if_neg k0, if_neg (by rw [i_le]; rw [i_lt, ti_0] at k0; omega)]; exact ⟨_, _, rfl, rfl, rfl, h⟩
  · rw [if_neg (fun e => hc (Or.inl e)), if_neg (fun e => hc (Or.inr e)), if_neg (by rw [i_eq, i_eq, ti_0, ti_1] at hc; rw [tl_0, tl_1]; omega)]
    exact ⟨_, _, rfl, rfl, rfl, h⟩
/-! ===== set, size ===== -/
theorem nw_upd {X M X' M' : w_S} (h : Nw X M) {k0 : Nat} {v : Int32} (hb : (k0 < 18 ∧ bnd (-5) 5 v) ∨ (18 ≤ k0 ∧ bnd (-50) 50 v)) (hin : ∀ t i j : Nat, t < 3 → i < 3 → j < 3 → ((if t = 1 then (gI X 1).toInt else (gI X 0).toInt) ≤ (i : Int) ∨ (if t = 0 then (gI X 0).toInt else (gI X 1).toInt) ≤ (j : Int)) → 9 * t + 3 * i + j ≠ k0)
    (f1 : ∀ k, k < 27 → TX X' k = if k = k0 then v else TX X k) (f2 : ∀ k, k < 4 → k ≠ 2 → gI X' k = gI X k) (f3 : ∀ k, 3 ≤ k → k < 5 → gA X' k = gA X k) (f4 : ∀ k, k < 27 → gA M' 0 k = if k = k0 then v else gA M 0 k) (f5 : ∀ k, k < 3 → gI M' k = gI M k) (f6 : gA M' 3 = gA M 3 ∧ gA M' 4 = gA M 4) (f7 : gI M' 3 = gI X' 2) : Nw X' M' := by
  obtain ⟨⟨e1, e2, e3, e4⟩, o1, o2, o3, h5, h6, h7, o4, o5, o6, o7, o8⟩ := h
  refine ⟨⟨by rw [f5 0 (by omega), f2 0 (by omega) (by omega), e1], by rw [f5 1 (by omega), f2 1 (by omega) (by omega), e2], f7, by rw [f5 2 (by omega), f2 3 (by omega) (by omega), e4]⟩, by rw [f2 0 (by omega) (by omega)]; exact o1, by rw [f2 1 (by omega) (by omega)]; exact o2, by rw [f2 3 (by omega) (by omega)]; exact o3, fun k hk => by rw [f4 k hk, f1 k hk, h5 k hk], fun i hi => by rw [f6.1, f3 3 (by omega) (by omega)]; exact h6 i hi, fun i hi => by rw [f6.2, f3 4 (by omega) (by omega)]; exact h7 i hi, by rw [f3 3 (by omega) (by omega)]; exact o4, by rw [f3 4 (by omega) (by omega)]; exact o5, fun k hk => ?_, fun k h1 h2 => ?_, fun t i j ht hi hj hz => ?_⟩
  · rw [f1 k (by omega)]
    split
    · rcases hb with hb | hb
      · exact hb.2
      · omega
    · exact o6 k hk
  · rw [f1 k (by omega)]
    split
    · rcases hb with hb | hb
      · omega
      · exact hb.2
    · exact o7 k h1 h2
  · rw [f2 0 (by omega) (by omega), f2 1 (by omega) (by omega)] at hz
    rw [f1 _ (by omega), if_neg (hin t i j ht hi hj hz)]
    exact o8 t i j ht hi hj hz
theorem at9_in {m n : Int} {t i j : Int32} (hm : 1 ≤ m ∧ m ≤ 3) (hn : 1 ≤ n ∧ n ≤ 3) (h : isAt m n t i j) : ∀ t' i' j' : Nat, t' < 3 → i' < 3 → j' < 3 → ((if t' = 1 then n else m) ≤ (i' : Int) ∨ (if t' = 0 then m else n) ≤ (j' : Int)) → 9 * t' + 3 * i' + j' ≠ at9 t i j := by
  intro t' i' j' ht hi hj hz e
  obtain ⟨⟨a1, a2⟩, ⟨b1, b2⟩, c1, c2⟩ := isAt_room hm hn h
  unfold at9 at e
  have q1 : t' = t.toInt.toNat := by omega
  have q2 : i' = i.toInt.toNat := by omega
  have q3 : j' = j.toInt.toNat := by omega
  obtain ⟨-, -, -, h1, -, h2⟩ := h
  have t1 : (t = 1) ↔ t' = 1 := by rw [i_eq, ti_1]; omega
  have t0 : (t = 0) ↔ t' = 0 := by rw [i_eq, ti_0]; omega
  rcases hz with hz | hz
  · by_cases f : t' = 1
    · rw [if_pos f] at hz; rw [if_pos (t1.2 f)] at h1; omega
    · rw [if_neg f] at hz; rw [if_neg (fun e => f (t1.1 e))] at h1; omega
  · by_cases f : t' = 0
    · rw [if_pos f] at hz; rw [if_pos (t0.2 f)] at h2; omega
    · rw [if_neg f] at hz; rw [if_neg (fun e => f (t0.1 e))] at h2; omega
theorem m_isEntry (t v : Int32) : fX7_isEntry t v = if (t = 2 ∧ -50 ≤ v.toInt ∧ v.toInt ≤ 50) ∨ (t ≠ 2 ∧ -5 ≤ v.toInt ∧ v.toInt ≤ 5) then some 1 else some 0 := by
  rw [fX7_isEntry, m_in32, m_in32, tl_50, tn_50, tn_5, tl_5]
  simp only [Option.bind_some, ite01, some_ite]
  grind
theorem eq_set : E_set Rel := by
  intro X M h t i j v
  have hw := nw_of h.1
  obtain ⟨⟨e1, e2, e3, e4⟩, hm, hn, hq, hT, -⟩ := id hw
  rw [fX6_set, fX7_set, x_hasEntry, m_isPlace M t i j (by rw [e1]; exact hm) (by rw [e2]; exact hn), e1, e2, m_isEntry]
  simp only [ite_bind, Option.bind_some, one0, zero0, if_true, if_false, fX6_reach]
  by_cases hc : isAt (gI X 0).toInt (gI X 1).toInt t i j
  · obtain ⟨ht, hi, hj⟩ := isAt_room hm hn hc
    rw [if_pos hc, if_pos hc, x_entry X ht hi hj, m_its M ht hi hj]
    obtain ⟨S', s1, s2, s3, s4, s5⟩ := x_store X v ht hi hj
    obtain ⟨q1, q2⟩ := m_idx ht hi hj
    rw [s1]
    simp only [Option.bind_some, if_pos q1]
    by_cases hv : (t = 2 ∧ -50 ≤ v.toInt ∧ v.toInt ≤ 50) ∨ (t ≠ 2 ∧ -5 ≤ v.toInt ∧ v.toInt ≤ 5)
    · rw [if_pos hv]
      have hR : Rel S' (sA M 0 (upd (gA M 0) (((9 * t) + (3 * i)) + j).toNatClampNeg v)) := by
        refine Rel_T h ⟨⟨fun k _ _ _ _ => by rw [s3], fun k hk _ => s5 k (by omega), fun k _ => by rw [s4]⟩, fun k _ _ => rfl, ⟨rfl, rfl, rfl, rfl, fun k hk => by rw [gA_sA, if_neg (by omega)]⟩, rfl⟩ (of_nw (nw_upd hw (k0 := at9 t i j) (v := v) ?_ (at9_in hm hn hc) s2 (fun k _ _ => by rw [s3]) (fun k h1 _ => s5 k (by omega)) (fun k hk => ?_) (fun k _ => rfl) ⟨rfl, rfl⟩ ?_))
        · unfold at9
          rcases hv with ⟨rfl, hv⟩ | ⟨h2, hv⟩
          · right; rw [ti_2]; exact ⟨by omega, hv⟩
          · left
            refine ⟨?_, hv⟩
            rw [ne_eq, i_eq, ti_2] at h2; omega
        · rw [gA_sA, if_pos rfl, upd_ap, q2]
        · show gI M 3 = gI S' 2
          rw [s3]; exact e3
      rcases hv with ⟨rfl, hv⟩ | ⟨h2, hv⟩
      · rw [if_pos rfl, if_neg (show ¬ v < -50 by rw [i_lt, show (-(50 : Int32)).toInt = -50 from rfl]; omega), if_pos rfl, if_pos (show v ≤ 50 by rw [i_le, ti_50]; omega)]
        exact ⟨_, _, rfl, rfl, by rw [hT _ (at9_lt ht hi hj)], hR⟩
      · rw [if_neg h2, if_neg (show ¬ v < -5 by rw [i_lt, show (-(5 : Int32)).toInt = -5 from rfl]; omega), if_neg h2, if_pos (show v ≤ 5 by rw [i_le, ti_5]; omega)]
        exact ⟨_, _, rfl, rfl, by rw [hT _ (at9_lt ht hi hj)], hR⟩
    · rw [if_neg hv]
      by_cases h2 : t = 2
      · rw [if_pos h2]
        by_cases h3 : v < -50
        · rw [if_pos h3]; exact ⟨_, _, rfl, rfl, rfl, h⟩
        · rw [if_neg h3, if_pos h2, if_neg (show ¬ v ≤ 50 by rw [i_lt, tm_50] at h3; rw [i_le, ti_50]; grind)]; exact ⟨_, _, rfl, rfl, rfl, h⟩
      · rw [if_neg h2]
        by_cases h3 : v < -5
        · rw [if_pos h3]; exact ⟨_, _, rfl, rfl, rfl, h⟩
        · rw [if_neg h3, if_neg h2, if_neg (show ¬ v ≤ 5 by rw [i_lt, tm_5] at h3; rw [i_le, ti_5]; grind)]; exact ⟨_, _, rfl, rfl, rfl, h⟩
  · rw [if_neg hc, if_neg hc]
    exact ⟨_, _, rfl, rfl, rfl, h⟩
theorem fill3 (S : w_S) (v : Int32) : ∃ f, fJ7_fill_53178_3 S v = some (sA S 1 f) ∧ ∀ i, i < 9 → f i = v := by
  rw [fJ7_fill_53178_3]
  have h := loop_up (fun n f i => fJ7_fill_53178_3_L5 v 9 n (sA S 1 f) i) (fun k f => ∀ i, i < k → f i = v) (fun t => ∃ f, t = sA S 1 f ∧ ∀ i, i < 9 → f i = v) 9
    (fun n k f hk hI => ⟨upd f k v, fun i hi => by
      by_cases e : i = k
      · rw [upd_ap, if_pos e]
      · rw [upd_ap, if_neg e]; exact hI i (by omega), by
      show fJ7_fill_53178_3_L5 v 9 (n + 1) (sA S 1 f) (nI k) = _
      rw [fJ7_fill_53178_3_L5, if_neg (by rw [lit, nI_leI (by omega) (by omega)]; omega), if_pos (nI_inN hk (by decide)), sA_sA, gA_sA, if_pos rfl, nI_clamp (by omega), nI_1]⟩)
    (fun n f hI => ⟨_, by
      show fJ7_fill_53178_3_L5 v 9 (n + 1) (sA S 1 f) (nI 9) = _
      rw [fJ7_fill_53178_3_L5, if_pos (by rw [lit]; exact Int32.le_refl _)], f, rfl, hI⟩) 256 0 (gA S 1) (by omega) (by omega) (fun i hi => by omega)
  obtain ⟨t, h1, f, rfl, h2⟩ := h
  rw [sA_self] at h1
  refine ⟨f, ?_, h2⟩
  have h1' : fJ7_fill_53178_3_L5 v 9 256 S 0 = some (sA S 1 f) := h1
  rw [h1']
  rfl
theorem fill4 (S : w_S) (v : Int32) : ∃ f, fJ7_fill_53178_4 S v = some (sA S 2 f) ∧ ∀ i, i < 9 → f i = v := by
  rw [fJ7_fill_53178_4]
  have h := loop_up (fun n f i => fJ7_fill_53178_4_L5 v 9 n (sA S 2 f) i) (fun k f => ∀ i, i < k → f i = v) (fun t => ∃ f, t = sA S 2 f ∧ ∀ i, i < 9 → f i = v) 9
    (fun n k f hk hI => ⟨upd f k v, fun i hi => by
      by_cases e : i = k
      · rw [upd_ap, if_pos e]
      · rw [upd_ap, if_neg e]; exact hI i (by omega), by
      show fJ7_fill_53178_4_L5 v 9 (n + 1) (sA S 2 f) (nI k) = _
      rw [fJ7_fill_53178_4_L5, if_neg (by rw [lit, nI_leI (by omega) (by omega)]; omega), if_pos (nI_inN hk (by decide)), sA_sA, gA_sA, if_pos rfl, nI_clamp (by omega), nI_1]⟩)
    (fun n f hI => ⟨_, by
      show fJ7_fill_53178_4_L5 v 9 (n + 1) (sA S 2 f) (nI 9) = _
      rw [fJ7_fill_53178_4_L5, if_pos (by rw [lit]; exact Int32.le_refl _)], f, rfl, hI⟩) 256 0 (gA S 2) (by omega) (by omega) (fun i hi => by omega)
  obtain ⟨t, h1, f, rfl, h2⟩ := h
  rw [sA_self] at h1
  refine ⟨f, ?_, h2⟩
  have h1' : fJ7_fill_53178_4_L5 v 9 256 S 0 = some (sA S 2 f) := h1
  rw [h1']
  rfl
theorem size52 (p : Int32) (S : w_S) : ∃ f, fX7_size_L52 p 256 S 0 = some (sA S 0 f) ∧ ∀ i, i < 27 → f i = 0 := by
  obtain ⟨t, h1, f, rfl, h2⟩ := loop_up (fun n f i => fX7_size_L52 p n (sA S 0 f) i) (fun k f => ∀ i, i < k → f i = 0) (fun t => ∃ f, t = sA S 0 f ∧ ∀ i, i < 27 → f i = 0) 27
    (fun n k f hk hI => ⟨upd f k 0, fun i hi => by
      by_cases e : i = k
      · rw [upd_ap, if_pos e]
      · rw [upd_ap, if_neg e]; exact hI i (by omega), by
      show fX7_size_L52 p (n + 1) (sA S 0 f) (nI k) = _
      rw [fX7_size_L52, if_neg (by rw [lit, nI_leI (by omega) (by omega)]; omega), if_pos (nI_inN hk (by decide)), sA_sA, gA_sA, if_pos rfl, nI_clamp (by omega), nI_1]⟩)
    (fun n f hI => ⟨_, by
      show fX7_size_L52 p (n + 1) (sA S 0 f) (nI 27) = _
      rw [fX7_size_L52, if_pos (by rw [lit]; exact Int32.le_refl _)], f, rfl, hI⟩) 256 0 (gA S 0) (by omega) (by omega) (fun i hi => by omega)
  rw [sA_self] at h1
  exact ⟨f, h1, h2⟩
theorem eq_size : E_size Rel := by
  intro X M h a b
  have hw := nw_of h.1
  obtain ⟨⟨e1, e2, e3, e4⟩, hm, hn, hq, hT, h6, h7, o4, o5, o6⟩ := id hw
  rw [fX6_size, fX7_size, m_in32, m_in32, tl_1, tl_3, e1, e2]
  simp only [some_ite, ite_bind, Option.bind_some, one0, zero0, if_true, if_false, i_lt, i_le, ti_1, ti_3]
  by_cases ha : 1 ≤ a.toInt ∧ a.toInt ≤ 3
  · by_cases hb : 1 ≤ b.toInt ∧ b.toInt ≤ 3
    · rw [if_neg (by omega), if_neg (by omega), if_neg (by omega), if_pos (by omega), if_pos ha, if_pos hb, fX4_resize_1]
      obtain ⟨f, f1, f2⟩ := fill2 (sI (sI X 0 a) 1 b) 0
      obtain ⟨g, g1, g2⟩ := fill3 (sA (sI (sI X 0 a) 1 b) 0 f) 0
      obtain ⟨q, q1, q2⟩ := fill4 (sA (sA (sI (sI X 0 a) 1 b) 0 f) 1 g) 0
      obtain ⟨p, p1, p2⟩ := size52 ((10 * (gI X 0)) + (gI X 1)) (sI (sI M 0 a) 1 b)
      rw [f1, Option.bind_some, g1, Option.bind_some, q1, Option.bind_some, p1]
      refine ⟨_, _, rfl, rfl, rfl, Rel_T h ?_ (of_nw ?_)⟩
      · refine ⟨⟨fun k a _ _ _ => ?_, fun k a _ => ?_, fun k _ => rfl⟩, fun k a _ => ?_, ⟨rfl, rfl, rfl, rfl, fun k hk => by rw [gA_sA, if_neg (by omega)]; rfl⟩, rfl⟩
        · simp only [gI_sA, gI_sI]; rw [if_neg (by omega), if_neg (by omega)]
        · simp only [gA_sA, gA_sI]; rw [if_neg (by omega), if_neg (by omega), if_neg (by omega)]
        · simp only [gI_sA, gI_sI]; rw [if_neg (by omega), if_neg (by omega)]
      · have z : ∀ k, k < 27 → TX (sA (sA (sA (sI (sI X 0 a) 1 b) 0 f) 1 g) 2 q) k = 0 := fun k hk => by
          unfold TX
          by_cases c1 : k < 9
          · rw [if_pos c1]; exact f2 k c1
          · rw [if_neg c1]
            by_cases c2 : k < 18
            · rw [if_pos c2]; exact g2 _ (by omega)
            · rw [if_neg c2]; exact q2 _ (by omega)
        refine ⟨⟨rfl, rfl, e3, e4⟩, ha, hb, hq, fun k hk => ?_, h6, h7, o4, o5, fun k hk => ?_, fun k h1 h2 => ?_, fun t i j ht hi hj hz => z _ (by omega)⟩
        · rw [z k hk]; exact p2 k hk
        · rw [z k (by omega)]; exact ⟨by decide, by decide⟩
        · rw [z k (by omega)]; exact ⟨by decide, by decide⟩
    · rw [if_neg (by omega), if_neg (by omega), if_pos ha, if_neg hb]
      by_cases hb1 : b.toInt < 1
      · rw [if_pos hb1]; exact ⟨_, _, rfl, rfl, rfl, h⟩
      · rw [if_neg hb1, if_neg (by omega)]; exact ⟨_, _, rfl, rfl, rfl, h⟩
  · rw [if_neg ha]
    by_cases h1 : a.toInt < 1
    · rw [if_pos h1]; exact ⟨_, _, rfl, rfl, rfl, h⟩
    · rw [if_neg h1, if_pos (by omega)]; exact ⟨_, _, rfl, rfl, rfl, h⟩
