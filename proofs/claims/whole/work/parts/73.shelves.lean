/-! ===== shelves ===== -/
def px_hold (S : w_S) (k : Nat) (h n s : Int32) : w_S := sI (sI (sI S (36 + 3 * k) h) (37 + 3 * k) n) (38 + 3 * k) s
def px_shelf (S : w_S) (k : Nat) (w n : Int32) : Int32 × w_S := if w = 0 ∧ 0 ≤ n.toInt ∧ n.toInt < (gI S 3).toInt then (1, px_hold S k 0 n 0) else if w = 1 ∧ 0 ≤ n.toInt ∧ n.toInt < 4 then (1, px_hold S k (if gI S (28 + 2 * n.toInt.toNat) = -1 then 2 else 1) (gI S (29 + 2 * n.toInt.toNat)) (gI S (28 + 2 * n.toInt.toNat))) else if w = 2 then (1, px_hold S k 2 0 0) else (-1, S)
theorem x_shelf (S : w_S) (hq : 0 ≤ (gI S 3).toInt ∧ (gI S 3).toInt ≤ 6) (a w n : Int32) : fX6_shelf S a w n = if 0 ≤ a.toInt ∧ a.toInt < 4 then some (px_shelf S a.toInt.toNat w n) else some (-1, S) := by
  rw [fX6_shelf, x_isShelf, x_isSheet, x_hasEq S n hq]
  simp only [ite_bind, Option.bind_some, one0, zero0, if_true, if_false]
  by_cases h : 0 ≤ a.toInt ∧ a.toInt < 4
  · rw [if_pos h, if_pos h]
    unfold px_shelf
    by_cases w0 : w = 0
    · subst w0
      simp only [q0_1, q0_2, eq_self, if_true, if_false, false_and, true_and]
      by_cases e : 0 ≤ n.toInt ∧ n.toInt < (gI S 3).toInt
      · simp only [if_pos e]
        rcases k_cases h with rfl | rfl | rfl | rfl <;> rfl
      · simp only [if_neg e]
    · by_cases w1 : w = 1
      · subst w1
        simp only [q1_0, q1_2, eq_self, if_true, if_false, false_and, true_and]
        by_cases e : 0 ≤ n.toInt ∧ n.toInt < 4
        · simp only [if_pos e]
          rcases k_cases e with rfl | rfl | rfl | rfl
          · by_cases c : gI S 28 = -1
            · simp only [if_pos c, show gI S (28 + 2 * (0 : Int32).toInt.toNat) = gI S 28 from rfl]
              rcases k_cases h with rfl | rfl | rfl | rfl <;> rfl
            · simp only [if_neg c, show gI S (28 + 2 * (0 : Int32).toInt.toNat) = gI S 28 from rfl]
              rcases k_cases h with rfl | rfl | rfl | rfl <;> rfl
          · by_cases c : gI S 30 = -1
            · simp only [if_pos c, show gI S (28 + 2 * (1 : Int32).toInt.toNat) = gI S 30 from rfl]
              rcases k_cases h with rfl | rfl | rfl | rfl <;> rfl
            · simp only [if_neg c, show gI S (28 + 2 * (1 : Int32).toInt.toNat) = gI S 30 from rfl]
              rcases k_cases h with rfl | rfl | rfl | rfl <;> rfl
          · by_cases c : gI S 32 = -1
            · simp only [if_pos c, show gI S (28 + 2 * (2 : Int32).toInt.toNat) = gI S 32 from rfl]
              rcases k_cases h with rfl | rfl | rfl | rfl <;> rfl
            · simp only [if_neg c, show gI S (28 + 2 * (2 : Int32).toInt.toNat) = gI S 32 from rfl]
              rcases k_cases h with rfl | rfl | rfl | rfl <;> rfl
          · by_cases c : gI S 34 = -1
            · simp only [if_pos c, show gI S (28 + 2 * (3 : Int32).toInt.toNat) = gI S 34 from rfl]
              rcases k_cases h with rfl | rfl | rfl | rfl <;> rfl
            · simp only [if_neg c, show gI S (28 + 2 * (3 : Int32).toInt.toNat) = gI S 34 from rfl]
              rcases k_cases h with rfl | rfl | rfl | rfl <;> rfl
        · simp only [if_neg e]
      · simp only [w0, w1, if_false, false_and]
        by_cases w2 : w = 2
        · simp only [if_pos w2]
          rcases k_cases h with rfl | rfl | rfl | rfl <;> rfl
        · simp only [if_neg w2]
  · rw [if_neg h, if_neg h]
theorem rel_shelf {X M M' : w_S} (h : Rel X M) {k : Nat} (hk : k < 4) (p n s : Int32) (g1 : gI M' = gI M) (g2 : ∀ j, j ≠ 14 → j ≠ 15 → j ≠ 16 → gA M' j = gA M j) (g3 : ∀ j, j ≠ k → gA M' 14 j = gA M 14 j ∧ gA M' 15 j = gA M 15 j ∧ gA M' 16 j = gA M 16 j) (g4 : gB M' = gB M)
    (e1 : p = gA M' 14 k) (e2 : bnd 0 2 p) (e3 : p = 0 → n = gA M' 15 k) (e4 : p = 1 → n = gA M' 16 k ∧ s = gA M' 15 k ∧ bnd 0 3 s) : Rel (px_hold X k p n s) M' := by
  have z1 : gI (px_hold X k p n s) (36 + 3 * k) = p := by unfold px_hold; simp only [gI_sI]; rw [if_neg (by omega), if_neg (by omega)]; simp
  have z2 : gI (px_hold X k p n s) (37 + 3 * k) = n := by unfold px_hold; simp only [gI_sI]; rw [if_neg (by omega)]; simp
  have z3 : gI (px_hold X k p n s) (38 + 3 * k) = s := by unfold px_hold; simp only [gI_sI]; simp
  have f1 : ∀ j, j ≠ 36 + 3 * k → j ≠ 37 + 3 * k → j ≠ 38 + 3 * k → gI (px_hold X k p n s) j = gI X j := fun j a b c => by
    unfold px_hold; simp only [gI_sI]; rw [if_neg c, if_neg b, if_neg a]
  obtain ⟨a1, a2, a3, a4, a5, a6⟩ := h
  refine ⟨R_now_c a1 (fun k hk => f1 k (by omega) (by omega) (by omega)) (fun k hk => rfl) (fun k hk => by rw [g1]) (g2 0 (by omega) (by omega) (by omega)) (g2 3 (by omega) (by omega) (by omega)) (g2 4 (by omega) (by omega) (by omega)),
        R_kept_c a2 (fun k hk => f1 k (by omega) (by omega) (by omega)) (fun k h1 h2 => rfl) (fun k h1 h2 => by rw [g1]) (g2 1 (by omega) (by omega) (by omega)) (g2 5 (by omega) (by omega) (by omega)) (g2 6 (by omega) (by omega) (by omega)),
        R_tape_c a3 (f1 21 (by omega) (by omega) (by omega)) rfl (by rw [g1]) (g2 7 (by omega) (by omega) (by omega)),
        R_sheets_c a4 (fun k h1 h2 => f1 k (by omega) (by omega) (by omega)) (fun k h1 h2 => rfl) (g2 12 (by omega) (by omega) (by omega)) (g2 13 (by omega) (by omega) (by omega)) (by rw [g4]), fun q hq => ?_,
        R_acts_c a6 (f1 26 (by omega) (by omega) (by omega)) rfl (by rw [g1]) (g2 17 (by omega) (by omega) (by omega))⟩
  by_cases e : q = k
  · subst e; rw [z1, z2, z3]; exact ⟨e1, e2, e3, e4⟩
  · rw [f1 (36 + 3 * q) (by omega) (by omega) (by omega), f1 (37 + 3 * q) (by omega) (by omega) (by omega), f1 (38 + 3 * q) (by omega) (by omega) (by omega), (g3 q e).1, (g3 q e).2.1, (g3 q e).2.2]
    exact a5 q hq
/-- a shelf laid in the model -/
def pm_hold (S : w_S) (k : Nat) (h t l : Int32) : w_S := sA (sA (sA S 14 (upd (gA S 14) k h)) 15 (upd (gA S 15) k t)) 16 (upd (gA S 16) k l)
theorem rel_hold {X M : w_S} (h : Rel X M) {k : Nat} (hk : k < 4) (p n s t l : Int32) (e2 : bnd 0 2 p) (e3 : p = 0 → n = t) (e4 : p = 1 → n = l ∧ s = t ∧ bnd 0 3 s) : Rel (px_hold X k p n s) (pm_hold M k p t l) := by
  have z1 : gA (pm_hold M k p t l) 14 = upd (gA M 14) k p := by unfold pm_hold; simp only [gA_sA]; rw [if_neg (by omega), if_neg (by omega)]; simp
  have z2 : gA (pm_hold M k p t l) 15 = upd (gA M 15) k t := by unfold pm_hold; simp only [gA_sA]; rw [if_neg (by omega)]; simp
  have z3 : gA (pm_hold M k p t l) 16 = upd (gA M 16) k l := by unfold pm_hold; simp only [gA_sA]; simp
  refine rel_shelf h hk p n s rfl (fun j a b c => ?_) (fun j hj => ?_) rfl ?_ e2 (fun e => ?_) (fun e => ?_)
  · unfold pm_hold; simp only [gA_sA]; rw [if_neg c, if_neg b, if_neg a]
  · rw [z1, z2, z3, upd_ap, upd_ap, upd_ap, if_neg hj, if_neg hj, if_neg hj]; exact ⟨rfl, rfl, rfl⟩
  · rw [z1, upd_ap, if_pos rfl]
  · rw [z2, upd_ap, if_pos rfl]; exact e3 e
  · rw [z2, z3, upd_ap, upd_ap, if_pos rfl, if_pos rfl]; exact e4 e
theorem m_shelf (S : w_S) (hq : 0 ≤ (gI S 2).toInt ∧ (gI S 2).toInt ≤ 6) {a : Int32} (ha : 0 ≤ a.toInt ∧ a.toInt < 4) (w n : Int32) : fX7_shelf S a w n = some (if w = 0 ∧ 0 ≤ n.toInt ∧ n.toInt < (gI S 2).toInt then (1, pm_hold S a.toInt.toNat 0 n 0) else if w = 1 ∧ 0 ≤ n.toInt ∧ n.toInt < 4 then (1, pm_hold S a.toInt.toNat (if 0 ≤ gA S 12 n.toInt.toNat then 1 else 2) (gA S 12 n.toInt.toNat) (gA S 13 n.toInt.toNat)) else if w = 2 then (1, pm_hold S a.toInt.toNat 2 n 0) else (-1, S)) := by
  have s1 : ¬ (a < 0 ∨ 4 ≤ a.toInt.toNat) := ix_ok ha.1 (by omega)
  rw [fX7_shelf, m_isShelf, if_pos ha, m_in32, m_isEq S n hq, m_isSheet, tl_0, tl_2, cl_nn a]
  simp only [some_ite, ite_bind, Option.bind_some, one0, zero0, if_true, if_false]
  simp only [if_pos s1]
  by_cases w0 : w = 0
  · subst w0
    rw [if_pos (show (0 : Int) ≤ (0 : Int32).toInt ∧ (0 : Int32).toInt ≤ 2 by decide)]
    simp only [q0_1, q0_2, eq_self, if_true, if_false, false_and, true_and, Option.bind_some]
    split <;> rfl
  · by_cases w1 : w = 1
    · subst w1
      rw [if_pos (show (0 : Int) ≤ (1 : Int32).toInt ∧ (1 : Int32).toInt ≤ 2 by decide)]
      simp only [q1_0, q1_2, eq_self, if_true, if_false, false_and, true_and, Option.bind_some]
      by_cases e : 0 ≤ n.toInt ∧ n.toInt < 4
      · have s2 : ¬ (n < 0 ∨ 4 ≤ n.toInt.toNat) := ix_ok e.1 (by omega)
        simp only [if_pos e, cl_nn n, if_pos s2, Option.bind_some]
        split
        · rfl
        · rfl
      · simp only [if_neg e]
    · by_cases w2 : w = 2
      · subst w2
        rw [if_pos (show (0 : Int) ≤ (2 : Int32).toInt ∧ (2 : Int32).toInt ≤ 2 by decide)]
        simp only [q2_0, q2_1, eq_self, if_true, if_false, false_and, Option.bind_some]
        rfl
      · rw [if_neg (show ¬ (0 ≤ w.toInt ∧ w.toInt ≤ 2) by rw [i_eq, ti_0] at w0; rw [i_eq, ti_1] at w1; rw [i_eq, ti_2] at w2; omega)]
        simp only [w0, w1, w2, if_false, false_and]
theorem eq_shelf : E_shelf Rel := by
  intro X M h a w n
  have hw := nw_of h.1
  obtain ⟨⟨e1, e2, e3, e4⟩, hm, hn, hq, -⟩ := id hw
  rw [x_shelf X hq]
  by_cases ha : 0 ≤ a.toInt ∧ a.toInt < 4
  · rw [if_pos ha, m_shelf M (by rw [e4]; exact hq) ha, e4]
    refine ⟨_, _, rfl, rfl, ?_⟩
    unfold px_shelf
    by_cases c1 : w = 0 ∧ 0 ≤ n.toInt ∧ n.toInt < (gI X 3).toInt
    · rw [if_pos c1, if_pos c1]
      exact ⟨rfl, rel_hold h (k := a.toInt.toNat) (by omega) 0 n 0 n 0 ⟨by decide, by decide⟩ (fun _ => rfl) (fun e => absurd e (by decide))⟩
    · rw [if_neg c1, if_neg c1]
      by_cases c2 : w = 1 ∧ 0 ≤ n.toInt ∧ n.toInt < 4
      · rw [if_pos c2, if_pos c2]
        obtain ⟨s1, s2, s3, s4, ⟨s5, s5'⟩, s6, s7, s8⟩ := sh_of h.2.2.2.1 (a := n) c2.2
        rw [← s3, ← s4]
        by_cases c : gI X (28 + 2 * n.toInt.toNat) = -1
        · rw [if_pos c, if_neg (show ¬ 0 ≤ gI X (28 + 2 * n.toInt.toNat) by rw [c]; decide)]
          exact ⟨rfl, rel_hold h (k := a.toInt.toNat) (by omega) 2 _ _ _ _ ⟨by decide, by decide⟩ (fun e => absurd e (by decide)) (fun e => absurd e (by decide))⟩
        · rw [if_neg c, if_pos (show 0 ≤ gI X (28 + 2 * n.toInt.toNat) by rw [i_le, ti_0]; rw [i_eq, tm_1] at c; omega)]
          exact ⟨rfl, rel_hold h (k := a.toInt.toNat) (by omega) 1 _ _ _ _ ⟨by decide, by decide⟩ (fun e => absurd e (by decide)) (fun e => ⟨rfl, rfl, by rw [i_eq, tm_1] at c; exact ⟨by omega, s5'⟩⟩)⟩
      · rw [if_neg c2, if_neg c2]
        by_cases c3 : w = 2
        · rw [if_pos c3, if_pos c3]
          exact ⟨rfl, rel_hold h (k := a.toInt.toNat) (by omega) 2 _ _ _ _ ⟨by decide, by decide⟩ (fun e => absurd e (by decide)) (fun e => absurd e (by decide))⟩
        · rw [if_neg c3, if_neg c3]; exact ⟨rfl, h⟩
  · rw [if_neg ha, fX7_shelf, m_isShelf, if_neg ha]
    exact ⟨_, _, rfl, rfl, rfl, h⟩
/-! ===== taken ===== -/
def px_held (S : w_S) (k : Nat) : Int32 := if gI S (36 + 3 * k) = 0 then (if 0 ≤ (gI S (37 + 3 * k)).toInt ∧ (gI S (37 + 3 * k)).toInt < (gI S 3).toInt then 0 else 2) else gI S (36 + 3 * k)
theorem x_held0 (S : w_S) (hq : 0 ≤ (gI S 3).toInt ∧ (gI S 3).toInt ≤ 6) : fX6_heldNow_39 S = some (px_held S 0) := by
  rw [fX6_heldNow_39, x_hasEq S _ hq]
  simp only [ite_bind, Option.bind_some, one0, zero0, if_true, if_false]
  unfold px_held
  show (if gI S 36 = 0 then (if 0 ≤ (gI S 37).toInt ∧ (gI S 37).toInt < (gI S 3).toInt then some (gI S 36) else some 2) else some (gI S 36)) = some (if gI S 36 = 0 then (if 0 ≤ (gI S 37).toInt ∧ (gI S 37).toInt < (gI S 3).toInt then 0 else 2) else gI S 36)
  by_cases c : gI S 36 = 0
  · rw [if_pos c, if_pos c, c]; split <;> rfl
  · rw [if_neg c, if_neg c]
theorem x_held1 (S : w_S) (hq : 0 ≤ (gI S 3).toInt ∧ (gI S 3).toInt ≤ 6) : fX6_heldNow_40 S = some (px_held S 1) := by
  rw [fX6_heldNow_40, x_hasEq S _ hq]
  simp only [ite_bind, Option.bind_some, one0, zero0, if_true, if_false]
  unfold px_held
  show (if gI S 39 = 0 then (if 0 ≤ (gI S 40).toInt ∧ (gI S 40).toInt < (gI S 3).toInt then some (gI S 39) else some 2) else some (gI S 39)) = some (if gI S 39 = 0 then (if 0 ≤ (gI S 40).toInt ∧ (gI S 40).toInt < (gI S 3).toInt then 0 else 2) else gI S 39)
  by_cases c : gI S 39 = 0
  · rw [if_pos c, if_pos c, c]; split <;> rfl
  · rw [if_neg c, if_neg c]
theorem x_held2 (S : w_S) (hq : 0 ≤ (gI S 3).toInt ∧ (gI S 3).toInt ≤ 6) : fX6_heldNow_41 S = some (px_held S 2) := by
  rw [fX6_heldNow_41, x_hasEq S _ hq]
  simp only [ite_bind, Option.bind_some, one0, zero0, if_true, if_false]
  unfold px_held
  show (if gI S 42 = 0 then (if 0 ≤ (gI S 43).toInt ∧ (gI S 43).toInt < (gI S 3).toInt then some (gI S 42) else some 2) else some (gI S 42)) = some (if gI S 42 = 0 then (if 0 ≤ (gI S 43).toInt ∧ (gI S 43).toInt < (gI S 3).toInt then 0 else 2) else gI S 42)
  by_cases c : gI S 42 = 0
  · rw [if_pos c, if_pos c, c]; split <;> rfl
  · rw [if_neg c, if_neg c]
theorem x_held3 (S : w_S) (hq : 0 ≤ (gI S 3).toInt ∧ (gI S 3).toInt ≤ 6) : fX6_heldNow_42 S = some (px_held S 3) := by
  rw [fX6_heldNow_42, x_hasEq S _ hq]
  simp only [ite_bind, Option.bind_some, one0, zero0, if_true, if_false]
  unfold px_held
  show (if gI S 45 = 0 then (if 0 ≤ (gI S 46).toInt ∧ (gI S 46).toInt < (gI S 3).toInt then some (gI S 45) else some 2) else some (gI S 45)) = some (if gI S 45 = 0 then (if 0 ≤ (gI S 46).toInt ∧ (gI S 46).toInt < (gI S 3).toInt then 0 else 2) else gI S 45)
  by_cases c : gI S 45 = 0
  · rw [if_pos c, if_pos c, c]; split <;> rfl
  · rw [if_neg c, if_neg c]
def px_take (S : w_S) (k : Nat) (r : Int32) (v : Int32) : Option Int32 := if px_held S k = 2 then some (-11) else if px_held S k = 1 then (if r = 0 then some (-13) else if gI S (38 + 3 * k) = v - 10 then some (gI S (37 + 3 * k)) else some (-13)) else if r = 0 then (fX4_kindOf_1 S (gI S (37 + 3 * k))).bind (fun q => (fX6_isUnder q v).bind (fun u => if u = 0 then some (-13) else some (gI S (37 + 3 * k)))) else some (-13)
theorem x_taken (S : w_S) (hq : 0 ≤ (gI S 3).toInt ∧ (gI S 3).toInt ≤ 6) {a : Int32} (ha : 0 ≤ a.toInt ∧ a.toInt < 4) (v : Int32) : fX6_taken S a v = if 0 ≤ v.toInt ∧ v.toInt ≤ 6 then px_take S a.toInt.toNat 0 v else if 10 ≤ v.toInt ∧ v.toInt ≤ 13 then px_take S a.toInt.toNat 1 v else some (-1) := by
  have r := fb_rng v
  have e1 : 10 ≤ v.toInt → (v - 10).toInt = v.toInt - 10 := fun c => fb_subI (by rw [ti_10]; omega) (by rw [ti_10]; omega)
  rw [fX6_taken, x_isShelf, if_pos ha, x_isKind', x_isSort]
  have hx : (if v < 10 then some 0 else (if 0 ≤ (v - 10).toInt ∧ (v - 10).toInt ≤ 3 then some (1 : Int32) else some 0).bind fun r10 => if r10 = 0 then some 0 else some 1) = if 10 ≤ v.toInt ∧ v.toInt ≤ 13 then some (1 : Int32) else some 0 := by
    by_cases c : v < 10
    · rw [if_pos c]; rw [i_lt, ti_10] at c; rw [if_neg (show ¬ (10 ≤ v.toInt ∧ v.toInt ≤ 13) by omega)]
    · rw [if_neg c]; rw [i_lt, ti_10] at c; rw [e1 (by omega)]
      by_cases d : 10 ≤ v.toInt ∧ v.toInt ≤ 13
      · rw [if_pos d, if_pos (by omega)]; rfl
      · rw [if_neg d, if_neg (by omega)]; rfl
  rw [hx]
  by_cases c1 : 0 ≤ v.toInt ∧ v.toInt ≤ 6
  · rw [if_neg (show ¬ (10 ≤ v.toInt ∧ v.toInt ≤ 13) by omega)]
    simp only [if_pos c1, Option.bind_some, one0, if_false, if_true, ite_bind]
    unfold px_take
    rcases k_cases ha with rfl | rfl | rfl | rfl
    · simp only [x_held0 S hq, Option.bind_some]; rfl
    · simp only [x_held1 S hq, Option.bind_some]; rfl
    · simp only [x_held2 S hq, Option.bind_some]; rfl
    · simp only [x_held3 S hq, Option.bind_some]; rfl
  · rw [if_neg c1, if_neg c1]
    by_cases c2 : 10 ≤ v.toInt ∧ v.toInt ≤ 13
    · rw [if_pos c2, if_pos c2]
      simp only [Option.bind_some, one0, if_false, if_true, ite_bind, zero0]
      unfold px_take
      rcases k_cases ha with rfl | rfl | rfl | rfl
      · simp only [x_held0 S hq, Option.bind_some, one0, if_false]
        show (if px_held S 0 = 2 then some (-11) else if px_held S 0 = 1 then (if gI S 38 = v - 10 then (if (1 : Int32) = 0 then some (-13) else some (gI S 37)) else (if (0 : Int32) = 0 then some (-13) else some (gI S 37))) else some (-13)) = (if px_held S 0 = 2 then some (-11) else if px_held S 0 = 1 then (if gI S 38 = v - 10 then some (gI S 37) else some (-13)) else some (-13))
        simp only [one0, zero0, if_true, if_false]
      · simp only [x_held1 S hq, Option.bind_some, one0, if_false]
        show (if px_held S 1 = 2 then some (-11) else if px_held S 1 = 1 then (if gI S 41 = v - 10 then (if (1 : Int32) = 0 then some (-13) else some (gI S 40)) else (if (0 : Int32) = 0 then some (-13) else some (gI S 40))) else some (-13)) = (if px_held S 1 = 2 then some (-11) else if px_held S 1 = 1 then (if gI S 41 = v - 10 then some (gI S 40) else some (-13)) else some (-13))
        simp only [one0, zero0, if_true, if_false]
      · simp only [x_held2 S hq, Option.bind_some, one0, if_false]
        show (if px_held S 2 = 2 then some (-11) else if px_held S 2 = 1 then (if gI S 44 = v - 10 then (if (1 : Int32) = 0 then some (-13) else some (gI S 43)) else (if (0 : Int32) = 0 then some (-13) else some (gI S 43))) else some (-13)) = (if px_held S 2 = 2 then some (-11) else if px_held S 2 = 1 then (if gI S 44 = v - 10 then some (gI S 43) else some (-13)) else some (-13))
        simp only [one0, zero0, if_true, if_false]
      · simp only [x_held3 S hq, Option.bind_some, one0, if_false]
        show (if px_held S 3 = 2 then some (-11) else if px_held S 3 = 1 then (if gI S 47 = v - 10 then (if (1 : Int32) = 0 then some (-13) else some (gI S 46)) else (if (0 : Int32) = 0 then some (-13) else some (gI S 46))) else some (-13)) = (if px_held S 3 = 2 then some (-11) else if px_held S 3 = 1 then (if gI S 47 = v - 10 then some (gI S 46) else some (-13)) else some (-13))
        simp only [one0, zero0, if_true, if_false]
    · rw [if_neg c2, if_neg c2]; rfl
theorem under_eq {k v : Int32} (hk : 0 ≤ k.toInt ∧ k.toInt ≤ 6) (hv : 0 ≤ v.toInt ∧ v.toInt ≤ 6) : ∃ u, fX6_isUnder k v = some u ∧ fX7_isUnder k v = some u := by
  have a7 : ∀ x : Int32, 0 ≤ x.toInt ∧ x.toInt ≤ 6 → x = 0 ∨ x = 1 ∨ x = 2 ∨ x = 3 ∨ x = 4 ∨ x = 5 ∨ x = 6 := fun x hx => by
    rw [i_eq, i_eq, i_eq, i_eq, i_eq, i_eq, i_eq, ti_0, ti_1, ti_2, ti_3, ti_4, ti_5, ti_6]; omega
  rcases a7 k hk with rfl | rfl | rfl | rfl | rfl | rfl | rfl <;> rcases a7 v hv with rfl | rfl | rfl | rfl | rfl | rfl | rfl <;> exact ⟨_, rfl, rfl⟩
theorem m_held (S : w_S) (hq : 0 ≤ (gI S 2).toInt ∧ (gI S 2).toInt ≤ 6) {a : Int32} (ha : 0 ≤ a.toInt ∧ a.toInt < 4) : fX7_heldBy S a = some (if gA S 14 a.toInt.toNat = 0 then (if 0 ≤ (gA S 15 a.toInt.toNat).toInt ∧ (gA S 15 a.toInt.toNat).toInt < (gI S 2).toInt then 0 else 2) else gA S 14 a.toInt.toNat) := by
  have s1 : ¬ (a < 0 ∨ 4 ≤ a.toInt.toNat) := ix_ok ha.1 (by omega)
  rw [fX7_heldBy, cl_nn, m_isEq S _ hq]
  simp only [if_pos s1, ite_bind, Option.bind_some, one0, zero0, if_true, if_false]
  by_cases c : gA S 14 a.toInt.toNat = 0
  · rw [if_pos c, if_pos c, c]; split <;> rfl
  · rw [if_neg c, if_neg c]
/-- what a shelf holds is the same in both -/
theorem held_eq {X M : w_S} (h : Rel X M) {a : Int32} (ha : 0 ≤ a.toInt ∧ a.toInt < 4) : ∃ p, px_held X a.toInt.toNat = p ∧ fX7_heldBy M a = some p ∧ (p = 0 ∨ p = 1 ∨ p = 2) ∧ (p = 0 → gI X (37 + 3 * a.toInt.toNat) = gA M 15 a.toInt.toNat ∧ 0 ≤ (gI X (37 + 3 * a.toInt.toNat)).toInt ∧ (gI X (37 + 3 * a.toInt.toNat)).toInt < (gI X 3).toInt) ∧ (p = 1 → gI X (37 + 3 * a.toInt.toNat) = gA M 16 a.toInt.toNat ∧ gI X (38 + 3 * a.toInt.toNat) = gA M 15 a.toInt.toNat ∧ bnd 0 3 (gI X (38 + 3 * a.toInt.toNat))) := by
  obtain ⟨⟨e1, e2, e3, e4⟩, hm, hn, hq, -⟩ := nw_of h.1
  obtain ⟨h1, ⟨h2, h2'⟩, h3, h4⟩ := h.2.2.2.2.1 a.toInt.toNat (by omega)
  rw [m_held M (by rw [e4]; exact hq) ha, e4, ← h1]
  refine ⟨_, rfl, ?_, ?_, ?_⟩
  · unfold px_held
    by_cases c : gI X (36 + 3 * a.toInt.toNat) = 0
    · rw [if_pos c, if_pos c, ← h3 c]
    · rw [if_neg c, if_neg c]
  · unfold px_held
    split
    · split
      · exact Or.inl rfl
      · exact Or.inr (Or.inr rfl)
    · rw [i_eq, i_eq, i_eq, ti_0, ti_1, ti_2]; omega
  · unfold px_held
    by_cases c : gI X (36 + 3 * a.toInt.toNat) = 0
    · rw [if_pos c]
      split
      · rename_i d; exact ⟨fun _ => ⟨h3 c, d⟩, fun e => absurd e (by decide)⟩
      · exact ⟨fun e => absurd e (by decide), fun e => absurd e (by decide)⟩
    · rw [if_neg c]; exact ⟨fun e => absurd e c, h4⟩
theorem eq_taken : E_taken Rel := by
  intro X M h a v
  have hw := nw_of h.1
  obtain ⟨⟨e1, e2, e3, e4⟩, hm, hn, hq, hT, h6, h7, o4, -⟩ := id hw
  have rv := fb_rng v
  rw [fX7_taken, m_isShelf, m_isKind', m_in32, show (10 : Int64).toInt = 10 from rfl, show (13 : Int64).toInt = 13 from rfl]
  by_cases ha : 0 ≤ a.toInt ∧ a.toInt < 4
  · have s1 : ¬ (a < 0 ∨ 4 ≤ a.toInt.toNat) := ix_ok ha.1 (by omega)
    rw [x_taken X hq ha, if_pos ha]
    obtain ⟨p, p1, p2, p3, p4, p5⟩ := held_eq h ha
    rw [p2, cl_nn]
    simp only [if_pos s1, some_ite, ite_bind, Option.bind_some, one0, zero0, if_true, if_false]
    unfold px_take
    rw [p1]
    by_cases c1 : 0 ≤ v.toInt ∧ v.toInt ≤ 6
    · rw [if_pos c1, if_pos c1]
      have c6 : ¬ (6 : Int32) < v := by rw [i_lt, ti_6]; omega
      rcases p3 with rfl | rfl | rfl
      · obtain ⟨p6, p7⟩ := p4 rfl
        have s2 : ¬ (gI X (37 + 3 * a.toInt.toNat) < 0 ∨ 6 ≤ (gI X (37 + 3 * a.toInt.toNat)).toNatClampNeg) := ix_ok p7.1 (by omega)
        obtain ⟨u, u1, u2⟩ := under_eq (o4 (gI X (37 + 3 * a.toInt.toNat)).toInt.toNat (by omega)) c1
        simp only [q0_2, q0_1, if_false, eq_self, if_true, if_neg c6]
        rw [← p6, if_pos s2, cl_nn, h6 _ (by omega), u2, x_kindOf X hq.2 p7, Option.bind_some, u1, Option.bind_some]
        by_cases u0 : u = 0
        · rw [if_pos u0]; exact ⟨_, _, rfl, rfl, rfl, h⟩
        · rw [if_neg u0]; exact ⟨_, _, rfl, rfl, rfl, h⟩
      · obtain ⟨p6, p7, p8, p9⟩ := p5 rfl
        have e : (10 + gA M 15 a.toInt.toNat).toInt = 10 + (gA M 15 a.toInt.toNat).toInt := by rw [← p7, fb_addI (by rw [ti_10]; omega) (by rw [ti_10]; omega), ti_10]
        simp only [q1_2, q1_0, if_false, eq_self, if_true]
        rw [if_neg (show ¬ v = 10 + gA M 15 a.toInt.toNat by rw [i_eq, e, ← p7]; omega)]
        exact ⟨_, _, rfl, rfl, rfl, h⟩
      · simp only [eq_self, if_true]; exact ⟨_, _, rfl, rfl, rfl, h⟩
    · rw [if_neg c1, if_neg c1]
      by_cases c2 : 10 ≤ v.toInt ∧ v.toInt ≤ 13
      · rw [if_pos c2, if_pos c2]
        have c6 : (6 : Int32) < v := by rw [i_lt, ti_6]; omega
        rcases p3 with rfl | rfl | rfl
        · simp only [q0_2, q0_1, if_false, eq_self, if_true, if_pos c6, q1_0]; exact ⟨_, _, rfl, rfl, rfl, h⟩
        · obtain ⟨p6, p7, p8, p9⟩ := p5 rfl
          have e : (10 + gA M 15 a.toInt.toNat).toInt = 10 + (gA M 15 a.toInt.toNat).toInt := by rw [← p7, fb_addI (by rw [ti_10]; omega) (by rw [ti_10]; omega), ti_10]
          have e5 : (v - 10).toInt = v.toInt - 10 := fb_subI (by rw [ti_10]; omega) (by rw [ti_10]; omega)
          have iff : (gI X (38 + 3 * a.toInt.toNat) = v - 10) ↔ v = 10 + gA M 15 a.toInt.toNat := by
            rw [i_eq, i_eq, e, e5, ← p7]; omega
          simp only [q1_2, q1_0, if_false, eq_self, if_true]
          by_cases c : v = 10 + gA M 15 a.toInt.toNat
          · rw [if_pos c, if_pos (iff.2 c)]; exact ⟨_, _, rfl, rfl, p6, h⟩
          · rw [if_neg c, if_neg (fun e => c (iff.1 e))]; exact ⟨_, _, rfl, rfl, rfl, h⟩
        · simp only [eq_self, if_true]; exact ⟨_, _, rfl, rfl, rfl, h⟩
      · rw [if_neg c2, if_neg c2]; exact ⟨_, _, rfl, rfl, rfl, h⟩
  · rw [if_neg ha, fX6_taken, x_isShelf, if_neg ha]
    refine ⟨-1, -1, ?_, rfl, rfl, h⟩
    rw [x_isSort]
    by_cases c : v < 10
    · rw [if_pos c]; rfl
    · rw [if_neg c]
      by_cases d : 0 ≤ (v - 10).toInt ∧ (v - 10).toInt ≤ 3
      · rw [if_pos d]; rfl
      · rw [if_neg d]; rfl
