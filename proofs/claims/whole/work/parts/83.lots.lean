/-! ===== by lot ===== -/
def drF (X X' : w_S) : Prop := (∀ k, k ≠ 2 → gI X' k = gI X k) ∧ (∀ k, 3 ≤ k → gA X' k = gA X k) ∧ (∀ k, gB X' k = gB X k)
def drG (M M' : w_S) : Prop := (∀ k, k ≠ 3 → gI M' k = gI M k) ∧ (∀ k, k ≠ 0 → gA M' k = gA M k) ∧ (∀ k, gB M' k = gB M k)
theorem drF_tr {X Y Z : w_S} (h : drF X Y) (g : drF Y Z) : drF X Z := ⟨fun k a => (g.1 k a).trans (h.1 k a), fun k a => (g.2.1 k a).trans (h.2.1 k a), fun k => (g.2.2 k).trans (h.2.2 k)⟩
theorem drG_tr {X Y Z : w_S} (h : drG X Y) (g : drG Y Z) : drG X Z := ⟨fun k a => (g.1 k a).trans (h.1 k a), fun k a => (g.2.1 k a).trans (h.2.1 k a), fun k => (g.2.2 k).trans (h.2.2 k)⟩
theorem drF_rf (X : w_S) : drF X X := ⟨fun _ _ => rfl, fun _ _ => rfl, fun _ => rfl⟩
theorem drG_rf (X : w_S) : drG X X := ⟨fun _ _ => rfl, fun _ _ => rfl, fun _ => rfl⟩
def rnd (z : Int32) : Int32 := ((z.toUInt32 >>> ((16 : Int32).toUInt32 &&& Int32.toUInt32 31)).toInt32)
theorem rnd_nI (z : Int32) : ∃ k, k < 65536 ∧ rnd z = nI k := by
  refine ⟨(z.toUInt32 >>> 16).toNat, ?_, ?_⟩
  · rw [UInt32.toNat_shiftRight, Nat.shiftRight_eq_div_pow]
    have h : z.toUInt32.toNat < 4294967296 := UInt32.toNat_lt _
    rw [show (16 : UInt32).toNat % 32 = 16 from rfl]
    omega
  · unfold rnd
    rw [show ((16 : Int32).toUInt32 &&& Int32.toUInt32 31) = 16 by decide]
    generalize z.toUInt32 >>> 16 = y
    show y.toInt32 = (UInt32.ofNat y.toNat).toInt32
    rw [UInt32.ofNat_toNat]
theorem rnd_101 (z : Int32) : bnd (-50) 50 (rnd z - rnd z / 101 * 101 - 50) := by
  obtain ⟨k, hk, e⟩ := rnd_nI z
  rw [e, show (101 : Int32) = nI 101 from rfl, nI_mod (by omega) (by omega)]
  have h := nI_toInt (n := k % 101) (by omega)
  unfold bnd
  rw [fb_subI (by rw [h, ti_50]; omega) (by rw [h, ti_50]; omega), h, ti_50]
  omega
theorem rnd_11 (z : Int32) : bnd (-5) 5 (rnd z - rnd z / 11 * 11 - 5) := by
  obtain ⟨k, hk, e⟩ := rnd_nI z
  rw [e, show (11 : Int32) = nI 11 from rfl, nI_mod (by omega) (by omega)]
  have h := nI_toInt (n := k % 11) (by omega)
  unfold bnd
  rw [fb_subI (by rw [h, ti_5]; omega) (by rw [h, ti_5]; omega), h, ti_5]
  omega
/-- one entry -/
theorem one_draw {X M : w_S} (h : Rel X M) {t i j : Int32} (hc : isAt (gI X 0).toInt (gI X 1).toInt t i j) {z v : Int32} (hb : (t = 2 ∧ bnd (-50) 50 v) ∨ (t ≠ 2 ∧ bnd (-5) 5 v)) :
    ∃ X', fX4_store_1 (sI X 2 z) t i j v = some X' ∧ (¬ ((((9 * t) + (3 * i)) + j) < 0 ∨ 27 ≤ (((9 * t) + (3 * i)) + j).toNatClampNeg)) ∧ Rel X' (sA (sI M 3 z) 0 (upd (gA M 0) (((9 * t) + (3 * i)) + j).toNatClampNeg v)) ∧ drF X X' ∧ drG M (sA (sI M 3 z) 0 (upd (gA M 0) (((9 * t) + (3 * i)) + j).toNatClampNeg v)) := by
  have hw := nw_of h.1
  obtain ⟨⟨e1, e2, e3, e4⟩, hm, hn, hq, hT, -⟩ := id hw
  obtain ⟨ht, hi, hj⟩ := isAt_room hm hn hc
  obtain ⟨X', s1, s2, s3, s4, s5⟩ := x_store (sI X 2 z) v ht hi hj
  obtain ⟨q1, q2⟩ := m_idx ht hi hj
  have f1 : ∀ k, k ≠ 2 → gI X' k = gI X k := fun k hk => by rw [s3, gI_sI, if_neg hk]
  have f2 : ∀ k, 3 ≤ k → gA X' k = gA X k := fun k hk => by rw [s5 k hk]; rfl
  refine ⟨X', s1, q1, ?_, ⟨f1, f2, fun k => by rw [s4]; rfl⟩, ⟨fun k hk => by rw [gI_sA, gI_sI, if_neg hk], fun k hk => by rw [gA_sA, if_neg hk]; rfl, fun k => rfl⟩⟩
  refine Rel_T h ⟨⟨fun k a _ _ _ => f1 k (by omega), fun k a _ => f2 k (by omega), fun k _ => by rw [s4]; rfl⟩, fun k a _ => by rw [gI_sA, gI_sI, if_neg (by omega)], ⟨rfl, rfl, rfl, rfl, fun k hk => by rw [gA_sA, if_neg (by omega)]; rfl⟩, rfl⟩ (of_nw (nw_upd hw (k0 := at9 t i j) (v := v) ?_ (at9_in hm hn hc) (fun k hk => by rw [s2 k hk]; rfl) (fun k _ hk => f1 k hk) (fun k a _ => f2 k a) (fun k hk => ?_) (fun k hk => by rw [gI_sA, gI_sI, if_neg (by omega)]) ⟨rfl, rfl⟩ ?_))
  · unfold at9
    rcases hb with ⟨rfl, hv⟩ | ⟨h2, hv⟩
    · right; rw [ti_2]; exact ⟨by omega, hv⟩
    · left
      refine ⟨?_, hv⟩
      rw [ne_eq, i_eq, ti_2] at h2; omega
  · rw [gA_sA, if_pos rfl, upd_ap, q2]
  · show z = gI X' 2
    rw [s3]; rfl
def zN (z : Int32) : Int32 := z * 1103515245 + 12345
theorem draw_row {X M : w_S} (h : Rel X M) {t i : Nat} (ht : t < 3) (hi : (i : Int) < if t = 1 then (gI X 1).toInt else (gI X 0).toInt) :
    ∃ X' M', fX4_drawTable_1_L13 (nI t) (nI i) 256 X 0 = some X' ∧ fX7_lots_L20 (nI t) (nI i) 256 M 0 = some M' ∧ Rel X' M' ∧ drF X X' ∧ drG M M' := by
  have hw := nw_of h.1
  obtain ⟨⟨e1, e2, e3, e4⟩, hm, hn, hq, hT, -⟩ := id hw
  have hi3 : i < 3 := by split at hi <;> omega
  obtain ⟨C, hC, eC⟩ : ∃ C : Nat, C ≤ 3 ∧ (if nI t = 0 then gI X 0 else gI X 1) = nI C := by
    by_cases c : nI t = 0
    · obtain ⟨C, a, b⟩ := side_nI hm; exact ⟨C, by omega, by rw [if_pos c, b]⟩
    · obtain ⟨C, a, b⟩ := side_nI hn; exact ⟨C, by omega, by rw [if_neg c, b]⟩
  obtain ⟨X', M', z1, z2, z3⟩ := loop2 (fun q (Y : w_S) j => fX4_drawTable_1_L13 (nI t) (nI i) q Y j) (fun q (N : w_S) j => fX7_lots_L20 (nI t) (nI i) q N j) (fun _ Y N => Rel Y N ∧ drF X Y ∧ drG M N) (fun Y N => Rel Y N ∧ drF X Y ∧ drG M N) C
    (fun q q' j Y N hj hI => by
      obtain ⟨i1, i2, i3⟩ := hI
      have hwY := nw_of i1.1
      obtain ⟨⟨b1, b2, b3, b4⟩, -⟩ := hwY
      have a0 : gI Y 0 = gI X 0 := i2.1 0 (by omega)
      have a1 : gI Y 1 = gI X 1 := i2.1 1 (by omega)
      have xc : fX4_columns_1 Y (nI t) = some (nI C) := by rw [fX4_columns_1, a0, a1, ← eC]; simp only [some_ite]
      have mc : fX7_columnsOf N (nI t) = some (nI C) := by rw [fX7_columnsOf, b1, b2, a0, a1, ← eC]; simp only [some_ite]
      have hin : isAt (gI Y 0).toInt (gI Y 1).toInt (nI t) (nI i) (nI j) := by
        rw [a0, a1]
        have tt := nI_toInt (n := t) (by omega)
        have ii := nI_toInt (n := i) (by omega)
        have jj := nI_toInt (n := j) (by omega)
        refine ⟨by omega, by omega, by omega, ?_, by omega, ?_⟩
        · rw [ii]
          by_cases c : t = 1
          · rw [if_pos (by rw [c]; rfl)]; rw [if_pos c] at hi; exact hi
          · rw [if_neg (fun e => c (by rw [show (1 : Int32) = nI 1 from rfl, nI_eq (by omega) (by omega)] at e; exact e))]; rw [if_neg c] at hi; exact hi
        · rw [jj]
          have hC2 : (if nI t = 0 then (gI X 0).toInt else (gI X 1).toInt) = (C : Int) := by
            have : (if nI t = 0 then gI X 0 else gI X 1).toInt = (C : Int) := by rw [eC, nI_toInt (by omega)]
            rw [← this]; split <;> rfl
          rw [hC2]; omega
      show ∃ t1 t2, _ ∧ fX4_drawTable_1_L13 (nI t) (nI i) (q + 1) Y (nI j) = _ ∧ fX7_lots_L20 (nI t) (nI i) (q' + 1) N (nI j) = _
      rw [fX4_drawTable_1_L13, fX7_lots_L20, xc, mc, Option.bind_some, Option.bind_some, if_neg (nI_ge hj (by omega)), b3, nI_1]
      have fin2 : ∀ v, ((nI t = 2 ∧ bnd (-50) 50 v) ∨ (nI t ≠ 2 ∧ bnd (-5) 5 v)) → ∃ X' N', fX4_store_1 (sI Y 2 (zN (gI Y 2))) (nI t) (nI i) (nI j) v = some X' ∧ (¬ ((((9 * nI t) + (3 * nI i)) + nI j) < 0 ∨ 27 ≤ (((9 * nI t) + (3 * nI i)) + nI j).toNatClampNeg)) ∧ (sA (sI N 3 (zN (gI Y 2))) 0 (upd (gA N 0) (((9 * nI t) + (3 * nI i)) + nI j).toNatClampNeg v)) = N' ∧ Rel X' N' ∧ drF X X' ∧ drG M N' := by
        intro v hv
        obtain ⟨X', w1, w2, w3, w4, w5⟩ := one_draw i1 hin (z := zN (gI Y 2)) hv
        exact ⟨X', _, w1, w2, rfl, w3, drF_tr i2 w4, drG_tr i3 w5⟩
      by_cases c : nI t = 2
      · obtain ⟨X', N', w1, w2, w3, w4, w5, w6⟩ := fin2 _ (Or.inl ⟨c, rnd_101 (zN (gI Y 2))⟩)
        refine ⟨X', N', ⟨w4, w5, w6⟩, ?_, ?_⟩
        · rw [if_pos c]
          exact (congrArg (fun o : Option w_S => o.bind _) w1)
        · rw [if_neg (nI_ge hj (by omega)), if_pos c, if_pos w2, ← w3]; rfl
      · obtain ⟨X', N', w1, w2, w3, w4, w5, w6⟩ := fin2 _ (Or.inr ⟨c, rnd_11 (zN (gI Y 2))⟩)
        refine ⟨X', N', ⟨w4, w5, w6⟩, ?_, ?_⟩
        · rw [if_neg c]
          exact (congrArg (fun o : Option w_S => o.bind _) w1)
        · rw [if_neg (nI_ge hj (by omega)), if_neg c, if_pos w2, ← w3]; rfl)
    (fun q q' Y N hI => by
      obtain ⟨i1, i2, i3⟩ := hI
      have hwY := nw_of i1.1
      obtain ⟨⟨b1, b2, b3, b4⟩, -⟩ := hwY
      have a0 : gI Y 0 = gI X 0 := i2.1 0 (by omega)
      have a1 : gI Y 1 = gI X 1 := i2.1 1 (by omega)
      have xc : fX4_columns_1 Y (nI t) = some (nI C) := by rw [fX4_columns_1, a0, a1, ← eC]; simp only [some_ite]
      have mc : fX7_columnsOf N (nI t) = some (nI C) := by rw [fX7_columnsOf, b1, b2, a0, a1, ← eC]; simp only [some_ite]
      refine ⟨Y, N, ?_, ?_, i1, i2, i3⟩
      · show fX4_drawTable_1_L13 (nI t) (nI i) (q + 1) Y (nI C) = _
        rw [fX4_drawTable_1_L13, xc, Option.bind_some, if_pos (Int32.le_refl _)]
      · show fX7_lots_L20 (nI t) (nI i) (q' + 1) N (nI C) = _
        rw [fX7_lots_L20, mc, Option.bind_some, if_pos (Int32.le_refl _)]) C 256 256 0 X M (by omega) (by omega) (by omega) (by omega) ⟨h, drF_rf X, drG_rf M⟩
  exact ⟨X', M', z1, z2, z3⟩
theorem draw_table {X M : w_S} (h : Rel X M) {t : Nat} (ht : t < 3) :
    ∃ X' M', fX4_drawTable_1 X (nI t) = some X' ∧ fX7_lots_L9 (nI t) 256 M 0 = some M' ∧ Rel X' M' ∧ drF X X' ∧ drG M M' := by
  have hw := nw_of h.1
  obtain ⟨⟨e1, e2, e3, e4⟩, hm, hn, hq, hT, -⟩ := id hw
  obtain ⟨C, hC, eC⟩ : ∃ C : Nat, C ≤ 3 ∧ (if nI t = 1 then gI X 1 else gI X 0) = nI C := by
    by_cases c : nI t = 1
    · obtain ⟨C, a, b⟩ := side_nI hn; exact ⟨C, by omega, by rw [if_pos c, b]⟩
    · obtain ⟨C, a, b⟩ := side_nI hm; exact ⟨C, by omega, by rw [if_neg c, b]⟩
  obtain ⟨X', M', z1, z2, z3⟩ := loop2 (fun q (Y : w_S) j => fX4_drawTable_1_L2 (nI t) q Y j) (fun q (N : w_S) j => fX7_lots_L9 (nI t) q N j) (fun _ Y N => Rel Y N ∧ drF X Y ∧ drG M N) (fun Y N => Rel Y N ∧ drF X Y ∧ drG M N) C
    (fun q q' i Y N hi hI => by
      obtain ⟨i1, i2, i3⟩ := hI
      have hwY := nw_of i1.1
      obtain ⟨⟨b1, b2, b3, b4⟩, -⟩ := hwY
      have a0 : gI Y 0 = gI X 0 := i2.1 0 (by omega)
      have a1 : gI Y 1 = gI X 1 := i2.1 1 (by omega)
      have xc : fX4_rows_1 Y (nI t) = some (nI C) := by rw [fX4_rows_1, a0, a1, ← eC]; simp only [some_ite]
      have mc : fX7_rowsOf N (nI t) = some (nI C) := by rw [fX7_rowsOf, b1, b2, a0, a1, ← eC]; simp only [some_ite]
      obtain ⟨X', N', w1, w2, w3, w4, w5⟩ := draw_row i1 ht (i := i) (by
        rw [a0, a1]
        have hC2 : (if nI t = 1 then (gI X 1).toInt else (gI X 0).toInt) = (C : Int) := by
          have : (if nI t = 1 then gI X 1 else gI X 0).toInt = (C : Int) := by rw [eC, nI_toInt (by omega)]
          rw [← this]; split <;> rfl
        have e9 : (nI t = 1) ↔ t = 1 := by rw [show (1 : Int32) = nI 1 from rfl, nI_eq (by omega) (by omega)]
        by_cases c : t = 1
        · rw [if_pos c]; rw [if_pos (e9.2 c)] at hC2; omega
        · rw [if_neg c]; rw [if_neg (fun e => c (e9.1 e))] at hC2; omega)
      refine ⟨X', N', ⟨w3, drF_tr i2 w4, drG_tr i3 w5⟩, ?_, ?_⟩
      · show fX4_drawTable_1_L2 (nI t) (q + 1) Y (nI i) = _
        rw [fX4_drawTable_1_L2, xc, Option.bind_some, if_neg (nI_ge hi (by omega)), w1, Option.bind_some, nI_1]
      · show fX7_lots_L9 (nI t) (q' + 1) N (nI i) = _
        rw [fX7_lots_L9, mc, Option.bind_some, if_neg (nI_ge hi (by omega)), w2, Option.bind_some, nI_1])
    (fun q q' Y N hI => by
      obtain ⟨i1, i2, i3⟩ := hI
      have hwY := nw_of i1.1
      obtain ⟨⟨b1, b2, b3, b4⟩, -⟩ := hwY
      have a0 : gI Y 0 = gI X 0 := i2.1 0 (by omega)
      have a1 : gI Y 1 = gI X 1 := i2.1 1 (by omega)
      have xc : fX4_rows_1 Y (nI t) = some (nI C) := by rw [fX4_rows_1, a0, a1, ← eC]; simp only [some_ite]
      have mc : fX7_rowsOf N (nI t) = some (nI C) := by rw [fX7_rowsOf, b1, b2, a0, a1, ← eC]; simp only [some_ite]
      refine ⟨Y, N, ?_, ?_, i1, i2, i3⟩
      · show fX4_drawTable_1_L2 (nI t) (q + 1) Y (nI C) = _
        rw [fX4_drawTable_1_L2, xc, Option.bind_some, if_pos (Int32.le_refl _)]
      · show fX7_lots_L9 (nI t) (q' + 1) N (nI C) = _
        rw [fX7_lots_L9, mc, Option.bind_some, if_pos (Int32.le_refl _)]) C 256 256 0 X M (by omega) (by omega) (by omega) (by omega) ⟨h, drF_rf X, drG_rf M⟩
  have z1' : fX4_drawTable_1_L2 (nI t) 256 X 0 = some X' := z1
  exact ⟨X', M', by rw [fX4_drawTable_1, z1']; rfl, z2, z3⟩
theorem draw_all {X M : w_S} (h : Rel X M) : ∃ X' M', fX4_draw_1 X = some X' ∧ fX7_lots M = some M' ∧ Rel X' M' ∧ drF X X' ∧ drG M M' := by
  obtain ⟨X1, M1, a1, a2, a3, a4, a5⟩ := draw_table h (t := 0) (by omega)
  obtain ⟨X2, M2, b1, b2, b3, b4, b5⟩ := draw_table a3 (t := 1) (by omega)
  obtain ⟨X3, M3, c1, c2, c3, c4, c5⟩ := draw_table b3 (t := 2) (by omega)
  refine ⟨X3, M3, ?_, ?_, c3, drF_tr a4 (drF_tr b4 c4), drG_tr a5 (drG_tr b5 c5)⟩
  · have a1' : fX4_drawTable_1 X 0 = some X1 := a1
    have b1' : fX4_drawTable_1 X1 1 = some X2 := b1
    have c1' : fX4_drawTable_1 X2 2 = some X3 := c1
    rw [fX4_draw_1, a1', Option.bind_some, b1', Option.bind_some, c1']; rfl
  · have a2' : fX7_lots_L9 0 256 M 0 = some M1 := a2
    have b2' : fX7_lots_L9 (0 + 1) 256 M1 0 = some M2 := b2
    have c2' : fX7_lots_L9 (0 + 1 + 1) 256 M2 0 = some M3 := c2
    rw [fX7_lots, show (256 : Nat) = 255 + 1 from rfl, fX7_lots_L2, if_neg (by decide), a2', Option.bind_some, show (255 : Nat) = 254 + 1 from rfl, fX7_lots_L2, if_neg (by decide), b2', Option.bind_some, show (254 : Nat) = 253 + 1 from rfl, fX7_lots_L2, if_neg (by decide), c2', Option.bind_some, show (253 : Nat) = 252 + 1 from rfl, fX7_lots_L2, if_pos (by decide)]; rfl
theorem eq_lot : E_lot Rel := by
  intro X M h
  obtain ⟨X', M', a1, a2, a3, -⟩ := draw_all h
  obtain ⟨-, -, -, -, hT, -⟩ := nw_of a3.1
  have e : at9 2 0 0 = 18 := rfl
  rw [fX6_lot, fX7_lot, a1, a2, Option.bind_some, Option.bind_some, x_entry X' (by decide) (by decide) (by decide), m_its M' (by decide) (by decide) (by decide), e]
  exact ⟨_, _, rfl, rfl, by rw [hT 18 (by omega)], a3⟩
theorem saves13 (S : w_S) : ∃ f, fX7_saves_1_3 S = some (sA S 2 f) ∧ ∀ i, i < 27 → f i = gA S 0 i := by
  rw [fX7_saves_1_3]
  obtain ⟨t, e1, f, rfl, e2⟩ := loop_up (fun q (f : Nat → Int32) i => fX7_saves_1_3_L2 q (sA S 2 f) i) (fun k f => ∀ i, i < k → f i = gA S 0 i) (fun t => ∃ f, t = sA S 2 f ∧ ∀ i, i < 27 → f i = gA S 0 i) 27
    (fun q k f hk hI => ⟨upd f k (gA S 0 k), fun i hi => by
      rw [upd_ap]
      by_cases e : i = k
      · rw [if_pos e, e]
      · rw [if_neg e]; exact hI i (by omega), by
      show fX7_saves_1_3_L2 (q + 1) (sA S 2 f) (nI k) = _
      rw [fX7_saves_1_3_L2, show (27 : Int32) = nI 27 from rfl, if_neg (nI_ge hk (by omega)), if_pos (nI_inN hk (by decide)), if_pos (nI_inN hk (by decide)), nI_clamp (by omega), nI_1, sA_sA, gA_sA, if_pos rfl, gA_sA, if_neg (by decide)]⟩)
    (fun q f hI => ⟨_, by
      show fX7_saves_1_3_L2 (q + 1) (sA S 2 f) (nI 27) = _
      rw [fX7_saves_1_3_L2, show (27 : Int32) = nI 27 from rfl, if_pos (Int32.le_refl _)], f, rfl, hI⟩) 256 0 (gA S 2) (by omega) (by omega) (fun i hi => by omega)
  simp only [sA_self] at e1
  have e1' : fX7_saves_1_3_L2 256 S 0 = some (sA S 2 f) := e1
  exact ⟨f, by rw [e1']; rfl, e2⟩
theorem saves31 (S : w_S) : ∃ f, fX7_saves_3_1 S = some (sA S 0 f) ∧ ∀ i, i < 27 → f i = gA S 2 i := by
  rw [fX7_saves_3_1]
  obtain ⟨t, e1, f, rfl, e2⟩ := loop_up (fun q (f : Nat → Int32) i => fX7_saves_3_1_L2 q (sA S 0 f) i) (fun k f => ∀ i, i < k → f i = gA S 2 i) (fun t => ∃ f, t = sA S 0 f ∧ ∀ i, i < 27 → f i = gA S 2 i) 27
    (fun q k f hk hI => ⟨upd f k (gA S 2 k), fun i hi => by
      rw [upd_ap]
      by_cases e : i = k
      · rw [if_pos e, e]
      · rw [if_neg e]; exact hI i (by omega), by
      show fX7_saves_3_1_L2 (q + 1) (sA S 0 f) (nI k) = _
      rw [fX7_saves_3_1_L2, show (27 : Int32) = nI 27 from rfl, if_neg (nI_ge hk (by omega)), if_pos (nI_inN hk (by decide)), if_pos (nI_inN hk (by decide)), nI_clamp (by omega), nI_1, sA_sA, gA_sA, if_pos rfl, gA_sA, if_neg (by decide)]⟩)
    (fun q f hI => ⟨_, by
      show fX7_saves_3_1_L2 (q + 1) (sA S 0 f) (nI 27) = _
      rw [fX7_saves_3_1_L2, show (27 : Int32) = nI 27 from rfl, if_pos (Int32.le_refl _)], f, rfl, hI⟩) 256 0 (gA S 0) (by omega) (by omega) (fun i hi => by omega)
  simp only [sA_self] at e1
  have e1' : fX7_saves_3_1_L2 256 S 0 = some (sA S 0 f) := e1
  exact ⟨f, by rw [e1']; rfl, e2⟩
