/-! ===== a text told: entries ===== -/
def sp (S : w_S) : w_S := (fX4_copyFrom_1_13 S).getD S
theorem sp_cp (S : w_S) : fX4_copyFrom_1_13 S = some (sp S) := rfl
theorem gI_sp (S : w_S) (k : Nat) : gI (sp S) k = if k = 3 then gI S 11 else if k = 2 then gI S 10 else if k = 1 then gI S 9 else if k = 0 then gI S 8 else gI S k := rfl
theorem gA_sp (S : w_S) (k : Nat) : gA (sp S) k = if k = 4 then va_cpy (gA S 14) (gA S 4) 0 0 6 else if k = 3 then va_cpy (gA S 13) (gA S 3) 0 0 6 else if k = 2 then va_cpy (gA S 12) (gA S 2) 0 0 9 else if k = 1 then va_cpy (gA S 11) (gA S 1) 0 0 9 else if k = 0 then va_cpy (gA S 10) (gA S 0) 0 0 9 else gA S k := rfl
theorem gB_sp (S : w_S) (k : Nat) : gB (sp S) k = gB S k := rfl
theorem frX_sp22 (S : w_S) (v : Int32) : frX (sp S) (sp (sI S 22 v)) := by
  refine ⟨fun k _ _ hk => ?_, fun k _ => rfl, fun k _ => rfl⟩
  rw [gI_sp, gI_sp]
  simp only [gI_sI]
  simp only [if_neg (show ¬ (11 : Nat) = 22 by decide), if_neg (show ¬ (10 : Nat) = 22 by decide), if_neg (show ¬ (9 : Nat) = 22 by decide), if_neg (show ¬ (8 : Nat) = 22 by decide), if_neg hk]
def frP (M M' : w_S) : Prop := (∀ k, ¬ (10 ≤ k ∧ k < 18) → gI M' k = gI M k) ∧ (∀ k, k ≠ 0 → k ≠ 2 → ¬ (8 ≤ k ∧ k < 12) → gA M' k = gA M k) ∧ gB M' 3 = gB M 3
/-- reading goes on: the class's place is P -/
def PI (X M : w_S) (A : Nat → Int32) (b : Nat → Int32) (N P : Nat) (S M' : w_S) : Prop := frX X S ∧ frP M M' ∧ gA M' 2 = A ∧ Rel (sp S) M' ∧ TpX S b N P ∧ TpM M' b N
def TK (M' : w_S) (b : Nat → Int32) (N P : Nat) : Prop := gI M' 10 = nI (sk b N P) ∧ gI M' 11 = nI (te b N (sk b N P)) ∧ gI M' 12 = -1
theorem frM_i {M : w_S} {k : Nat} (h : 10 ≤ k ∧ k < 18) (v : Int32) : frM M (sI M k v) := ⟨fun j hj => by rw [gI_sI, if_neg (by omega)], fun _ _ _ => rfl, rfl⟩
theorem frP_i {M : w_S} {k : Nat} (h : 10 ≤ k ∧ k < 18) (v : Int32) : frP M (sI M k v) := ⟨fun j hj => by rw [gI_sI, if_neg (by omega)], fun _ _ _ _ => rfl, rfl⟩
theorem frP_tr {X Y Z : w_S} (h : frP X Y) (g : frP Y Z) : frP X Z := ⟨fun k a => (g.1 k a).trans (h.1 k a), fun k a b c => (g.2.1 k a b c).trans (h.2.1 k a b c), g.2.2.trans h.2.2⟩
theorem PI_x {X M : w_S} {A b : Nat → Int32} {N P : Nat} {S M' : w_S} (h : PI X M A b N P S M') {Q : Nat} (hQ : Q ≤ N) : PI X M A b N Q (sI S 22 (nI Q)) M' := by
  obtain ⟨h1, h2, h3, h4, h5, h6⟩ := h
  exact ⟨frX_tr h1 ⟨fun k _ _ hk => by rw [gI_sI, if_neg hk], fun _ _ => rfl, fun _ _ => rfl⟩, h2, h3, Rel_S h4 (frX_sp22 S _) (frM_rf M'), TpX_P h5 hQ, h6⟩
theorem PI_m {X M : w_S} {A b : Nat → Int32} {N P : Nat} {S M' : w_S} (h : PI X M A b N P S M') {k : Nat} (hk : 10 ≤ k ∧ k < 18) (v : Int32) : PI X M A b N P S (sI M' k v) := by
  obtain ⟨h1, h2, h3, h4, h5, h6⟩ := h
  exact ⟨h1, frP_tr h2 (frP_i hk v), h3, Rel_S h4 (frX_rf _) (frM_i hk v), h5, h6.1, by rw [gI_sI, if_neg (by omega)]; exact h6.2.1, h6.2.2⟩
theorem pi_skip {X M : w_S} {A b : Nat → Int32} {N P : Nat} {S M' : w_S} (h : PI X M A b N P S M') : fX5_skipBlanks_25 S = some (sI S 22 (nI (sk b N P))) ∧ PI X M A b N (sk b N P) (sI S 22 (nI (sk b N P))) M' :=
  ⟨x_skip h.2.2.2.2.1, PI_x h (sk_rg b h.2.2.2.2.1.2.2.2.2.2).2⟩
theorem tk_skip {b : Nat → Int32} {N P : Nat} {M' : w_S} (hP : P ≤ N) (h : TK M' b N P) : TK M' b N (sk b N P) := by
  unfold TK; rw [sk_idem b hP]; exact h
/-- the model goes to the token behind -/
theorem pi_next {X M : w_S} {A b : Nat → Int32} {N P : Nat} {S M' : w_S} (h : PI X M A b N P S M') (h11 : gI M' 11 = nI P) (h12 : gI M' 12 = -1) : ∃ M2, fX7_next M' = some M2 ∧ PI X M A b N P S M2 ∧ TK M2 b N P ∧ gI M2 13 = gI M' 13 := by
  refine ⟨_, m_next h.2.2.2.2.2 h11 h.2.2.2.2.1.2.2.2.2.2, PI_m (PI_m h (by omega) _) (by omega) _, ⟨?_, ?_, ?_⟩, ?_⟩
  · rw [gI_sI, if_neg (by omega), gI_sI, if_pos rfl]
  · rw [gI_sI, if_pos rfl]
  · rw [gI_sI, if_neg (by omega), gI_sI, if_neg (by omega)]; exact h12
  · rw [gI_sI, if_neg (by omega), gI_sI, if_neg (by omega)]
theorem te_sign {b : Nat → Int32} {N f : Nat} (hf : f < N) {c : Int32} (hb : b f = c) (hc : c.toInt < 48) : te b N f = f + 1 := by
  unfold te isL isD
  rw [if_neg (by omega), if_neg (by rw [decide_eq_true_eq, hb]; omega), if_neg (by rw [decide_eq_true_eq, hb]; omega)]
theorem te_sign2 {b : Nat → Int32} {N f : Nat} (hf : f < N) {c : Int32} (hb : b f = c) (hc : 57 < c.toInt ∧ c.toInt < 97) : te b N f = f + 1 := by
  unfold te isL isD
  rw [if_neg (by omega), if_neg (by rw [decide_eq_true_eq, hb]; omega), if_neg (by rw [decide_eq_true_eq, hb]; omega)]
/-- a sign: '-', ',' or ';' -/
theorem pi_mark {X M : w_S} {A b : Nat → Int32} {N P : Nat} {S M' : w_S} (h : PI X M A b N P S M') (tk : TK M' b N P) (c : Int32) (hc : c = 45 ∨ c = 44 ∨ c = 59) :
    (fX5_readMark_25 S c = some (1, sI S 22 (nI (sk b N P + 1))) ∧ fX7_is M' c = some 1 ∧ gI M' 11 = nI (sk b N P + 1) ∧ sk b N P + 1 ≤ N) ∨ (fX5_readMark_25 S c = some (0, sI S 22 (nI (sk b N P))) ∧ fX7_is M' c = some 0) := by
  obtain ⟨s1, s2⟩ := pi_skip h
  have hsk := sk_rg b h.2.2.2.2.1.2.2.2.2.2
  have hx := x_here s2.2.2.2.2.1 (a := 0) (by omega)
  have hx' : fX5_here_25 (sI S 22 (nI (sk b N P))) 0 = _ := hx
  have hm := m_is h.2.2.2.2.2 hsk.2 tk.1 tk.2.1 c
  have h5 := h.2.2.2.2.1.2.2.2.2.1
  have hN := h.2.2.2.2.2.1
  have tt := tk.2.1
  generalize sk b N P = f at *
  rw [fX5_readMark_25, s1, Option.bind_some, hx', Option.bind_some, Nat.add_zero, hm]
  have hcb : 0 ≤ c.toInt ∧ c.toInt < 128 := by rcases hc with rfl | rfl | rfl <;> decide
  have hcn : ¬ (-1 : Int32) = c := by rcases hc with rfl | rfl | rfl <;> decide
  by_cases d : f < N ∧ b f = c
  · have te1 : te b N f = f + 1 := by
      rcases hc with e | e | e
      · exact te_sign d.1 d.2 (by rw [e]; decide)
      · exact te_sign d.1 d.2 (by rw [e]; decide)
      · exact te_sign2 d.1 d.2 (by rw [e]; decide)
    left
    rw [if_pos d.1, if_pos ((byte_eq (h5 f (by omega)) hcb).2 d.2), if_pos ⟨d.1, te1, d.2⟩, tt, te1, gI_sI, if_pos rfl, nI_1, sI_sI]
    exact ⟨rfl, rfl, rfl, by omega⟩
  · right
    rw [if_neg (show ¬ (f < N ∧ te b N f = f + 1 ∧ b f = c) from fun e => d ⟨e.1, e.2.2⟩)]
    refine ⟨?_, rfl⟩
    by_cases e : f < N
    · rw [if_pos e, if_neg (fun g => d ⟨e, (byte_eq (h5 f (by omega)) hcb).1 g⟩)]
    · rw [if_neg e, if_neg hcn]
/-- an entry of the spare tables -/
theorem x_store13 (S : w_S) {t i j : Int32} (v : Int32) (ht : 0 ≤ t.toInt ∧ t.toInt ≤ 2) (hi : 0 ≤ i.toInt ∧ i.toInt < 3) (hj : 0 ≤ j.toInt ∧ j.toInt < 3) : ∃ S', fX4_store_13 S t i j v = some S' ∧ (∀ k, k < 27 → TX (sp S') k = if k = at9 t i j then v else TX (sp S) k) ∧ gI S' = gI S ∧ gB S' = gB S ∧ (∀ k, ¬ (10 ≤ k ∧ k < 13) → gA S' k = gA S k) := by
  have h1 := idx3 hi hj
  have h3 : ¬ ((i * 3) + j < 0 ∨ 9 ≤ ((i * 3) + j).toNatClampNeg) := ix_ok (by omega) (by omega)
  have h2 : ((i * 3) + j).toNatClampNeg = 3 * i.toInt.toNat + j.toInt.toNat := by rw [cl_nn]; omega
  rw [h2] at h3
  rw [fX4_store_13, x_isRoom hi hj]
  simp only [Option.bind_some, one0, if_false, h2, h3, not_false_eq_true, if_true]
  have T0 : ∀ (S : w_S) k, k < 9 → TX (sp S) k = gA S 10 k := fun S k hk => by
    rw [TXa0 _ hk, gA_sp]; exact cpy9 _ _ hk
  have T1 : ∀ (S : w_S) k, k < 9 → TX (sp S) (9 + k) = gA S 11 k := fun S k hk => by
    rw [TXa1 _ hk, gA_sp]; exact cpy9 _ _ hk
  have T2 : ∀ (S : w_S) k, k < 9 → TX (sp S) (18 + k) = gA S 12 k := fun S k hk => by
    rw [TXa2 _ hk, gA_sp]; exact cpy9 _ _ hk
  have cs : ∀ k, k < 27 → k < 9 ∨ (∃ q, q < 9 ∧ k = 9 + q) ∨ ∃ q, q < 9 ∧ k = 18 + q := fun k hk => by
    by_cases a : k < 9
    · exact Or.inl a
    · by_cases c : k < 18
      · exact Or.inr (Or.inl ⟨k - 9, by omega, by omega⟩)
      · exact Or.inr (Or.inr ⟨k - 18, by omega, by omega⟩)
  rcases t_cases ht with rfl | rfl | rfl
  · rw [if_pos rfl]
    refine ⟨_, rfl, fun k hk => ?_, rfl, rfl, fun k hk => by rw [gA_sA, if_neg (by omega)]⟩
    have ea : at9 0 i j = 3 * i.toInt.toNat + j.toInt.toNat := by unfold at9; rw [ti_0]; simp
    rw [ea]
    rcases cs k hk with a | ⟨q, a, rfl⟩ | ⟨q, a, rfl⟩
    · rw [T0 _ k a, T0 _ k a, gA_sA, if_pos rfl, upd_ap]
    · rw [T1 _ q a, T1 _ q a, if_neg (by omega)]; rfl
    · rw [T2 _ q a, T2 _ q a, if_neg (by omega)]; rfl
  · rw [if_neg (by decide), if_pos rfl]
    refine ⟨_, rfl, fun k hk => ?_, rfl, rfl, fun k hk => by rw [gA_sA, if_neg (by omega)]⟩
    have ea : at9 1 i j = 9 + (3 * i.toInt.toNat + j.toInt.toNat) := by unfold at9; rw [ti_1]; show 9 * 1 + _ + _ = _; omega
    rw [ea]
    rcases cs k hk with a | ⟨q, a, rfl⟩ | ⟨q, a, rfl⟩
    · rw [T0 _ k a, T0 _ k a, if_neg (by omega)]; rfl
    · rw [T1 _ q a, T1 _ q a, gA_sA, if_pos rfl, upd_ap]
      by_cases e : q = 3 * i.toInt.toNat + j.toInt.toNat
      · rw [if_pos e, if_pos (by omega)]
      · rw [if_neg e, if_neg (by omega)]
    · rw [T2 _ q a, T2 _ q a, if_neg (by omega)]; rfl
  · rw [if_neg (by decide), if_neg (by decide)]
    refine ⟨_, rfl, fun k hk => ?_, rfl, rfl, fun k hk => by rw [gA_sA, if_neg (by omega)]⟩
    have ea : at9 2 i j = 18 + (3 * i.toInt.toNat + j.toInt.toNat) := by unfold at9; rw [ti_2]; show 9 * 2 + _ + _ = _; omega
    rw [ea]
    rcases cs k hk with a | ⟨q, a, rfl⟩ | ⟨q, a, rfl⟩
    · rw [T0 _ k a, T0 _ k a, if_neg (by omega)]; rfl
    · rw [T1 _ q a, T1 _ q a, if_neg (by omega)]; rfl
    · rw [T2 _ q a, T2 _ q a, gA_sA, if_pos rfl, upd_ap]
      by_cases e : q = 3 * i.toInt.toNat + j.toInt.toNat
      · rw [if_pos e, if_pos (by omega)]
      · rw [if_neg e, if_neg (by omega)]
theorem pi_store {X M : w_S} {A b : Nat → Int32} {N P : Nat} {S M' : w_S} (h : PI X M A b N P S M') {t i j v : Int32} (hc : isAt (gI (sp S) 0).toInt (gI (sp S) 1).toInt t i j) (hb : (t = 2 ∧ bnd (-50) 50 v) ∨ (t ≠ 2 ∧ bnd (-5) 5 v)) :
    ∃ S', fX4_store_13 S t i j v = some S' ∧ (¬ ((((9 * t) + (3 * i)) + j) < 0 ∨ 27 ≤ (((9 * t) + (3 * i)) + j).toNatClampNeg)) ∧ PI X M A b N P S' (sA M' 0 (upd (gA M' 0) (((9 * t) + (3 * i)) + j).toNatClampNeg v)) ∧ gI S' = gI S := by
  obtain ⟨h1, h2, h3, h4, h5, h6⟩ := h
  have hw := nw_of h4.1
  obtain ⟨⟨e1, e2, e3, e4⟩, hm, hn, hq, hT, -⟩ := id hw
  obtain ⟨ht, hi, hj⟩ := isAt_room hm hn hc
  obtain ⟨S', s1, s2, s3, s4, s5⟩ := x_store13 S v ht hi hj
  obtain ⟨q1, q2⟩ := m_idx ht hi hj
  have f1 : ∀ k, gI (sp S') k = gI (sp S) k := fun k => by rw [gI_sp, gI_sp, s3]
  have f2 : ∀ k, 3 ≤ k → ¬ (10 ≤ k ∧ k < 13) → gA (sp S') k = gA (sp S) k := fun k hk hk2 => by
    rw [gA_sp, gA_sp, s5 14 (by omega), s5 4 (by omega), s5 13 (by omega), s5 3 (by omega), s5 k hk2]
    by_cases a : k = 4
    · rw [if_pos a, if_pos a]
    · rw [if_neg a, if_neg a]
      by_cases c : k = 3
      · rw [if_pos c, if_pos c]
      · rw [if_neg c, if_neg c, if_neg (by omega), if_neg (by omega), if_neg (by omega), if_neg (by omega), if_neg (by omega), if_neg (by omega)]
  have hRel : Rel (sp S') (sA M' 0 (upd (gA M' 0) (((9 * t) + (3 * i)) + j).toNatClampNeg v)) := by
    refine Rel_T h4 ⟨⟨fun k _ _ _ _ => f1 k, fun k a c => f2 k (by omega) (by omega), fun k _ => by rw [gB_sp, gB_sp, s4]⟩, fun k a _ => rfl, ⟨rfl, rfl, rfl, rfl, fun k hk => by rw [gA_sA, if_neg (by omega)]⟩, rfl⟩ (of_nw (nw_upd hw (k0 := at9 t i j) (v := v) ?_ (at9_in hm hn hc) s2 (fun k _ hk => f1 k) (fun k a c => f2 k a (by omega)) (fun k hk => ?_) (fun k hk => rfl) ⟨rfl, rfl⟩ ?_))
    · unfold at9
      rcases hb with ⟨rfl, hv⟩ | ⟨h2, hv⟩
      · right; rw [ti_2]; exact ⟨by omega, hv⟩
      · left
        refine ⟨?_, hv⟩
        rw [ne_eq, i_eq, ti_2] at h2; omega
    · rw [gA_sA, if_pos rfl, upd_ap, q2]
    · rw [f1 2]; exact e3
  refine ⟨S', s1, q1, ⟨frX_tr h1 ⟨fun k _ _ _ => by rw [s3], fun k hk => s5 k (by omega), fun k _ => by rw [s4]⟩, frP_tr h2 ⟨fun _ _ => rfl, fun k hk _ _ => by rw [gA_sA, if_neg hk], rfl⟩, h3, hRel, ?_, h6⟩, s3⟩
  obtain ⟨t1, t2, t3, t4, t5, t6⟩ := h5
  exact ⟨t1, by rw [s3]; exact t2, by rw [s3]; exact t3, fun k hk => by rw [s5 17 (by omega)]; exact t4 k hk, t5, t6⟩
/-- what a number of one or two digits says -/
def num (b : Nat → Int32) (f n : Nat) : Int32 := if n = 2 then 10 * (b f - 48) + b (f + 1) - 48 else b f - 48
theorem num_rng {b : Nat → Int32} {f n : Nat} (h1 : isD b f = true) (h2 : n = 2 → isD b (f + 1) = true) : 0 ≤ (num b f n).toInt ∧ (num b f n).toInt ≤ 99 := by
  unfold isD at h1
  rw [decide_eq_true_eq] at h1
  have t48 : (48 : Int32).toInt = 48 := rfl
  have e1 : (b f - 48).toInt = (b f).toInt - 48 := fb_subI (by rw [t48]; omega) (by rw [t48]; omega)
  unfold num
  by_cases c : n = 2
  · have h3 := h2 c
    unfold isD at h3
    rw [decide_eq_true_eq] at h3
    have e2 : (10 * (b f - 48)).toInt = 10 * ((b f).toInt - 48) := by rw [fb_mulI (by rw [ti_10, e1]; omega) (by rw [ti_10, e1]; omega), ti_10, e1]
    have e3 : (10 * (b f - 48) + b (f + 1)).toInt = 10 * ((b f).toInt - 48) + (b (f + 1)).toInt := by rw [fb_addI (by rw [e2]; omega) (by rw [e2]; omega), e2]
    rw [if_pos c, fb_subI (by rw [e3, t48]; omega) (by rw [e3, t48]; omega), e3, t48]
    omega
  · rw [if_neg c, e1]; omega
theorem dig_run {b : Nat → Int32} {N f k : Nat} (hf : f < N) (h1 : isD b f = true) (hk : ed (isD b) N f = f + k) : 1 ≤ k ∧ (k = 2 → isD b (f + 1) = true) := by
  rw [ed_1 _ hf h1] at hk
  have hr := ed_rg (isD b) (N := N) (f := f + 1) (by omega)
  refine ⟨by omega, fun e => ?_⟩
  by_cases c : isD b (f + 1) = true
  · exact c
  · rw [ed_0 _ (by omega) (by simpa using c)] at hk; omega
theorem m_num {S : w_S} {b : Nat → Int32} {N f k : Nat} (h : TpM S b N) (h10 : gI S 10 = nI f) (h11 : gI S 11 = nI (f + k)) (hN : f + k ≤ N) (hk : k = 1 ∨ k = 2) (p1 p2 p3 p4 : Int32) : fX7_entryOf_L70 S p1 p2 p3 p4 256 0 (gI S 10) = some (num b f k) := by
  obtain ⟨h1, h2, h3⟩ := h
  have z : ∀ x : Int32, (10 * 0 + x) - 48 = x - 48 := fun x => by rw [show (10 : Int32) * 0 = 0 from rfl, Int32.zero_add]
  rw [h10, show (256 : Nat) = 255 + 1 from rfl, fX7_entryOf_L70, h11, if_neg (nI_ge (by omega) (by omega)), if_pos (nI_inN (show f < 200 by omega) (by decide)), nI_clamp (by omega), h3 f (by omega), nI_1, z, show (255 : Nat) = 254 + 1 from rfl, fX7_entryOf_L70, h11]
  unfold num
  rcases hk with rfl | rfl
  · rw [if_pos (Int32.le_refl _), if_neg (by decide)]
  · rw [if_neg (nI_ge (by omega) (by omega)), if_pos (nI_inN (show f + 1 < 200 by omega) (by decide)), nI_clamp (by omega), h3 (f + 1) (by omega), nI_1, show (254 : Nat) = 253 + 1 from rfl, fX7_entryOf_L70, h11, if_pos (Int32.le_refl _), if_pos rfl]
/-- something that can't stand there -/
def FL (M' : w_S) (f : Nat) : Prop := gI M' 12 = nI f
theorem pi_fail {X M : w_S} {A b : Nat → Int32} {N P : Nat} {S M' : w_S} (h : PI X M A b N P S M') {f : Nat} (h10 : gI M' 10 = nI f) (h12 : gI M' 12 = -1) : fX7_fails M' = some (sI M' 12 (nI f)) ∧ PI X M A b N P S (sI M' 12 (nI f)) ∧ FL (sI M' 12 (nI f)) f :=
  ⟨by rw [fX7_fails, h12, if_neg (by decide), h10], PI_m h (by omega) _, by unfold FL; rw [gI_sI, if_pos rfl]⟩
theorem pi_entry {X M : w_S} {A b : Nat → Int32} {N P : Nat} {S M' : w_S} (h : PI X M A b N P S M') (tk : TK M' b N P) {t i j : Int32} (hc : isAt (gI (sp S) 0).toInt (gI (sp S) 1).toInt t i j) :
    (∃ S2 M2 P2, fX5_readEntry_25_13 S t i j = some (1, S2) ∧ fX7_entryOf M' t i j = some M2 ∧ PI X M A b N P2 S2 M2 ∧ TK M2 b N P2 ∧ P ≤ P2 ∧ gI M2 13 = gI M' 13 ∧ gI S2 8 = gI S 8 ∧ gI S2 9 = gI S 9) ∨
    (∃ S2 M2 f, fX5_readEntry_25_13 S t i j = some (0, S2) ∧ fX7_entryOf M' t i j = some M2 ∧ PI X M A b N f S2 M2 ∧ FL M2 f ∧ f ≤ N) := by
  -- the sign ahead
  have pre : ∃ S1 M1 P1 r, fX5_readMark_25 S 45 = some (r, S1) ∧ fX7_is M' 45 = some r ∧ (r = 0 ∨ r = 1) ∧ ((if r = 0 then some M' else (fX7_next M').bind (fun r14 => some r14))) = some M1 ∧ PI X M A b N P1 S1 M1 ∧ TK M1 b N P1 ∧ P ≤ P1 ∧ gI M1 13 = gI M' 13 ∧ gI S1 8 = gI S 8 ∧ gI S1 9 = gI S 9 ∧ (∀ k, k ≠ 22 → gI S1 k = gI S k) := by
    have hsk := sk_rg b h.2.2.2.2.1.2.2.2.2.2
    rcases pi_mark h tk 45 (Or.inl rfl) with ⟨a1, a2, a3, a4⟩ | ⟨a1, a2⟩
    · obtain ⟨M1, n1, n2, n3, n4⟩ := pi_next (PI_x h a4) a3 tk.2.2
      exact ⟨_, M1, _, 1, a1, a2, Or.inr rfl, by rw [if_neg n10, n1]; rfl, n2, n3, by omega, n4, rfl, rfl, fun k hk => by rw [gI_sI, if_neg hk]⟩
    · exact ⟨_, M', _, 0, a1, a2, Or.inl rfl, if_pos rfl, PI_x h hsk.2, tk_skip h.2.2.2.2.1.2.2.2.2.2 tk, hsk.1, rfl, rfl, rfl, fun k hk => by rw [gI_sI, if_neg hk]⟩
  obtain ⟨S1, M1, P1, r, p1, p2, p3, p4, p5, p6, p7, p8, p9, p10, p11⟩ := pre
  obtain ⟨k1, k2⟩ := pi_skip p5
  have hsk := sk_rg b p5.2.2.2.2.1.2.2.2.2.2
  have hN := p5.2.2.2.2.2.1
  have tk2 : TK M1 b N (sk b N P1) := tk_skip p5.2.2.2.2.1.2.2.2.2.2 p6
  have st := x_strD k2.2.2.2.2.1
  have hh0 := x_here k2.2.2.2.2.1 (a := 0) (by omega)
  have hh0' : fX5_here_25 (sI S1 22 (nI (sk b N P1))) 0 = _ := hh0
  have hh1 := x_here k2.2.2.2.2.1 (a := 1) (by omega)
  have hh1' : fX5_here_25 (sI S1 22 (nI (sk b N P1))) 1 = _ := hh1
  obtain ⟨t10, t11, t12⟩ := p6
  have hg1 : gI (sI S1 22 (nI (sk b N P1))) 22 = nI (sk b N P1) := by rw [gI_sI, if_pos rfl]
  have hmn : ∀ k, k ≠ 22 → gI (sp (sI S1 22 (nI (sk b N P1)))) k = gI (sp S) k := fun k hk => by
    rw [gI_sp, gI_sp]
    simp only [gI_sI]
    simp only [if_neg (show ¬ (11 : Nat) = 22 by decide), if_neg (show ¬ (10 : Nat) = 22 by decide), if_neg (show ¬ (9 : Nat) = 22 by decide), if_neg (show ¬ (8 : Nat) = 22 by decide), if_neg hk, p11 11 (by omega), p11 10 (by omega), p11 9 (by omega), p11 8 (by omega), p11 k hk]
  have hPf : P ≤ sk b N P1 := by omega
  generalize sk b N P1 = f at *
  rw [fX5_readEntry_25_13, fX7_entryOf, p1, Option.bind_some, k1, Option.bind_some, st, Option.bind_some, p2, Option.bind_some, p4, Option.bind_some, t10, p5.2.2.2.2.2.2.1, hh0', Option.bind_some, Nat.add_zero]
  have fail : ∃ S2 M2 f', some ((0 : Int32), sI S1 22 (nI f)) = some (0, S2) ∧ (fX7_fails M1).bind (fun r57 => some r57) = some M2 ∧ PI X M A b N f' S2 M2 ∧ FL M2 f' ∧ f' ≤ N := by
    obtain ⟨f1, f2, f3⟩ := pi_fail k2 t10 t12
    exact ⟨_, _, f, rfl, by rw [f1]; rfl, f2, f3, hsk.2⟩
  by_cases hfN : f < N
  · rw [if_neg (show ¬ nI f = nI N by rw [nI_eq (by omega) (by omega)]; omega), if_pos (nI_inN (show f < 200 by omega) (by decide)), nI_clamp (by omega), p5.2.2.2.2.2.2.2 f (by omega), m_isD, Option.bind_some, bit_ite, t11]
    have eD : decide (48 ≤ (b f).toInt ∧ (b f).toInt ≤ 57) = isD b f := rfl
    rw [eD]
    by_cases hd : isD b f = true
    · have nl : ¬ isL b f = true := by
        unfold isD at hd
        rw [decide_eq_true_eq] at hd
        unfold isL
        rw [decide_eq_true_eq]; omega
      have te1 : te b N f = ed (isD b) N f := by unfold te; rw [if_neg (by omega), if_neg nl, if_pos hd]
      have her := ed_rg (isD b) (N := N) (f := f) (by omega)
      obtain ⟨k, hk⟩ : ∃ k, ed (isD b) N f = f + k := ⟨ed (isD b) N f - f, by omega⟩
      obtain ⟨d1, d2⟩ := dig_run hfN hd hk
      rw [if_pos hd, te1, hk, show f + k - f = k by omega, if_neg (show ¬ nI k < 1 by rw [show (1 : Int32) = nI 1 from rfl]; exact nI_nlt d1 (by omega)), nI_subN (by omega) (by omega), show f + k - f = k by omega, show (2 : Int32) = nI 2 from rfl]
      by_cases hk2 : k ≤ 2
      · have hnum := m_num p5.2.2.2.2.2 t10 (k := k) (by rw [t11, te1, hk]) (by omega) (by omega) t i j r
        rw [t10] at hnum
        obtain ⟨v0, v1⟩ := num_rng (n := k) hd d2
        have hb5 := p5.2.2.2.2.1.2.2.2.2.1
        have and0 : b f &&& 255 = b f := by
          rcases byte_u (hb5 f (by omega)) with ⟨a1, a2, a3⟩ | ⟨a1, a2, a3⟩
          · rw [i_eq, a2]
          · unfold isD at hd; rw [decide_eq_true_eq] at hd; omega
        have hv : (if nI k = nI 2 then (fX5_here_25 (sI S1 22 (nI f)) 1).bind (fun r59 => some (((10 * ((if f < N then b f &&& 255 else -1) - 48)) + r59) - 48)) else some ((if f < N then b f &&& 255 else -1) - 48)) = some (num b f k) := by
          rw [if_pos hfN, and0]
          unfold num
          by_cases e : k = 2
          · have hd2 := d2 e
            have and1 : b (f + 1) &&& 255 = b (f + 1) := by
              rcases byte_u (hb5 (f + 1) (by omega)) with ⟨a1, a2, a3⟩ | ⟨a1, a2, a3⟩
              · rw [i_eq, a2]
              · unfold isD at hd2; rw [decide_eq_true_eq] at hd2; omega
            rw [if_pos (by rw [e]), hh1', Option.bind_some, if_pos (show f + 1 < N by omega), and1, if_pos e]
          · rw [if_neg (by rw [nI_eq (by omega) (by omega)]; exact e), if_neg e]
        rw [if_pos (nI_le hk2 (by omega)), hv, Option.bind_some, if_pos (nI_le hk2 (by omega)), hnum, Option.bind_some]
        have neg99 : (-(num b f k)).toInt = -(num b f k).toInt := fb_negI (by omega)
        have hsub : (0 : Int32) - num b f k = -(num b f k) := by rw [Int32.zero_sub]
        have hr2 : (if r = 0 then some (num b f k) else some (0 - num b f k)) = some (if r = 0 then num b f k else -(num b f k)) := by rw [hsub, some_ite]
        have rch : fX6_reach t = some (if t = 2 then 50 else 5) := by rw [fX6_reach, some_ite]
        rw [hr2, Option.bind_some, m_isEntry, rch, Option.bind_some]
        have hiff : (num b f k ≤ (if t = 2 then (50 : Int32) else 5)) ↔ ((t = 2 ∧ -50 ≤ (if r = 0 then num b f k else -(num b f k)).toInt ∧ (if r = 0 then num b f k else -(num b f k)).toInt ≤ 50) ∨ (t ≠ 2 ∧ -5 ≤ (if r = 0 then num b f k else -(num b f k)).toInt ∧ (if r = 0 then num b f k else -(num b f k)).toInt ≤ 5)) := by
          rw [i_le]
          by_cases e : t = 2
          · rw [if_pos e, ti_50]
            by_cases g : r = 0
            · rw [if_pos g]; constructor
              · intro z; exact Or.inl ⟨e, by omega, by omega⟩
              · rintro (z | z)
                · omega
                · exact absurd e z.1
            · rw [if_neg g, neg99]; constructor
              · intro z; exact Or.inl ⟨e, by omega, by omega⟩
              · rintro (z | z)
                · omega
                · exact absurd e z.1
          · rw [if_neg e, ti_5]
            by_cases g : r = 0
            · rw [if_pos g]; constructor
              · intro z; exact Or.inr ⟨e, by omega, by omega⟩
              · rintro (z | z)
                · exact absurd z.1 e
                · omega
            · rw [if_neg g, neg99]; constructor
              · intro z; exact Or.inr ⟨e, by omega, by omega⟩
              · rintro (z | z)
                · exact absurd z.1 e
                · omega
        by_cases big : num b f k ≤ (if t = 2 then (50 : Int32) else 5)
        · have hbb := hiff.1 big
          rw [if_pos big, if_pos hbb, Option.bind_some, if_neg n10]
          left
          have kk : PI X M A b N (f + k) (sI (sI S1 22 (nI f)) 22 (nI (f + k))) M1 := PI_x k2 (by omega)
          have hcc : isAt (gI (sp (sI (sI S1 22 (nI f)) 22 (nI (f + k)))) 0).toInt (gI (sp (sI (sI S1 22 (nI f)) 22 (nI (f + k)))) 1).toInt t i j := by
            have e0 : gI (sp (sI (sI S1 22 (nI f)) 22 (nI (f + k)))) 0 = gI (sp S) 0 := by
              rw [← hmn 0 (by omega)]; rfl
            have e1 : gI (sp (sI (sI S1 22 (nI f)) 22 (nI (f + k)))) 1 = gI (sp S) 1 := by
              rw [← hmn 1 (by omega)]; rfl
            rw [e0, e1]; exact hc
          obtain ⟨S', s1, s2, s3, s4⟩ := pi_store kk hcc (v := if r = 0 then num b f k else -(num b f k)) hbb
          have e22 : nI f + nI k = nI (f + k) := nI_add f k
          obtain ⟨M2, n1, n2, n3, n4⟩ := pi_next s3 (show gI M1 11 = nI (f + k) by rw [t11, te1, hk]) t12
          rw [hg1, e22, if_pos s2, n1]
          refine ⟨S', M2, f + k, ?_, rfl, n2, n3, by omega, n4.trans p8, ?_, ?_⟩
          · by_cases g : r = 0
            · rw [if_pos g] at s1 ⊢; rw [s1]; rfl
            · rw [if_neg g] at s1 ⊢; rw [s1]; rfl
          · rw [s4]; exact p9
          · rw [s4]; exact p10
        · rw [if_neg big, if_neg (fun e => big (hiff.2 e)), Option.bind_some, if_pos rfl]
          exact Or.inr fail
      · rw [if_neg (by rw [nI_leI (by omega) (by omega)]; exact hk2), if_neg (by rw [nI_leI (by omega) (by omega)]; exact hk2)]
        exact Or.inr fail
    · have hd' : isD b f = false := by simpa using hd
      rw [if_neg hd, ed_0 _ hfN hd', Nat.sub_self, if_pos (show nI 0 < 1 by decide)]
      exact Or.inr fail
  · have e : f = N := by omega
    have e0 : ed (isD b) N f - f = 0 := by have := ed_rg (isD b) (N := N) (f := f) hsk.2; omega
    rw [e0, if_pos (show nI 0 < 1 by decide), if_pos (show nI f = nI N by rw [e])]
    exact Or.inr fail
