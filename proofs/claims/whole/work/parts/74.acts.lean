/-! ===== acts ===== -/
def frA (X0 X : w_S) : Prop := (∀ j, j < 23 ∨ 27 < j → gI X j = gI X0 j) ∧ (∀ j, j ≠ 18 → gA X j = gA X0 j) ∧ gB X = gB X0
def frB (M0 M : w_S) : Prop := (∀ j, j < 18 ∨ 22 < j → gI M j = gI M0 j) ∧ (∀ j, j ≠ 17 → gA M j = gA M0 j) ∧ gB M = gB M0
def RA (p k nm sh : Int32) (X0 M0 X M : w_S) : Prop := (gI X 23 = k ∧ gI X 24 = nm ∧ gI X 25 = sh ∧ gI X 27 = p) ∧ (gI M 19 = k ∧ gI M 20 = nm ∧ gI M 21 = sh ∧ gI M 22 = p) ∧ R_acts X M ∧ frA X0 X ∧ frB M0 M
theorem ra_x {p k nm sh : Int32} {X0 M0 X M : w_S} (h : RA p k nm sh X0 M0 X M) : gI X 23 = k ∧ gI X 24 = nm ∧ gI X 25 = sh ∧ gI X 27 = p := h.1
theorem ra_m {p k nm sh : Int32} {X0 M0 X M : w_S} (h : RA p k nm sh X0 M0 X M) : gI M 19 = k ∧ gI M 20 = nm ∧ gI M 21 = sh ∧ gI M 22 = p := h.2.1
theorem beg {k nm sh : Int32} {X0 M0 X M : w_S} (h : RA 0 k nm sh X0 M0 X M) (b : Int32) : ∃ X' M', fX0_begin_27 X b = some X' ∧ fX7_ran M b = some M' ∧ RA 0 k nm sh X0 M0 X' M' := by
  obtain ⟨⟨x1, x2, x3, x4⟩, ⟨m1, m2, m3, m4⟩, ⟨a1, ⟨a2, a3⟩, a4⟩, ⟨f1, f2, f3⟩, g1, g2, g3⟩ := h
  rw [fX0_begin_27, fX7_ran, x4, if_pos rfl, ← a1, if_neg (show ¬ gI X 26 < 0 by rw [i_lt, ti_0]; omega)]
  by_cases c : 30 ≤ gI X 26
  · rw [if_pos c, if_pos c]
    exact ⟨_, _, rfl, rfl, ⟨x1, x2, x3, x4⟩, ⟨m1, m2, m3, m4⟩, ⟨a1, ⟨a2, a3⟩, a4⟩, ⟨f1, f2, f3⟩, g1, g2, g3⟩
  · have c' : (gI X 26).toInt < 30 := by rw [i_le, ti_30] at c; omega
    have s1 : ¬ (gI X 26 < 0 ∨ 30 ≤ (gI X 26).toNatClampNeg) := ix_ok a2 (by omega)
    have e1 : (gI X 26 + 1).toInt = (gI X 26).toInt + 1 := fb_addI (by rw [ti_1]; omega) (by rw [ti_1]; omega)
    rw [if_neg c, if_neg c, if_pos s1, if_pos s1]
    refine ⟨_, _, rfl, rfl, ⟨x1, x2, x3, x4⟩, ⟨m1, m2, m3, m4⟩, ⟨rfl, ?_, fun i hi => ?_⟩, ⟨fun j hj => ?_, fun j hj => ?_, f3⟩, fun j hj => ?_, fun j hj => ?_, g3⟩
    · show bnd 0 30 (gI X 26 + 1)
      unfold bnd; omega
    · simp only [gA_sI, gA_sA, if_true, upd_ap]; rw [a4 i hi]
    · simp only [gI_sI, gI_sA]; rw [if_neg (by omega)]; exact f1 j hj
    · simp only [gA_sI, gA_sA]; rw [if_neg hj]; exact f2 j hj
    · simp only [gI_sI, gI_sA]; rw [if_neg (by omega)]; exact g1 j hj
    · simp only [gA_sI, gA_sA]; rw [if_neg hj]; exact g2 j hj
theorem begP {X : w_S} (h : gI X 27 = 1) (b : Int32) : fX0_begin_27 X b = some X := by
  rw [fX0_begin_27, h, if_neg (by decide)]
theorem a7 {x : Int32} (hx : 0 ≤ x.toInt ∧ x.toInt ≤ 6) : x = 0 ∨ x = 1 ∨ x = 2 ∨ x = 3 ∨ x = 4 ∨ x = 5 ∨ x = 6 := by
  rw [i_eq, i_eq, i_eq, i_eq, i_eq, i_eq, i_eq, ti_0, ti_1, ti_2, ti_3, ti_4, ti_5, ti_6]; omega

theorem act_weighs {k nm sh : Int32} (hk : 0 ≤ k.toInt ∧ k.toInt ≤ 6) {X0 M0 X M : w_S} (h : RA 0 k nm sh X0 M0 X M) (x : Int32) : ∃ v X' M', fX0_weighs_27_D3 X k x = some (v, X') ∧ fX7_weighs M x = some (v, M') ∧ RA 0 k nm sh X0 M0 X' M' := by
  have hM := (ra_m h).1
  rw [fX0_weighs_27_D3, fX7_weighs, hM]
  rcases a7 hk with rfl | rfl | rfl | rfl | rfl | rfl | rfl
  · obtain ⟨X1, M1, b1, c1, h1⟩ := beg h 10
    simp only [fX0_weighs_27_D2, fX0_weighs_27_D1, fX7_plainWeighs, fX7_turnedWeighs, b1, c1, (ra_x h1).2.1, (ra_x h1).2.2.1, (ra_m h1).2.1, (ra_m h1).2.2.1, q0_1, q0_2, q0_3, q0_4, q0_5, q0_6, q1_0, q1_2, q1_3, q1_4, q1_5, q1_6, q2_0, q2_1, q2_3, q2_4, q2_5, q2_6, q3_0, q3_1, q3_2, q3_4, q3_5, q3_6, q4_0, q4_1, q4_2, q4_3, q4_5, q4_6, q5_0, q5_1, q5_2, q5_3, q5_4, q5_6, q6_0, q6_1, q6_2, q6_3, q6_4, q6_5, eq_self, if_true, if_false, Option.bind_some]
    exact ⟨_, _, _, rfl, rfl, h1⟩
  · obtain ⟨X1, M1, b1, c1, h1⟩ := beg h 20
    obtain ⟨X2, M2, b2, c2, h2⟩ := beg h1 10
    simp only [fX0_weighs_27_D2, fX0_weighs_27_D1, fX7_plainWeighs, fX7_turnedWeighs, b1, b2, c1, c2, (ra_x h2).2.1, (ra_x h2).2.2.1, (ra_m h2).2.1, (ra_m h2).2.2.1, q0_1, q0_2, q0_3, q0_4, q0_5, q0_6, q1_0, q1_2, q1_3, q1_4, q1_5, q1_6, q2_0, q2_1, q2_3, q2_4, q2_5, q2_6, q3_0, q3_1, q3_2, q3_4, q3_5, q3_6, q4_0, q4_1, q4_2, q4_3, q4_5, q4_6, q5_0, q5_1, q5_2, q5_3, q5_4, q5_6, q6_0, q6_1, q6_2, q6_3, q6_4, q6_5, eq_self, if_true, if_false, Option.bind_some]
    exact ⟨_, _, _, rfl, rfl, h2⟩
  · obtain ⟨X1, M1, b1, c1, h1⟩ := beg h 10
    simp only [fX0_weighs_27_D2, fX0_weighs_27_D1, fX7_plainWeighs, fX7_turnedWeighs, b1, c1, (ra_x h1).2.1, (ra_x h1).2.2.1, (ra_m h1).2.1, (ra_m h1).2.2.1, q0_1, q0_2, q0_3, q0_4, q0_5, q0_6, q1_0, q1_2, q1_3, q1_4, q1_5, q1_6, q2_0, q2_1, q2_3, q2_4, q2_5, q2_6, q3_0, q3_1, q3_2, q3_4, q3_5, q3_6, q4_0, q4_1, q4_2, q4_3, q4_5, q4_6, q5_0, q5_1, q5_2, q5_3, q5_4, q5_6, q6_0, q6_1, q6_2, q6_3, q6_4, q6_5, eq_self, if_true, if_false, Option.bind_some]
    exact ⟨_, _, _, rfl, rfl, h1⟩
  · obtain ⟨X1, M1, b1, c1, h1⟩ := beg h 40
    obtain ⟨X2, M2, b2, c2, h2⟩ := beg h1 10
    simp only [fX0_weighs_27_D2, fX0_weighs_27_D1, fX7_plainWeighs, fX7_turnedWeighs, b1, b2, c1, c2, (ra_x h2).2.1, (ra_x h2).2.2.1, (ra_m h2).2.1, (ra_m h2).2.2.1, q0_1, q0_2, q0_3, q0_4, q0_5, q0_6, q1_0, q1_2, q1_3, q1_4, q1_5, q1_6, q2_0, q2_1, q2_3, q2_4, q2_5, q2_6, q3_0, q3_1, q3_2, q3_4, q3_5, q3_6, q4_0, q4_1, q4_2, q4_3, q4_5, q4_6, q5_0, q5_1, q5_2, q5_3, q5_4, q5_6, q6_0, q6_1, q6_2, q6_3, q6_4, q6_5, eq_self, if_true, if_false, Option.bind_some]
    exact ⟨_, _, _, rfl, rfl, h2⟩
  · obtain ⟨X1, M1, b1, c1, h1⟩ := beg h 10
    simp only [fX0_weighs_27_D2, fX0_weighs_27_D1, fX7_plainWeighs, fX7_turnedWeighs, b1, c1, (ra_x h1).2.1, (ra_x h1).2.2.1, (ra_m h1).2.1, (ra_m h1).2.2.1, q0_1, q0_2, q0_3, q0_4, q0_5, q0_6, q1_0, q1_2, q1_3, q1_4, q1_5, q1_6, q2_0, q2_1, q2_3, q2_4, q2_5, q2_6, q3_0, q3_1, q3_2, q3_4, q3_5, q3_6, q4_0, q4_1, q4_2, q4_3, q4_5, q4_6, q5_0, q5_1, q5_2, q5_3, q5_4, q5_6, q6_0, q6_1, q6_2, q6_3, q6_4, q6_5, eq_self, if_true, if_false, Option.bind_some]
    exact ⟨_, _, _, rfl, rfl, h1⟩
  · obtain ⟨X1, M1, b1, c1, h1⟩ := beg h 40
    obtain ⟨X2, M2, b2, c2, h2⟩ := beg h1 10
    simp only [fX0_weighs_27_D2, fX0_weighs_27_D1, fX7_plainWeighs, fX7_turnedWeighs, b1, b2, c1, c2, (ra_x h2).2.1, (ra_x h2).2.2.1, (ra_m h2).2.1, (ra_m h2).2.2.1, q0_1, q0_2, q0_3, q0_4, q0_5, q0_6, q1_0, q1_2, q1_3, q1_4, q1_5, q1_6, q2_0, q2_1, q2_3, q2_4, q2_5, q2_6, q3_0, q3_1, q3_2, q3_4, q3_5, q3_6, q4_0, q4_1, q4_2, q4_3, q4_5, q4_6, q5_0, q5_1, q5_2, q5_3, q5_4, q5_6, q6_0, q6_1, q6_2, q6_3, q6_4, q6_5, eq_self, if_true, if_false, Option.bind_some]
    exact ⟨_, _, _, rfl, rfl, h2⟩
  · obtain ⟨X1, M1, b1, c1, h1⟩ := beg h 70
    obtain ⟨X2, M2, b2, c2, h2⟩ := beg h1 40
    obtain ⟨X3, M3, b3, c3, h3⟩ := beg h2 10
    simp only [fX0_weighs_27_D2, fX0_weighs_27_D1, fX7_plainWeighs, fX7_turnedWeighs, b1, b2, b3, c1, c2, c3, (ra_x h3).2.1, (ra_x h3).2.2.1, (ra_m h3).2.1, (ra_m h3).2.2.1, q0_1, q0_2, q0_3, q0_4, q0_5, q0_6, q1_0, q1_2, q1_3, q1_4, q1_5, q1_6, q2_0, q2_1, q2_3, q2_4, q2_5, q2_6, q3_0, q3_1, q3_2, q3_4, q3_5, q3_6, q4_0, q4_1, q4_2, q4_3, q4_5, q4_6, q5_0, q5_1, q5_2, q5_3, q5_4, q5_6, q6_0, q6_1, q6_2, q6_3, q6_4, q6_5, eq_self, if_true, if_false, Option.bind_some]
    exact ⟨_, _, _, rfl, rfl, h3⟩
theorem act_weighsP {k : Int32} (hk : 0 ≤ k.toInt ∧ k.toInt ≤ 6) {X : w_S} (h : gI X 27 = 1) (x : Int32) : ∃ v, fX0_weighs_27_D3 X k x = some (v, X) := by
  rw [fX0_weighs_27_D3]
  rcases a7 hk with rfl | rfl | rfl | rfl | rfl | rfl | rfl
  · simp only [fX0_weighs_27_D2, fX0_weighs_27_D1, begP h, q0_1, q0_2, q0_3, q0_4, q0_5, q0_6, q1_0, q1_2, q1_3, q1_4, q1_5, q1_6, q2_0, q2_1, q2_3, q2_4, q2_5, q2_6, q3_0, q3_1, q3_2, q3_4, q3_5, q3_6, q4_0, q4_1, q4_2, q4_3, q4_5, q4_6, q5_0, q5_1, q5_2, q5_3, q5_4, q5_6, q6_0, q6_1, q6_2, q6_3, q6_4, q6_5, eq_self, if_true, if_false, Option.bind_some]; exact ⟨_, rfl⟩
  · simp only [fX0_weighs_27_D2, fX0_weighs_27_D1, begP h, q0_1, q0_2, q0_3, q0_4, q0_5, q0_6, q1_0, q1_2, q1_3, q1_4, q1_5, q1_6, q2_0, q2_1, q2_3, q2_4, q2_5, q2_6, q3_0, q3_1, q3_2, q3_4, q3_5, q3_6, q4_0, q4_1, q4_2, q4_3, q4_5, q4_6, q5_0, q5_1, q5_2, q5_3, q5_4, q5_6, q6_0, q6_1, q6_2, q6_3, q6_4, q6_5, eq_self, if_true, if_false, Option.bind_some]; exact ⟨_, rfl⟩
  · simp only [fX0_weighs_27_D2, fX0_weighs_27_D1, begP h, q0_1, q0_2, q0_3, q0_4, q0_5, q0_6, q1_0, q1_2, q1_3, q1_4, q1_5, q1_6, q2_0, q2_1, q2_3, q2_4, q2_5, q2_6, q3_0, q3_1, q3_2, q3_4, q3_5, q3_6, q4_0, q4_1, q4_2, q4_3, q4_5, q4_6, q5_0, q5_1, q5_2, q5_3, q5_4, q5_6, q6_0, q6_1, q6_2, q6_3, q6_4, q6_5, eq_self, if_true, if_false, Option.bind_some]; exact ⟨_, rfl⟩
  · simp only [fX0_weighs_27_D2, fX0_weighs_27_D1, begP h, q0_1, q0_2, q0_3, q0_4, q0_5, q0_6, q1_0, q1_2, q1_3, q1_4, q1_5, q1_6, q2_0, q2_1, q2_3, q2_4, q2_5, q2_6, q3_0, q3_1, q3_2, q3_4, q3_5, q3_6, q4_0, q4_1, q4_2, q4_3, q4_5, q4_6, q5_0, q5_1, q5_2, q5_3, q5_4, q5_6, q6_0, q6_1, q6_2, q6_3, q6_4, q6_5, eq_self, if_true, if_false, Option.bind_some]; exact ⟨_, rfl⟩
  · simp only [fX0_weighs_27_D2, fX0_weighs_27_D1, begP h, q0_1, q0_2, q0_3, q0_4, q0_5, q0_6, q1_0, q1_2, q1_3, q1_4, q1_5, q1_6, q2_0, q2_1, q2_3, q2_4, q2_5, q2_6, q3_0, q3_1, q3_2, q3_4, q3_5, q3_6, q4_0, q4_1, q4_2, q4_3, q4_5, q4_6, q5_0, q5_1, q5_2, q5_3, q5_4, q5_6, q6_0, q6_1, q6_2, q6_3, q6_4, q6_5, eq_self, if_true, if_false, Option.bind_some]; exact ⟨_, rfl⟩
  · simp only [fX0_weighs_27_D2, fX0_weighs_27_D1, begP h, q0_1, q0_2, q0_3, q0_4, q0_5, q0_6, q1_0, q1_2, q1_3, q1_4, q1_5, q1_6, q2_0, q2_1, q2_3, q2_4, q2_5, q2_6, q3_0, q3_1, q3_2, q3_4, q3_5, q3_6, q4_0, q4_1, q4_2, q4_3, q4_5, q4_6, q5_0, q5_1, q5_2, q5_3, q5_4, q5_6, q6_0, q6_1, q6_2, q6_3, q6_4, q6_5, eq_self, if_true, if_false, Option.bind_some]; exact ⟨_, rfl⟩
  · simp only [fX0_weighs_27_D2, fX0_weighs_27_D1, begP h, q0_1, q0_2, q0_3, q0_4, q0_5, q0_6, q1_0, q1_2, q1_3, q1_4, q1_5, q1_6, q2_0, q2_1, q2_3, q2_4, q2_5, q2_6, q3_0, q3_1, q3_2, q3_4, q3_5, q3_6, q4_0, q4_1, q4_2, q4_3, q4_5, q4_6, q5_0, q5_1, q5_2, q5_3, q5_4, q5_6, q6_0, q6_1, q6_2, q6_3, q6_4, q6_5, eq_self, if_true, if_false, Option.bind_some]; exact ⟨_, rfl⟩
theorem act_turns {k nm sh : Int32} (hk : 0 ≤ k.toInt ∧ k.toInt ≤ 6) {X0 M0 X M : w_S} (h : RA 0 k nm sh X0 M0 X M) (x : Int32) : ∃ v X' M', fX0_turns_27_D3 X k x = some (v, X') ∧ fX7_turns M x = some (v, M') ∧ RA 0 k nm sh X0 M0 X' M' := by
  have hM := (ra_m h).1
  rw [fX0_turns_27_D3, fX7_turns, hM]
  rcases a7 hk with rfl | rfl | rfl | rfl | rfl | rfl | rfl
  · obtain ⟨X1, M1, b1, c1, h1⟩ := beg h 11
    obtain ⟨v, X9, M9, w1, w2, w3⟩ := act_weighs (by decide) h1 x
    simp only [fX0_turns_27_D2, fX0_turns_27_D1, fX7_plainTurns, fX7_alikeTurns, b1, c1, (ra_x h1).1, (ra_x h1).2.2.1, (ra_m h1).2.2.1, w1, w2, (ra_x w3).2.2.1, (ra_m w3).2.2.1, q0_1, q0_2, q0_3, q0_4, q0_5, q0_6, q1_0, q1_2, q1_3, q1_4, q1_5, q1_6, q2_0, q2_1, q2_3, q2_4, q2_5, q2_6, q3_0, q3_1, q3_2, q3_4, q3_5, q3_6, q4_0, q4_1, q4_2, q4_3, q4_5, q4_6, q5_0, q5_1, q5_2, q5_3, q5_4, q5_6, q6_0, q6_1, q6_2, q6_3, q6_4, q6_5, eq_self, if_true, if_false, Option.bind_some]
    exact ⟨_, _, _, rfl, rfl, w3⟩
  · obtain ⟨X1, M1, b1, c1, h1⟩ := beg h 11
    obtain ⟨v, X9, M9, w1, w2, w3⟩ := act_weighs (by decide) h1 x
    simp only [fX0_turns_27_D2, fX0_turns_27_D1, fX7_plainTurns, fX7_alikeTurns, b1, c1, (ra_x h1).1, (ra_x h1).2.2.1, (ra_m h1).2.2.1, w1, w2, (ra_x w3).2.2.1, (ra_m w3).2.2.1, q0_1, q0_2, q0_3, q0_4, q0_5, q0_6, q1_0, q1_2, q1_3, q1_4, q1_5, q1_6, q2_0, q2_1, q2_3, q2_4, q2_5, q2_6, q3_0, q3_1, q3_2, q3_4, q3_5, q3_6, q4_0, q4_1, q4_2, q4_3, q4_5, q4_6, q5_0, q5_1, q5_2, q5_3, q5_4, q5_6, q6_0, q6_1, q6_2, q6_3, q6_4, q6_5, eq_self, if_true, if_false, Option.bind_some]
    exact ⟨_, _, _, rfl, rfl, w3⟩
  · obtain ⟨X1, M1, b1, c1, h1⟩ := beg h 30
    obtain ⟨X2, M2, b2, c2, h2⟩ := beg h1 11
    obtain ⟨v, X9, M9, w1, w2, w3⟩ := act_weighs (by decide) h2 x
    simp only [fX0_turns_27_D2, fX0_turns_27_D1, fX7_plainTurns, fX7_alikeTurns, b1, b2, c1, c2, (ra_x h1).1, (ra_x h1).2.2.1, (ra_m h1).2.2.1, (ra_x h2).1, (ra_x h2).2.2.1, (ra_m h2).2.2.1, w1, w2, (ra_x w3).2.2.1, (ra_m w3).2.2.1, q0_1, q0_2, q0_3, q0_4, q0_5, q0_6, q1_0, q1_2, q1_3, q1_4, q1_5, q1_6, q2_0, q2_1, q2_3, q2_4, q2_5, q2_6, q3_0, q3_1, q3_2, q3_4, q3_5, q3_6, q4_0, q4_1, q4_2, q4_3, q4_5, q4_6, q5_0, q5_1, q5_2, q5_3, q5_4, q5_6, q6_0, q6_1, q6_2, q6_3, q6_4, q6_5, eq_self, if_true, if_false, Option.bind_some]
    exact ⟨_, _, _, rfl, rfl, w3⟩
  · obtain ⟨X1, M1, b1, c1, h1⟩ := beg h 11
    obtain ⟨v, X9, M9, w1, w2, w3⟩ := act_weighs (by decide) h1 x
    simp only [fX0_turns_27_D2, fX0_turns_27_D1, fX7_plainTurns, fX7_alikeTurns, b1, c1, (ra_x h1).1, (ra_x h1).2.2.1, (ra_m h1).2.2.1, w1, w2, (ra_x w3).2.2.1, (ra_m w3).2.2.1, q0_1, q0_2, q0_3, q0_4, q0_5, q0_6, q1_0, q1_2, q1_3, q1_4, q1_5, q1_6, q2_0, q2_1, q2_3, q2_4, q2_5, q2_6, q3_0, q3_1, q3_2, q3_4, q3_5, q3_6, q4_0, q4_1, q4_2, q4_3, q4_5, q4_6, q5_0, q5_1, q5_2, q5_3, q5_4, q5_6, q6_0, q6_1, q6_2, q6_3, q6_4, q6_5, eq_self, if_true, if_false, Option.bind_some]
    exact ⟨_, _, _, rfl, rfl, w3⟩
  · obtain ⟨X1, M1, b1, c1, h1⟩ := beg h 50
    obtain ⟨X2, M2, b2, c2, h2⟩ := beg h1 30
    obtain ⟨X3, M3, b3, c3, h3⟩ := beg h2 11
    obtain ⟨v, X9, M9, w1, w2, w3⟩ := act_weighs (by decide) h3 (x + sh)
    simp only [fX0_turns_27_D2, fX0_turns_27_D1, fX7_plainTurns, fX7_alikeTurns, b1, b2, b3, c1, c2, c3, (ra_x h1).1, (ra_x h1).2.2.1, (ra_m h1).2.2.1, (ra_x h2).1, (ra_x h2).2.2.1, (ra_m h2).2.2.1, (ra_x h3).1, (ra_x h3).2.2.1, (ra_m h3).2.2.1, w1, w2, (ra_x w3).2.2.1, (ra_m w3).2.2.1, q0_1, q0_2, q0_3, q0_4, q0_5, q0_6, q1_0, q1_2, q1_3, q1_4, q1_5, q1_6, q2_0, q2_1, q2_3, q2_4, q2_5, q2_6, q3_0, q3_1, q3_2, q3_4, q3_5, q3_6, q4_0, q4_1, q4_2, q4_3, q4_5, q4_6, q5_0, q5_1, q5_2, q5_3, q5_4, q5_6, q6_0, q6_1, q6_2, q6_3, q6_4, q6_5, eq_self, if_true, if_false, Option.bind_some]
    exact ⟨_, _, _, rfl, rfl, w3⟩
  · obtain ⟨X1, M1, b1, c1, h1⟩ := beg h 11
    obtain ⟨v, X9, M9, w1, w2, w3⟩ := act_weighs (by decide) h1 x
    simp only [fX0_turns_27_D2, fX0_turns_27_D1, fX7_plainTurns, fX7_alikeTurns, b1, c1, (ra_x h1).1, (ra_x h1).2.2.1, (ra_m h1).2.2.1, w1, w2, (ra_x w3).2.2.1, (ra_m w3).2.2.1, q0_1, q0_2, q0_3, q0_4, q0_5, q0_6, q1_0, q1_2, q1_3, q1_4, q1_5, q1_6, q2_0, q2_1, q2_3, q2_4, q2_5, q2_6, q3_0, q3_1, q3_2, q3_4, q3_5, q3_6, q4_0, q4_1, q4_2, q4_3, q4_5, q4_6, q5_0, q5_1, q5_2, q5_3, q5_4, q5_6, q6_0, q6_1, q6_2, q6_3, q6_4, q6_5, eq_self, if_true, if_false, Option.bind_some]
    exact ⟨_, _, _, rfl, rfl, w3⟩
  · obtain ⟨X1, M1, b1, c1, h1⟩ := beg h 11
    obtain ⟨v, X9, M9, w1, w2, w3⟩ := act_weighs (by decide) h1 x
    simp only [fX0_turns_27_D2, fX0_turns_27_D1, fX7_plainTurns, fX7_alikeTurns, b1, c1, (ra_x h1).1, (ra_x h1).2.2.1, (ra_m h1).2.2.1, w1, w2, (ra_x w3).2.2.1, (ra_m w3).2.2.1, q0_1, q0_2, q0_3, q0_4, q0_5, q0_6, q1_0, q1_2, q1_3, q1_4, q1_5, q1_6, q2_0, q2_1, q2_3, q2_4, q2_5, q2_6, q3_0, q3_1, q3_2, q3_4, q3_5, q3_6, q4_0, q4_1, q4_2, q4_3, q4_5, q4_6, q5_0, q5_1, q5_2, q5_3, q5_4, q5_6, q6_0, q6_1, q6_2, q6_3, q6_4, q6_5, eq_self, if_true, if_false, Option.bind_some]
    exact ⟨_, _, _, rfl, rfl, w3⟩
theorem act_turnsP {k : Int32} (hk : 0 ≤ k.toInt ∧ k.toInt ≤ 6) {X : w_S} (hX : 0 ≤ (gI X 23).toInt ∧ (gI X 23).toInt ≤ 6) (h : gI X 27 = 1) (x : Int32) : ∃ v, fX0_turns_27_D3 X k x = some (v, X) := by
  rw [fX0_turns_27_D3]
  have hw : ∀ y, ∃ v, fX0_weighs_27_D3 X (gI X 23) y = some (v, X) := fun y => act_weighsP hX h y
  rcases a7 hk with rfl | rfl | rfl | rfl | rfl | rfl | rfl
  · obtain ⟨v, w⟩ := hw x
    simp only [fX0_turns_27_D2, fX0_turns_27_D1, begP h, w, q0_1, q0_2, q0_3, q0_4, q0_5, q0_6, q1_0, q1_2, q1_3, q1_4, q1_5, q1_6, q2_0, q2_1, q2_3, q2_4, q2_5, q2_6, q3_0, q3_1, q3_2, q3_4, q3_5, q3_6, q4_0, q4_1, q4_2, q4_3, q4_5, q4_6, q5_0, q5_1, q5_2, q5_3, q5_4, q5_6, q6_0, q6_1, q6_2, q6_3, q6_4, q6_5, eq_self, if_true, if_false, Option.bind_some]; exact ⟨_, rfl⟩
  · obtain ⟨v, w⟩ := hw x
    simp only [fX0_turns_27_D2, fX0_turns_27_D1, begP h, w, q0_1, q0_2, q0_3, q0_4, q0_5, q0_6, q1_0, q1_2, q1_3, q1_4, q1_5, q1_6, q2_0, q2_1, q2_3, q2_4, q2_5, q2_6, q3_0, q3_1, q3_2, q3_4, q3_5, q3_6, q4_0, q4_1, q4_2, q4_3, q4_5, q4_6, q5_0, q5_1, q5_2, q5_3, q5_4, q5_6, q6_0, q6_1, q6_2, q6_3, q6_4, q6_5, eq_self, if_true, if_false, Option.bind_some]; exact ⟨_, rfl⟩
  · obtain ⟨v, w⟩ := hw x
    simp only [fX0_turns_27_D2, fX0_turns_27_D1, begP h, w, q0_1, q0_2, q0_3, q0_4, q0_5, q0_6, q1_0, q1_2, q1_3, q1_4, q1_5, q1_6, q2_0, q2_1, q2_3, q2_4, q2_5, q2_6, q3_0, q3_1, q3_2, q3_4, q3_5, q3_6, q4_0, q4_1, q4_2, q4_3, q4_5, q4_6, q5_0, q5_1, q5_2, q5_3, q5_4, q5_6, q6_0, q6_1, q6_2, q6_3, q6_4, q6_5, eq_self, if_true, if_false, Option.bind_some]; exact ⟨_, rfl⟩
  · obtain ⟨v, w⟩ := hw x
    simp only [fX0_turns_27_D2, fX0_turns_27_D1, begP h, w, q0_1, q0_2, q0_3, q0_4, q0_5, q0_6, q1_0, q1_2, q1_3, q1_4, q1_5, q1_6, q2_0, q2_1, q2_3, q2_4, q2_5, q2_6, q3_0, q3_1, q3_2, q3_4, q3_5, q3_6, q4_0, q4_1, q4_2, q4_3, q4_5, q4_6, q5_0, q5_1, q5_2, q5_3, q5_4, q5_6, q6_0, q6_1, q6_2, q6_3, q6_4, q6_5, eq_self, if_true, if_false, Option.bind_some]; exact ⟨_, rfl⟩
  · obtain ⟨v, w⟩ := hw (x + gI X 25)
    simp only [fX0_turns_27_D2, fX0_turns_27_D1, begP h, w, q0_1, q0_2, q0_3, q0_4, q0_5, q0_6, q1_0, q1_2, q1_3, q1_4, q1_5, q1_6, q2_0, q2_1, q2_3, q2_4, q2_5, q2_6, q3_0, q3_1, q3_2, q3_4, q3_5, q3_6, q4_0, q4_1, q4_2, q4_3, q4_5, q4_6, q5_0, q5_1, q5_2, q5_3, q5_4, q5_6, q6_0, q6_1, q6_2, q6_3, q6_4, q6_5, eq_self, if_true, if_false, Option.bind_some]; exact ⟨_, rfl⟩
  · obtain ⟨v, w⟩ := hw x
    simp only [fX0_turns_27_D2, fX0_turns_27_D1, begP h, w, q0_1, q0_2, q0_3, q0_4, q0_5, q0_6, q1_0, q1_2, q1_3, q1_4, q1_5, q1_6, q2_0, q2_1, q2_3, q2_4, q2_5, q2_6, q3_0, q3_1, q3_2, q3_4, q3_5, q3_6, q4_0, q4_1, q4_2, q4_3, q4_5, q4_6, q5_0, q5_1, q5_2, q5_3, q5_4, q5_6, q6_0, q6_1, q6_2, q6_3, q6_4, q6_5, eq_self, if_true, if_false, Option.bind_some]; exact ⟨_, rfl⟩
  · obtain ⟨v, w⟩ := hw x
    simp only [fX0_turns_27_D2, fX0_turns_27_D1, begP h, w, q0_1, q0_2, q0_3, q0_4, q0_5, q0_6, q1_0, q1_2, q1_3, q1_4, q1_5, q1_6, q2_0, q2_1, q2_3, q2_4, q2_5, q2_6, q3_0, q3_1, q3_2, q3_4, q3_5, q3_6, q4_0, q4_1, q4_2, q4_3, q4_5, q4_6, q5_0, q5_1, q5_2, q5_3, q5_4, q5_6, q6_0, q6_1, q6_2, q6_3, q6_4, q6_5, eq_self, if_true, if_false, Option.bind_some]; exact ⟨_, rfl⟩
theorem div_m1 (x : Int32) : x / -1 = 0 - x := by
  rw [i_eq, Int32.toInt_div, Int32.toInt_sub, tm_1, ti_0, Int.tdiv_neg, Int.tdiv_one, Int.zero_sub]
theorem sub0 (a b : Int32) : (a - b = 0) ↔ a = b := by
  constructor
  · intro h; have : a = (a - b) + b := by rw [Int32.sub_add_cancel]
    rw [this, h, Int32.zero_add]
  · intro h; rw [h, Int32.sub_self]
theorem m_by (x d : Int32) (hd : ¬ d = 0) : (if d = -1 then some (0 - x) else some (x / d)) = some (x / d) := by
  by_cases c : d = -1
  · rw [if_pos c, c, div_m1]
  · rw [if_neg c]
/-- both parted -/
theorem ra_part {k nm sh : Int32} {X0 M0 X M : w_S} (h : RA 0 k nm sh X0 M0 X M) : RA 1 k nm sh X0 M0 (sI X 27 1) (sI M 22 1) := by
  obtain ⟨⟨x1, x2, x3, x4⟩, ⟨m1, m2, m3, m4⟩, ⟨a1, ⟨a2, a3⟩, a4⟩, ⟨f1, f2, f3⟩, g1, g2, g3⟩ := h
  refine ⟨⟨x1, x2, x3, rfl⟩, ⟨m1, m2, m3, rfl⟩, ⟨a1, ⟨a2, a3⟩, a4⟩, ⟨fun j hj => ?_, f2, f3⟩, fun j hj => ?_, g2, g3⟩
  · simp only [gI_sI]; rw [if_neg (by omega)]; exact f1 j hj
  · simp only [gI_sI]; rw [if_neg (by omega)]; exact g1 j hj
theorem ra_unpart {k nm sh : Int32} {X0 M0 X M : w_S} (h : RA 0 k nm sh X0 M0 X M) : RA 0 k nm sh X0 M0 X (sI M 22 0) := by
  obtain ⟨⟨x1, x2, x3, x4⟩, ⟨m1, m2, m3, m4⟩, ⟨a1, ⟨a2, a3⟩, a4⟩, ⟨f1, f2, f3⟩, g1, g2, g3⟩ := h
  refine ⟨⟨x1, x2, x3, x4⟩, ⟨m1, m2, m3, rfl⟩, ⟨a1, ⟨a2, a3⟩, a4⟩, ⟨f1, f2, f3⟩, fun j hj => ?_, g2, g3⟩
  simp only [gI_sI]; rw [if_neg (by omega)]; exact g1 j hj
/-- parts: not parted and alike, or parted -/
theorem act_parts {k nm sh : Int32} (hk : 0 ≤ k.toInt ∧ k.toInt ≤ 6) {X0 M0 X M : w_S} (h : RA 0 k nm sh X0 M0 X M) (x : Int32) : ∃ v w X' M' p, fX0_parts_27_D3 X k x = some (v, X') ∧ fX7_parts M x = some (w, M') ∧ RA p k nm sh X0 M0 X' M' ∧ (p = 0 ∧ v = w ∨ p = 1) := by
  have hM := (ra_m h).1
  rw [fX0_parts_27_D3, fX7_parts, hM]
  rcases a7 hk with rfl | rfl | rfl | rfl | rfl | rfl | rfl
  · obtain ⟨X1, M1, b1, c1, h1⟩ := beg h 12
    by_cases e : nm = sh
    · simp only [fX0_parts_27_D2, b1, c1, (ra_x h1).2.1, (ra_x h1).2.2.1, (ra_m h1).2.1, (ra_m h1).2.2.1, (ra_m h1).2.2.2, show ((0 : Int32) < 5) = True from eq_true (by decide), q0_1, q0_2, q0_3, q0_4, q0_5, q0_6, q1_0, q1_2, q1_3, q1_4, q1_5, q1_6, q2_0, q2_1, q2_3, q2_4, q2_5, q2_6, q3_0, q3_1, q3_2, q3_4, q3_5, q3_6, q4_0, q4_1, q4_2, q4_3, q4_5, q4_6, q5_0, q5_1, q5_2, q5_3, q5_4, q5_6, q6_0, q6_1, q6_2, q6_3, q6_4, q6_5, eq_self, if_true, if_false, Option.bind_some, if_pos e, if_pos ((sub0 nm sh).2 e), or_true]
      exact ⟨_, _, _, _, 1, rfl, rfl, ra_part h1, Or.inr rfl⟩
    · have hd : ¬ nm - sh = 0 := fun f => e ((sub0 nm sh).1 f)
      simp only [fX0_parts_27_D2, b1, c1, (ra_x h1).2.1, (ra_x h1).2.2.1, (ra_m h1).2.1, (ra_m h1).2.2.1, (ra_m h1).2.2.2, show ((0 : Int32) < 5) = True from eq_true (by decide), q0_1, q0_2, q0_3, q0_4, q0_5, q0_6, q1_0, q1_2, q1_3, q1_4, q1_5, q1_6, q2_0, q2_1, q2_3, q2_4, q2_5, q2_6, q3_0, q3_1, q3_2, q3_4, q3_5, q3_6, q4_0, q4_1, q4_2, q4_3, q4_5, q4_6, q5_0, q5_1, q5_2, q5_3, q5_4, q5_6, q6_0, q6_1, q6_2, q6_3, q6_4, q6_5, eq_self, if_true, if_false, Option.bind_some, if_neg e, if_neg hd, if_pos hd, true_or, m_by x (nm - sh) hd]
      exact ⟨_, _, _, _, 0, rfl, rfl, ra_unpart h1, Or.inl ⟨rfl, rfl⟩⟩
  · obtain ⟨X1, M1, b1, c1, h1⟩ := beg h 12
    by_cases e : nm = sh
    · simp only [fX0_parts_27_D2, b1, c1, (ra_x h1).2.1, (ra_x h1).2.2.1, (ra_m h1).2.1, (ra_m h1).2.2.1, (ra_m h1).2.2.2, show ((1 : Int32) < 5) = True from eq_true (by decide), q0_1, q0_2, q0_3, q0_4, q0_5, q0_6, q1_0, q1_2, q1_3, q1_4, q1_5, q1_6, q2_0, q2_1, q2_3, q2_4, q2_5, q2_6, q3_0, q3_1, q3_2, q3_4, q3_5, q3_6, q4_0, q4_1, q4_2, q4_3, q4_5, q4_6, q5_0, q5_1, q5_2, q5_3, q5_4, q5_6, q6_0, q6_1, q6_2, q6_3, q6_4, q6_5, eq_self, if_true, if_false, Option.bind_some, if_pos e, if_pos ((sub0 nm sh).2 e), or_true]
      exact ⟨_, _, _, _, 1, rfl, rfl, ra_part h1, Or.inr rfl⟩
    · have hd : ¬ nm - sh = 0 := fun f => e ((sub0 nm sh).1 f)
      simp only [fX0_parts_27_D2, b1, c1, (ra_x h1).2.1, (ra_x h1).2.2.1, (ra_m h1).2.1, (ra_m h1).2.2.1, (ra_m h1).2.2.2, show ((1 : Int32) < 5) = True from eq_true (by decide), q0_1, q0_2, q0_3, q0_4, q0_5, q0_6, q1_0, q1_2, q1_3, q1_4, q1_5, q1_6, q2_0, q2_1, q2_3, q2_4, q2_5, q2_6, q3_0, q3_1, q3_2, q3_4, q3_5, q3_6, q4_0, q4_1, q4_2, q4_3, q4_5, q4_6, q5_0, q5_1, q5_2, q5_3, q5_4, q5_6, q6_0, q6_1, q6_2, q6_3, q6_4, q6_5, eq_self, if_true, if_false, Option.bind_some, if_neg e, if_neg hd, if_pos hd, true_or, m_by x (nm - sh) hd]
      exact ⟨_, _, _, _, 0, rfl, rfl, ra_unpart h1, Or.inl ⟨rfl, rfl⟩⟩
  · obtain ⟨X1, M1, b1, c1, h1⟩ := beg h 12
    by_cases e : nm = sh
    · simp only [fX0_parts_27_D2, b1, c1, (ra_x h1).2.1, (ra_x h1).2.2.1, (ra_m h1).2.1, (ra_m h1).2.2.1, (ra_m h1).2.2.2, show ((2 : Int32) < 5) = True from eq_true (by decide), q0_1, q0_2, q0_3, q0_4, q0_5, q0_6, q1_0, q1_2, q1_3, q1_4, q1_5, q1_6, q2_0, q2_1, q2_3, q2_4, q2_5, q2_6, q3_0, q3_1, q3_2, q3_4, q3_5, q3_6, q4_0, q4_1, q4_2, q4_3, q4_5, q4_6, q5_0, q5_1, q5_2, q5_3, q5_4, q5_6, q6_0, q6_1, q6_2, q6_3, q6_4, q6_5, eq_self, if_true, if_false, Option.bind_some, if_pos e, if_pos ((sub0 nm sh).2 e), or_true]
      exact ⟨_, _, _, _, 1, rfl, rfl, ra_part h1, Or.inr rfl⟩
    · have hd : ¬ nm - sh = 0 := fun f => e ((sub0 nm sh).1 f)
      simp only [fX0_parts_27_D2, b1, c1, (ra_x h1).2.1, (ra_x h1).2.2.1, (ra_m h1).2.1, (ra_m h1).2.2.1, (ra_m h1).2.2.2, show ((2 : Int32) < 5) = True from eq_true (by decide), q0_1, q0_2, q0_3, q0_4, q0_5, q0_6, q1_0, q1_2, q1_3, q1_4, q1_5, q1_6, q2_0, q2_1, q2_3, q2_4, q2_5, q2_6, q3_0, q3_1, q3_2, q3_4, q3_5, q3_6, q4_0, q4_1, q4_2, q4_3, q4_5, q4_6, q5_0, q5_1, q5_2, q5_3, q5_4, q5_6, q6_0, q6_1, q6_2, q6_3, q6_4, q6_5, eq_self, if_true, if_false, Option.bind_some, if_neg e, if_neg hd, if_pos hd, true_or, m_by x (nm - sh) hd]
      exact ⟨_, _, _, _, 0, rfl, rfl, ra_unpart h1, Or.inl ⟨rfl, rfl⟩⟩
  · obtain ⟨X1, M1, b1, c1, h1⟩ := beg h 41
    obtain ⟨X2, M2, b2, c2, h2⟩ := beg h1 12
    by_cases e : nm = sh
    · obtain ⟨v, w⟩ := act_weighsP (k := 3) (by decide) (X := sI X2 27 1) rfl nm
      have t1 : gI (sI X2 27 1) 23 = 3 := (ra_x h2).1
      have t2 : gI (sI X2 27 1) 24 = nm := (ra_x h2).2.1
      simp only [fX0_parts_27_D2, b1, b2, c1, c2, (ra_x h2).2.1, (ra_x h2).2.2.1, (ra_m h2).2.1, (ra_m h2).2.2.1, (ra_m h2).2.2.2, show ((3 : Int32) < 5) = True from eq_true (by decide), q0_1, q0_2, q0_3, q0_4, q0_5, q0_6, q1_0, q1_2, q1_3, q1_4, q1_5, q1_6, q2_0, q2_1, q2_3, q2_4, q2_5, q2_6, q3_0, q3_1, q3_2, q3_4, q3_5, q3_6, q4_0, q4_1, q4_2, q4_3, q4_5, q4_6, q5_0, q5_1, q5_2, q5_3, q5_4, q5_6, q6_0, q6_1, q6_2, q6_3, q6_4, q6_5, eq_self, if_true, if_false, Option.bind_some, if_pos e, if_pos ((sub0 nm sh).2 e), or_true, t1, t2, w]
      exact ⟨_, _, _, _, 1, rfl, rfl, ra_part h2, Or.inr rfl⟩
    · obtain ⟨v, X9, M9, w1, w2, w3⟩ := act_weighs (k := 3) (by decide) (ra_unpart h2) nm
      have t1 : gI (sI M2 22 0) 20 = nm := (ra_m h2).2.1
      have hd : ¬ nm - sh = 0 := fun f => e ((sub0 nm sh).1 f)
      simp only [fX0_parts_27_D2, b1, b2, c1, c2, (ra_x h2).2.1, (ra_x h2).2.2.1, (ra_m h2).2.1, (ra_m h2).2.2.1, (ra_m h2).2.2.2, show ((3 : Int32) < 5) = True from eq_true (by decide), q0_1, q0_2, q0_3, q0_4, q0_5, q0_6, q1_0, q1_2, q1_3, q1_4, q1_5, q1_6, q2_0, q2_1, q2_3, q2_4, q2_5, q2_6, q3_0, q3_1, q3_2, q3_4, q3_5, q3_6, q4_0, q4_1, q4_2, q4_3, q4_5, q4_6, q5_0, q5_1, q5_2, q5_3, q5_4, q5_6, q6_0, q6_1, q6_2, q6_3, q6_4, q6_5, eq_self, if_true, if_false, Option.bind_some, if_neg e, if_neg hd, if_pos hd, true_or, m_by x (nm - sh) hd, (ra_x h2).1, t1, w1, w2]
      exact ⟨_, _, _, _, 0, rfl, rfl, w3, Or.inl ⟨rfl, rfl⟩⟩
  · obtain ⟨X1, M1, b1, c1, h1⟩ := beg h 12
    by_cases e : nm = sh
    · simp only [fX0_parts_27_D2, b1, c1, (ra_x h1).2.1, (ra_x h1).2.2.1, (ra_m h1).2.1, (ra_m h1).2.2.1, (ra_m h1).2.2.2, show ((4 : Int32) < 5) = True from eq_true (by decide), q0_1, q0_2, q0_3, q0_4, q0_5, q0_6, q1_0, q1_2, q1_3, q1_4, q1_5, q1_6, q2_0, q2_1, q2_3, q2_4, q2_5, q2_6, q3_0, q3_1, q3_2, q3_4, q3_5, q3_6, q4_0, q4_1, q4_2, q4_3, q4_5, q4_6, q5_0, q5_1, q5_2, q5_3, q5_4, q5_6, q6_0, q6_1, q6_2, q6_3, q6_4, q6_5, eq_self, if_true, if_false, Option.bind_some, if_pos e, if_pos ((sub0 nm sh).2 e), or_true]
      exact ⟨_, _, _, _, 1, rfl, rfl, ra_part h1, Or.inr rfl⟩
    · have hd : ¬ nm - sh = 0 := fun f => e ((sub0 nm sh).1 f)
      simp only [fX0_parts_27_D2, b1, c1, (ra_x h1).2.1, (ra_x h1).2.2.1, (ra_m h1).2.1, (ra_m h1).2.2.1, (ra_m h1).2.2.2, show ((4 : Int32) < 5) = True from eq_true (by decide), q0_1, q0_2, q0_3, q0_4, q0_5, q0_6, q1_0, q1_2, q1_3, q1_4, q1_5, q1_6, q2_0, q2_1, q2_3, q2_4, q2_5, q2_6, q3_0, q3_1, q3_2, q3_4, q3_5, q3_6, q4_0, q4_1, q4_2, q4_3, q4_5, q4_6, q5_0, q5_1, q5_2, q5_3, q5_4, q5_6, q6_0, q6_1, q6_2, q6_3, q6_4, q6_5, eq_self, if_true, if_false, Option.bind_some, if_neg e, if_neg hd, if_pos hd, true_or, m_by x (nm - sh) hd]
      exact ⟨_, _, _, _, 0, rfl, rfl, ra_unpart h1, Or.inl ⟨rfl, rfl⟩⟩
  · obtain ⟨X1, M1, b1, c1, h1⟩ := beg h 41
    obtain ⟨X2, M2, b2, c2, h2⟩ := beg h1 12
    by_cases e : nm = sh
    · obtain ⟨v, w⟩ := act_weighsP (k := 5) (by decide) (X := sI X2 27 1) rfl nm
      have t1 : gI (sI X2 27 1) 23 = 5 := (ra_x h2).1
      have t2 : gI (sI X2 27 1) 24 = nm := (ra_x h2).2.1
      simp only [fX0_parts_27_D2, b1, b2, c1, c2, (ra_x h2).2.1, (ra_x h2).2.2.1, (ra_m h2).2.1, (ra_m h2).2.2.1, (ra_m h2).2.2.2, show ((5 : Int32) < 5) = False from eq_false (by decide), q0_1, q0_2, q0_3, q0_4, q0_5, q0_6, q1_0, q1_2, q1_3, q1_4, q1_5, q1_6, q2_0, q2_1, q2_3, q2_4, q2_5, q2_6, q3_0, q3_1, q3_2, q3_4, q3_5, q3_6, q4_0, q4_1, q4_2, q4_3, q4_5, q4_6, q5_0, q5_1, q5_2, q5_3, q5_4, q5_6, q6_0, q6_1, q6_2, q6_3, q6_4, q6_5, eq_self, if_true, if_false, Option.bind_some, if_pos e, if_pos ((sub0 nm sh).2 e), or_true, t1, t2, w]
      exact ⟨_, _, _, _, 1, rfl, rfl, ra_part h2, Or.inr rfl⟩
    · obtain ⟨v, X9, M9, w1, w2, w3⟩ := act_weighs (k := 5) (by decide) (ra_unpart h2) nm
      have t1 : gI (sI M2 22 0) 20 = nm := (ra_m h2).2.1
      have hd : ¬ nm - sh = 0 := fun f => e ((sub0 nm sh).1 f)
      simp only [fX0_parts_27_D2, b1, b2, c1, c2, (ra_x h2).2.1, (ra_x h2).2.2.1, (ra_m h2).2.1, (ra_m h2).2.2.1, (ra_m h2).2.2.2, show ((5 : Int32) < 5) = False from eq_false (by decide), q0_1, q0_2, q0_3, q0_4, q0_5, q0_6, q1_0, q1_2, q1_3, q1_4, q1_5, q1_6, q2_0, q2_1, q2_3, q2_4, q2_5, q2_6, q3_0, q3_1, q3_2, q3_4, q3_5, q3_6, q4_0, q4_1, q4_2, q4_3, q4_5, q4_6, q5_0, q5_1, q5_2, q5_3, q5_4, q5_6, q6_0, q6_1, q6_2, q6_3, q6_4, q6_5, eq_self, if_true, if_false, Option.bind_some, if_neg e, if_neg hd, if_pos hd, true_or, m_by x (nm - sh) hd, (ra_x h2).1, t1, w1, w2]
      exact ⟨_, _, _, _, 0, rfl, rfl, w3, Or.inl ⟨rfl, rfl⟩⟩
  · obtain ⟨X1, M1, b1, c1, h1⟩ := beg h 41
    obtain ⟨X2, M2, b2, c2, h2⟩ := beg h1 12
    by_cases e : nm = sh
    · obtain ⟨v, w⟩ := act_weighsP (k := 6) (by decide) (X := sI X2 27 1) rfl nm
      have t1 : gI (sI X2 27 1) 23 = 6 := (ra_x h2).1
      have t2 : gI (sI X2 27 1) 24 = nm := (ra_x h2).2.1
      simp only [fX0_parts_27_D2, b1, b2, c1, c2, (ra_x h2).2.1, (ra_x h2).2.2.1, (ra_m h2).2.1, (ra_m h2).2.2.1, (ra_m h2).2.2.2, show ((6 : Int32) < 5) = False from eq_false (by decide), q0_1, q0_2, q0_3, q0_4, q0_5, q0_6, q1_0, q1_2, q1_3, q1_4, q1_5, q1_6, q2_0, q2_1, q2_3, q2_4, q2_5, q2_6, q3_0, q3_1, q3_2, q3_4, q3_5, q3_6, q4_0, q4_1, q4_2, q4_3, q4_5, q4_6, q5_0, q5_1, q5_2, q5_3, q5_4, q5_6, q6_0, q6_1, q6_2, q6_3, q6_4, q6_5, eq_self, if_true, if_false, Option.bind_some, if_pos e, if_pos ((sub0 nm sh).2 e), or_true, t1, t2, w]
      exact ⟨_, _, _, _, 1, rfl, rfl, ra_part h2, Or.inr rfl⟩
    · obtain ⟨v, X9, M9, w1, w2, w3⟩ := act_weighs (k := 6) (by decide) (ra_unpart h2) nm
      have t1 : gI (sI M2 22 0) 20 = nm := (ra_m h2).2.1
      have hd : ¬ nm - sh = 0 := fun f => e ((sub0 nm sh).1 f)
      simp only [fX0_parts_27_D2, b1, b2, c1, c2, (ra_x h2).2.1, (ra_x h2).2.2.1, (ra_m h2).2.1, (ra_m h2).2.2.1, (ra_m h2).2.2.2, show ((6 : Int32) < 5) = False from eq_false (by decide), q0_1, q0_2, q0_3, q0_4, q0_5, q0_6, q1_0, q1_2, q1_3, q1_4, q1_5, q1_6, q2_0, q2_1, q2_3, q2_4, q2_5, q2_6, q3_0, q3_1, q3_2, q3_4, q3_5, q3_6, q4_0, q4_1, q4_2, q4_3, q4_5, q4_6, q5_0, q5_1, q5_2, q5_3, q5_4, q5_6, q6_0, q6_1, q6_2, q6_3, q6_4, q6_5, eq_self, if_true, if_false, Option.bind_some, if_neg e, if_neg hd, if_pos hd, true_or, m_by x (nm - sh) hd, (ra_x h2).1, t1, w1, w2]
      exact ⟨_, _, _, _, 0, rfl, rfl, w3, Or.inl ⟨rfl, rfl⟩⟩
/-- closes of a plain kind, at a kind k -/
theorem act_plain {k nm sh : Int32} (hk : 0 ≤ k.toInt ∧ k.toInt ≤ 6) {X0 M0 X M : w_S} (h : RA 0 k nm sh X0 M0 X M) (x : Int32) : ∃ v w X' M' p, ((fX0_begin_27 X 13).bind (fun r71 => (fX0_turns_27_D3 r71 (gI r71 23) x).bind (fun r80 => (fX0_parts_27_D3 r80.2 (gI r80.2 23) (x + 2)).bind (fun r91 => some (r80.1 ^^^ r91.1, r91.2))))) = some (v, X') ∧ fX7_plainCloses M x = some (w, M') ∧ RA p k nm sh X0 M0 X' M' ∧ (p = 0 ∧ v = w ∨ p = 1) := by
  obtain ⟨X1, M1, b1, c1, h1⟩ := beg h 13
  obtain ⟨v, X2, M2, t1, t2, h2⟩ := act_turns hk h1 x
  obtain ⟨u, w, X3, M3, p, s1, s2, h3, s3⟩ := act_parts hk h2 (x + 2)
  rw [fX7_plainCloses, b1, c1]
  simp only [Option.bind_some, (ra_x h1).1, (ra_x h2).1, t1, t2, s1, s2]
  refine ⟨_, _, _, _, p, rfl, rfl, h3, ?_⟩
  rcases s3 with ⟨e1, e2⟩ | e
  · exact Or.inl ⟨e1, by rw [e2]⟩
  · exact Or.inr e
theorem act_even {k nm sh : Int32} (hk : 0 ≤ k.toInt ∧ k.toInt ≤ 6) {X0 M0 X M : w_S} (h : RA 0 k nm sh X0 M0 X M) (x : Int32) : ∃ v w X' M' p, ((fX0_begin_27 X 60).bind (fun r31 => ((fX0_begin_27 r31 13).bind (fun r71 => (fX0_turns_27_D3 r71 (gI r71 23) x).bind (fun r80 => (fX0_parts_27_D3 r80.2 (gI r80.2 23) (x + 2)).bind (fun r91 => some (r80.1 ^^^ r91.1, r91.2))))).bind (fun r37 => (fX0_turns_27_D3 r37.2 (gI r37.2 23) 1).bind (fun r46 => some (r37.1 + r46.1, r46.2))))) = some (v, X') ∧ fX7_evenCloses M x = some (w, M') ∧ RA p k nm sh X0 M0 X' M' ∧ (p = 0 ∧ v = w ∨ p = 1) := by
  obtain ⟨X1, M1, b1, c1, h1⟩ := beg h 60
  obtain ⟨v, w, X2, M2, p, t1, t2, h2, t3⟩ := act_plain hk h1 x
  rw [fX7_evenCloses, b1, c1]
  rw [Option.bind_some, Option.bind_some, t1, t2]
  simp only [Option.bind_some, (ra_m h2).2.2.2, (ra_x h2).1]
  rcases t3 with ⟨rfl, rfl⟩ | rfl
  · obtain ⟨u, X3, M3, s1, s2, h3⟩ := act_turns hk h2 1
    rw [s1, if_pos rfl, s2]
    exact ⟨_, _, _, _, 0, rfl, rfl, h3, Or.inl ⟨rfl, rfl⟩⟩
  · obtain ⟨u, s1⟩ := act_turnsP hk (by rw [(ra_x h2).1]; exact hk) (ra_x h2).2.2.2 1
    rw [s1, if_neg (by decide)]
    exact ⟨_, _, _, _, 1, rfl, rfl, h2, Or.inr rfl⟩
theorem act_closes {k nm sh : Int32} (hk : 0 ≤ k.toInt ∧ k.toInt ≤ 6) {X0 M0 X M : w_S} (h : RA 0 k nm sh X0 M0 X M) (x : Int32) : ∃ v w X' M' p, fX0_closes_27_D3 X k x = some (v, X') ∧ fX7_closes M x = some (w, M') ∧ RA p k nm sh X0 M0 X' M' ∧ (p = 0 ∧ v = w ∨ p = 1) := by
  have hM := (ra_m h).1
  rw [fX0_closes_27_D3, fX7_closes, hM]
  by_cases h5 : k = 5
  · rw [if_pos h5, if_neg (show ¬ k = 6 by rw [h5]; decide), if_pos h5]
    obtain ⟨v, w, X2, M2, p, t1, t2, h2, t3⟩ := act_even hk h x
    refine ⟨v, w, X2, M2, p, ?_, by rw [t2]; rfl, h2, t3⟩
    rw [← t1]
    simp only [fX0_closes_27_D2, q0_5, q0_6, if_false]
  · rw [if_neg h5]
    by_cases h6 : k = 6
    · rw [if_pos h6, if_pos h6]
      obtain ⟨X1, M1, b1, c1, h1⟩ := beg h 71
      obtain ⟨v, w, X2, M2, p, t1, t2, h2, t3⟩ := act_even hk h1 (x * 2)
      refine ⟨v - 5, w - 5, X2, M2, p, ?_, by rw [c1, Option.bind_some, t2]; rfl, h2, ?_⟩
      · rw [b1, Option.bind_some, fX0_closes_27_D2, if_pos rfl]
        simp only [fX0_closes_27_D1, q0_5, q0_6, if_false]
        rw [t1]; rfl
      · rcases t3 with ⟨e1, e2⟩ | e
        · exact Or.inl ⟨e1, by rw [e2]⟩
        · exact Or.inr e
    · rw [if_neg h6, if_neg h6, if_neg h5]
      obtain ⟨v, w, X2, M2, p, t1, t2, h2, t3⟩ := act_plain hk h x
      exact ⟨v, w, X2, M2, p, t1, by rw [t2]; rfl, h2, t3⟩
theorem act_run {k nm sh : Int32} (hk : 0 ≤ k.toInt ∧ k.toInt ≤ 6) {X0 M0 X M : w_S} (h : RA 0 k nm sh X0 M0 X M) {d : Int32} (x : Int32) : ∃ v X' M' p, fX0_run_27 X d x = some (v, X') ∧ (if d = 0 then (fX7_weighs M x).bind (fun r => if gI r.2 22 = 0 then some (r.1, r.2) else some (-15, r.2)) else if d = 1 then (fX7_turns M x).bind (fun r => if gI r.2 22 = 0 then some (r.1, r.2) else some (-15, r.2)) else if d = 2 then (fX7_parts M x).bind (fun r => if gI r.2 22 = 0 then some (r.1, r.2) else some (-15, r.2)) else (fX7_closes M x).bind (fun r => if gI r.2 22 = 0 then some (r.1, r.2) else some (-15, r.2))) = some (v, M') ∧ RA p k nm sh X0 M0 X' M' := by
  rw [fX0_run_27, (ra_x h).1]
  by_cases d0 : d = 0
  · obtain ⟨v, X2, M2, t1, t2, h2⟩ := act_weighs hk h x
    rw [if_pos d0, if_pos d0, t1, t2]
    simp only [Option.bind_some, (ra_x h2).2.2.2, (ra_m h2).2.2.2, if_true]
    exact ⟨_, _, _, _, rfl, rfl, h2⟩
  · rw [if_neg d0, if_neg d0]
    by_cases d1 : d = 1
    · obtain ⟨v, X2, M2, t1, t2, h2⟩ := act_turns hk h x
      rw [if_pos d1, if_pos d1, t1, t2]
      simp only [Option.bind_some, (ra_x h2).2.2.2, (ra_m h2).2.2.2, if_true]
      exact ⟨_, _, _, _, rfl, rfl, h2⟩
    · rw [if_neg d1, if_neg d1]
      have fin : ∀ {v w : Int32} {X2 M2 : w_S} {p : Int32}, RA p k nm sh X0 M0 X2 M2 → (p = 0 ∧ v = w ∨ p = 1) → ∃ u X' M' p, (if gI X2 27 = 0 then some (v, X2) else some (-15, X2)) = some (u, X') ∧ (if gI M2 22 = 0 then some (w, M2) else some (-15, M2)) = some (u, M') ∧ RA p k nm sh X0 M0 X' M' := fun h2 t3 => by
        rw [(ra_x h2).2.2.2, (ra_m h2).2.2.2]
        rcases t3 with ⟨rfl, rfl⟩ | rfl
        · exact ⟨_, _, _, _, rfl, rfl, h2⟩
        · exact ⟨_, _, _, _, rfl, rfl, h2⟩
      by_cases d2 : d = 2
      · obtain ⟨v, w, X2, M2, p, t1, t2, h2, t3⟩ := act_parts hk h x
        rw [if_pos d2, if_pos d2, t1, t2]
        exact fin h2 t3
      · obtain ⟨v, w, X2, M2, p, t1, t2, h2, t3⟩ := act_closes hk h x
        rw [if_neg d2, if_neg d2, t1, t2]
        exact fin h2 t3
def px_act (S : w_S) (k : Nat) (d x : Int32) : Option (Int32 × w_S) := if px_held S k = 0 then (fX4_kindOf_1 S (gI S (37 + 3 * k))).bind (fun r59 => (fX4_shiftOf_1 (sI (sI S 23 r59) 24 (gI S (37 + 3 * k))) (gI S (37 + 3 * k))).bind (fun r84 => (fX0_run_27 (sI (sI (sI S 23 r59) 24 (gI S (37 + 3 * k))) 25 r84) d x).bind (fun r96 => some (r96.1, r96.2)))) else some (0, S)
theorem x_act (S : w_S) (hq : 0 ≤ (gI S 3).toInt ∧ (gI S 3).toInt ≤ 6) (a d x : Int32) : fX6_act S a d x = if 0 ≤ a.toInt ∧ a.toInt < 4 then (if 0 ≤ d.toInt ∧ d.toInt ≤ 3 then px_act (sI (sI S 26 0) 27 0) a.toInt.toNat d x else some (0, sI (sI S 26 0) 27 0)) else some (0, sI (sI S 26 0) 27 0) := by
  rw [fX6_act, fX0_forget_27, Option.bind_some, x_isShelf]
  by_cases ha : 0 ≤ a.toInt ∧ a.toInt < 4
  · rw [if_pos ha, if_pos ha, Option.bind_some, if_neg (show ¬ (1 : Int32) = 0 by decide)]
    by_cases hd : 0 ≤ d.toInt ∧ d.toInt ≤ 3
    · rw [if_pos hd, if_neg (show ¬ d < 0 by rw [i_lt, ti_0]; omega), if_neg (show ¬ 3 < d by rw [i_lt, ti_3]; omega)]
      rcases k_cases ha with rfl | rfl | rfl | rfl
      · rw [x_held0 (sI (sI S 26 0) 27 0) hq]; rfl
      · rw [x_held1 (sI (sI S 26 0) 27 0) hq]; rfl
      · rw [x_held2 (sI (sI S 26 0) 27 0) hq]; rfl
      · rw [x_held3 (sI (sI S 26 0) 27 0) hq, x_held0 (sI (sI S 26 0) 27 0) hq, x_held1 (sI (sI S 26 0) 27 0) hq, x_held2 (sI (sI S 26 0) 27 0) hq]; rfl
    · rw [if_neg hd]
      by_cases c : d < 0
      · rw [if_pos c]
      · rw [if_neg c, if_pos (show 3 < d by rw [i_lt, ti_3]; rw [i_lt, ti_0] at c; omega)]
  · rw [if_neg ha, if_neg ha, Option.bind_some, if_pos rfl]
theorem rel_forget {X M : w_S} (h : Rel X M) : Rel (sI (sI X 26 0) 27 0) (sI M 18 0) := by
  obtain ⟨a1, a2, a3, a4, a5, a6⟩ := h
  have f1 : ∀ j, j ≠ 26 → j ≠ 27 → gI (sI (sI X 26 0) 27 0) j = gI X j := fun j a b => by simp only [gI_sI]; rw [if_neg b, if_neg a]
  have g1 : ∀ j, j ≠ 18 → gI (sI M 18 0) j = gI M j := fun j a => by simp only [gI_sI]; rw [if_neg a]
  exact ⟨R_now_c a1 (fun k hk => f1 k (by omega) (by omega)) (fun k hk => rfl) (fun k hk => g1 k (by omega)) rfl rfl rfl,
        R_kept_c a2 (fun k hk => f1 k (by omega) (by omega)) (fun k h1 h2 => rfl) (fun k h1 h2 => g1 k (by omega)) rfl rfl rfl,
        R_tape_c a3 (f1 21 (by omega) (by omega)) rfl (g1 9 (by omega)) rfl,
        R_sheets_c a4 (fun k h1 h2 => f1 k (by omega) (by omega)) (fun k h1 h2 => rfl) rfl rfl rfl,
        R_shelves_c a5 (fun k h1 h2 => f1 k (by omega) (by omega)) rfl rfl rfl,
        ⟨rfl, (show (0 : Int) ≤ (0 : Int32).toInt ∧ (0 : Int32).toInt ≤ 30 by decide), a6.2.2⟩⟩
theorem rel_acts {X M X' M' : w_S} (h : Rel X M) (f : frA X X') (g : frB M M') (ha : R_acts X' M') : Rel X' M' := by
  obtain ⟨a1, a2, a3, a4, a5, a6⟩ := h
  obtain ⟨f1, f2, f3⟩ := f
  obtain ⟨g1, g2, g3⟩ := g
  exact ⟨R_now_c a1 (fun k hk => f1 k (by omega)) (fun k hk => f2 k (by omega)) (fun k hk => g1 k (by omega)) (g2 0 (by omega)) (g2 3 (by omega)) (g2 4 (by omega)),
        R_kept_c a2 (fun k hk => f1 k (by omega)) (fun k h1 h2 => f2 k (by omega)) (fun k h1 h2 => g1 k (by omega)) (g2 1 (by omega)) (g2 5 (by omega)) (g2 6 (by omega)),
        R_tape_c a3 (f1 21 (by omega)) (f2 17 (by omega)) (g1 9 (by omega)) (g2 7 (by omega)),
        R_sheets_c a4 (fun k h1 h2 => f1 k (by omega)) (fun k h1 h2 => by rw [f3]) (g2 12 (by omega)) (g2 13 (by omega)) (by rw [g3]),
        R_shelves_c a5 (fun k h1 h2 => f1 k (by omega)) (g2 14 (by omega)) (g2 15 (by omega)) (g2 16 (by omega)), ha⟩
theorem eq_act : E_act Rel := by
  intro X M h a d x
  have hw := nw_of h.1
  obtain ⟨⟨e1, e2, e3, e4⟩, hm, hn, hq, hT, h6, h7, o4, -⟩ := id hw
  have h' := rel_forget h
  rw [x_act X hq, fX7_act, m_isShelf, m_in32, tl_0, tl_3]
  by_cases ha : 0 ≤ a.toInt ∧ a.toInt < 4
  · rw [if_pos ha, if_pos ha, Option.bind_some, if_neg (show ¬ (1 : Int32) = 0 by decide)]
    by_cases hd : 0 ≤ d.toInt ∧ d.toInt ≤ 3
    · rw [if_pos hd, if_pos hd, Option.bind_some, if_neg (show ¬ (1 : Int32) = 0 by decide)]
      obtain ⟨p, p1, p2, p3, p4, p5⟩ := held_eq h' ha
      rw [p2, Option.bind_some]
      unfold px_act
      rw [p1]
      by_cases p0 : p = 0
      · obtain ⟨p6, p7⟩ := p4 p0
        have s1 : ¬ (a < 0 ∨ 4 ≤ a.toNatClampNeg) := ix_ok ha.1 (by omega)
        rw [if_pos p0, if_pos p0, x_kindOf (sI (sI X 26 0) 27 0) hq.2 p7, Option.bind_some, x_shiftOf (sI (sI (sI (sI X 26 0) 27 0) 23 (gA (sI (sI X 26 0) 27 0) 3 (gI (sI (sI X 26 0) 27 0) (37 + 3 * a.toInt.toNat)).toInt.toNat)) 24 (gI (sI (sI X 26 0) 27 0) (37 + 3 * a.toInt.toNat))) hq.2 p7, Option.bind_some, if_pos s1]
        have p6' : gA M 15 a.toNatClampNeg = gI (sI (sI X 26 0) 27 0) (37 + 3 * a.toInt.toNat) := p6.symm
        have lt6 : (gI (sI (sI X 26 0) 27 0) (37 + 3 * a.toInt.toNat)).toInt < 6 := by
          have : (gI (sI (sI X 26 0) 27 0) 3).toInt ≤ 6 := hq.2
          omega
        have s2 : ¬ (gI (sI (sI X 26 0) 27 0) (37 + 3 * a.toInt.toNat) < 0 ∨ 6 ≤ (gI (sI (sI X 26 0) 27 0) (37 + 3 * a.toInt.toNat)).toNatClampNeg) := ix_ok p7.1 (by omega)
        rw [p6', if_pos s2, if_pos s2]
        generalize hnm : gI (sI (sI X 26 0) 27 0) (37 + 3 * a.toInt.toNat) = nm at *
        have hkk : gA M 3 nm.toNatClampNeg = gA X 3 nm.toInt.toNat := h6 _ (by omega)
        have hss : gA M 4 nm.toNatClampNeg = gA X 4 nm.toInt.toNat := h7 _ (by omega)
        rw [hkk, hss]
        have hkr := o4 nm.toInt.toNat (by omega)
        have hRA : RA 0 (gA X 3 nm.toInt.toNat) nm (gA X 4 nm.toInt.toNat) (sI (sI X 26 0) 27 0) (sI M 18 0) (sI (sI (sI (sI (sI X 26 0) 27 0) 23 (gA X 3 nm.toInt.toNat)) 24 nm) 25 (gA X 4 nm.toInt.toNat)) (sI (sI (sI (sI (sI M 18 0) 20 nm) 19 (gA X 3 nm.toInt.toNat)) 21 (gA X 4 nm.toInt.toNat)) 22 0) := by
          refine ⟨⟨rfl, rfl, rfl, rfl⟩, ⟨rfl, rfl, rfl, rfl⟩, ⟨rfl, (show (0 : Int) ≤ (0 : Int32).toInt ∧ (0 : Int32).toInt ≤ 30 by decide), h.2.2.2.2.2.2.2⟩, ⟨fun j hj => ?_, fun j hj => rfl, rfl⟩, fun j hj => ?_, fun j hj => rfl, rfl⟩
          · simp only [gI_sI]; rw [if_neg (show ¬ j = 25 by omega), if_neg (show ¬ j = 24 by omega), if_neg (show ¬ j = 23 by omega)]
          · simp only [gI_sI]; rw [if_neg (show ¬ j = 22 by omega), if_neg (show ¬ j = 21 by omega), if_neg (show ¬ j = 19 by omega), if_neg (show ¬ j = 20 by omega)]
        obtain ⟨v, X9, M9, p9, r1, r2, r3⟩ := act_run hkr hRA (d := d) x
        have r1' : fX0_run_27 (sI (sI (sI (sI (sI X 26 0) 27 0) 23 (gA (sI (sI X 26 0) 27 0) 3 nm.toInt.toNat)) 24 nm) 25 (gA (sI (sI (sI (sI X 26 0) 27 0) 23 (gA (sI (sI X 26 0) 27 0) 3 nm.toInt.toNat)) 24 nm) 4 nm.toInt.toNat)) d x = some (v, X9) := r1
        refine ⟨(v, X9), (v, M9), by rw [r1']; rfl, ?_, rfl, rel_acts h' r3.2.2.2.1 r3.2.2.2.2 r3.2.2.1⟩
        rw [← r2]
      · rw [if_neg p0, if_neg p0]; exact ⟨_, _, rfl, rfl, rfl, h'⟩
    · rw [if_neg hd, if_neg hd]; exact ⟨_, _, rfl, rfl, rfl, h'⟩
  · rw [if_neg ha, if_neg ha]; exact ⟨_, _, rfl, rfl, rfl, h'⟩
