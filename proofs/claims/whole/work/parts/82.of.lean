/-! ===== of, similar, whole, lower ===== -/
theorem eF_le (h : Nat) (E : eT) : ∀ k, (eRun h k E).2.2.1 ≤ E.2.2.1 + k
  | 0 => Nat.le_refl _
  | k + 1 => by
    have ih := eF_le h E k
    rw [eRun, eStep]
    split
    · show (eRun h k E).2.2.1 ≤ _; omega
    · show (eRun h k E).2.2.1 + (if _ then 0 else 1) ≤ _
      split <;> omega
theorem eE_le (X : w_S) (kd : Int32) (s : Nat) (sh : Int32) (m n fr : Nat) : (eE X kd s sh m n fr).1 ≤ (m - fr) * n := (eR_le _ _ (Nat.zero_le _) _).1
theorem eE_lw (X : w_S) (kd : Int32) (s : Nat) (sh : Int32) (m n fr : Nat) : (eE X kd s sh m n fr).1 ≤ (pls s m n).length - fr * n := by
  have := (eR_le ((m - fr) * n) (e0 (gM0 X kd s sh m n fr)) (Nat.zero_le _) ((pls s m n).length - fr * n)).2
  have e : (e0 (gM0 X kd s sh m n fr)).1 = 0 := rfl
  rw [e, Nat.zero_add] at this
  exact this
theorem upto6 {x : Int32} (h : 0 ≤ x.toInt ∧ x.toInt ≤ 6) : x = 0 ∨ x = 1 ∨ x = 2 ∨ x = 3 ∨ x = 4 ∨ x = 5 ∨ x = 6 := by
  simp only [i_eq, ti_0, ti_1, ti_2, ti_3, ti_4, ti_5, ti_6]; omega
theorem one_ite {α : Type} {c : Prop} [Decidable c] (x y : α) : (if (if c then (1 : Int32) else 0) = 0 then x else y) = if c then y else x := by
  by_cases h : c
  · rw [if_pos h, if_pos h, if_neg (by decide)]
  · rw [if_neg h, if_neg h, if_pos rfl]
theorem n10 : ¬ (1 : Int32) = 0 := by decide
theorem in_bnd {x : Int32} {a b : Int} (h : ¬ (a ≤ x.toInt ∧ x.toInt ≤ b)) : x.toInt < a ∨ b < x.toInt := by omega
theorem eq_of : E_of Rel := by
  intro X M h e what
  have hw := nw_of h.1
  obtain ⟨⟨e1, e2, e3, e4⟩, hm, hn, hq, hT, h6, h7, o4, -⟩ := id hw
  rw [fX6_of, fX7_of, x_hasEq X e hq, m_isEq M e (by rw [e4]; exact hq), e4, m_in32, tl_0, tl_6]
  by_cases he : 0 ≤ e.toInt ∧ e.toInt < (gI X 3).toInt
  · rw [if_pos he, Option.bind_some, Option.bind_some, if_neg n10, if_neg n10, Option.bind_some, one_ite]
    by_cases hwh : 0 ≤ what.toInt ∧ what.toInt ≤ 6
    · rw [if_pos hwh, if_neg (by rw [i_lt, ti_0]; omega), if_pos (by rw [i_le, ti_6]; omega)]
      obtain ⟨s, m, n, sh, q⟩ := eqA_of h he
      obtain ⟨q1, q2, q3, q4, q5, q6, q7, q8, q9, q10, q11, q12, q13, q14⟩ := id q
      have c1 := x_kindOf X q14 q13
      have c2 := x_shiftOf X q14 q13
      rw [show e.toInt.toNat = e.toNatClampNeg from rfl, q8] at c1
      rw [show e.toInt.toNat = e.toNatClampNeg from rfl, q9] at c2
      have p1 := x_fits X q6 q4 q5 q2 q3
      obtain ⟨f, p2⟩ := m_isFit M q6 q4 q5 (by rw [e1]; exact q2) (by rw [e2]; exact q3)
      have s0 : 0 ≤ (nI s).toInt := by rw [nI_toInt (by omega)]; omega
      rw [if_pos q12, c1, Option.bind_some, q10]
      have h48 := Rel_8 h f
      have work : ∀ (kx : w_S → Option (Int32 × w_S)) (km : w_S → Option (Int32 × w_S)), (∀ T T' w, Rel T T' → w ≤ 6 → at19 T (m * n) w w (eE X (nI s) s sh m n 0) → atM T' (m * n) w w (eE X (nI s) s sh m n 0) → ∃ v, kx T = some (v, T) ∧ km T' = some (v, T')) →
          ∃ zx zm, ((fX4_fits_1 X (nI s)).bind (fun r112 => (if r112 = 0 then some ((-4 : Int32), X) else (fX6_solve X e).bind kx))) = some zx ∧ ((fX7_isFit M (nI s)).bind (fun r99 => (if r99.1 = 0 then some ((-4 : Int32), r99.2) else (fX7_setsUp r99.2 e).bind km))) = some zm ∧ zx.1 = zm.1 ∧ Rel zx.2 zm.2 := by
        intro kx km hk
        rw [p1, p2, Option.bind_some, Option.bind_some]
        by_cases c : (s ≤ 1 ∨ m = n) ∧ (pls s m n).length ≤ 6
        · rw [if_pos c, if_neg n10, if_neg n10]
          have q' := EqA_T q (frX_rf X) (frM_8 M f) h48
          obtain ⟨T, T', t1, t2, t3, t4, t5, t6, t7, t8⟩ := two_solve h48 q' c.1 c.2
          rw [t1, t2, Option.bind_some, Option.bind_some]
          obtain ⟨v, v1, v2⟩ := hk T T' _ t5 c.2 t6 t7
          exact ⟨_, _, v1, v2, rfl, t5⟩
        · rw [if_neg c, if_pos rfl, if_pos rfl]
          exact ⟨_, _, rfl, rfl, rfl, h48⟩
      have h9 := mn_le9 q4.2 q5.2
      have hE := eE_le X (nI s) s sh m n 0
      rw [Nat.sub_zero] at hE
      rcases upto6 hwh with rfl | rfl | rfl | rfl | rfl | rfl | rfl
      · exact ⟨_, _, rfl, rfl, rfl, h⟩
      · rw [c2]
        refine ⟨_, (10 + sh, M), rfl, ?_, rfl, h⟩
        rw [if_neg (by decide), if_neg (by decide), if_pos rfl, if_pos q12, q11]
      · by_cases c : (s ≤ 1 ∨ m = n) ∧ (pls s m n).length ≤ 6
        · refine ⟨(1, X), (1, sA M 8 f), ?_, ?_, rfl, h48⟩
          · rw [if_neg (by decide), if_neg (by decide), if_pos rfl, p1, if_pos c]; rfl
          · rw [if_neg (by decide), if_neg (by decide), if_neg (by decide), p2, if_pos c]; rfl
        · refine ⟨(0, X), (0, sA M 8 f), ?_, ?_, rfl, h48⟩
          · rw [if_neg (by decide), if_neg (by decide), if_pos rfl, p1, if_neg c]; rfl
          · rw [if_neg (by decide), if_neg (by decide), if_neg (by decide), p2, if_neg c]; rfl
      · rw [if_neg (by decide), if_neg (by decide), if_neg (by decide), if_pos rfl, if_pos (by decide), if_pos rfl, x_hasRight, m_isLike M s0, e1, e2]
        by_cases c : nI s = 0 ∨ nI s = 1 ∨ gI X 0 = gI X 1
        · have c' : s ≤ 1 ∨ m = n := (likeN q6 q4.2 q5.2).1 (by rw [← q2, ← q3]; exact c)
          obtain ⟨g, g1, -⟩ := m_unknowns M (s := s) q6 q4 q5 (by rw [e1]; exact q2) (by rw [e2]; exact q3)
          rw [if_pos c, Option.bind_some, Option.bind_some, if_neg (by decide), if_neg (by decide), x_unknowns X q6 q4 q5 q2 q3 (by omega), g1]
          exact ⟨_, _, rfl, rfl, rfl, Rel_8 h g⟩
        · rw [if_neg c]; exact ⟨_, _, rfl, rfl, rfl, h⟩
      · exact work _ _ (fun T T' w hR hw6 a b => ⟨gI T 15, rfl, by rw [a.2.2.1, ← b.2.2.1]; rfl⟩)
      · refine work _ _ (fun T T' w hR hw6 a b => ⟨fset (eE X (nI s) s sh m n 0).2.2.2.1 w, ?_, ?_⟩)
        · rw [if_neg (by decide), if_pos rfl, x_freeSet (by omega) a]; rfl
        · rw [if_neg (by decide), if_pos rfl, m_freeOnes (by omega) b]; rfl
      · refine work _ _ (fun T T' w hR hw6 a b => ⟨if slv (m * n) w (eE X (nI s) s sh m n 0) then 1 else 0, ?_, ?_⟩)
        · rw [if_neg (by decide), if_neg (by decide), x_slv h9 (by omega) hE a, Option.bind_some, x_oneIf]; rfl
        · rw [if_neg (by decide), if_neg (by decide), m_slv h9 (by omega) hE b, Option.bind_some, bit_ite]
          split <;> rfl
    · rw [if_neg hwh]
      refine ⟨(-1, X), (-1, M), ?_, rfl, rfl, h⟩
      by_cases c : what < 0
      · rw [if_pos c]
      · rw [if_neg c, if_neg (fun c2 => hwh ⟨by rw [i_lt, ti_0] at c; omega, by rw [i_le, ti_6] at c2; exact c2⟩)]
  · rw [if_neg he]; exact ⟨_, _, rfl, rfl, rfl, h⟩
/-- rows from fr on, any shape -/
theorem two_any {X M : w_S} (h : Rel X M) {e : Int32} {s m n : Nat} {sh : Int32} (q : EqA X M e s m n sh) {fr : Nat} (hfr : fr < m) (h6 : (m - fr) * n ≤ 6) :
    ∃ G T T', fX6_fillGrid X (nI s) 0 sh (nI fr) = some G ∧ fX1_eliminate_19 G = some T ∧ fX7_sets M (nI s) 0 sh (nI fr) = some T' ∧ Rel T T' ∧ frM M T' ∧ at19 T ((m - fr) * n) ((m - fr) * n) ((m - fr) * n) (eE X (nI s) 0 sh m n fr) ∧ atM T' ((m - fr) * n) ((m - fr) * n) ((m - fr) * n) (eE X (nI s) 0 sh m n fr) := by
  obtain ⟨q1, q2, q3, q4, q5, q6, q7, q8, q9, q10, q11, q12, q13, q14⟩ := id q
  have hl := len0_tab m (by omega) n (by omega)
  have hmf : m * n - fr * n = (m - fr) * n := by rw [Nat.sub_mul]
  have hfm : fr * n ≤ m * n := Nat.mul_le_mul_right n (by omega)
  have hy := sys0 (s := 0) (fr := fr) (by omega) q4 q5 (by omega) (Or.inr rfl) hfr
  obtain ⟨G, T, t1, t2, -, t3, -, t4⟩ := x_two X (nI s) sh hy q2 q3 (by omega)
  obtain ⟨T', u1, u2, u3, u4⟩ := m_two q1 (nI s) q7 hy q2 q3 (by omega) (by omega)
  rw [hl, hmf] at t4 u3
  exact ⟨G, T, T', t1, t2, u1, Rel_S h (fr0_X t3) u2, u2, t4, u3⟩
theorem small_eq {X M : w_S} {e : Int32} {s m n : Nat} {sh : Int32} (q : EqA X M e s m n sh) : fX6_isSmallWhole X e = some (if (s ≤ 1 ∨ m = n) ∧ m * n ≤ 6 then 1 else 0) ∧ fX7_isSmall M e = some (if (s ≤ 1 ∨ m = n) ∧ m * n ≤ 6 then 1 else 0) := by
  obtain ⟨q1, q2, q3, q4, q5, q6, q7, q8, q9, q10, q11, q12, q13, q14⟩ := id q
  obtain ⟨⟨e1, e2, e3, e4⟩, -⟩ := id q1
  have c1 := x_kindOf X q14 q13
  rw [show e.toInt.toNat = e.toNatClampNeg from rfl, q8] at c1
  have s0 : 0 ≤ (nI s).toInt := by rw [nI_toInt (by omega)]; omega
  have h9 := mn_le9 q4.2 q5.2
  rw [fX6_isSmallWhole, fX7_isSmall, if_pos q12, c1, Option.bind_some, q10, x_hasRight, m_isLike M s0, e1, e2, q2, q3, nI_mul, show (6 : Int32) = nI 6 from rfl]
  by_cases c : s ≤ 1 ∨ m = n
  · rw [if_pos ((likeN q6 q4.2 q5.2).2 c), Option.bind_some, if_neg n10]
    by_cases d : m * n ≤ 6
    · rw [if_neg (nI_nlt (by omega) (by omega)), if_pos ⟨c, d⟩]; exact ⟨rfl, rfl⟩
    · rw [if_pos (nI_lt (by omega) (by omega)), if_neg (fun e => d e.2)]; exact ⟨rfl, rfl⟩
  · have c' : ¬ (nI s = 0 ∨ nI s = 1 ∨ nI m = nI n) := fun e => c ((likeN q6 q4.2 q5.2).1 e)
    rw [if_neg c', if_neg (show ¬ ((s ≤ 1 ∨ m = n) ∧ m * n ≤ 6) from fun e => c e.1)]; exact ⟨rfl, rfl⟩
theorem eq_similar : E_similar Rel := by
  intro X M h e
  have hw := nw_of h.1
  obtain ⟨⟨e1, e2, e3, e4⟩, hm, hn, hq, hT, h6, h7, o4, -⟩ := id hw
  rw [fX6_similar, fX7_similar, x_hasEq X e hq, m_isEq M e (by rw [e4]; exact hq), e4]
  by_cases he : 0 ≤ e.toInt ∧ e.toInt < (gI X 3).toInt
  · rw [if_pos he, Option.bind_some, Option.bind_some, if_neg n10, if_neg n10]
    obtain ⟨s, m, n, sh, q⟩ := eqA_of h he
    obtain ⟨s1, s2⟩ := small_eq q
    obtain ⟨q1, q2, q3, q4, q5, q6, q7, q8, q9, q10, q11, q12, q13, q14⟩ := id q
    have c1 := x_kindOf X q14 q13
    have c2 := x_shiftOf X q14 q13
    rw [show e.toInt.toNat = e.toNatClampNeg from rfl, q8] at c1
    rw [show e.toInt.toNat = e.toNatClampNeg from rfl, q9] at c2
    rw [s1, s2, Option.bind_some, Option.bind_some, one_ite, one_ite]
    by_cases c : (s ≤ 1 ∨ m = n) ∧ m * n ≤ 6
    · obtain ⟨G, T, T', t1, t2, t3, t4, -, t5, t6⟩ := two_any h q (fr := 0) (by omega) (by rw [Nat.sub_zero]; exact c.2)
      have hE := eE_le X (nI s) 0 sh m n 0
      rw [Nat.sub_zero] at t5 t6 hE
      have t1' : fX6_fillGrid X (nI s) 0 sh 0 = some G := t1
      have t3' : fX7_sets M (nI s) 0 sh 0 = some T' := t3
      rw [if_pos c, if_pos c, c1, Option.bind_some, c2, Option.bind_some, t1', Option.bind_some, t2, Option.bind_some, x_slv (by omega) (by omega) hE t5, Option.bind_some, x_oneIf, Option.bind_some, if_pos q12, if_pos q12, q10, q11, t3', Option.bind_some, m_slv (by omega) (by omega) hE t6, Option.bind_some, bit_ite]
      refine ⟨_, (if slv (m * n) (m * n) (eE X (nI s) 0 sh m n 0) then 1 else 0, T'), rfl, ?_, rfl, t4⟩
      split <;> rfl
    · rw [if_neg c, if_neg c]; exact ⟨_, _, rfl, rfl, rfl, h⟩
  · rw [if_neg he]; exact ⟨_, _, rfl, rfl, rfl, h⟩
theorem far_told (v : Int32) : ∃ z, fX6_far v = some z ∧ fX7_told v = some z := ⟨_, rfl, rfl⟩
theorem eq_whole : E_whole Rel := by
  intro X M h e
  have hw := nw_of h.1
  obtain ⟨⟨e1, e2, e3, e4⟩, hm, hn, hq, hT, h6, h7, o4, -⟩ := id hw
  rw [fX6_whole, fX7_whole, x_hasEq X e hq, m_isEq M e (by rw [e4]; exact hq), e4]
  by_cases he : 0 ≤ e.toInt ∧ e.toInt < (gI X 3).toInt
  · rw [if_pos he, Option.bind_some, Option.bind_some, if_neg n10, if_neg n10]
    obtain ⟨s, m, n, sh, q⟩ := eqA_of h he
    obtain ⟨s1, s2⟩ := small_eq q
    obtain ⟨q1, q2, q3, q4, q5, q6, q7, q8, q9, q10, q11, q12, q13, q14⟩ := id q
    have c1 := x_kindOf X q14 q13
    have c2 := x_shiftOf X q14 q13
    rw [show e.toInt.toNat = e.toNatClampNeg from rfl, q8] at c1
    rw [show e.toInt.toNat = e.toNatClampNeg from rfl, q9] at c2
    rw [s1, s2, Option.bind_some, Option.bind_some, one_ite, one_ite]
    by_cases c : (s ≤ 1 ∨ m = n) ∧ m * n ≤ 6
    · obtain ⟨G, T, T', t1, t2, t3, t4, fM, t5, t6⟩ := two_any h q (fr := 0) (by omega) (by rw [Nat.sub_zero]; exact c.2)
      have hE := eE_le X (nI s) 0 sh m n 0
      rw [Nat.sub_zero] at t5 t6 hE
      have t1' : fX6_fillGrid X (nI s) 0 sh 0 = some G := t1
      have t3' : fX7_sets M (nI s) 0 sh 0 = some T' := t3
      rw [if_pos c, if_pos c, c1, Option.bind_some, c2, Option.bind_some, t1', Option.bind_some, t2, Option.bind_some, if_pos q12, if_pos q12, q10, q11, t3', Option.bind_some]
      have hF : (eE X (nI s) 0 sh m n 0).2.2.1 ≤ 9 := by
        have := eF_le ((m - 0) * n) (e0 (gM0 X (nI s) 0 sh m n 0)) ((pls 0 m n).length - 0 * n)
        have hl := len0_tab m (by omega) n (by omega)
        have z : (e0 (gM0 X (nI s) 0 sh m n 0)).2.2.1 = 0 := rfl
        unfold eE
        omega
      obtain ⟨a13, a14, a15, aL, a16, aA, aB⟩ := t5
      obtain ⟨b13, b14, b15, bL, b16, bA, bB⟩ := t6
      have m0 : gI T' 0 = nI m := by rw [fM.1 0 (by omega), e1]; exact q2
      have m1 : gI T' 1 = nI n := by rw [fM.1 1 (by omega), e2]; exact q3
      rw [fX1_determinant_19, a14, a15, a16, aL, m0, m1, b15, bL, b16, nI_mul, show (2 : Int32) = nI 2 from rfl, nI_mod (by omega) (by omega)]
      by_cases d : nI (m * n) ≤ nI (eE X (nI s) 0 sh m n 0).1
      · rw [if_pos d, if_pos d]
        rcases Nat.mod_two_eq_zero_or_one (eE X (nI s) 0 sh m n 0).2.2.1 with f | f
        · rw [f, if_pos (by decide), if_neg (by decide)]; exact ⟨_, _, rfl, rfl, rfl, t4⟩
        · rw [f, if_neg (by decide), if_pos (by decide)]; exact ⟨_, _, rfl, rfl, rfl, t4⟩
      · rw [if_neg d, if_neg d]; exact ⟨_, _, rfl, rfl, rfl, t4⟩
    · rw [if_neg c, if_neg c]; exact ⟨_, _, rfl, rfl, rfl, h⟩
  · rw [if_neg he]; exact ⟨_, _, rfl, rfl, rfl, h⟩
theorem eq_lower : E_lower Rel := by
  intro X M h e fr
  have hw := nw_of h.1
  obtain ⟨⟨e1, e2, e3, e4⟩, hm, hn, hq, hT, h6, h7, o4, -⟩ := id hw
  rw [fX6_lower, fX7_lower, x_hasEq X e hq, m_isEq M e (by rw [e4]; exact hq), e4, m_in32, tl_1, tl_2]
  by_cases he : 0 ≤ e.toInt ∧ e.toInt < (gI X 3).toInt
  · rw [if_pos he, Option.bind_some, Option.bind_some, if_neg n10, if_neg n10, Option.bind_some, one_ite]
    by_cases hf : 1 ≤ fr.toInt ∧ fr.toInt ≤ 2
    · rw [if_pos hf, if_neg (by rw [i_lt, ti_1]; omega), if_pos (by rw [i_le, ti_2]; omega), e1]
      by_cases hs : fr.toInt < (gI X 0).toInt
      · obtain ⟨v, v1, v2⟩ := splits_eq h hf.1 hs
        rw [v1, Option.bind_some, if_neg (show ¬ gI X 0 ≤ fr by rw [i_le]; omega), v2, Option.bind_some]
        by_cases hv : v = 0
        · rw [if_pos hv, if_pos hv]; exact ⟨_, _, rfl, rfl, rfl, h⟩
        · rw [if_neg hv, if_neg hv]
          obtain ⟨s, m, n, sh, q⟩ := eqA_of h he
          obtain ⟨q1, q2, q3, q4, q5, q6, q7, q8, q9, q10, q11, q12, q13, q14⟩ := id q
          have c1 := x_kindOf X q14 q13
          have c2 := x_shiftOf X q14 q13
          rw [show e.toInt.toNat = e.toNatClampNeg from rfl, q8] at c1
          rw [show e.toInt.toNat = e.toNatClampNeg from rfl, q9] at c2
          have s0 : 0 ≤ (nI s).toInt := by rw [nI_toInt (by omega)]; omega
          rw [c1, Option.bind_some, if_pos q12, q10, x_hasRight, m_isLike M s0, e1, e2]
          by_cases c : nI s = 0 ∨ nI s = 1 ∨ gI X 0 = gI X 1
          · obtain ⟨k, k1, k2, k3⟩ := nI_nn (x := fr) (by omega)
            have hkm : k < m := by rw [q2, nI_toInt (by omega)] at hs; omega
            have hk6 : (m - k) * n ≤ 6 := Nat.le_trans (Nat.mul_le_mul (show m - k ≤ 2 by omega) q5.2) (by omega)
            obtain ⟨G, T, T', t1, t2, t3, t4, -, t5, t6⟩ := two_any h q hkm hk6
            have hE := eE_le X (nI s) 0 sh m n k
            rw [k2, if_pos c, Option.bind_some, if_neg n10, q2, q3, nI_subN (by omega) (by omega), nI_mul, show (6 : Int32) = nI 6 from rfl, if_pos (nI_le hk6 (by omega)), Option.bind_some, c2, Option.bind_some, t1, Option.bind_some, t2, Option.bind_some, x_slv (by omega) (by omega) hE t5, Option.bind_some, x_oneIf, Option.bind_some, Option.bind_some, if_neg n10, if_pos q12, if_pos q12, q11, t3, Option.bind_some, m_slv (by omega) (by omega) hE t6, Option.bind_some, bit_ite]
            refine ⟨_, (if slv ((m - k) * n) ((m - k) * n) (eE X (nI s) 0 sh m n k) then 1 else 0, T'), rfl, ?_, rfl, t4⟩
            split <;> rfl
          · rw [if_neg c]; exact ⟨_, _, rfl, rfl, rfl, h⟩
      · rw [if_pos (show gI X 0 ≤ fr by rw [i_le]; omega)]
        refine ⟨(-4, X), (-4, M), ?_, rfl, rfl, h⟩
        rw [fX4_splits_1, if_neg (show ¬ fr < 1 by rw [i_lt, ti_1]; omega), if_neg (show ¬ fr < gI X 0 by rw [i_lt]; exact hs)]; rfl
    · rw [if_neg hf]
      refine ⟨(-1, X), (-1, M), ?_, rfl, rfl, h⟩
      by_cases c : fr < 1
      · rw [if_pos c]
      · rw [if_neg c, if_neg (fun c2 => hf ⟨by rw [i_lt, ti_1] at c; omega, by rw [i_le, ti_2] at c2; exact c2⟩)]
  · rw [if_neg he]; exact ⟨_, _, rfl, rfl, rfl, h⟩
