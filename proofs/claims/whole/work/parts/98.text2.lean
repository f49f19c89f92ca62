/-! ===== a text told: tables, all of it ===== -/
def SD (S : w_S) (m n : Nat) : Prop := gI S 8 = nI m ∧ gI S 9 = nI n ∧ (1 ≤ m ∧ m ≤ 3) ∧ (1 ≤ n ∧ n ≤ 3)
theorem sd_m {X M : w_S} {A b : Nat → Int32} {N P m n : Nat} {S M' : w_S} (h : PI X M A b N P S M') (d : SD S m n) : gI M' 0 = nI m ∧ gI M' 1 = nI n := by
  obtain ⟨⟨e1, e2, -⟩, -⟩ := nw_of h.2.2.2.1.1
  rw [e1, e2, gI_sp, gI_sp]
  exact ⟨d.1, d.2.1⟩
theorem pi_cols {X M : w_S} {A b : Nat → Int32} {N m n t i : Nat} (ht : t < 3) (hi : i < if t = 1 then n else m) (K : w_S → Option (Int32 × w_S)) (p3 : Int32) : ∀ g j q q' S M' P, j + g = (if t = 0 then m else n) → g < q → g < q' → PI X M A b N P S M' → TK M' b N P → SD S m n →
    (∃ S2 M2 P2, fX5_readTable_25_13_L18 K (nI t) p3 (nI i) q S (nI j) = K S2 ∧ fX7_table_L74 (nI t) (nI i) q' M' (nI j) = some M2 ∧ PI X M A b N P2 S2 M2 ∧ TK M2 b N P2 ∧ P ≤ P2 ∧ gI M2 13 = gI M' 13 ∧ SD S2 m n) ∨
    (∃ S2 M2 f, fX5_readTable_25_13_L18 K (nI t) p3 (nI i) q S (nI j) = some (0, S2) ∧ fX7_table_L74 (nI t) (nI i) q' M' (nI j) = some M2 ∧ PI X M A b N f S2 M2 ∧ FL M2 f ∧ f ≤ N) := by
  intro g
  have t0 : (nI t = 0) ↔ t = 0 := by rw [show (0 : Int32) = nI 0 from rfl, nI_eq (by omega) (by omega)]
  have t1 : (nI t = 1) ↔ t = 1 := by rw [show (1 : Int32) = nI 1 from rfl, nI_eq (by omega) (by omega)]
  induction g with
  | zero =>
    intro j q q' S M' P e1 e2 e3 h tk d
    obtain ⟨q, rfl⟩ : ∃ x, q = x + 1 := ⟨q - 1, by omega⟩
    obtain ⟨q', rfl⟩ : ∃ x, q' = x + 1 := ⟨q' - 1, by omega⟩
    obtain ⟨g0, g1⟩ := sd_m h d
    left
    refine ⟨S, M', P, ?_, ?_, h, tk, Nat.le_refl _, rfl, d⟩
    · rw [fX5_readTable_25_13_L18, fX4_columns_13, d.1, d.2.1]
      by_cases c : t = 0
      · rw [if_pos (t0.2 c), Option.bind_some]; rw [if_pos c] at e1
        rw [if_pos (nI_le (by omega) (by have := d.2.2.2; have := d.2.2.1; omega))]
      · rw [if_neg (fun e => c (t0.1 e)), Option.bind_some]; rw [if_neg c] at e1
        rw [if_pos (nI_le (by omega) (by have := d.2.2.2; have := d.2.2.1; omega))]
    · rw [fX7_table_L74, fX7_columnsOf, g0, g1]
      by_cases c : t = 0
      · rw [if_pos (t0.2 c), Option.bind_some]; rw [if_pos c] at e1
        rw [if_pos (nI_le (by omega) (by have := d.2.2.2; have := d.2.2.1; omega))]
      · rw [if_neg (fun e => c (t0.1 e)), Option.bind_some]; rw [if_neg c] at e1
        rw [if_pos (nI_le (by omega) (by have := d.2.2.2; have := d.2.2.1; omega))]
  | succ g ih =>
    intro j q q' S M' P e1 e2 e3 h tk d
    obtain ⟨q, rfl⟩ : ∃ x, q = x + 1 := ⟨q - 1, by omega⟩
    obtain ⟨q', rfl⟩ : ∃ x, q' = x + 1 := ⟨q' - 1, by omega⟩
    obtain ⟨g0, g1⟩ := sd_m h d
    obtain ⟨d0, d1, d2, d3⟩ := id d
    have hj3 : j < 3 := by split at e1 <;> omega
    have hi3 : i < 3 := by split at hi <;> omega
    have hc : isAt (gI (sp S) 0).toInt (gI (sp S) 1).toInt (nI t) (nI i) (nI j) := by
      have em : gI (sp S) 0 = nI m := by rw [gI_sp]; exact d0
      have en : gI (sp S) 1 = nI n := by rw [gI_sp]; exact d1
      rw [em, en]
      have tt := nI_toInt (n := t) (by omega)
      have ii := nI_toInt (n := i) (by omega)
      have jj := nI_toInt (n := j) (by omega)
      have mm := nI_toInt (n := m) (by omega)
      have nn := nI_toInt (n := n) (by omega)
      refine ⟨by omega, by omega, by omega, ?_, by omega, ?_⟩
      · rw [ii, mm, nn]
        by_cases c : t = 1
        · rw [if_pos (t1.2 c)]; rw [if_pos c] at hi; omega
        · rw [if_neg (fun e => c (t1.1 e))]; rw [if_neg c] at hi; omega
      · rw [jj, mm, nn]
        by_cases c : t = 0
        · rw [if_pos (t0.2 c)]; rw [if_pos c] at e1; omega
        · rw [if_neg (fun e => c (t0.1 e))]; rw [if_neg c] at e1; omega
    have xc : ∃ C, fX4_columns_13 S (nI t) = some (nI C) ∧ fX7_columnsOf M' (nI t) = some (nI C) ∧ C = j + (g + 1) := by
      rw [fX4_columns_13, fX7_columnsOf, d0, d1, g0, g1]
      by_cases c : t = 0
      · rw [if_pos (t0.2 c)]; rw [if_pos c] at e1; exact ⟨m, rfl, rfl, e1.symm⟩
      · rw [if_neg (fun e => c (t0.1 e))]; rw [if_neg c] at e1; exact ⟨n, rfl, rfl, e1.symm⟩
    obtain ⟨C, c1, c2, c3⟩ := xc
    have hC : C ≤ 3 := by rw [c3]; split at e1 <;> omega
    rw [fX5_readTable_25_13_L18, fX7_table_L74, c1, c2, Option.bind_some, Option.bind_some, if_neg (nI_ge (show j < C by omega) (by omega)), if_neg (nI_ge (show j < C by omega) (by omega)), tk.2.2, if_neg (show ¬ (0 : Int32) ≤ -1 by decide)]
    rcases pi_entry h tk hc with ⟨S2, M2, P2, r1, r2, r3, r4, r5, r6, r7, r8⟩ | ⟨S2, M2, f, r1, r2, r3, r4, r5⟩
    · rw [r1, r2, Option.bind_some, Option.bind_some, if_neg n10, nI_1]
      rcases ih (j + 1) q q' S2 M2 P2 (by omega) (by omega) (by omega) r3 r4 ⟨by rw [r7]; exact d0, by rw [r8]; exact d1, d2, d3⟩ with ⟨S3, M3, P3, s1, s2, s3, s4, s5, s6, s7⟩ | ⟨S3, M3, f, s1, s2, s3, s4, s5⟩
      · exact Or.inl ⟨S3, M3, P3, s1, s2, s3, s4, by omega, s6.trans r6, s7⟩
      · exact Or.inr ⟨S3, M3, f, s1, s2, s3, s4, s5⟩
    · right
      refine ⟨S2, M2, f, by rw [r1, Option.bind_some, if_pos rfl], ?_, r3, r4, r5⟩
      have hN := r3.2.2.2.2.1.1
      obtain ⟨q', rfl⟩ : ∃ x, q' = x + 1 := ⟨q' - 1, by omega⟩
      rw [r2, Option.bind_some, fX7_table_L74]
      have : ∃ v, fX7_columnsOf M2 (nI t) = some v := by rw [fX7_columnsOf]; split <;> exact ⟨_, rfl⟩
      obtain ⟨v, hv⟩ := this
      rw [hv, Option.bind_some]
      split
      · rfl
      · rw [r4, if_pos (nI_nn0 _ (by omega))]
theorem pi_rows {X M : w_S} {A b : Nat → Int32} {N m n t R : Nat} (ht : t < 3) (hR : R = if t = 1 then n else m) (K : w_S → Option (Int32 × w_S)) : ∀ g i q q' S M' P, i + g = R → g < q → g < q' → PI X M A b N P S M' → TK M' b N P → SD S m n →
    (∃ S2 M2 P2, fX5_readTable_25_13_L9 K (nI t) (nI R) q S (nI i) = K S2 ∧ fX7_table_L56 (nI t) q' M' (nI i) = some M2 ∧ PI X M A b N P2 S2 M2 ∧ TK M2 b N P2 ∧ P ≤ P2 ∧ gI M2 13 = gI M' 13 ∧ SD S2 m n) ∨
    (∃ S2 M2 f, fX5_readTable_25_13_L9 K (nI t) (nI R) q S (nI i) = some (0, S2) ∧ fX7_table_L56 (nI t) q' M' (nI i) = some M2 ∧ PI X M A b N f S2 M2 ∧ FL M2 f ∧ f ≤ N) := by
  intro g
  have t1 : (nI t = 1) ↔ t = 1 := by rw [show (1 : Int32) = nI 1 from rfl, nI_eq (by omega) (by omega)]
  have rows : ∀ {S M' P}, PI X M A b N P S M' → SD S m n → fX7_rowsOf M' (nI t) = some (nI R) ∧ R ≤ 3 ∧ 1 ≤ R := by
    intro S M' P h d
    obtain ⟨g0, g1⟩ := sd_m h d
    obtain ⟨d0, d1, d2, d3⟩ := id d
    rw [fX7_rowsOf, g0, g1, hR]
    by_cases c : t = 1
    · rw [if_pos (t1.2 c), if_pos c]; exact ⟨rfl, by omega, by omega⟩
    · rw [if_neg (fun e => c (t1.1 e)), if_neg c]; exact ⟨rfl, by omega, by omega⟩
  have stop : ∀ {M2 f q' i}, FL M2 f → f ≤ N → N ≤ 200 → 0 < q' → fX7_table_L56 (nI t) q' M2 (nI i) = some M2 := by
    intro M2 f q' i r4 r5 hN hq
    obtain ⟨q', rfl⟩ : ∃ x, q' = x + 1 := ⟨q' - 1, by omega⟩
    rw [fX7_table_L56]
    have : ∃ v, fX7_rowsOf M2 (nI t) = some v := by rw [fX7_rowsOf]; split <;> exact ⟨_, rfl⟩
    obtain ⟨v, hv⟩ := this
    rw [hv, Option.bind_some]
    split
    · rfl
    · rw [r4, if_pos (nI_nn0 _ (by omega))]
  induction g with
  | zero =>
    intro i q q' S M' P e1 e2 e3 h tk d
    obtain ⟨q, rfl⟩ : ∃ x, q = x + 1 := ⟨q - 1, by omega⟩
    obtain ⟨q', rfl⟩ : ∃ x, q' = x + 1 := ⟨q' - 1, by omega⟩
    obtain ⟨rr, R3, R1⟩ := rows h d
    left
    refine ⟨S, M', P, ?_, ?_, h, tk, Nat.le_refl _, rfl, d⟩
    · rw [fX5_readTable_25_13_L9, if_pos (nI_le (by omega) (by omega))]
    · rw [fX7_table_L56, rr, Option.bind_some, if_pos (nI_le (by omega) (by omega))]
  | succ g ih =>
    intro i q q' S M' P e1 e2 e3 h tk d
    obtain ⟨q, rfl⟩ : ∃ x, q = x + 1 := ⟨q - 1, by omega⟩
    obtain ⟨q', rfl⟩ : ∃ x, q' = x + 1 := ⟨q' - 1, by omega⟩
    obtain ⟨rr, R3, R1⟩ := rows h d
    have hN := h.2.2.2.2.1.1
    rw [fX5_readTable_25_13_L9, fX7_table_L56, rr, Option.bind_some, if_neg (nI_ge (show i < R by omega) (by omega)), if_neg (nI_ge (show i < R by omega) (by omega)), tk.2.2, if_neg (show ¬ (0 : Int32) ≤ -1 by decide)]
    have hC3 : (if t = 0 then m else n) < 256 := by have := d.2.2.1; have := d.2.2.2; split <;> omega
    rcases pi_cols (X := X) (M := M) (A := A) (b := b) (N := N) (m := m) (n := n) ht (i := i) (by rw [← hR]; omega) (fun (S18 : w_S) => ((if ((nI R) - 1) ≤ (nI i) then some 59 else some 44)).bind (fun (q65 : Int32) => (fX5_readMark_25 S18 q65).bind (fun r65 => (if r65.1 = 0 then some (0, r65.2) else fX5_readTable_25_13_L9 K (nI t) (nI R) q r65.2 ((nI i) + 1))))) (nI R) (if t = 0 then m else n) 0 256 256 S M' P (by omega) hC3 hC3 h tk d with ⟨S2, M2, P2, r1, r2, r3, r4, r5, r6, r7⟩ | ⟨S2, M2, f, r1, r2, r3, r4, r5⟩
    · have r1' : fX5_readTable_25_13_L18 (fun (S18 : w_S) => ((if ((nI R) - 1) ≤ (nI i) then some 59 else some 44)).bind (fun (q65 : Int32) => (fX5_readMark_25 S18 q65).bind (fun r65 => (if r65.1 = 0 then some (0, r65.2) else fX5_readTable_25_13_L9 K (nI t) (nI R) q r65.2 ((nI i) + 1))))) (nI t) (nI R) (nI i) 256 S 0 = _ := r1
      have r2' : fX7_table_L74 (nI t) (nI i) 256 M' 0 = some M2 := r2
      obtain ⟨rr2, -, -⟩ := rows r3 r7
      have eR : nI R - 1 = nI (R - 1) := by rw [show (1 : Int32) = nI 1 from rfl, nI_subN R1 (by omega)]
      obtain ⟨c, hc, sx, sm⟩ : ∃ c : Int32, (c = 45 ∨ c = 44 ∨ c = 59) ∧ (if nI R - 1 ≤ nI i then some (59 : Int32) else some 44) = some c ∧ (if nI R ≤ nI (i + 1) then some (59 : Int32) else some 44) = some c := by
        rw [eR]
        by_cases z : R ≤ i + 1
        · exact ⟨59, Or.inr (Or.inr rfl), by rw [if_pos (nI_le (by omega) (by omega))], by rw [if_pos (nI_le (by omega) (by omega))]⟩
        · exact ⟨44, Or.inr (Or.inl rfl), by rw [if_neg (nI_ge (by omega) (by omega))], by rw [if_neg (nI_ge (by omega) (by omega))]⟩
      rw [r1', r2', Option.bind_some, r4.2.2, if_neg (show ¬ (0 : Int32) ≤ -1 by decide), rr2, Option.bind_some, nI_1, sm, Option.bind_some]
      have hsk := sk_rg b r3.2.2.2.2.1.2.2.2.2.2
      rcases pi_mark r3 r4 c hc with ⟨a1, a2, a3, a4⟩ | ⟨a1, a2⟩
      · have k1 := PI_x r3 a4
        obtain ⟨M3, n1, n2, n3, n4⟩ := pi_next k1 a3 r4.2.2
        have d3 : SD (sI S2 22 (nI (sk b N P2 + 1))) m n := r7
        rw [a2, Option.bind_some, if_neg n10, Option.bind_some, r4.2.2, if_neg (show ¬ (0 : Int32) ≤ -1 by decide), n1, Option.bind_some]
        show (∃ S2' M2' P2', ((if nI R - 1 ≤ nI i then some (59 : Int32) else some 44).bind _) = _ ∧ _) ∨ (∃ S2' M2' f, ((if nI R - 1 ≤ nI i then some (59 : Int32) else some 44).bind _) = _ ∧ _)
        rw [sx, Option.bind_some, a1, Option.bind_some, if_neg n10]
        rcases ih (i + 1) q q' _ M3 _ (by omega) (by omega) (by omega) n2 n3 d3 with ⟨S4, M4, P4, s1, s2, s3, s4, s5, s6, s7⟩ | ⟨S4, M4, f, s1, s2, s3, s4, s5⟩
        · exact Or.inl ⟨S4, M4, P4, s1, s2, s3, s4, by omega, by rw [s6, n4, r6], s7⟩
        · exact Or.inr ⟨S4, M4, f, s1, s2, s3, s4, s5⟩
      · right
        have k1 := PI_x r3 hsk.2
        obtain ⟨f1, f2, f3⟩ := pi_fail k1 r4.1 r4.2.2
        refine ⟨sI S2 22 (nI (sk b N P2)), sI M2 12 (nI (sk b N P2)), sk b N P2, ?_, ?_, f2, f3, hsk.2⟩
        · show ((if nI R - 1 ≤ nI i then some (59 : Int32) else some 44).bind _) = _
          rw [sx, Option.bind_some, a1, Option.bind_some, if_pos rfl]
        · rw [a2, Option.bind_some, if_pos rfl, f1, Option.bind_some, Option.bind_some, f3, if_pos (nI_nn0 _ (by omega))]
          exact stop f3 hsk.2 hN (by omega)
    · right
      have r1' : fX5_readTable_25_13_L18 (fun (S18 : w_S) => ((if ((nI R) - 1) ≤ (nI i) then some 59 else some 44)).bind (fun (q65 : Int32) => (fX5_readMark_25 S18 q65).bind (fun r65 => (if r65.1 = 0 then some (0, r65.2) else fX5_readTable_25_13_L9 K (nI t) (nI R) q r65.2 ((nI i) + 1))))) (nI t) (nI R) (nI i) 256 S 0 = _ := r1
      have r2' : fX7_table_L74 (nI t) (nI i) 256 M' 0 = some M2 := r2
      refine ⟨S2, M2, f, r1', ?_, r3, r4, r5⟩
      rw [r2', Option.bind_some, r4, if_pos (nI_nn0 _ (by omega)), Option.bind_some, r4, if_pos (nI_nn0 _ (by omega)), nI_1]
      exact stop r4 r5 hN (by omega)
/-- the name ahead of a table -/
theorem pi_name {X M : w_S} {A b : Nat → Int32} {N f : Nat} {S M' : w_S} (h : PI X M A b N f S M') (hf : f < N) (h10 : gI M' 10 = nI f) (h11 : gI M' 11 = nI (te b N f)) :
    (∃ t, t < 3 ∧ fX5_readName_25 S = some (nI t, sI S 22 (nI (f + 1))) ∧ (fX7_is M' 97).bind (fun r3 => (if r3 = 0 then (fX7_is M' 98).bind (fun r16 => (if r16 = 0 then (fX7_is M' 99).bind (fun r29 => (if r29 = 0 then some (-1) else some 2)) else some 1)) else some 0)) = some (nI t) ∧ gI M' 11 = nI (f + 1)) ∨
    (fX5_readName_25 S = some (-1, S) ∧ (fX7_is M' 97).bind (fun r3 => (if r3 = 0 then (fX7_is M' 98).bind (fun r16 => (if r16 = 0 then (fX7_is M' 99).bind (fun r29 => (if r29 = 0 then some (-1 : Int32) else some 2)) else some 1)) else some 0)) = some (-1 : Int32)) := by
  have hT := h.2.2.2.2.1
  have hN := hT.1
  have hx := x_here hT (a := 0) (by omega)
  have hx' : fX5_here_25 S 0 = _ := hx
  have is := fun c => m_is h.2.2.2.2.2 (by omega) h10 h11 c
  have her := ed_rg (isL b) (N := N) (f := f) (by omega)
  have hu := byte_u (hT.2.2.2.2.1 f (by omega))
  have wh : ∀ c : Int32, c = 97 ∨ c = 98 ∨ c = 99 → b f = c → isL b f = true := fun c hc e => by
    unfold isL; rw [e, decide_eq_true_eq]; rcases hc with rfl | rfl | rfl <;> decide
  rw [fX5_readName_25, x_strL hT, Option.bind_some, hx', Option.bind_some, Option.bind_some, Nat.add_zero, if_pos hf, is 97, is 98, is 99, Option.bind_some, one_ite, Option.bind_some, one_ite, Option.bind_some, one_ite]
  by_cases cl : isL b f = true
  · have hte : te b N f = ed (isL b) N f := by unfold te; rw [if_neg (by omega), if_pos cl]
    have cl' := cl
    unfold isL at cl'
    rw [decide_eq_true_eq] at cl'
    have ub : b f &&& 255 = b f := by
      rcases hu with ⟨a1, a2, a3⟩ | ⟨a1, a2, a3⟩
      · rw [i_eq, a2]
      · omega
    by_cases c1 : ed (isL b) N f = f + 1
    · rw [show ed (isL b) N f - f = 1 by omega, if_pos (show nI 1 = 1 from rfl), ub]
      have t99 : (99 : Int32).toInt = 99 := rfl
      have t98 : (98 : Int32).toInt = 98 := rfl
      have hte1 : te b N f = f + 1 := by rw [hte, c1]
      by_cases c2 : b f ≤ 99
      · left
        rw [i_le, t99] at c2
        rw [if_pos (show b f ≤ 99 by rw [i_le, t99]; exact c2)]
        have h22 : gI S 22 + 1 = nI (f + 1) := by rw [hT.2.2.1, nI_1]
        rw [h22]
        rcases (show (b f).toInt = 97 ∨ (b f).toInt = 98 ∨ (b f).toInt = 99 by omega) with e | e | e
        · have eb : b f = 97 := by rw [i_eq, e]; rfl
          exact ⟨0, by omega, by rw [eb]; rfl, by rw [if_pos ⟨hf, hte1, eb⟩]; rfl, by rw [h11, hte1]⟩
        · have eb : b f = 98 := by rw [i_eq, e]; rfl
          exact ⟨1, by omega, by rw [eb]; rfl, by rw [if_neg (fun z => by have := z.2.2; rw [eb] at this; exact absurd this (by decide)), if_pos ⟨hf, hte1, eb⟩]; rfl, by rw [h11, hte1]⟩
        · have eb : b f = 99 := by rw [i_eq, e]; rfl
          exact ⟨2, by omega, by rw [eb]; rfl, by rw [if_neg (fun z => by have := z.2.2; rw [eb] at this; exact absurd this (by decide)), if_neg (fun z => by have := z.2.2; rw [eb] at this; exact absurd this (by decide)), if_pos ⟨hf, hte1, eb⟩]; rfl, by rw [h11, hte1]⟩
      · right
        have c3 : 99 < (b f).toInt := by rw [i_le, t99] at c2; omega
        rw [if_neg c2]
        refine ⟨rfl, ?_⟩
        rw [if_neg (fun z => by have := z.2.2; rw [this] at c3; exact absurd c3 (by decide)), if_neg (fun z => by have := z.2.2; rw [this] at c3; exact absurd c3 (by decide)), if_neg (fun z => by have := z.2.2; rw [this] at c3; exact absurd c3 (by decide))]
    · right
      rw [if_neg (show ¬ nI (ed (isL b) N f - f) = 1 by rw [show (1 : Int32) = nI 1 from rfl, nI_eq (by omega) (by omega)]; omega)]
      refine ⟨rfl, ?_⟩
      have nt : ¬ te b N f = f + 1 := by rw [hte]; exact c1
      rw [if_neg (fun z => nt z.2.1), if_neg (fun z => nt z.2.1), if_neg (fun z => nt z.2.1)]
  · right
    have cl0 : isL b f = false := by simpa using cl
    rw [ed_0 _ hf cl0, Nat.sub_self, if_neg (show ¬ nI 0 = 1 by decide)]
    refine ⟨rfl, ?_⟩
    rw [if_neg (fun z => cl (wh 97 (Or.inl rfl) z.2.2)), if_neg (fun z => cl (wh 98 (Or.inr (Or.inl rfl)) z.2.2)), if_neg (fun z => cl (wh 99 (Or.inr (Or.inr rfl)) z.2.2))]
theorem pi_tell {X M : w_S} {A b : Nat → Int32} {N m n : Nat} : ∀ g q q' c S M' P, N ≤ P + g → g < q → g < q' → c ≤ P → PI X M A b N P S M' → TK M' b N P → SD S m n → gI M' 13 = nI c →
    (∃ S2 M2 P2 c2, fX5_tell_25_13_L9 (fun (S9 : w_S) (v2_9 : Int32) => some (v2_9, S9)) q S (nI c) (nI c) = some (nI c2, S2) ∧ fX7_text_L31 q' M' = some M2 ∧ PI X M A b N P2 S2 M2 ∧ gI M2 12 = -1 ∧ gI M2 13 = nI c2 ∧ c2 ≤ 200) ∨
    (∃ S2 M2 f, fX5_tell_25_13_L9 (fun (S9 : w_S) (v2_9 : Int32) => some (v2_9, S9)) q S (nI c) (nI c) = some ((-100) - nI f, S2) ∧ fX7_text_L31 q' M' = some M2 ∧ PI X M A b N f S2 M2 ∧ FL M2 f ∧ f ≤ N) := by
  intro g
  have stop : ∀ {M2 f q'}, FL M2 f → f ≤ N → N ≤ 200 → 0 < q' → fX7_text_L31 q' M2 = some M2 := by
    intro M2 f q' r4 r5 hN hq
    obtain ⟨q', rfl⟩ : ∃ x, q' = x + 1 := ⟨q' - 1, by omega⟩
    rw [fX7_text_L31, r4, if_pos (nI_nn0 _ (by omega))]
  induction g with
  | zero =>
    intro q q' c S M' P e1 e2 e3 hcP h tk d h13
    obtain ⟨q, rfl⟩ : ∃ x, q = x + 1 := ⟨q - 1, by omega⟩
    obtain ⟨q', rfl⟩ : ∃ x, q' = x + 1 := ⟨q' - 1, by omega⟩
    obtain ⟨s1, s2⟩ := pi_skip h
    have hN := h.2.2.2.2.1.1
    have hsk := sk_rg b h.2.2.2.2.1.2.2.2.2.2
    have hf : sk b N P = N := by have := h.2.2.2.2.1.2.2.2.2.2; omega
    left
    refine ⟨_, M', _, c, ?_, ?_, s2, tk.2.2, h13, by omega⟩
    · rw [fX5_tell_25_13_L9, show (200 : Int32) = nI 200 from rfl, if_neg (nI_nlt (by omega) (by omega)), s1, Option.bind_some, s2.2.2.2.2.1.2.2.1, s2.2.2.2.2.1.2.1, if_neg (nI_nlt (by omega) (by omega))]
    · rw [fX7_text_L31, tk.2.2, if_neg (show ¬ (0 : Int32) ≤ -1 by decide), tk.1, h.2.2.2.2.2.2.1, if_pos (nI_le (by omega) (by omega))]
  | succ g ih =>
    intro q q' c S M' P e1 e2 e3 hcP h tk d h13
    obtain ⟨q, rfl⟩ : ∃ x, q = x + 1 := ⟨q - 1, by omega⟩
    obtain ⟨q', rfl⟩ : ∃ x, q' = x + 1 := ⟨q' - 1, by omega⟩
    obtain ⟨s1, s2⟩ := pi_skip h
    have hN := h.2.2.2.2.1.1
    have hsk := sk_rg b h.2.2.2.2.1.2.2.2.2.2
    have hPN := h.2.2.2.2.1.2.2.2.2.2
    obtain ⟨k10, k11, k12⟩ := id tk
    have d2 : SD (sI S 22 (nI (sk b N P))) m n := d
    rw [fX5_tell_25_13_L9, show (200 : Int32) = nI 200 from rfl, if_neg (nI_nlt (by omega) (by omega)), s1, Option.bind_some, s2.2.2.2.2.1.2.2.1, s2.2.2.2.2.1.2.1, fX7_text_L31, k12, if_neg (show ¬ (0 : Int32) ≤ -1 by decide), k10, h.2.2.2.2.2.2.1]
    generalize sk b N P = f at *
    by_cases hf : f < N
    · rw [if_pos (nI_lt hf (by omega)), if_neg (nI_ge hf (by omega))]
      have tb : fX7_table M' = ((fX7_is M' 97).bind (fun r3 => (if r3 = 0 then (fX7_is M' 98).bind (fun r16 => (if r16 = 0 then (fX7_is M' 99).bind (fun r29 => (if r29 = 0 then some (-1) else some 2)) else some 1)) else some 0))).bind (fun (q40 : Int32) => (if 0 ≤ q40 then (fX7_next M').bind (fun r51 => (fX7_table_L56 q40 256 r51 0).bind (fun q56 => some (sI q56 13 ((gI q56 13) + 1)))) else (fX7_fails M').bind (fun r46 => some r46))) := by
        rw [fX7_table]
        generalize fX7_is M' 97 = o
        cases o <;> rfl
      rcases pi_name s2 hf k10 k11 with ⟨t, t1, t2, t3, t4⟩ | ⟨t2, t3⟩
      · have k1 := PI_x s2 (show f + 1 ≤ N by omega)
        rw [sI_sI] at k1
        rw [sI_sI] at t2
        obtain ⟨M3, n1, n2, n3, n4⟩ := pi_next k1 t4 k12
        have d3 : SD (sI S 22 (nI (f + 1))) m n := d
        rw [t2, Option.bind_some, if_neg (show ¬ nI t < 0 from nI_pos (by omega)), tb, t3, Option.bind_some, if_pos (nI_nn0 _ (by omega)), n1, Option.bind_some, fX5_readTable_25_13]
        obtain ⟨R, hR, xr⟩ : ∃ R, R = (if t = 1 then n else m) ∧ fX4_rows_13 (sI S 22 (nI (f + 1))) (nI t) = some (nI R) := by
          have t1' : (nI t = 1) ↔ t = 1 := by rw [show (1 : Int32) = nI 1 from rfl, nI_eq (by omega) (by omega)]
          rw [fX4_rows_13, d3.1, d3.2.1]
          by_cases z : t = 1
          · exact ⟨n, by rw [if_pos z], by rw [if_pos (t1'.2 z)]⟩
          · exact ⟨m, by rw [if_neg z], by rw [if_neg (fun e => z (t1'.1 e))]⟩
        have hR3 : R ≤ 3 := by rw [hR]; have := d.2.2.1; have := d.2.2.2; split <;> omega
        rw [xr, Option.bind_some]
        rcases pi_rows (X := X) (M := M) (A := A) (b := b) (N := N) (m := m) (n := n) t1 hR (fun (S9 : w_S) => some (1, S9)) R 0 256 256 _ M3 _ (by omega) (by omega) (by omega) n2 n3 d3 with ⟨S4, M4, P4, r1, r2, r3, r4, r5, r6, r7⟩ | ⟨S4, M4, f4, r1, r2, r3, r4, r5⟩
        · have r1' : fX5_readTable_25_13_L9 (fun (S9 : w_S) => some (1, S9)) (nI t) (nI R) 256 (sI S 22 (nI (f + 1))) 0 = some (1, S4) := r1
          have r2' : fX7_table_L56 (nI t) 256 M3 0 = some M4 := r2
          have h13' : gI M4 13 + 1 = nI (c + 1) := by rw [r6, n4, h13, nI_1]
          rw [r1', Option.bind_some, if_neg n10, r2', Option.bind_some, Option.bind_some, nI_1, h13']
          have k5 := PI_m r3 (k := 13) (by omega) (nI (c + 1))
          have k6 : TK (sI M4 13 (nI (c + 1))) b N P4 := by
            obtain ⟨a1, a2, a3⟩ := r4
            exact ⟨by rw [gI_sI, if_neg (by omega)]; exact a1, by rw [gI_sI, if_neg (by omega)]; exact a2, by rw [gI_sI, if_neg (by omega)]; exact a3⟩
          exact ih q q' (c + 1) S4 _ P4 (by omega) (by omega) (by omega) (by omega) k5 k6 r7 (by rw [gI_sI, if_pos rfl])
        · right
          have r1' : fX5_readTable_25_13_L9 (fun (S9 : w_S) => some (1, S9)) (nI t) (nI R) 256 (sI S 22 (nI (f + 1))) 0 = some (0, S4) := r1
          have r2' : fX7_table_L56 (nI t) 256 M3 0 = some M4 := r2
          have fl : FL (sI M4 13 (gI M4 13 + 1)) f4 := by unfold FL; rw [gI_sI, if_neg (by omega)]; exact r4
          refine ⟨S4, sI M4 13 (gI M4 13 + 1), f4, ?_, ?_, PI_m r3 (by omega) _, fl, r5⟩
          · rw [r1', Option.bind_some, if_pos rfl, r3.2.2.2.2.1.2.2.1]
          · rw [r2', Option.bind_some, Option.bind_some]
            exact stop fl r5 hN (by omega)
      · right
        obtain ⟨f1, f2, f3⟩ := pi_fail s2 k10 k12
        refine ⟨sI S 22 (nI f), sI M' 12 (nI f), f, ?_, ?_, f2, f3, by omega⟩
        · rw [t2, Option.bind_some, if_pos (show (-1 : Int32) < 0 by decide), gI_sI, if_pos rfl]
        · rw [tb, t3, Option.bind_some, if_neg (show ¬ (0 : Int32) ≤ -1 by decide), f1, Option.bind_some, Option.bind_some]
          exact stop f3 (by omega) hN (by omega)
    · rw [if_neg (nI_nlt (by omega) (by omega)), if_pos (nI_le (by omega) (by omega))]
      exact Or.inl ⟨_, M', f, c, rfl, rfl, s2, k12, h13, by omega⟩
theorem Rel_end {X M : w_S} (h : Rel X M) : Rel (sI X 21 0) (sI M 9 0) := by
  obtain ⟨hn, hk, ht, hs, hv, ha⟩ := h
  refine ⟨R_now_c hn (fun k a => by rw [gI_sI, if_neg (by omega)]) (fun k _ => rfl) (fun k a => by rw [gI_sI, if_neg (by omega)]) rfl rfl rfl,
    R_kept_c hk (fun k a => by rw [gI_sI, if_neg (by omega)]) (fun k _ _ => rfl) (fun k a c => by rw [gI_sI, if_neg (by omega)]) rfl rfl rfl, ?_,
    R_sheets_c hs (fun k a c => by rw [gI_sI, if_neg (by omega)]) (fun k _ _ => rfl) rfl rfl rfl,
    R_shelves_c hv (fun k a c => by rw [gI_sI, if_neg (by omega)]) rfl rfl rfl,
    R_acts_c ha (by rw [gI_sI, if_neg (by omega)]) rfl (by rw [gI_sI, if_neg (by omega)]) rfl⟩
  obtain ⟨t1, t2, t3, t4⟩ := ht
  exact ⟨by rw [gI_sI, if_pos rfl, gI_sI, if_pos rfl], by rw [gI_sI, if_pos rfl]; exact ⟨by decide, by decide⟩, t3, t4⟩
theorem eq_text : E_text Rel := by
  intro X M h
  have hw := nw_of h.1
  obtain ⟨⟨e1, e2, e3, e4⟩, hm, hn, hq, hT, h6, h7, o4, -⟩ := id hw
  obtain ⟨m, hm', em⟩ := side_nI hm
  obtain ⟨n, hn', en⟩ := side_nI hn
  obtain ⟨tp1, ⟨tp2, tp3⟩, tp4, tp5⟩ := id h.2.2.1
  obtain ⟨N, hN, eN, eN2⟩ := nI_nn tp2
  obtain ⟨f2, f3, f4⟩ := saves13 M
  obtain ⟨X1, x1⟩ : ∃ X1, fX4_copyFrom_13_1 X = some X1 := ⟨_, rfl⟩
  have hX1 : X1 = _ := (Option.some.inj x1).symm
  have g1 : ∀ k, ¬ (8 ≤ k ∧ k < 12) → gI X1 k = gI X k := fun k hk => by
    rw [hX1]; simp only [gI_sI, gI_sA]; repeat rw [if_neg (by omega)]
  have g2 : ∀ k, ¬ (10 ≤ k ∧ k < 15) → gA X1 k = gA X k := fun k hk => by
    rw [hX1]; simp only [gA_sI, gA_sA]; repeat rw [if_neg (by omega)]
  have g3 : ∀ k, gB X1 k = gB X k := fun k => by rw [hX1]; rfl
  have i8 : gI X1 8 = gI X 0 := by rw [hX1]; rfl
  have i9 : gI X1 9 = gI X 1 := by rw [hX1]; rfl
  have i10 : gI X1 10 = gI X 2 := by rw [hX1]; rfl
  have i11 : gI X1 11 = gI X 3 := by rw [hX1]; rfl
  have a10 : ∀ i, i < 9 → gA X1 10 i = gA X 0 i := fun i hi => by rw [hX1]; exact cpy9 _ _ hi
  have a11 : ∀ i, i < 9 → gA X1 11 i = gA X 1 i := fun i hi => by rw [hX1]; exact cpy9 _ _ hi
  have a12 : ∀ i, i < 9 → gA X1 12 i = gA X 2 i := fun i hi => by rw [hX1]; exact cpy9 _ _ hi
  have a13 : ∀ i, i < 6 → gA X1 13 i = gA X 3 i := fun i hi => by rw [hX1]; exact cpy6 _ _ hi
  have a14 : ∀ i, i < 6 → gA X1 14 i = gA X 4 i := fun i hi => by rw [hX1]; exact cpy6 _ _ hi
  -- the start
  obtain ⟨S0, hS0⟩ : ∃ S0, S0 = sI X1 22 0 := ⟨_, rfl⟩
  obtain ⟨M0, hM0⟩ : ∃ M0, M0 = sI (sI (sI (sA M 2 f2) 11 0) 12 (-1)) 13 0 := ⟨_, rfl⟩
  have s0I : ∀ k, k ≠ 22 → gI S0 k = gI X1 k := fun k hk => by rw [hS0, gI_sI, if_neg hk]
  have s0A : ∀ k, gA S0 k = gA X1 k := fun k => by rw [hS0]; rfl
  have fx : frX X S0 := ⟨fun k a _ c => by rw [s0I k c, g1 k a], fun k a => by rw [s0A, g2 k (by omega)], fun k _ => by rw [hS0]; exact g3 k⟩
  have fm : frP M M0 := ⟨fun k hk => by rw [hM0]; simp only [gI_sI, gI_sA]; repeat rw [if_neg (by omega)], fun k a c d => by rw [hM0]; simp only [gA_sI, gA_sA]; rw [if_neg c], by rw [hM0]; rfl⟩
  have hsp : Rel (sp S0) M0 := by
    refine Rel_T h ⟨⟨fun k a c d e => ?_, fun k a c => ?_, fun k a => ?_⟩, fun k a c => fm.1 k (by omega), ⟨fm.2.1 1 (by omega) (by omega) (by omega), fm.2.1 5 (by omega) (by omega) (by omega), fm.2.1 6 (by omega) (by omega) (by omega), fm.2.1 7 (by omega) (by omega) (by omega), fun k a => fm.2.1 k (by omega) (by omega) (by omega)⟩, fm.2.2⟩ ?_
    · rw [gI_sp, if_neg (by omega), if_neg (by omega), if_neg (by omega), if_neg (by omega), s0I k e, g1 k c]
    · rw [gA_sp, if_neg (by omega), if_neg (by omega), if_neg (by omega), if_neg (by omega), if_neg (by omega), s0A, g2 k (by omega)]
    · rw [gB_sp, hS0]; exact g3 k
    · obtain ⟨⟨n1, n2, n3, n4, n5, n6, n7, n8, n9⟩, ho⟩ := id h.1
      have w0 : gI (sp S0) 0 = gI X 0 := by rw [gI_sp]; show gI S0 8 = _; rw [s0I 8 (by omega), i8]
      have w1 : gI (sp S0) 1 = gI X 1 := by rw [gI_sp]; show gI S0 9 = _; rw [s0I 9 (by omega), i9]
      have w2 : gI (sp S0) 2 = gI X 2 := by rw [gI_sp]; show gI S0 10 = _; rw [s0I 10 (by omega), i10]
      have w3 : gI (sp S0) 3 = gI X 3 := by rw [gI_sp]; show gI S0 11 = _; rw [s0I 11 (by omega), i11]
      have v0 : ∀ i, i < 9 → gA (sp S0) 0 i = gA X 0 i := fun i hi => by rw [gA_sp]; refine (cpy9 (gA S0 10) _ hi).trans ?_; rw [s0A, a10 i hi]
      have v1 : ∀ i, i < 9 → gA (sp S0) 1 i = gA X 1 i := fun i hi => by rw [gA_sp]; refine (cpy9 (gA S0 11) _ hi).trans ?_; rw [s0A, a11 i hi]
      have v2 : ∀ i, i < 9 → gA (sp S0) 2 i = gA X 2 i := fun i hi => by rw [gA_sp]; refine (cpy9 (gA S0 12) _ hi).trans ?_; rw [s0A, a12 i hi]
      have v3 : ∀ i, i < 6 → gA (sp S0) 3 i = gA X 3 i := fun i hi => by rw [gA_sp]; refine (cpy6 (gA S0 13) _ hi).trans ?_; rw [s0A, a13 i hi]
      have v4 : ∀ i, i < 6 → gA (sp S0) 4 i = gA X 4 i := fun i hi => by rw [gA_sp]; refine (cpy6 (gA S0 14) _ hi).trans ?_; rw [s0A, a14 i hi]
      have m0 : gA M0 0 = gA M 0 := by rw [hM0]; rfl
      have m3 : gA M0 3 = gA M 3 := by rw [hM0]; rfl
      have m4 : gA M0 4 = gA M 4 := by rw [hM0]; rfl
      refine ⟨⟨?_, ?_, ?_, ?_, fun i hi => ?_, fun i hi => ?_, fun i hi => ?_, fun i hi => ?_, fun i hi => ?_⟩, ?_⟩
      · rw [w0, fm.1 0 (by omega)]; exact n1
      · rw [w1, fm.1 1 (by omega)]; exact n2
      · rw [w2, fm.1 3 (by omega)]; exact n3
      · rw [w3, fm.1 2 (by omega)]; exact n4
      · rw [v0 i hi, m0]; exact n5 i hi
      · rw [v1 i hi, m0]; exact n6 i hi
      · rw [v2 i hi, m0]; exact n7 i hi
      · rw [v3 i hi, m3]; exact n8 i hi
      · rw [v4 i hi, m4]; exact n9 i hi
      · rw [w0, w1, w3]; exact okB_congr ho v0 v1 v2 v3 v4
  have p0 : PI X M f2 (gA X 17) N 0 S0 M0 := by
    refine ⟨fx, fm, by rw [hM0]; rfl, hsp, ⟨by omega, ?_, by rw [hS0, gI_sI, if_pos rfl]; rfl, fun i hi => ?_, tp5, Nat.zero_le _⟩, by omega, ?_, fun i hi => ?_⟩
    · rw [s0I 21 (by omega), g1 21 (by omega)]; exact eN
    · rw [s0A, g2 17 (by omega)]
    · rw [fm.1 9 (by omega), ← tp1]; exact eN
    · rw [fm.2.1 7 (by omega) (by omega) (by omega)]; exact (tp4 i hi).symm
  obtain ⟨M1, n1, n2, n3, n4⟩ := pi_next p0 (by rw [hM0]; rfl) (by rw [hM0]; rfl)
  have sd0 : SD S0 m n := ⟨by rw [s0I 8 (by omega), i8]; exact em, by rw [s0I 9 (by omega), i9]; exact en, hm', hn'⟩
  have c13 : gI M1 13 = nI 0 := by rw [n4, hM0]; rfl
  have tell := pi_tell (m := m) (n := n) N 256 256 0 S0 M1 0 (by omega) (by omega) (by omega) (Nat.le_refl _) n2 n3 sd0 c13
  have tx : fX6_text X = (fX5_tell_25_13_L9 (fun (S9 : w_S) (v2_9 : Int32) => some (v2_9, S9)) 256 S0 0 0).bind (fun r19 => (if r19.1 < 0 then some (r19.1, (sI r19.2 21 0)) else (fX4_copyFrom_1_13 r19.2).bind (fun r35 => some (r19.1, (sI r35 21 0))))) := by
    rw [fX6_text, x1, Option.bind_some, fX5_tell_25_13, hS0]
  have tm : fX7_text M = (fX7_text_L31 256 M1).bind (fun q31 => (if 0 ≤ (gI q31 12) then (fX7_saves_3_1 (sI q31 9 0)).bind (fun r82 => some ((-100) - (gI r82 12), r82)) else some ((gI q31 13), (sI q31 9 0)))) := by
    have e : fX7_next (sI (sI (sI (sA M 2 f2) 11 0) 12 (-1)) 13 0) = some M1 := by rw [← hM0]; exact n1
    rw [fX7_text, f3, Option.bind_some, e, Option.bind_some]
  rw [tx, tm]
  rcases tell with ⟨S2, M2, P2, c2, r1, r2, r3, r4, r5, r6⟩ | ⟨S2, M2, f, r1, r2, r3, r4, r5⟩
  · have r1' : fX5_tell_25_13_L9 (fun (S9 : w_S) (v2_9 : Int32) => some (v2_9, S9)) 256 S0 0 0 = some (nI c2, S2) := r1
    rw [r1', Option.bind_some, if_neg (show ¬ nI c2 < 0 from nI_pos (by omega)), sp_cp, Option.bind_some, r2, Option.bind_some, r4, if_neg (show ¬ (0 : Int32) ≤ -1 by decide), r5]
    exact ⟨_, _, rfl, rfl, rfl, Rel_end r3.2.2.2.1⟩
  · have r1' : fX5_tell_25_13_L9 (fun (S9 : w_S) (v2_9 : Int32) => some (v2_9, S9)) 256 S0 0 0 = some ((-100) - nI f, S2) := r1
    have hneg : (-100 : Int32) - nI f < 0 := by
      have hf := nI_toInt (n := f) (by omega)
      rw [i_lt, ti_0, fb_subI (by rw [tm_100, hf]; omega) (by rw [tm_100, hf]; omega), tm_100, hf]; omega
    obtain ⟨g, k1, k2⟩ := saves31 (sI M2 9 0)
    rw [r1', Option.bind_some, if_pos hneg, r2, Option.bind_some, r4, if_pos (nI_nn0 _ (by omega)), k1, Option.bind_some]
    refine ⟨_, _, rfl, rfl, ?_, ?_⟩
    · show (-100 : Int32) - nI f = (-100) - gI (sA (sI M2 9 0) 0 g) 12
      have e : gI (sA (sI M2 9 0) 0 g) 12 = nI f := by rw [gI_sA, gI_sI, if_neg (by omega)]; exact r4
      rw [e]
    · obtain ⟨q1, q2, q3, q4, q5, q6⟩ := r3
      have gg : ∀ i, i < 27 → g i = gA M 0 i := fun i hi => by
        rw [k2 i hi]
        show gA M2 2 i = _
        rw [q3]; exact f4 i hi
      have base : Rel S2 (sA M2 0 g) := by
        refine Rel_T h ⟨⟨fun k a c d e => q1.1 k (by omega) (by omega) e, fun k a c => q1.2.1 k (by omega), fun k a => q1.2.2 k a⟩, fun k a c => by rw [gI_sA]; exact q2.1 k (by omega), ⟨?_, ?_, ?_, ?_, fun k a => ?_⟩, q2.2.2⟩ ?_
        · rw [gA_sA, if_neg (by omega)]; exact q2.2.1 1 (by omega) (by omega) (by omega)
        · rw [gA_sA, if_neg (by omega)]; exact q2.2.1 5 (by omega) (by omega) (by omega)
        · rw [gA_sA, if_neg (by omega)]; exact q2.2.1 6 (by omega) (by omega) (by omega)
        · rw [gA_sA, if_neg (by omega)]; exact q2.2.1 7 (by omega) (by omega) (by omega)
        · rw [gA_sA, if_neg (by omega)]; exact q2.2.1 k (by omega) (by omega) (by omega)
        · obtain ⟨⟨n1, n2, n3, n4, n5, n6, n7, n8, n9⟩, ho⟩ := id h.1
          have fI : ∀ k, k < 4 → gI S2 k = gI X k := fun k hk => q1.1 k (by omega) (by omega) (by omega)
          have fA : ∀ k, k < 5 → gA S2 k = gA X k := fun k hk => q1.2.1 k (by omega)
          have gM : ∀ k, k < 4 → gI (sA M2 0 g) k = gI M k := fun k hk => q2.1 k (by omega)
          refine ⟨⟨?_, ?_, ?_, ?_, fun i hi => ?_, fun i hi => ?_, fun i hi => ?_, fun i hi => ?_, fun i hi => ?_⟩, ?_⟩
          · rw [fI 0 (by omega), gM 0 (by omega)]; exact n1
          · rw [fI 1 (by omega), gM 1 (by omega)]; exact n2
          · rw [fI 2 (by omega), gM 3 (by omega)]; exact n3
          · rw [fI 3 (by omega), gM 2 (by omega)]; exact n4
          · rw [fA 0 (by omega), gA_sA, if_pos rfl, gg i (by omega)]; exact n5 i hi
          · rw [fA 1 (by omega), gA_sA, if_pos rfl, gg (9 + i) (by omega)]; exact n6 i hi
          · rw [fA 2 (by omega), gA_sA, if_pos rfl, gg (18 + i) (by omega)]; exact n7 i hi
          · rw [fA 3 (by omega), gA_sA, if_neg (by omega), q2.2.1 3 (by omega) (by omega) (by omega)]; exact n8 i hi
          · rw [fA 4 (by omega), gA_sA, if_neg (by omega), q2.2.1 4 (by omega) (by omega) (by omega)]; exact n9 i hi
          · rw [fI 0 (by omega), fI 1 (by omega), fI 3 (by omega), fA 0 (by omega), fA 1 (by omega), fA 2 (by omega), fA 3 (by omega), fA 4 (by omega)]; exact ho
      exact Rel_end base
