/-! ===== both systems worked out, alike ===== -/
def fr0 (S T : w_S) : Prop := (∀ k, ¬ (13 ≤ k ∧ k < 17) → gI T k = gI S k) ∧ (∀ k, k ≠ 0 → gL T k = gL S k) ∧ (∀ k, k ≠ 15 → gA T k = gA S k) ∧ (∀ k, k ≠ 0 → gB T k = gB S k)
theorem fr0_X {S T : w_S} (h : fr0 S T) : frX S T := ⟨fun k a b c => h.1 k (by omega), fun k a => h.2.2.1 k (by omega), fun k a => h.2.2.2 k (by omega)⟩
def gM0 (X : w_S) (kd : Int32) (s : Nat) (sh : Int32) (m n fr : Nat) : eM := fun r c => fin (TX X) kd s sh m n fr ((pls s m n).length - fr * n) r c
def eE (X : w_S) (kd : Int32) (s : Nat) (sh : Int32) (m n fr : Nat) : eT := eRun ((m - fr) * n) ((pls s m n).length - fr * n) (e0 (gM0 X kd s sh m n fr))
theorem nw_sb5 {X M : w_S} (hw : Nw X M) : ∀ k, k < 18 → sb 5 (TX X k) := by
  obtain ⟨_, _, _, _, _, _, _, _, _, o6⟩ := hw
  exact fun k hk => sb_bnd (a := 5) (o6.1 k hk)
theorem x_two (X : w_S) (kd : Int32) {s m n fr : Nat} (sh : Int32) (hy : Sys s m n fr) (h0 : gI X 0 = nI m) (h1 : gI X 1 = nI n) (hle : fr * n ≤ (pls s m n).length) :
    ∃ G T, fX6_fillGrid X kd (nI s) sh (nI fr) = some G ∧ fX1_eliminate_19 G = some T ∧ fr0 X G ∧ fr0 X T ∧ (gI G 13 = nI ((m - fr) * n) ∧ gI G 14 = nI ((pls s m n).length - fr * n) ∧ ∀ i j, i < (m - fr) * n → j ≤ (pls s m n).length - fr * n → gB G 0 (10 * i + j) = gM0 X kd s sh m n fr i j) ∧ at19 T ((m - fr) * n) ((pls s m n).length - fr * n) ((pls s m n).length - fr * n) (eE X kd s sh m n fr) := by
  obtain ⟨y1, y2, y3, y4, y5, y6⟩ := id hy
  have hpl := pls_len (s := s) y2.2 y3.2
  have h9 := mn_le9 y2.2 y3.2
  have hh : (m - fr) * n ≤ 9 := Nat.le_trans (Nat.mul_le_mul_right n (by omega)) h9
  obtain ⟨g, g1, g2⟩ := x_fillGrid X kd sh hy h0 h1 hle
  have q : ∀ i j, i < (m - fr) * n → j ≤ (pls s m n).length - fr * n → g (10 * i + j) = gM0 X kd s sh m n fr i j := fun i j hi hj => by rw [g2 i j (by omega) (by omega), if_pos hi]; rfl
  obtain ⟨T, t1, t2, t3⟩ := x_elim (sB (sI (sI X 13 (nI ((m - fr) * n))) 14 (nI ((pls s m n).length - fr * n))) 0 g) (h := (m - fr) * n) (w := (pls s m n).length - fr * n) (g := gM0 X kd s sh m n fr) hh (by omega) rfl rfl (fun i j hi hj => by rw [gB_sB, if_pos rfl]; exact q i j hi hj)
  refine ⟨_, T, g1, t1, ?_, ?_, ⟨rfl, rfl, fun i j hi hj => by rw [gB_sB, if_pos rfl]; exact q i j hi hj⟩, t3⟩
  · refine ⟨fun k hk => ?_, fun _ _ => rfl, fun k hk => rfl, fun k hk => ?_⟩
    · rw [gI_sB, gI_sI, if_neg (by omega), gI_sI, if_neg (by omega)]
    · rw [gB_sB, if_neg hk]; rfl
  · refine ⟨fun k hk => ?_, fun k hk => (t2.2.1 k hk), fun k hk => (t2.2.2.1 k hk), fun k hk => ?_⟩
    · rw [t2.1 k (by omega) (by omega), gI_sB, gI_sI, if_neg (by omega), gI_sI, if_neg (by omega)]
    · rw [t2.2.2.2 k hk, gB_sB, if_neg hk]; rfl
theorem m_two {X M : w_S} (hw : Nw X M) (kd : Int32) {s m n fr : Nat} {sh : Int32} (hsh : sb 2 sh) (hy : Sys s m n fr) (h0 : gI X 0 = nI m) (h1 : gI X 1 = nI n) (hle : fr * n ≤ (pls s m n).length) (hw7 : (pls s m n).length - fr * n ≤ 7) :
    ∃ T, fX7_sets M kd (nI s) sh (nI fr) = some T ∧ frM M T ∧ atM T ((m - fr) * n) ((pls s m n).length - fr * n) ((pls s m n).length - fr * n) (eE X kd s sh m n fr) ∧ (∀ u, u < (pls s m n).length → gA T 8 u = nI ((pls s m n).getD u 0)) ∧ gA T 2 = gA M 2 := by
  have hb := nw_sb5 hw
  obtain ⟨⟨e1, e2, e3, e4⟩, hm, hn, hq, hT, -⟩ := id hw
  obtain ⟨y1, y2, y3, y4, y5, y6⟩ := id hy
  have hpl := pls_len (s := s) y2.2 y3.2
  have h9 := mn_le9 y2.2 y3.2
  have hh : (m - fr) * n ≤ 9 := Nat.le_trans (Nat.mul_le_mul_right n (by omega)) h9
  obtain ⟨p, f, g1, g2, g3⟩ := m_sets M kd sh hy (by rw [e1, h0]) (by rw [e2, h1]) hle hw7
  obtain ⟨T, t1, t2, t3⟩ := m_works (sB (sI (sI (sA M 8 p) 15 (nI ((pls s m n).length - fr * n))) 14 (nI ((m - fr) * n))) 0 f) (h := (m - fr) * n) (w := (pls s m n).length - fr * n) (g := gM0 X kd s sh m n fr) hh (by omega) rfl rfl (fun i j hi hj => by
    rw [gB_sB, if_pos rfl, g3 i j hi hj]
    exact fin_eq hT hb kd hsh hy (by omega) hi hj)
  rw [t1, Option.bind_some] at g1
  refine ⟨T, g1, frM_tr ?_ (frW_M t2), t3, fun u hu => ?_, ?_⟩
  · refine ⟨fun k hk => ?_, fun k hk hk2 => ?_, ?_⟩
    · rw [gI_sB, gI_sI, if_neg (by omega), gI_sI, if_neg (by omega)]; rfl
    · rw [gA_sB, gA_sI, gA_sI, gA_sA, if_neg (by omega)]
    · rw [gB_sB, if_neg (by omega)]; rfl
  · rw [t2.2.1 8 (by omega) (by omega), ← g2 u hu]; rfl
  · rw [t2.2.1 2 (by omega) (by omega)]; rfl
/-! ===== what is read off ===== -/
def slv (h w : Nat) (E : eT) : Bool := ff E.2.2.2.2 w (h - E.1) E.1 == h
theorem x_slv {T : w_S} {h w : Nat} {E : eT} (hh : h ≤ 9) (hw : w < 10) (hE : E.1 ≤ h) (a : at19 T h w w E) : fX1_isSolvable_19 T = some (if slv h w E then 1 else 0) := by
  obtain ⟨a13, a14, a15, aL, a16, aA, aB⟩ := a
  have key : ∀ n q r, r + n = h → n < q → fX1_isSolvable_19_L5 (some 1) T q (nI r) = if ff E.2.2.2.2 w n r = h then some 1 else some 0 := by
    intro n
    induction n with
    | zero =>
      intro q r h1 h2
      obtain ⟨q, rfl⟩ := Nat.exists_eq_add_of_lt h2
      rw [fX1_isSolvable_19_L5, a13, ff, if_pos (by rw [nI_leI (by omega) (by omega)]; omega), if_pos (by omega)]
    | succ n ih =>
      intro q r h1 h2
      obtain ⟨q', rfl⟩ : ∃ q', q = q' + 1 := ⟨q - 1, by omega⟩
      rw [fX1_isSolvable_19_L5, a13, a14, if_neg (nI_ge (by omega) (by omega)), x_cell T (by omega) hw, Option.bind_some, aB r w (by omega) (Nat.le_refl _), ff]
      by_cases e : E.2.2.2.2 r w = 0
      · rw [if_pos e, if_pos e, nI_1]
        exact ih q' (r + 1) (by omega) (by omega)
      · rw [if_neg e, if_neg e, if_neg (by omega)]
  rw [fX1_isSolvable_19, a15, key (h - E.1) 256 E.1 (by omega) (by omega)]
  unfold slv
  by_cases c : ff E.2.2.2.2 w (h - E.1) E.1 = h
  · rw [if_pos c, if_pos (beq_iff_eq.2 c)]
  · rw [if_neg c, if_neg (fun e => c (beq_iff_eq.1 e))]
theorem m_slv {T : w_S} {h w : Nat} {E : eT} (hh : h ≤ 9) (hw : w < 8) (hE : E.1 ≤ h) (a : atM T h w w E) : fX7_isSolved T = some (if slv h w E then 1 else 0) := by
  obtain ⟨a13, a14, a15, aL, a16, aA, aB⟩ := a
  have key : ∀ n q r, r + n = h → n < q → fX7_isSolved_L5 (some 1) T q (nI r) = if ff E.2.2.2.2 w n r = h then some 1 else some 0 := by
    intro n
    induction n with
    | zero =>
      intro q r h1 h2
      obtain ⟨q, rfl⟩ := Nat.exists_eq_add_of_lt h2
      rw [fX7_isSolved_L5, a13, ff, if_pos (by rw [nI_leI (by omega) (by omega)]; omega), if_pos (by omega)]
    | succ n ih =>
      intro q r h1 h2
      obtain ⟨q', rfl⟩ : ∃ q', q = q' + 1 := ⟨q - 1, by omega⟩
      rw [fX7_isSolved_L5, a13, a14, if_neg (nI_ge (by omega) (by omega)), ix8, if_pos (nI_inN (show 8 * r + w < 72 by omega) (by decide)), nI_clamp (by omega), aB r w (by omega) (Nat.le_refl _), ff]
      by_cases e : E.2.2.2.2 r w = 0
      · rw [if_pos e, if_pos e, nI_1]
        exact ih q' (r + 1) (by omega) (by omega)
      · rw [if_neg e, if_neg e, if_neg (by omega)]
  rw [fX7_isSolved, a15, key (h - E.1) 256 E.1 (by omega) (by omega)]
  unfold slv
  by_cases c : ff E.2.2.2.2 w (h - E.1) E.1 = h
  · rw [if_pos c, if_pos (beq_iff_eq.2 c)]
  · rw [if_neg c, if_neg (fun e => c (beq_iff_eq.1 e))]
theorem x_oneIf (b : Bool) : fX6_oneIf (if b then 1 else 0) = some (if b then 1 else 0) := by cases b <;> rfl
theorem bit_ite {α : Type} (b : Bool) (x y : α) : (if (if b then (1 : Int32) else 0) = 0 then x else y) = if b then y else x := by
  cases b
  · exact if_pos rfl
  · exact if_neg (show ¬ (1 : Int32) = 0 by decide)
/-- the sign of a pivot's row -/
theorem pv_rng (h : Nat) (E : eT) (hE : E.1 ≤ h) (hh : h ≤ 9) : ∀ k c, c < k → (eRun h k E).2.2.2.1 c = -1 ∨ ∃ r, r < (eRun h k E).1 ∧ (eRun h k E).2.2.2.1 c = nI r
  | 0, c => fun h1 => absurd h1 (Nat.not_lt_zero _)
  | k + 1, c => fun h1 => by
    have ih := pv_rng h E hE hh k c
    rw [eRun, eStep]
    split
    · show upd _ k (-1) c = -1 ∨ ∃ r, r < (eRun h k E).1 ∧ upd _ k (-1) c = nI r
      rw [upd_ap]
      by_cases e : c = k
      · rw [if_pos e]; exact Or.inl rfl
      · rw [if_neg e]; exact ih (by omega)
    · show upd _ k _ c = -1 ∨ ∃ r, r < (eRun h k E).1 + 1 ∧ upd _ k _ c = nI r
      rw [upd_ap]
      by_cases e : c = k
      · rw [if_pos e]; exact Or.inr ⟨_, by omega, rfl⟩
      · rw [if_neg e]
        rcases ih (by omega) with f | ⟨r, r1, r2⟩
        · exact Or.inl f
        · exact Or.inr ⟨r, by omega, r2⟩
def fset (pv : Nat → Int32) : Nat → Int32
  | 0 => 0
  | k + 1 => fset pv k ||| (if 0 ≤ pv k then (0 : Int32) else 1 <<< (nI k &&& 31))
theorem x_freeSet {T : w_S} {h w : Nat} {E : eT} (hw : w < 10) (a : at19 T h w w E) : fX1_freeSet_19 T = some (fset E.2.2.2.1 w) := by
  obtain ⟨a13, a14, a15, aL, a16, aA, aB⟩ := a
  obtain ⟨t, e1, e2⟩ := loop_up (fun q (v : Int32) i => fX1_freeSet_19_L4 T q v i) (fun k v => v = fset E.2.2.2.1 k) (fun t => t = fset E.2.2.2.1 w) w
    (fun q k v hk hI => ⟨v ||| (if 0 ≤ E.2.2.2.1 k then (0 : Int32) else 1 <<< (nI k &&& 31)), by rw [hI]; rfl, by
      show fX1_freeSet_19_L4 T (q + 1) v (nI k) = _
      rw [fX1_freeSet_19_L4, a14, if_neg (nI_ge (by omega) (by omega)), fX1_isFree_19, a14, if_neg (nI_pos (by omega)), if_neg (nI_ge (by omega) (by omega)), show (10 : Int32) = nI 10 from rfl, if_neg (nI_ge (by omega) (by omega)), if_pos (nI_inN (show k < 10 by omega) (by decide)), nI_clamp (by omega), aA k hk, nI_1]
      by_cases c : 0 ≤ E.2.2.2.1 k
      · rw [if_pos c, if_pos c, Option.bind_some, if_pos rfl]
      · rw [if_neg c, if_neg c, Option.bind_some, if_neg (by decide)]⟩)
    (fun q v hI => ⟨v, by
      show fX1_freeSet_19_L4 T (q + 1) v (nI w) = _
      rw [fX1_freeSet_19_L4, a14, if_pos (Int32.le_refl _)], hI⟩) 256 0 0 (by omega) (by omega) rfl
  have e1' : fX1_freeSet_19_L4 T 256 0 0 = some t := e1
  rw [fX1_freeSet_19, e1', e2]; rfl
theorem m_freeOnes {T : w_S} {h w : Nat} {E : eT} (hw : w < 8) (a : atM T h w w E) : fX7_freeOnes T = some (fset E.2.2.2.1 w) := by
  obtain ⟨a13, a14, a15, aL, a16, aA, aB⟩ := a
  obtain ⟨t, e1, e2⟩ := loop_up (fun q (v : Int32) i => fX7_freeOnes_L4 T q v i) (fun k v => v = fset E.2.2.2.1 k) (fun t => t = fset E.2.2.2.1 w) w
    (fun q k v hk hI => ⟨v ||| (if 0 ≤ E.2.2.2.1 k then (0 : Int32) else 1 <<< (nI k &&& 31)), by rw [hI]; rfl, by
      show fX7_freeOnes_L4 T (q + 1) v (nI k) = _
      rw [fX7_freeOnes_L4, a14, if_neg (nI_ge (by omega) (by omega)), if_pos (nI_inN (show k < 9 by omega) (by decide)), nI_clamp (by omega), aA k hk, nI_1]
      by_cases c : 0 ≤ E.2.2.2.1 k
      · rw [if_pos c, if_pos c]
      · rw [if_neg c, if_neg c]⟩)
    (fun q v hI => ⟨v, by
      show fX7_freeOnes_L4 T (q + 1) v (nI w) = _
      rw [fX7_freeOnes_L4, a14, if_pos (Int32.le_refl _)], hI⟩) 256 0 0 (by omega) (by omega) rfl
  have e1' : fX7_freeOnes_L4 T 256 0 0 = some t := e1
  rw [fX7_freeOnes, e1', e2]; rfl
/-! ===== an equation at hand ===== -/
/-- kind, shift, sides of equation e -/
def EqA (X M : w_S) (e : Int32) (s m n : Nat) (sh : Int32) : Prop := Nw X M ∧ gI X 0 = nI m ∧ gI X 1 = nI n ∧ (1 ≤ m ∧ m ≤ 3) ∧ (1 ≤ n ∧ n ≤ 3) ∧ s < 7 ∧ sb 2 sh ∧ gA X 3 e.toNatClampNeg = nI s ∧ gA X 4 e.toNatClampNeg = sh ∧ gA M 3 e.toNatClampNeg = nI s ∧ gA M 4 e.toNatClampNeg = sh ∧ (¬ (e < 0 ∨ 6 ≤ e.toNatClampNeg)) ∧ (0 ≤ e.toInt ∧ e.toInt < (gI X 3).toInt) ∧ (gI X 3).toInt ≤ 6
theorem eqA_of {X M : w_S} (h : Rel X M) {e : Int32} (he : 0 ≤ e.toInt ∧ e.toInt < (gI X 3).toInt) : ∃ s m n sh, EqA X M e s m n sh := by
  have hw := nw_of h.1
  obtain ⟨⟨e1, e2, e3, e4⟩, hm, hn, hq, hT, h6, h7, o4, o5, o6⟩ := id hw
  obtain ⟨m, hm', em⟩ := side_nI hm
  obtain ⟨n, hn', en⟩ := side_nI hn
  have hi : e.toNatClampNeg < 6 := by rw [cl_nn]; omega
  obtain ⟨s, hs, es⟩ := kind_nI (o4 _ hi)
  exact ⟨s, m, n, _, hw, em, en, hm', hn', hs, sb_bnd (a := 2) (o5 _ hi), es, rfl, by rw [h6 _ hi, es], h7 _ hi, ix_ok (by omega) (by omega), he, hq.2⟩
theorem EqA_T {X M X' M' : w_S} {e : Int32} {s m n : Nat} {sh : Int32} (h : EqA X M e s m n sh) (f : frX X X') (g : frM M M') (hR : Rel X' M') : EqA X' M' e s m n sh := by
  obtain ⟨q1, q2, q3, q4, q5, q6, q7, q8, q9, q10, q11, q12, q13, q14⟩ := h
  refine ⟨nw_of hR.1, ?_, ?_, q4, q5, q6, q7, ?_, ?_, ?_, ?_, q12, ?_, ?_⟩
  · rw [f.1 0 (by omega) (by omega) (by omega)]; exact q2
  · rw [f.1 1 (by omega) (by omega) (by omega)]; exact q3
  · rw [f.2.1 3 (by omega)]; exact q8
  · rw [f.2.1 4 (by omega)]; exact q9
  · rw [g.2.1 3 (by omega) (by omega)]; exact q10
  · rw [g.2.1 4 (by omega) (by omega)]; exact q11
  · rw [f.1 3 (by omega) (by omega) (by omega)]; exact q13
  · rw [f.1 3 (by omega) (by omega) (by omega)]; exact q14
theorem sys0 {s m n fr : Nat} (hs : s < 7) (hm : 1 ≤ m ∧ m ≤ 3) (hn : 1 ≤ n ∧ n ≤ 3) (h : s ≤ 1 ∨ m = n) (h2 : fr = 0 ∨ s = 0) (h3 : fr < m) : Sys s m n fr := ⟨hs, hm, hn, by omega, h2, h3⟩
/-- X, M: solve(e), setsUp(e) -/
theorem two_solve {X M : w_S} (h : Rel X M) {e : Int32} {s m n : Nat} {sh : Int32} (q : EqA X M e s m n sh) (hl : s ≤ 1 ∨ m = n) (h6 : (pls s m n).length ≤ 6) :
    ∃ T T', fX6_solve X e = some T ∧ fX7_setsUp M e = some T' ∧ fr0 X T ∧ frM M T' ∧ Rel T T' ∧ at19 T (m * n) (pls s m n).length (pls s m n).length (eE X (nI s) s sh m n 0) ∧ atM T' (m * n) (pls s m n).length (pls s m n).length (eE X (nI s) s sh m n 0) ∧ (∀ u, u < (pls s m n).length → gA T' 8 u = nI ((pls s m n).getD u 0)) ∧ gA T' 2 = gA M 2 := by
  obtain ⟨q1, q2, q3, q4, q5, q6, q7, q8, q9, q10, q11, q12, q13, q14⟩ := id q
  have hy := sys0 (fr := 0) q6 q4 q5 hl (Or.inl rfl) (by omega)
  obtain ⟨G, T, t1, t2, -, t3, -, t4⟩ := x_two X (nI s) sh hy q2 q3 (by omega)
  obtain ⟨T', u1, u2, u3, u4⟩ := m_two q1 (nI s) q7 hy q2 q3 (by omega) (by omega)
  simp only [Nat.sub_zero, Nat.zero_mul] at t4 u3
  refine ⟨T, T', ?_, ?_, t3, u2, Rel_S h (fr0_X t3) u2, t4, u3, u4⟩
  · have c1 := x_kindOf X q14 q13
    have c2 := x_shiftOf X q14 q13
    rw [show e.toInt.toNat = e.toNatClampNeg from rfl, q8] at c1
    rw [show e.toInt.toNat = e.toNatClampNeg from rfl, q9] at c2
    have t1' : fX6_fillGrid X (nI s) (nI s) sh 0 = some G := t1
    rw [fX6_solve, c1, Option.bind_some, c2, Option.bind_some, t1', Option.bind_some, t2]; rfl
  · have u1' : fX7_sets M (nI s) (nI s) sh 0 = some T' := u1
    rw [fX7_setsUp, if_pos q12, if_pos q12, if_pos q12, q10, q11, u1']; rfl
