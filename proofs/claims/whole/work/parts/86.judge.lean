/-! ===== the model reads sheets; judge, kinds ===== -/
theorem shr_c {T T' : Nat → Int32} (h : ∀ k, k < 27 → T k = T' k) (kd sh : Int32) {i j k l : Nat} (hi : i < 3) (hj : j < 3) (hk : k < 3) (hl : l < 3) : shr T kd sh i j k l = shr T' kd sh i j k l := by
  unfold shr
  rw [h _ (by omega), rE_c h kd (i := nI l) (j := nI j) (by rw [nI_toInt (by omega)]; omega) (by rw [nI_toInt (by omega)]; omega)]
theorem msh_lt {s : Nat} (hs : s < 4) (n : Nat) (x : Nat → Int64) : ∀ g p, fb (msh s n x) g p = p + g := by
  intro g
  induction g with
  | zero => intro p; rfl
  | succ g ih =>
    intro p
    have hf : msh s n x p = false := by unfold msh; rw [if_neg (by omega), if_neg (by omega), if_neg (by omega)]
    rw [fb, hf, ih, if_neg (by decide)]; omega
/-- sheet k of both, with m by n ints -/
def Rdb (X M : w_S) (a : Int32) (k m n : Nat) : Prop := Nw X M ∧ Sid X m n ∧ gI M 0 = nI m ∧ gI M 1 = nI n ∧ a = nI k ∧ k < 4 ∧ (∀ j, j < 40 → gB M 3 (40 * k + j) = gB X (2 + k) j)
theorem ixs4 (k v : Nat) : (40 * nI k) + nI v = nI (40 * k + v) := by rw [show (40 : Int32) = nI 40 from rfl, nI_mul, nI_add]
theorem m_off23 {X M : w_S} {a : Int32} {k m n : Nat} (r : Rdb X M a k m n) (kd : Int32) {sh : Int32} (d : Int32) {p : Nat} (hp : p < m * n) : fX7_firstOff_L23 M a kd sh d (nI p) 256 0 0 = some (ms (TX X) kd sh n (gB X (2 + k)) (p / n) (p % n) (m * n)) := by
  obtain ⟨hw, ⟨h0, h1, h2, h3⟩, g0, g1, rfl, hk, hx⟩ := r
  obtain ⟨-, -, -, -, hT, -⟩ := id hw
  have h9 := mn_le9 h2.2 h3.2
  have n0 : ¬ nI n = 0 := nI_ne0 (by omega) (by omega)
  obtain ⟨t, e1, rfl⟩ := loop_up (fun q (v : Int64) i => fX7_firstOff_L23 M (nI k) kd sh d (nI p) q v i) (fun q v => v = ms (TX X) kd sh n (gB X (2 + k)) (p / n) (p % n) q) (fun t => t = ms (TX X) kd sh n (gB X (2 + k)) (p / n) (p % n) (m * n)) (m * n)
    (fun q v t hv hI => ⟨t + (shr (TX X) kd sh (p / n) (p % n) (v / n) (v % n)).toInt64 * gB X (2 + k) v, by rw [hI]; rfl, by
      have a1 := div_lt3 hp h2.2
      have a2 := mod_lt3 hp h3.2
      have a3 := div_lt3 hv h2.2
      have a4 := mod_lt3 hv h3.2
      show fX7_firstOff_L23 M (nI k) kd sh d (nI p) (q + 1) t (nI v) = _
      rw [fX7_firstOff_L23, g0, g1, nI_mul, if_neg (nI_ge hv (by omega)), if_pos n0, if_pos n0, if_pos n0, if_pos n0, nI_mod (by omega) (by omega), nI_div (by omega) (by omega), nI_mod (by omega) (by omega), nI_div (by omega) (by omega), m_times0 M kd sh a1 a2 a3 a4, Option.bind_some, ixs4, if_pos (nI_inN (show 40 * k + v < 160 by omega) (by decide)), nI_clamp (by omega), hx v (by omega), shr_c hT kd sh a1 a2 a3 a4, nI_1]⟩)
    (fun q v hI => ⟨v, by
      show fX7_firstOff_L23 M (nI k) kd sh d (nI p) (q + 1) v (nI (m * n)) = _
      rw [fX7_firstOff_L23, g0, g1, nI_mul, if_pos (Int32.le_refl _)], hI⟩) 256 0 0 (by omega) (by omega) rfl
  exact e1
theorem m_firstOff {X M : w_S} {a : Int32} {k m n : Nat} (r : Rdb X M a k m n) (kd : Int32) {sh : Int32} (hsh : sb 2 sh) (d : Int32) : fX7_firstOff M a kd sh d = some (nI (fb (wrg (TX X) kd sh m n (gB X (2 + k)) d) (m * n) 0)) := by
  obtain ⟨hw, ⟨h0, h1, h2, h3⟩, g0, g1, ea, hk, hx⟩ := id r
  have hb := nw_sb5 hw
  obtain ⟨-, -, -, -, hT, -⟩ := id hw
  have h9 := mn_le9 h2.2 h3.2
  have n0 : ¬ nI n = 0 := nI_ne0 (by omega) (by omega)
  have key : ∀ g q p, p + g = m * n → g < q → fX7_firstOff_L3 (some (nI (m * n))) M a kd sh d q (nI p) = some (nI (fb (wrg (TX X) kd sh m n (gB X (2 + k)) d) g p)) := by
    intro g
    induction g with
    | zero =>
      intro q p e1 e2
      obtain ⟨q', rfl⟩ : ∃ q', q = q' + 1 := ⟨q - 1, by omega⟩
      rw [fX7_firstOff_L3, g0, g1, nI_mul, fb, if_pos (by rw [nI_leI (by omega) (by omega)]; omega)]
      congr 2; omega
    | succ g ih =>
      intro q p e1 e2
      obtain ⟨q', rfl⟩ : ∃ q', q = q' + 1 := ⟨q - 1, by omega⟩
      have hp : p < m * n := by omega
      have a1 := div_lt3 hp h2.2
      have a2 := mod_lt3 hp h3.2
      have a5 : p % n < n := Nat.mod_lt p (by omega)
      have a6 : p / n < m := by rw [Nat.div_lt_iff_lt_mul (by omega)]; exact hp
      have hC : fX7_its M 2 (nI (p / n)) (nI (p % n)) = some (TX X (18 + 3 * (p / n) + p % n)) := by
        generalize p / n = I at *
        generalize p % n = J at *
        rw [m_its M (by decide) (by rw [nI_toInt (by omega)]; omega) (by rw [nI_toInt (by omega)]; omega)]
        unfold at9
        rw [ti_2, nI_toInt (by omega), nI_toInt (by omega)]
        show some (gA M 0 (18 + 3 * I + J)) = _
        rw [hT _ (by omega)]
      have hms := ms_all hb kd hsh h3 (gB X (2 + k)) a1 a5 m h2.2
      rw [if_pos a6] at hms
      have h23 := m_off23 r kd (sh := sh) d hp
      rw [fX7_firstOff_L3, g0, g1, nI_mul, if_neg (nI_ge hp (by omega)), h23, Option.bind_some, if_pos n0, if_pos n0, nI_mod (by omega) (by omega), nI_div (by omega) (by omega), hC, Option.bind_some, nI_1, hms, fb]
      have hwr : wrg (TX X) kd sh m n (gB X (2 + k)) d p = decide ((A8 (TX X) sh n (gB X (2 + k)) (p / n) (p % n) m + Q8 (TX X) kd n (gB X (2 + k)) (p / n) (p % n) n) ≠ d.toInt64 * (TX X (18 + 3 * (p / n) + p % n)).toInt64) := rfl
      by_cases c : (A8 (TX X) sh n (gB X (2 + k)) (p / n) (p % n) m + Q8 (TX X) kd n (gB X (2 + k)) (p / n) (p % n) n) = d.toInt64 * (TX X (18 + 3 * (p / n) + p % n)).toInt64
      · rw [if_pos c, if_neg (by rw [hwr]; simp [c])]
        exact ih q' (p + 1) (by omega) (by omega)
      · rw [if_neg c, if_pos (by rw [hwr]; simp [c])]
  have := key (m * n) 256 0 (by omega) (by omega)
  have t' : fX7_firstOff_L3 (some (nI (m * n))) M a kd sh d 256 0 = _ := this
  rw [fX7_firstOff, g0, g1, nI_mul, t']
theorem fb_s (P : Nat → Bool) (k : Nat) : (fb P (k + 1) 0 = k + 1) ↔ (fb P k 0 = k ∧ P k = false) := by
  rw [fb_add, Nat.zero_add]
  have hr := fb_rg P k 0
  by_cases c : fb P k 0 = k
  · rw [if_pos c, fb, fb]
    by_cases d : P k = true
    · rw [if_pos d, d]; constructor
      · intro e; omega
      · intro e; cases e.2
    · rw [if_neg d]
      have d' : P k = false := by simpa using d
      rw [d']; exact ⟨fun _ => ⟨c, rfl⟩, fun _ => rfl⟩
  · rw [if_neg c]; constructor
    · intro e; omega
    · intro e; exact absurd e.1 c
theorem m_shape {X M : w_S} {a : Int32} {k m n : Nat} (r : Rdb X M a k m n) {s : Nat} (hs : s < 7) (hq : s ≤ 1 ∨ m = n) : fX7_isShaped M a (nI s) = some (if fb (msh s n (gB X (2 + k))) (m * n) 0 = m * n then 1 else 0) := by
  obtain ⟨hw, ⟨h0, h1, h2, h3⟩, g0, g1, rfl, hk, hx⟩ := id r
  have h9 := mn_le9 h2.2 h3.2
  have n0 : ¬ nI n = 0 := nI_ne0 (by omega) (by omega)
  have h11 : 0 < m * n := Nat.mul_pos (by omega) (by omega)
  by_cases c : 4 ≤ s
  · have hmn : m = n := by omega
    obtain ⟨t, e1, rfl⟩ := loop_up (fun q (v : Int32) i => fX7_isShaped_L5 M (nI k) (nI s) q v i) (fun p v => v = if fb (msh s n (gB X (2 + k))) p 0 = p then 1 else 0) (fun v => v = if fb (msh s n (gB X (2 + k))) (m * n) 0 = m * n then 1 else 0) (m * n)
      (fun q p v hp hI => by
        have a1 := div_lt3 hp h2.2
        have a2 := mod_lt3 hp h3.2
        have a5 : p % n < n := Nat.mod_lt p (by omega)
        have a6 : p / n < m := by rw [Nat.div_lt_iff_lt_mul (by omega)]; exact hp
        have hac : n * (p % n) + p / n < m * n := by rw [Nat.mul_comm]; exact pl_lt (by omega) (by omega)
        refine ⟨if fb (msh s n (gB X (2 + k))) (p + 1) 0 = p + 1 then 1 else 0, rfl, ?_⟩
        show fX7_isShaped_L5 M (nI k) (nI s) (q + 1) v (nI p) = _
        rw [fX7_isShaped_L5, g0, g1, nI_mul, if_neg (nI_ge hp (by omega)), show (4 : Int32) = nI 4 from rfl, if_neg (nI_nlt (by omega) (by omega)), if_pos n0, if_pos n0, ixs4, nI_mod (by omega) (by omega), nI_div (by omega) (by omega), show (40 : Int32) = nI 40 from rfl, nI_mul, nI_mul, nI_add, nI_add, if_pos (nI_inN (show 40 * k + p < 160 by omega) (by decide)), if_pos (nI_inN (show 40 * k + n * (p % n) + p / n < 160 by omega) (by decide)), nI_clamp (by omega), nI_clamp (by omega), hx p (by omega), show 40 * k + n * (p % n) + p / n = 40 * k + (n * (p % n) + p / n) by omega, hx _ (by omega), nI_1, hI]
        have hv : msh s n (gB X (2 + k)) p = if s = 4 then decide (¬ (p / n = p % n) ∧ ¬ gB X (2 + k) p = 0) else if s = 5 then decide (¬ gB X (2 + k) p = gB X (2 + k) (n * (p % n) + p / n)) else if s = 6 then decide (¬ gB X (2 + k) p = - gB X (2 + k) (n * (p % n) + p / n)) else false := rfl
        have f0 : ¬ fb (msh s n (gB X (2 + k))) (p + 1) 0 = p + 1 → (0 : Int32) = if fb (msh s n (gB X (2 + k))) (p + 1) 0 = p + 1 then 1 else 0 := fun e => (if_neg e).symm
        have f1 : fb (msh s n (gB X (2 + k))) (p + 1) 0 = p + 1 → (1 : Int32) = if fb (msh s n (gB X (2 + k))) (p + 1) 0 = p + 1 then 1 else 0 := fun e => (if_pos e).symm
        by_cases d : fb (msh s n (gB X (2 + k))) p 0 = p
        · have y1 : msh s n (gB X (2 + k)) p = false → fX7_isShaped_L5 M (nI k) (nI s) q 1 (nI (p + 1)) = fX7_isShaped_L5 M (nI k) (nI s) q (if fb (msh s n (gB X (2 + k))) (p + 1) 0 = p + 1 then 1 else 0) (nI (p + 1)) := fun e => by rw [← f1 ((fb_s _ p).2 ⟨d, e⟩)]
          have y0 : msh s n (gB X (2 + k)) p = true → fX7_isShaped_L5 M (nI k) (nI s) q 0 (nI (p + 1)) = fX7_isShaped_L5 M (nI k) (nI s) q (if fb (msh s n (gB X (2 + k))) (p + 1) 0 = p + 1 then 1 else 0) (nI (p + 1)) := fun e => by rw [← f0 (fun e2 => by rw [((fb_s _ p).1 e2).2] at e; cases e)]
          rw [if_pos d, if_neg n10, show (5 : Int32) = nI 5 from rfl]
          simp only [nI_eq (show s < 2 ^ 31 by omega) (show 4 < 2 ^ 31 by omega), nI_eq (show s < 2 ^ 31 by omega) (show 5 < 2 ^ 31 by omega), nI_eq (show p / n < 2 ^ 31 by omega) (show p % n < 2 ^ 31 by omega)]
          by_cases c4 : s = 4
          · rw [if_pos c4] at hv ⊢
            by_cases e : p / n = p % n
            · rw [if_pos e]; exact y1 (by rw [hv]; simp [e])
            · rw [if_neg e]
              by_cases e2 : gB X (2 + k) p = 0
              · rw [if_pos e2]; exact y1 (by rw [hv]; simp [e2])
              · rw [if_neg e2]; exact y0 (by rw [hv]; simp [e, e2])
          · rw [if_neg c4] at hv ⊢
            by_cases c5 : s = 5
            · rw [if_pos c5] at hv ⊢
              by_cases e : gB X (2 + k) p = gB X (2 + k) (n * (p % n) + p / n)
              · rw [if_pos e]; exact y1 (by rw [hv]; simp [e])
              · rw [if_neg e]; exact y0 (by rw [hv]; simp [e])
            · rw [if_neg c5] at hv ⊢
              rw [if_pos (by omega)] at hv
              by_cases e : gB X (2 + k) p = - gB X (2 + k) (n * (p % n) + p / n)
              · rw [if_pos e]; exact y1 (by rw [hv]; simp [e])
              · rw [if_neg e]; exact y0 (by rw [hv]; simp [e])
        · rw [if_neg d, if_pos (show (0 : Int32) = 0 from rfl), ← f0 (fun e => d ((fb_s _ p).1 e).1)])
      (fun q v hI => ⟨v, by
        show fX7_isShaped_L5 M (nI k) (nI s) (q + 1) v (nI (m * n)) = _
        rw [fX7_isShaped_L5, g0, g1, nI_mul, if_pos (Int32.le_refl _)], hI⟩) 256 0 1 (by omega) (by omega) (by rw [fb, if_pos rfl])
    have e1' : fX7_isShaped_L5 M (nI k) (nI s) 256 1 0 = _ := e1
    rw [fX7_isShaped, e1', Option.bind_some]
    split
    · rfl
    · rfl
  · have e1 : fX7_isShaped_L5 M (nI k) (nI s) 256 1 0 = some 1 := by
      show fX7_isShaped_L5 M (nI k) (nI s) (255 + 1) 1 (nI 0) = some 1
      rw [fX7_isShaped_L5, g0, g1, nI_mul, if_neg (nI_ge h11 (by omega)), show (4 : Int32) = nI 4 from rfl, if_pos (nI_lt (by omega) (by omega))]
    rw [fX7_isShaped, e1, Option.bind_some, if_pos (Or.inr rfl), msh_lt (by omega), if_pos (by omega)]
/-- why a sheet can't be read -/
def unr (S : w_S) (k m n : Nat) : Int32 := if gI S (28 + 2 * k) = -1 then -11 else if gI S (28 + 2 * k) = 2 then (if gI S (29 + 2 * k) = nI (m * n) then 0 else -12) else -13
theorem unr_0 {S : w_S} {k m n : Nat} : unr S k m n = 0 → gI S (29 + 2 * k) = nI (m * n) := by
  unfold unr
  intro h
  split at h
  · exact absurd h (by decide)
  · split at h
    · split at h
      · assumption
      · exact absurd h (by decide)
    · exact absurd h (by decide)
theorem unr_neg (S : w_S) (k m n : Nat) : (0 ≤ unr S k m n) ↔ unr S k m n = 0 := by
  unfold unr
  split
  · decide
  · split
    · split <;> decide
    · decide
theorem x_unr (S : w_S) {m n : Nat} (h : Sid S m n) : fX6_unreadable_30 S = some (unr S 0 m n) ∧ fX6_unreadable_32 S = some (unr S 1 m n) ∧ fX6_unreadable_34 S = some (unr S 2 m n) ∧ fX6_unreadable_36 S = some (unr S 3 m n) := by
  obtain ⟨h0, h1, -, -⟩ := h
  refine ⟨?_, ?_, ?_, ?_⟩
  · rw [fX6_unreadable_30, h0, h1, nI_mul]; unfold unr; simp only [some_ite, Nat.mul_zero, Nat.add_zero]
  · rw [fX6_unreadable_32, h0, h1, nI_mul]; unfold unr; simp only [some_ite, Nat.mul_one]
  · rw [fX6_unreadable_34, h0, h1, nI_mul]; unfold unr; simp only [some_ite]
  · rw [fX6_unreadable_36, h0, h1, nI_mul]; unfold unr; simp only [some_ite]
theorem m_against {X M : w_S} {a : Int32} {k m n : Nat} (h : Rel X M) (r : Rdb X M a k m n) : fX7_against M a = some (unr X k m n) := by
  obtain ⟨hw, ⟨h0, h1, h2, h3⟩, g0, g1, rfl, hk, hx⟩ := id r
  obtain ⟨s3, s4, ⟨s5, s5'⟩, s6, s7, s8⟩ := h.2.2.2.1 k hk
  rw [fX7_against, if_pos (nI_inN hk (by decide)), if_pos (nI_inN hk (by decide)), if_pos (nI_inN hk (by decide)), nI_clamp (by omega), ← s3, ← s4, g0, g1, nI_mul]
  unfold unr
  simp only [some_ite]
  by_cases c : gI X (28 + 2 * k) = 2
  · rw [if_pos c, if_neg (show ¬ gI X (28 + 2 * k) = -1 by rw [c]; decide), if_pos c]
  · rw [if_neg c, if_neg c]
    by_cases d : gI X (28 + 2 * k) = -1
    · rw [if_pos d, d, if_neg (by decide)]
    · rw [if_neg d, if_pos]
      rw [i_le, ti_0]
      have : (gI X (28 + 2 * k)).toInt ≠ -1 := fun e => d (by rw [i_eq, e]; rfl)
      omega
theorem rdb_of {X M : w_S} (h : Rel X M) {a : Int32} (ha : 0 ≤ a.toInt ∧ a.toInt < 4) : ∃ k m n, Rdb X M a k m n := by
  have hw := nw_of h.1
  obtain ⟨⟨e1, e2, e3, e4⟩, hm, hn, hq, hT, -⟩ := id hw
  obtain ⟨m, hm', em⟩ := side_nI hm
  obtain ⟨n, hn', en⟩ := side_nI hn
  obtain ⟨k, k1, k2, k3⟩ := nI_nn ha.1
  exact ⟨k, m, n, hw, ⟨em, en, hm', hn'⟩, by rw [e1, em], by rw [e2, en], k2, by omega, fun j hj => ((h.2.2.2.1 k (by omega)).2.2.2.2.2 j hj).symm⟩
/-- what judge says of a sheet that can be read -/
def jud (X : w_S) (k : Nat) (kd sh d : Int32) (s m n : Nat) : Int32 := if fb (wrg (TX X) kd sh m n (gB X (2 + k)) d) (m * n) 0 = m * n then (if fb (msh s n (gB X (2 + k))) (m * n) 0 = m * n then 0 else 1 + nI (m * n)) else 1 + nI (fb (wrg (TX X) kd sh m n (gB X (2 + k)) d) (m * n) 0)
theorem jud_x {wf : Nat} {m n : Nat} (hw : wf ≤ 9) (h9 : m * n ≤ 9) (o : Option Int32) {b : Prop} [Decidable b] (ho : o = some (if b then 1 else 0)) : (if nI wf = nI (m * n) then o.bind (fun r118 => (if r118 = 0 then some (1 + nI wf) else some 0)) else some (1 + nI wf)) = some (if wf = m * n then (if b then 0 else 1 + nI (m * n)) else 1 + nI wf) := by
  by_cases c : wf = m * n
  · rw [if_pos (by rw [c]), if_pos c, ho, Option.bind_some, one_ite, c]; split <;> rfl
  · rw [if_neg (by rw [nI_eq (by omega) (by omega)]; exact c), if_neg c]
theorem eq_judge : E_judge Rel := by
  intro X M h e a d
  have hw := nw_of h.1
  obtain ⟨⟨e1, e2, e3, e4⟩, hm, hn, hq, hT, h6, h7, o4, -⟩ := id hw
  rw [fX6_judge, fX7_judge, x_hasEq X e hq, m_isEq M e (by rw [e4]; exact hq), e4, x_isSheet, m_isSheet]
  by_cases he : 0 ≤ e.toInt ∧ e.toInt < (gI X 3).toInt
  · rw [if_pos he, Option.bind_some, Option.bind_some, if_neg n10, if_neg n10]
    by_cases ha : 0 ≤ a.toInt ∧ a.toInt < 4
    · rw [if_pos ha, Option.bind_some, Option.bind_some, if_neg n10, if_neg n10]
      by_cases hd : 1 ≤ d
      · obtain ⟨s, m, n, sh, q⟩ := eqA_of h he
        obtain ⟨q1, q2, q3, q4, q5, q6, q7, q8, q9, q10, q11, q12, q13, q14⟩ := id q
        have c1 := x_kindOf X q14 q13
        have c2 := x_shiftOf X q14 q13
        rw [show e.toInt.toNat = e.toNatClampNeg from rfl, q8] at c1
        rw [show e.toInt.toNat = e.toNatClampNeg from rfl, q9] at c2
        have s0 : 0 ≤ (nI s).toInt := by rw [nI_toInt (by omega)]; omega
        simp only [if_pos q12]
        rw [if_pos hd, if_pos hd, c1, Option.bind_some, q10, q11, x_hasRight, m_isLike M s0, e1, e2]
        by_cases c : nI s = 0 ∨ nI s = 1 ∨ gI X 0 = gI X 1
        · have cc : s ≤ 1 ∨ m = n := (likeN q6 q4.2 q5.2).1 (by rw [← q2, ← q3]; exact c)
          obtain ⟨k, m', n', r⟩ := rdb_of h ha
          have hsid : Sid X m n := ⟨q2, q3, q4, q5⟩
          have r' : Rdb X M a k m n := by
            obtain ⟨r1, r2, r3, r4, r5, r6, r7⟩ := r
            exact ⟨r1, hsid, by rw [e1]; exact q2, by rw [e2]; exact q3, r5, r6, r7⟩
          have h9 := mn_le9 q4.2 q5.2
          rw [if_pos c, Option.bind_some, Option.bind_some, if_neg n10, if_neg n10, m_against h r', Option.bind_some, Option.bind_some, m_firstOff r' (nI s) q7 d, m_shape r' q6 cc, q2, q3, nI_mul]
          have hx : ∀ kk, kk = k → kk < 4 → ∃ z, (if unr X kk m n = 0 then some (jud X kk (nI s) sh d s m n) else some (unr X kk m n)) = some z ∧ (if 0 ≤ unr X k m n then (some (nI (fb (wrg (TX X) (nI s) sh m n (gB X (2 + k)) d) (m * n) 0))).bind (fun r67 => (if r67 < nI (m * n) then some (1 + r67) else (some (if fb (msh s n (gB X (2 + k))) (m * n) 0 = m * n then 1 else 0)).bind (fun r94 => (if r94 = (0 : Int32) then some (1 + r67) else some 0)))) else some (unr X k m n)) = some z := by
            intro kk ek hk
            subst ek
            refine ⟨if unr X kk m n = 0 then jud X kk (nI s) sh d s m n else unr X kk m n, by split <;> rfl, ?_⟩
            by_cases c0 : unr X kk m n = 0
            · have hr := fb_rg (wrg (TX X) (nI s) sh m n (gB X (2 + kk)) d) (m * n) 0
              rw [if_pos ((unr_neg X kk m n).2 c0), if_pos c0, Option.bind_some, Option.bind_some, one_ite]
              unfold jud
              by_cases c3 : fb (wrg (TX X) (nI s) sh m n (gB X (2 + kk)) d) (m * n) 0 = m * n
              · rw [if_pos c3, c3, if_neg (nI_nlt (by omega) (by omega))]
                split <;> rfl
              · rw [if_neg c3, if_pos (nI_lt (by omega) (by omega))]
            · rw [if_neg (fun e => c0 ((unr_neg X kk m n).1 e)), if_neg c0]
          have hxx : ∀ (A : Option Int32), A = (if unr X k m n = 0 then some (jud X k (nI s) sh d s m n) else some (unr X k m n)) → ∃ zx zm, A = some zx ∧ (if 0 ≤ unr X k m n then (some (nI (fb (wrg (TX X) (nI s) sh m n (gB X (2 + k)) d) (m * n) 0))).bind (fun r67 => (if r67 < nI (m * n) then some (1 + r67) else (some (if fb (msh s n (gB X (2 + k))) (m * n) 0 = m * n then 1 else 0)).bind (fun r94 => (if r94 = (0 : Int32) then some (1 + r67) else some 0)))) else some (unr X k m n)) = some zm ∧ zx = zm ∧ Rel X M := by
            intro A hA
            obtain ⟨z, z1, z2⟩ := hx k rfl r'.2.2.2.2.2.1
            exact ⟨z, z, by rw [hA, z1], z2, rfl, h⟩
          obtain ⟨u0, u1, u2, u3⟩ := x_unr X hsid
          have hr9 : ∀ P, fb P (m * n) 0 ≤ 9 := fun P => by have := fb_rg P (m * n) 0; omega
          have ek : a = nI k := r'.2.2.2.2.1
          have hk4 : k < 4 := r'.2.2.2.2.2.1
          refine hxx _ ?_
          rcases (show k = 0 ∨ k = 1 ∨ k = 2 ∨ k = 3 by omega) with rfl | rfl | rfl | rfl
          · rw [if_pos (show a = 0 from ek), u0, Option.bind_some]
            split
            · rename_i g
              rw [c2, Option.bind_some, x_wrong30 X (nI s) sh d hsid (unr_0 g), Option.bind_some, jud_x (hr9 _) h9 _ (x_shape30 X q6 hsid cc (unr_0 g))]; rfl
            · rfl
          · rw [if_neg (show ¬ a = 0 by rw [ek]; decide), if_pos (show a = 1 from ek), u1, Option.bind_some]
            split
            · rename_i g
              rw [c2, Option.bind_some, x_wrong32 X (nI s) sh d hsid (unr_0 g), Option.bind_some, jud_x (hr9 _) h9 _ (x_shape32 X q6 hsid cc (unr_0 g))]; rfl
            · rfl
          · rw [if_neg (show ¬ a = 0 by rw [ek]; decide), if_neg (show ¬ a = 1 by rw [ek]; decide), if_pos (show a = 2 from ek), u2, Option.bind_some]
            split
            · rename_i g
              rw [c2, Option.bind_some, x_wrong34 X (nI s) sh d hsid (unr_0 g), Option.bind_some, jud_x (hr9 _) h9 _ (x_shape34 X q6 hsid cc (unr_0 g))]; rfl
            · rfl
          · rw [if_neg (show ¬ a = 0 by rw [ek]; decide), if_neg (show ¬ a = 1 by rw [ek]; decide), if_neg (show ¬ a = 2 by rw [ek]; decide), if_pos (show a = 3 from ek), u3, Option.bind_some]
            split
            · rename_i g
              rw [c2, Option.bind_some, x_wrong36 X (nI s) sh d hsid (unr_0 g), Option.bind_some, jud_x (hr9 _) h9 _ (x_shape36 X q6 hsid cc (unr_0 g))]; rfl
            · rfl
        · rw [if_neg c]; exact ⟨_, _, rfl, rfl, rfl, h⟩
      · rw [if_neg hd, if_neg hd]; exact ⟨_, _, rfl, rfl, rfl, h⟩
    · rw [if_neg ha]; exact ⟨_, _, rfl, rfl, rfl, h⟩
  · rw [if_neg he]; exact ⟨_, _, rfl, rfl, rfl, h⟩
