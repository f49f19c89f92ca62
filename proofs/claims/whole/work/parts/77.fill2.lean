/-! ===== the class fills its grid ===== -/
theorem fillG (S : w_S) : ∃ f, fJ7_fill_d0a16_20 S 0 = some (sB S 0 f) ∧ ∀ i, i < 90 → f i = 0 := by
  rw [fJ7_fill_d0a16_20]
  obtain ⟨t, h1, f, rfl, h2⟩ := loop_up (fun n f i => fJ7_fill_d0a16_20_L6 0 90 n (sB S 0 f) i) (fun k f => ∀ i, i < k → f i = 0) (fun t => ∃ f, t = sB S 0 f ∧ ∀ i, i < 90 → f i = 0) 90
    (fun n k f hk hI => ⟨vp_updL f k 0, fun i hi => by
      by_cases e : i = k
      · rw [updL_ap, if_pos e]
      · rw [updL_ap, if_neg e]; exact hI i (by omega), by
      show fJ7_fill_d0a16_20_L6 0 90 (n + 1) (sB S 0 f) (nI k) = _
      rw [fJ7_fill_d0a16_20_L6, if_neg (by rw [lit, nI_leI (by omega) (by omega)]; omega), if_pos (nI_inN hk (by decide)), sB_sB, gB_sB, if_pos rfl, nI_clamp (by omega), nI_1]⟩)
    (fun n f hI => ⟨_, by
      show fJ7_fill_d0a16_20_L6 0 90 (n + 1) (sB S 0 f) (nI 90) = _
      rw [fJ7_fill_d0a16_20_L6, if_pos (by rw [lit]; exact Int32.le_refl _)], f, rfl, hI⟩) 256 0 (gB S 0) (by omega) (by omega) (fun i hi => by omega)
  rw [sB_self] at h1
  have h1' : fJ7_fill_d0a16_20_L6 0 90 256 S 0 = some (sB S 0 f) := h1
  exact ⟨f, by rw [h1']; rfl, h2⟩
theorem cl9 {h : Nat} (hh : h ≤ 9) : (if 0 < (if (9 : Int32) < nI h then 9 else nI h) then (if (9 : Int32) < nI h then 9 else nI h) else 0) = nI h := by
  rw [if_neg (show ¬ (9 : Int32) < nI h by rw [show (9 : Int32) = nI 9 from rfl]; exact nI_nlt hh (by omega))]
  by_cases e : h = 0
  · rw [e]; rfl
  · rw [if_pos (show 0 < nI h from nI_lt (a := 0) (by omega) (by omega))]
theorem x_clear (S : w_S) {h w : Nat} (hh : h ≤ 9) (hw : w ≤ 9) : ∃ f, fX1_clear_19 S (nI h) (nI w) = some (sB (sI (sI S 13 (nI h)) 14 (nI w)) 0 f) ∧ ∀ i, i < 90 → f i = 0 := by
  obtain ⟨f, f1, f2⟩ := fillG (sI (sI S 13 (nI h)) 14 (nI w))
  refine ⟨f, ?_, f2⟩
  rw [fX1_clear_19, cl9 hh, cl9 hw, f1]; rfl
/-- what the loops over a system know -/
def Sys (s m n fr : Nat) : Prop := s < 7 ∧ (1 ≤ m ∧ m ≤ 3) ∧ (1 ≤ n ∧ n ≤ 3) ∧ (s < 4 ∨ m = n) ∧ (fr = 0 ∨ s = 0) ∧ fr < m
theorem x_row37 (S : w_S) (kd : Int32) {s m n fr i j k : Nat} (sh : Int32) (hy : Sys s m n fr) (h1 : gI S 1 = nI n) (hfk : fr ≤ k) (hi : i < m) (hj : j < n) (hfi : fr ≤ i) (hk : k < m) (G : Nat → Int64) (g0 : Nat → Int64) (hg : ∀ c, c < (pls s m n).length - fr * n → g0 (10 * ((i - fr) * n + j) + c) = G c + psum (TX S) kd s sh n i j (c + fr * n) (k * n)) :
    ∃ g, fX6_fillRow_L37 kd (nI s) sh (nI fr) (nI i) (nI j) (nI ((i - fr) * n + j)) (nI k) 256 (sB S 0 g0) 0 = some (sB S 0 g) ∧ (∀ c, c < (pls s m n).length - fr * n → g (10 * ((i - fr) * n + j) + c) = G c + psum (TX S) kd s sh n i j (c + fr * n) ((k + 1) * n)) ∧ (∀ x, ¬ (10 * ((i - fr) * n + j) ≤ x ∧ x < 10 * ((i - fr) * n + j) + ((pls s m n).length - fr * n)) → g x = g0 x) := by
  obtain ⟨y1, y2, y3, y4, y5, y6⟩ := hy
  obtain ⟨t, e1, g, rfl, e2, e3⟩ := loop_up (fun q (g : Nat → Int64) l => fX6_fillRow_L37 kd (nI s) sh (nI fr) (nI i) (nI j) (nI ((i - fr) * n + j)) (nI k) q (sB S 0 g) l)
    (fun l g => (∀ c, c < (pls s m n).length - fr * n → g (10 * ((i - fr) * n + j) + c) = G c + psum (TX S) kd s sh n i j (c + fr * n) (k * n + l)) ∧ (∀ x, ¬ (10 * ((i - fr) * n + j) ≤ x ∧ x < 10 * ((i - fr) * n + j) + ((pls s m n).length - fr * n)) → g x = g0 x))
    (fun t => ∃ g, t = sB S 0 g ∧ (∀ c, c < (pls s m n).length - fr * n → g (10 * ((i - fr) * n + j) + c) = G c + psum (TX S) kd s sh n i j (c + fr * n) (k * n + n)) ∧ (∀ x, ¬ (10 * ((i - fr) * n + j) ≤ x ∧ x < 10 * ((i - fr) * n + j) + ((pls s m n).length - fr * n)) → g x = g0 x)) n
    (fun q l g hl hI => by
      obtain ⟨i1, i2⟩ := hI
      obtain ⟨g', a1, a2, a3⟩ := x_step (sB S 0 g) kd sh y1 y2 y3 y4 h1 y5 hfk hi hj hfi hk hl q
      refine ⟨g', ⟨fun c hc => ?_, fun x hx => ?_⟩, ?_⟩
      · rw [a2 c hc, gB_sB, if_pos rfl, i1 c hc, Int64.add_assoc]; rfl
      · rw [a3 x hx, gB_sB, if_pos rfl, i2 x hx]
      · show fX6_fillRow_L37 kd (nI s) sh (nI fr) (nI i) (nI j) (nI ((i - fr) * n + j)) (nI k) (q + 1) (sB S 0 g) (nI l) = _
        rw [a1, sB_sB])
    (fun q g hI => ⟨_, by
      show fX6_fillRow_L37 kd (nI s) sh (nI fr) (nI i) (nI j) (nI ((i - fr) * n + j)) (nI k) (q + 1) (sB S 0 g) (nI n) = _
      rw [fX6_fillRow_L37, show gI (sB S 0 g) 1 = nI n from h1, if_pos (Int32.le_refl _)], g, rfl, hI⟩) 256 0 g0 (by omega) (by omega) ⟨hg, fun x _ => rfl⟩
  refine ⟨g, e1, fun c hc => ?_, e3⟩
  rw [e2 c hc, Nat.add_mul, Nat.one_mul]
theorem x_fillRow (S : w_S) (kd : Int32) {s m n fr i j : Nat} (sh : Int32) (hy : Sys s m n fr) (h0 : gI S 0 = nI m) (h1 : gI S 1 = nI n) (hi : i < m) (hj : j < n) (hfi : fr ≤ i) (g0 : Nat → Int64) :
    ∃ g, fX6_fillRow (sB S 0 g0) kd (nI s) sh (nI fr) (nI i) (nI j) = some (sB S 0 g) ∧ (∀ c, c < (pls s m n).length - fr * n → g (10 * ((i - fr) * n + j) + c) = g0 (10 * ((i - fr) * n + j) + c) + psum (TX S) kd s sh n i j (c + fr * n) (m * n)) ∧ (∀ x, ¬ (10 * ((i - fr) * n + j) ≤ x ∧ x < 10 * ((i - fr) * n + j) + ((pls s m n).length - fr * n)) → g x = g0 x) := by
  obtain ⟨y1, y2, y3, y4, y5, y6⟩ := id hy
  have hpl := pls_len (s := s) y2.2 y3.2
  have hrow : (nI i - nI fr) * gI (sB S 0 g0) 1 + nI j = nI ((i - fr) * n + j) := by
    rw [show gI (sB S 0 g0) 1 = nI n from h1, nI_subN hfi (by omega), nI_mul, nI_add]
  rw [fX6_fillRow, hrow]
  obtain ⟨t, e1, g, rfl, e2, e3⟩ := loop_up (fun q (g : Nat → Int64) k => fX6_fillRow_L22 kd (nI s) sh (nI fr) (nI i) (nI j) (nI ((i - fr) * n + j)) q (sB S 0 g) k)
    (fun k g => fr ≤ k ∧ (∀ c, c < (pls s m n).length - fr * n → g (10 * ((i - fr) * n + j) + c) = g0 (10 * ((i - fr) * n + j) + c) + psum (TX S) kd s sh n i j (c + fr * n) (k * n)) ∧ (∀ x, ¬ (10 * ((i - fr) * n + j) ≤ x ∧ x < 10 * ((i - fr) * n + j) + ((pls s m n).length - fr * n)) → g x = g0 x))
    (fun t => ∃ g, t = sB S 0 g ∧ (∀ c, c < (pls s m n).length - fr * n → g (10 * ((i - fr) * n + j) + c) = g0 (10 * ((i - fr) * n + j) + c) + psum (TX S) kd s sh n i j (c + fr * n) (m * n)) ∧ (∀ x, ¬ (10 * ((i - fr) * n + j) ≤ x ∧ x < 10 * ((i - fr) * n + j) + ((pls s m n).length - fr * n)) → g x = g0 x)) m
    (fun q k g hk hI => by
      obtain ⟨i0, i1, i2⟩ := hI
      obtain ⟨g', a1, a2, a3⟩ := x_row37 S kd sh hy h1 i0 hi hj hfi hk (fun c => g0 (10 * ((i - fr) * n + j) + c)) g i1
      refine ⟨g', ⟨by omega, a2, fun x hx => by rw [a3 x hx, i2 x hx]⟩, ?_⟩
      show fX6_fillRow_L22 kd (nI s) sh (nI fr) (nI i) (nI j) (nI ((i - fr) * n + j)) (q + 1) (sB S 0 g) (nI k) = _
      rw [fX6_fillRow_L22, show gI (sB S 0 g) 0 = nI m from h0, if_neg (nI_ge hk (by omega)), a1, Option.bind_some, nI_1])
    (fun q g hI => ⟨_, by
      show fX6_fillRow_L22 kd (nI s) sh (nI fr) (nI i) (nI j) (nI ((i - fr) * n + j)) (q + 1) (sB S 0 g) (nI m) = _
      rw [fX6_fillRow_L22, show gI (sB S 0 g) 0 = nI m from h0, if_pos (Int32.le_refl _)], g, rfl, hI.2⟩) 256 fr g0 (by omega) (by omega) ⟨Nat.le_refl _, fun c hc => by
        have : psum (TX S) kd s sh n i j (c + fr * n) (fr * n) = 0 := by
          rcases y5 with e | e
          · rw [e, Nat.zero_mul]; rfl
          · rw [e]; exact psum_off (by omega) (by omega) (by rw [e] at hc hpl; omega) _ (by omega)
        rw [this, Int64.add_zero], fun x _ => rfl⟩
  exact ⟨g, by rw [e1]; rfl, e2, e3⟩
/-- what stands in a cell of the grid in the end -/
def fin (T : Nat → Int32) (kd : Int32) (s : Nat) (sh : Int32) (m n fr w r c : Nat) : Int64 := if c < w then psum T kd s sh n (fr + r / n) (r % n) (c + fr * n) (m * n) else if c = w then (T (18 + 3 * (fr + r / n) + r % n)).toInt64 else 0
theorem x_grid66 (S : w_S) (kd : Int32) {s m n fr i : Nat} (sh : Int32) (hy : Sys s m n fr) (h0 : gI S 0 = nI m) (h1 : gI S 1 = nI n) (hi : i < m) (hfi : fr ≤ i) (g0 : Nat → Int64) (hg : ∀ r c, r < 9 → c < 10 → g0 (10 * r + c) = if r < (i - fr) * n then fin (TX S) kd s sh m n fr ((pls s m n).length - fr * n) r c else 0) :
    ∃ g, fX6_fillGrid_L66 kd (nI s) sh (nI fr) (nI n) (nI ((pls s m n).length - fr * n)) (nI i) 256 (sB S 0 g0) 0 = some (sB S 0 g) ∧ (∀ r c, r < 9 → c < 10 → g (10 * r + c) = if r < (i + 1 - fr) * n then fin (TX S) kd s sh m n fr ((pls s m n).length - fr * n) r c else 0) := by
  obtain ⟨y1, y2, y3, y4, y5, y6⟩ := id hy
  have hpl := pls_len (s := s) y2.2 y3.2
  have h9 := mn_le9 y2.2 y3.2
  have hin : (i + 1 - fr) * n = (i - fr) * n + n := by
    rw [show i + 1 - fr = (i - fr) + 1 by omega, Nat.add_mul, Nat.one_mul]
  have hmn : (i - fr) * n + n ≤ m * n := by
    rw [← hin]; exact Nat.mul_le_mul_right n (by omega)
  obtain ⟨t, e1, g, rfl, e2⟩ := loop_up (fun q (g : Nat → Int64) l => fX6_fillGrid_L66 kd (nI s) sh (nI fr) (nI n) (nI ((pls s m n).length - fr * n)) (nI i) q (sB S 0 g) l)
    (fun l g => ∀ r c, r < 9 → c < 10 → g (10 * r + c) = if r < (i - fr) * n + l then fin (TX S) kd s sh m n fr ((pls s m n).length - fr * n) r c else 0)
    (fun t => ∃ g, t = sB S 0 g ∧ ∀ r c, r < 9 → c < 10 → g (10 * r + c) = if r < (i - fr) * n + n then fin (TX S) kd s sh m n fr ((pls s m n).length - fr * n) r c else 0) n
    (fun q j g hj hI => by
      have hr9 : (i - fr) * n + j < 9 := by omega
      have dr : ((i - fr) * n + j) / n = i - fr := by rw [Nat.mul_comm, Nat.mul_add_div (by omega), Nat.div_eq_of_lt hj, Nat.add_zero]
      have mr : ((i - fr) * n + j) % n = j := by rw [Nat.mul_comm, Nat.mul_add_mod]; exact Nat.mod_eq_of_lt hj
      have hC : fX4_entry_1 (sB S 0 g) 2 (nI i) (nI j) = some (TX S (18 + 3 * i + j)) := by
        rw [x_entry (sB S 0 g) (by decide) (by rw [nI_toInt (by omega)]; omega) (by rw [nI_toInt (by omega)]; omega)]
        unfold at9; rw [ti_2, nI_toInt (by omega), nI_toInt (by omega)]; rfl
      obtain ⟨g', a1, a2, a3⟩ := x_fillRow S kd sh hy h0 h1 hi hj hfi (vp_updL g (10 * ((i - fr) * n + j) + ((pls s m n).length - fr * n)) (g (10 * ((i - fr) * n + j) + ((pls s m n).length - fr * n)) + (TX S (18 + 3 * i + j)).toInt64))
      refine ⟨g', fun r c hr hc => ?_, ?_⟩
      · by_cases e : r = (i - fr) * n + j
        · subst e
          rw [if_pos (by omega)]
          unfold fin
          rw [dr, mr, show fr + (i - fr) = i by omega]
          by_cases cw : c < (pls s m n).length - fr * n
          · rw [if_pos cw, a2 c cw, updL_ap, if_neg (by omega), hI _ c hr hc, if_neg (by omega), Int64.zero_add]
          · rw [if_neg cw, a3 _ (by omega), updL_ap]
            by_cases ce : c = (pls s m n).length - fr * n
            · rw [if_pos (by omega), if_pos ce, hI _ _ hr (by omega), if_neg (by omega), Int64.zero_add]
            · rw [if_neg (by omega), if_neg ce, hI _ c hr hc, if_neg (by omega)]
        · have hx : ¬ (10 * ((i - fr) * n + j) ≤ 10 * r + c ∧ 10 * r + c < 10 * ((i - fr) * n + j) + ((pls s m n).length - fr * n)) := by omega
          rw [a3 _ hx, updL_ap, if_neg (by omega), hI r c hr hc]
          by_cases d : r < (i - fr) * n + j
          · rw [if_pos d, if_pos (by omega)]
          · rw [if_neg d, if_neg (by omega)]
      · show fX6_fillGrid_L66 kd (nI s) sh (nI fr) (nI n) (nI ((pls s m n).length - fr * n)) (nI i) (q + 1) (sB S 0 g) (nI j) = _
        rw [fX6_fillGrid_L66, if_neg (nI_ge hj (by omega)), hC, Option.bind_some, nI_subN hfi (by omega), nI_mul, nI_add, x_add (sB S 0 g) hr9 (by omega), Option.bind_some, sB_sB, gB_sB, if_pos rfl, a1, Option.bind_some, nI_1])
    (fun q g hI => ⟨_, by
      show fX6_fillGrid_L66 kd (nI s) sh (nI fr) (nI n) (nI ((pls s m n).length - fr * n)) (nI i) (q + 1) (sB S 0 g) (nI n) = _
      rw [fX6_fillGrid_L66, if_pos (Int32.le_refl _)], g, rfl, hI⟩) 256 0 g0 (by omega) (by omega) hg
  exact ⟨g, e1, fun r c hr hc => by rw [hin]; exact e2 r c hr hc⟩
theorem x_fillGrid (S : w_S) (kd : Int32) {s m n fr : Nat} (sh : Int32) (hy : Sys s m n fr) (h0 : gI S 0 = nI m) (h1 : gI S 1 = nI n) (hle : fr * n ≤ (pls s m n).length) :
    ∃ g, fX6_fillGrid S kd (nI s) sh (nI fr) = some (sB (sI (sI S 13 (nI ((m - fr) * n))) 14 (nI ((pls s m n).length - fr * n))) 0 g) ∧ (∀ r c, r < 9 → c < 10 → g (10 * r + c) = if r < (m - fr) * n then fin (TX S) kd s sh m n fr ((pls s m n).length - fr * n) r c else 0) := by
  obtain ⟨y1, y2, y3, y4, y5, y6⟩ := id hy
  have hpl := pls_len (s := s) y2.2 y3.2
  have h9 := mn_le9 y2.2 y3.2
  have hh : (m - fr) * n ≤ 9 := Nat.le_trans (Nat.mul_le_mul_right n (by omega)) h9
  obtain ⟨f, f1, f2⟩ := x_clear S hh (w := (pls s m n).length - fr * n) (by omega)
  rw [fX6_fillGrid, x_unknowns S y1 y2 y3 h0 h1 (by omega), Option.bind_some, h0, h1, nI_subN (by omega) (by omega), nI_mul, nI_mul, nI_subN hle (by omega), f1, Option.bind_some]
  generalize hS : sI (sI S 13 (nI ((m - fr) * n))) 14 (nI ((pls s m n).length - fr * n)) = S1
  have h0' : gI S1 0 = nI m := by rw [← hS]; exact h0
  have h1' : gI S1 1 = nI n := by rw [← hS]; exact h1
  have hT : TX S1 = TX S := by rw [← hS]; rfl
  obtain ⟨t, e1, g, rfl, e2⟩ := loop_up (fun q (g : Nat → Int64) i => fX6_fillGrid_L51 kd (nI s) sh (nI fr) (nI n) (nI ((pls s m n).length - fr * n)) q (sB S1 0 g) i)
    (fun i g => fr ≤ i ∧ ∀ r c, r < 9 → c < 10 → g (10 * r + c) = if r < (i - fr) * n then fin (TX S1) kd s sh m n fr ((pls s m n).length - fr * n) r c else 0)
    (fun t => ∃ g, t = sB S1 0 g ∧ ∀ r c, r < 9 → c < 10 → g (10 * r + c) = if r < (m - fr) * n then fin (TX S1) kd s sh m n fr ((pls s m n).length - fr * n) r c else 0) m
    (fun q i g hi hI => by
      obtain ⟨i0, i1⟩ := hI
      obtain ⟨g', a1, a2⟩ := x_grid66 S1 kd sh hy h0' h1' hi i0 g i1
      refine ⟨g', ⟨by omega, a2⟩, ?_⟩
      show fX6_fillGrid_L51 kd (nI s) sh (nI fr) (nI n) (nI ((pls s m n).length - fr * n)) (q + 1) (sB S1 0 g) (nI i) = _
      rw [fX6_fillGrid_L51, show gI (sB S1 0 g) 0 = nI m from h0', if_neg (nI_ge hi (by omega)), a1, Option.bind_some, nI_1])
    (fun q g hI => ⟨_, by
      show fX6_fillGrid_L51 kd (nI s) sh (nI fr) (nI n) (nI ((pls s m n).length - fr * n)) (q + 1) (sB S1 0 g) (nI m) = _
      rw [fX6_fillGrid_L51, show gI (sB S1 0 g) 0 = nI m from h0', if_pos (Int32.le_refl _)], g, rfl, hI.2⟩) 256 fr f (by omega) (by omega) ⟨Nat.le_refl _, fun r c hr hc => by rw [Nat.sub_self, Nat.zero_mul, if_neg (by omega)]; exact f2 _ (by omega)⟩
  refine ⟨g, by rw [e1]; rfl, ?_⟩
  rw [hT] at e2
  exact e2
