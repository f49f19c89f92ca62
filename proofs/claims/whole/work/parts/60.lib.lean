/-! ===== reading what was written ===== -/
theorem gI_sI (S : w_S) (k : Nat) (v : Int32) (j : Nat) : gI (sI S k v) j = if j = k then v else gI S j := rfl
theorem gI_sL (S : w_S) (k : Nat) (v : Int64) (j : Nat) : gI (sL S k v) j = gI S j := rfl
theorem gI_sA (S : w_S) (k : Nat) (v : Nat → Int32) (j : Nat) : gI (sA S k v) j = gI S j := rfl
theorem gI_sB (S : w_S) (k : Nat) (v : Nat → Int64) (j : Nat) : gI (sB S k v) j = gI S j := rfl
theorem gL_sI (S : w_S) (k : Nat) (v : Int32) (j : Nat) : gL (sI S k v) j = gL S j := rfl
theorem gL_sL (S : w_S) (k : Nat) (v : Int64) (j : Nat) : gL (sL S k v) j = if j = k then v else gL S j := rfl
theorem gL_sA (S : w_S) (k : Nat) (v : Nat → Int32) (j : Nat) : gL (sA S k v) j = gL S j := rfl
theorem gL_sB (S : w_S) (k : Nat) (v : Nat → Int64) (j : Nat) : gL (sB S k v) j = gL S j := rfl
theorem gA_sI (S : w_S) (k : Nat) (v : Int32) (j : Nat) : gA (sI S k v) j = gA S j := rfl
theorem gA_sL (S : w_S) (k : Nat) (v : Int64) (j : Nat) : gA (sL S k v) j = gA S j := rfl
theorem gA_sA (S : w_S) (k : Nat) (v : Nat → Int32) (j : Nat) : gA (sA S k v) j = if j = k then v else gA S j := rfl
theorem gA_sB (S : w_S) (k : Nat) (v : Nat → Int64) (j : Nat) : gA (sB S k v) j = gA S j := rfl
theorem gB_sI (S : w_S) (k : Nat) (v : Int32) (j : Nat) : gB (sI S k v) j = gB S j := rfl
theorem gB_sL (S : w_S) (k : Nat) (v : Int64) (j : Nat) : gB (sL S k v) j = gB S j := rfl
theorem gB_sA (S : w_S) (k : Nat) (v : Nat → Int32) (j : Nat) : gB (sA S k v) j = gB S j := rfl
theorem gB_sB (S : w_S) (k : Nat) (v : Nat → Int64) (j : Nat) : gB (sB S k v) j = if j = k then v else gB S j := rfl
theorem upd_ap (f : Nat → Int32) (k : Nat) (x : Int32) (j : Nat) : upd f k x j = if j = k then x else f j := rfl
theorem updL_ap (f : Nat → Int64) (k : Nat) (x : Int64) (j : Nat) : vp_updL f k x j = if j = k then x else f j := rfl
theorem cpy_ap {α : Type} (f g : Nat → α) (sp dp n j : Nat) : va_cpy f g sp dp n j = if dp ≤ j ∧ j < dp + n then f (sp + (j - dp)) else g j := rfl
/-! ===== ints as whole numbers ===== -/
theorem i_lt (a b : Int32) : a < b ↔ a.toInt < b.toInt := Int32.lt_iff_toInt_lt
theorem i_le (a b : Int32) : a ≤ b ↔ a.toInt ≤ b.toInt := Int32.le_iff_toInt_le
theorem i_eq (a b : Int32) : a = b ↔ a.toInt = b.toInt := Int32.toInt_inj.symm
theorem l_lt (a b : Int64) : a < b ↔ a.toInt < b.toInt := Int64.lt_iff_toInt_lt
theorem l_le (a b : Int64) : a ≤ b ↔ a.toInt ≤ b.toInt := Int64.le_iff_toInt_le
theorem l_eq (a b : Int64) : a = b ↔ a.toInt = b.toInt := Int64.toInt_inj.symm
theorem i_l (a : Int32) : a.toInt64.toInt = a.toInt := Int32.toInt_toInt64 a
theorem fb_rng (x : Int32) : -2147483648 ≤ x.toInt ∧ x.toInt < 2147483648 := by
  have h1 := Int32.le_toInt x
  have h2 := Int32.toInt_lt x
  omega
theorem fb_bmod {z : Int} (h1 : -2147483648 ≤ z) (h2 : z < 2147483648) : z.bmod (2 ^ 32) = z := by
  rw [Int.bmod_eq_of_le (by omega) (by omega)]
theorem fb_addI {x y : Int32} (h1 : -2147483648 ≤ x.toInt + y.toInt) (h2 : x.toInt + y.toInt < 2147483648) : (x + y).toInt = x.toInt + y.toInt := by
  rw [Int32.toInt_add, fb_bmod h1 h2]
theorem fb_subI {x y : Int32} (h1 : -2147483648 ≤ x.toInt - y.toInt) (h2 : x.toInt - y.toInt < 2147483648) : (x - y).toInt = x.toInt - y.toInt := by
  rw [Int32.toInt_sub, fb_bmod h1 h2]
theorem fb_mulI {x y : Int32} (h1 : -2147483648 ≤ x.toInt * y.toInt) (h2 : x.toInt * y.toInt < 2147483648) : (x * y).toInt = x.toInt * y.toInt := by
  rw [Int32.toInt_mul, fb_bmod h1 h2]
theorem fb_negI {x : Int32} (h : x.toInt ≠ -2147483648) : (-x).toInt = -x.toInt := by
  have := fb_rng x
  rw [Int32.toInt_neg, fb_bmod (by omega) (by omega)]
theorem fb_ofI {z : Int} (h1 : -2147483648 ≤ z) (h2 : z < 2147483648) : (Int32.ofInt z).toInt = z := by
  rw [Int32.toInt_ofInt, fb_bmod h1 h2]
theorem fb_asI (x : Int32) : Int32.ofInt x.toInt = x := Int32.ofInt_toInt x
theorem fb_rngL (x : Int64) : -9223372036854775808 ≤ x.toInt ∧ x.toInt < 9223372036854775808 := by
  have h1 := Int64.le_toInt x
  have h2 := Int64.toInt_lt x
  omega
theorem fb_bmodL {z : Int} (h1 : -9223372036854775808 ≤ z) (h2 : z < 9223372036854775808) : z.bmod (2 ^ 64) = z := by
  rw [Int.bmod_eq_of_le (by omega) (by omega)]
theorem fb_addL {x y : Int64} (h1 : -9223372036854775808 ≤ x.toInt + y.toInt) (h2 : x.toInt + y.toInt < 9223372036854775808) : (x + y).toInt = x.toInt + y.toInt := by
  rw [Int64.toInt_add, fb_bmodL h1 h2]
theorem fb_subL {x y : Int64} (h1 : -9223372036854775808 ≤ x.toInt - y.toInt) (h2 : x.toInt - y.toInt < 9223372036854775808) : (x - y).toInt = x.toInt - y.toInt := by
  rw [Int64.toInt_sub, fb_bmodL h1 h2]
theorem fb_mulL {x y : Int64} (h1 : -9223372036854775808 ≤ x.toInt * y.toInt) (h2 : x.toInt * y.toInt < 9223372036854775808) : (x * y).toInt = x.toInt * y.toInt := by
  rw [Int64.toInt_mul, fb_bmodL h1 h2]
/-! ===== cuts of what is narrow already ===== -/
theorem fb_byte {x : Int32} (h1 : -128 ≤ x.toInt) (h2 : x.toInt < 128) : x.toInt8.toInt32 = x := by
  apply Int32.toInt_inj.1
  rw [Int8.toInt_toInt32, Int32.toInt_toInt8, Int.bmod_eq_of_le (by omega) (by omega)]
theorem fb_short {x : Int32} (h1 : -32768 ≤ x.toInt) (h2 : x.toInt < 32768) : x.toInt16.toInt32 = x := by
  apply Int32.toInt_inj.1
  rw [Int16.toInt_toInt32, Int32.toInt_toInt16, Int.bmod_eq_of_le (by omega) (by omega)]
theorem ti_0 : (0 : Int32).toInt = 0 := rfl
theorem ti_1 : (1 : Int32).toInt = 1 := rfl
theorem ti_2 : (2 : Int32).toInt = 2 := rfl
theorem ti_3 : (3 : Int32).toInt = 3 := rfl
theorem ti_4 : (4 : Int32).toInt = 4 := rfl
theorem ti_5 : (5 : Int32).toInt = 5 := rfl
theorem ti_6 : (6 : Int32).toInt = 6 := rfl
theorem ti_7 : (7 : Int32).toInt = 7 := rfl
theorem ti_8 : (8 : Int32).toInt = 8 := rfl
theorem ti_9 : (9 : Int32).toInt = 9 := rfl
theorem ti_10 : (10 : Int32).toInt = 10 := rfl
theorem ti_11 : (11 : Int32).toInt = 11 := rfl
theorem ti_13 : (13 : Int32).toInt = 13 := rfl
theorem ti_26 : (26 : Int32).toInt = 26 := rfl
theorem ti_27 : (27 : Int32).toInt = 27 := rfl
theorem ti_30 : (30 : Int32).toInt = 30 := rfl
theorem ti_40 : (40 : Int32).toInt = 40 := rfl
theorem ti_48 : (48 : Int32).toInt = 48 := rfl
theorem ti_50 : (50 : Int32).toInt = 50 := rfl
theorem ti_57 : (57 : Int32).toInt = 57 := rfl
theorem ti_63 : (63 : Int32).toInt = 63 := rfl
theorem ti_72 : (72 : Int32).toInt = 72 := rfl
theorem ti_90 : (90 : Int32).toInt = 90 := rfl
theorem ti_97 : (97 : Int32).toInt = 97 := rfl
theorem ti_100 : (100 : Int32).toInt = 100 := rfl
theorem ti_101 : (101 : Int32).toInt = 101 := rfl
theorem ti_122 : (122 : Int32).toInt = 122 := rfl
theorem ti_160 : (160 : Int32).toInt = 160 := rfl
theorem ti_200 : (200 : Int32).toInt = 200 := rfl
theorem tm_1 : (-1 : Int32).toInt = -1 := rfl
theorem tm_2 : (-2 : Int32).toInt = -2 := rfl
theorem tm_3 : (-3 : Int32).toInt = -3 := rfl
theorem tm_4 : (-4 : Int32).toInt = -4 := rfl
theorem tm_5 : (-5 : Int32).toInt = -5 := rfl
theorem tm_11 : (-11 : Int32).toInt = -11 := rfl
theorem tm_12 : (-12 : Int32).toInt = -12 := rfl
theorem tm_13 : (-13 : Int32).toInt = -13 := rfl
theorem tm_14 : (-14 : Int32).toInt = -14 := rfl
theorem tm_15 : (-15 : Int32).toInt = -15 := rfl
theorem tm_16 : (-16 : Int32).toInt = -16 := rfl
theorem tm_50 : (-50 : Int32).toInt = -50 := rfl
theorem tm_100 : (-100 : Int32).toInt = -100 := rfl
theorem tl_0 : (0 : Int64).toInt = 0 := rfl
theorem tl_1 : (1 : Int64).toInt = 1 := rfl
theorem tl_2 : (2 : Int64).toInt = 2 := rfl
theorem tl_3 : (3 : Int64).toInt = 3 := rfl
theorem tl_4 : (4 : Int64).toInt = 4 := rfl
theorem tl_5 : (5 : Int64).toInt = 5 := rfl
theorem tl_6 : (6 : Int64).toInt = 6 := rfl
theorem tl_8 : (8 : Int64).toInt = 8 := rfl
theorem tl_10 : (10 : Int64).toInt = 10 := rfl
theorem tl_13 : (13 : Int64).toInt = 13 := rfl
theorem tl_30 : (30 : Int64).toInt = 30 := rfl
theorem tl_50 : (50 : Int64).toInt = 50 := rfl
theorem tn_1 : (-1 : Int64).toInt = -1 := rfl
theorem tn_2 : (-2 : Int64).toInt = -2 := rfl
theorem tn_5 : (-5 : Int64).toInt = -5 := rfl
theorem tn_50 : (-50 : Int64).toInt = -50 := rfl
/-! ===== counted loops ===== -/
theorem lit (m : Nat) : (OfNat.ofNat m : Int32) = nI (OfNat.ofNat m) := rfl
theorem litL (m : Nat) : (OfNat.ofNat m : Int64) = lN (OfNat.ofNat m) := rfl
/-- a loop that counts up: L's round at k < N goes on at k + 1, at N it is done -/
theorem loop_up {σ τ : Type} (L : Nat → σ → Int32 → Option τ) (I : Nat → σ → Prop) (Post : τ → Prop) (N : Nat)
    (step : ∀ (n k : Nat) (s : σ), k < N → I k s → ∃ s', I (k + 1) s' ∧ L (n + 1) s (nI k) = L n s' (nI (k + 1)))
    (stop : ∀ (n : Nat) (s : σ), I N s → ∃ t, L (n + 1) s (nI N) = some t ∧ Post t) : ∀ (n k : Nat) (s : σ), k ≤ N → N < n + k → I k s → ∃ t, L n s (nI k) = some t ∧ Post t := by
  intro n
  induction n with
  | zero => intro k s h1 h2; omega
  | succ n ih =>
    intro k s h1 h2 hI
    rcases Nat.lt_or_ge k N with hk | hk
    · obtain ⟨s', h3, h4⟩ := step n k s hk hI
      obtain ⟨t, h5, h6⟩ := ih (k + 1) s' hk (by omega) h3
      exact ⟨t, by rw [h4, h5], h6⟩
    · have : k = N := by omega
      subst this
      exact stop n s hI
theorem nI_inN {k N : Nat} (h : k < N) (hN : N < 2 ^ 31) : ¬ (nI k < 0 ∨ N ≤ (nI k).toNatClampNeg) := nI_in h hN
theorem sA_sA (S : w_S) (k : Nat) (f g : Nat → Int32) : sA (sA S k f) k g = sA S k g := by
  unfold sA
  congr 3
  funext j
  simp only [va_up]
  split <;> rfl
theorem sB_sB (S : w_S) (k : Nat) (f g : Nat → Int64) : sB (sB S k f) k g = sB S k g := by
  unfold sB
  congr 3
  funext j
  simp only [va_up]
  split <;> rfl
theorem sA_self (S : w_S) (k : Nat) : sA S k (gA S k) = S := by
  obtain ⟨a, b, c, d⟩ := S
  unfold sA gA
  congr 3
  funext j
  simp only [va_up]
  split
  · rename_i h; rw [h]
  · rfl
theorem sB_self (S : w_S) (k : Nat) : sB S k (gB S k) = S := by
  obtain ⟨a, b, c, d⟩ := S
  unfold sB gB
  congr 3
  funext j
  simp only [va_up]
  split
  · rename_i h; rw [h]
  · rfl
theorem fill2 (S : w_S) (v : Int32) : ∃ f, fJ7_fill_53178_2 S v = some (sA S 0 f) ∧ ∀ i, i < 9 → f i = v := by
  rw [fJ7_fill_53178_2]
  have h := loop_up (fun n f i => fJ7_fill_53178_2_L5 v 9 n (sA S 0 f) i) (fun k f => ∀ i, i < k → f i = v) (fun t => ∃ f, t = sA S 0 f ∧ ∀ i, i < 9 → f i = v) 9
    (fun n k f hk hI => ⟨upd f k v, fun i hi => by
      by_cases e : i = k
      · rw [upd_ap, if_pos e]
      · rw [upd_ap, if_neg e]; exact hI i (by omega), by
      show fJ7_fill_53178_2_L5 v 9 (n + 1) (sA S 0 f) (nI k) = _
      rw [fJ7_fill_53178_2_L5, if_neg (by rw [lit, nI_leI (by omega) (by omega)]; omega), if_pos (nI_inN hk (by decide)), sA_sA, gA_sA, if_pos rfl, nI_clamp (by omega), nI_1]⟩)
    (fun n f hI => ⟨_, by
      show fJ7_fill_53178_2_L5 v 9 (n + 1) (sA S 0 f) (nI 9) = _
      rw [fJ7_fill_53178_2_L5, if_pos (by rw [lit]; exact Int32.le_refl _)], f, rfl, hI⟩) 256 0 (gA S 0) (by omega) (by omega) (fun i hi => by omega)
  obtain ⟨t, h1, f, rfl, h2⟩ := h
  rw [sA_self] at h1
  refine ⟨f, ?_, h2⟩
  have h1' : fJ7_fill_53178_2_L5 v 9 256 S 0 = some (sA S 0 f) := h1
  rw [h1']
  rfl
