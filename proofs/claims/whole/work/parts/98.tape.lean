/-! ===== a text, byte by byte ===== -/
theorem sI_sI (S : w_S) (k : Nat) (v w : Int32) : sI (sI S k v) k w = sI S k w := by
  unfold sI
  congr 1
  funext j
  simp only [va_up]
  split <;> rfl
theorem sI_self (S : w_S) (k : Nat) : sI S k (gI S k) = S := by
  obtain ⟨a, b, c, d⟩ := S
  unfold sI gI
  congr 1
  funext j
  simp only [va_up]
  split
  · rename_i h; rw [h]
  · rfl
def isL (b : Nat → Int32) (i : Nat) : Bool := decide (97 ≤ (b i).toInt ∧ (b i).toInt ≤ 122)
def isD (b : Nat → Int32) (i : Nat) : Bool := decide (48 ≤ (b i).toInt ∧ (b i).toInt ≤ 57)
/-- the first byte from P on that is no blank -/
def sk (b : Nat → Int32) (N P : Nat) : Nat := fb (fun i => decide (¬ b i = 32)) (N - P) P
/-- where a stretch from f on ends -/
def ed (q : Nat → Bool) (N f : Nat) : Nat := fb (fun i => !q i) (N - f) f
def te (b : Nat → Int32) (N f : Nat) : Nat := if f = N then f else if isL b f then ed (isL b) N f else if isD b f then ed (isD b) N f else f + 1
theorem sk_rg (b : Nat → Int32) {N P : Nat} (h : P ≤ N) : P ≤ sk b N P ∧ sk b N P ≤ N := by
  have := fb_rg (fun i => decide (¬ b i = 32)) (N - P) P
  unfold sk; omega
theorem fb_at (P : Nat → Bool) : ∀ n p, fb P n p < p + n → P (fb P n p) = true
  | 0, p => fun h => by rw [fb] at h; omega
  | n + 1, p => fun h => by
    rw [fb] at h ⊢
    by_cases c : P p = true
    · rw [if_pos c]; exact c
    · rw [if_neg c] at h ⊢; exact fb_at P n (p + 1) (by omega)
theorem sk_nb (b : Nat → Int32) {N P : Nat} (h : P ≤ N) (h2 : sk b N P < N) : ¬ b (sk b N P) = 32 := by
  have := fb_at (fun i => decide (¬ b i = 32)) (N - P) P (by unfold sk at h2; omega)
  unfold sk
  simpa using this
theorem sk_idem (b : Nat → Int32) {N P : Nat} (h : P ≤ N) : sk b N (sk b N P) = sk b N P := by
  have h1 := sk_rg b h
  by_cases c : sk b N P < N
  · have h2 := sk_nb b h c
    generalize sk b N P = f at *
    unfold sk
    obtain ⟨g, hg⟩ : ∃ g, N - f = g + 1 := ⟨N - f - 1, by omega⟩
    rw [hg, fb, if_pos (by simp [h2])]
  · have : sk b N P = N := by omega
    rw [this]; unfold sk; rw [Nat.sub_self, fb]
theorem ed_rg (q : Nat → Bool) {N f : Nat} (h : f ≤ N) : f ≤ ed q N f ∧ ed q N f ≤ N := by
  have := fb_rg (fun i => !q i) (N - f) f
  unfold ed; omega
theorem ed_1 (q : Nat → Bool) {N f : Nat} (h : f < N) (hq : q f = true) : ed q N f = ed q N (f + 1) := by
  unfold ed
  obtain ⟨g, hg⟩ : ∃ g, N - f = g + 1 := ⟨N - f - 1, by omega⟩
  rw [hg, fb, hq, if_neg (by decide), show N - (f + 1) = g by omega]
theorem ed_0 (q : Nat → Bool) {N f : Nat} (h : f < N) (hq : q f = false) : ed q N f = f := by
  unfold ed
  obtain ⟨g, hg⟩ : ∃ g, N - f = g + 1 := ⟨N - f - 1, by omega⟩
  rw [hg, fb, hq, if_pos (by decide)]
theorem te_rg (b : Nat → Int32) {N f : Nat} (h : f ≤ N) : f ≤ te b N f ∧ te b N f ≤ N := by
  unfold te
  split
  · omega
  · split
    · exact ed_rg _ h
    · split
      · exact ed_rg _ h
      · omega
/-! ===== bytes as they are and without a sign ===== -/
theorem and_lo : ∀ k, k < 128 → (nI k &&& 255).toInt = k := by decide +kernel
theorem and_hi : ∀ k, k < 128 → ((-(nI (k + 1))) &&& 255).toInt = 255 - (k : Int) := by decide +kernel
theorem byte_u {x : Int32} (h : x.toInt8.toInt32 = x) : (0 ≤ x.toInt ∧ (x &&& 255).toInt = x.toInt ∧ x.toInt < 128) ∨ (x.toInt < 0 ∧ 128 ≤ (x &&& 255).toInt ∧ (x &&& 255).toInt < 256) := by
  have h1 := Int8.le_toInt x.toInt8
  have h2 := Int8.toInt_lt x.toInt8
  have h3 : x.toInt = x.toInt8.toInt := by rw [← Int8.toInt_toInt32, h]
  by_cases c : 0 ≤ x.toInt
  · left
    obtain ⟨k, k1, k2, k3⟩ := nI_nn c
    have := and_lo k (by omega)
    exact ⟨c, by rw [k2, this, nI_toInt k1], by omega⟩
  · right
    obtain ⟨k, hk⟩ : ∃ k : Nat, x.toInt = -((k + 1 : Nat) : Int) := ⟨x.toInt.natAbs - 1, by omega⟩
    have e : x = -(nI (k + 1)) := by
      rw [i_eq, fb_negI (by rw [nI_toInt (by omega)]; omega), nI_toInt (by omega), hk]
    have := and_hi k (by omega)
    rw [← e] at this
    exact ⟨by omega, by omega, by omega⟩
theorem byte_eq {x : Int32} (h : x.toInt8.toInt32 = x) {c : Int32} (hc : 0 ≤ c.toInt ∧ c.toInt < 128) : (x &&& 255 = c) ↔ x = c := by
  rw [i_eq, i_eq]
  rcases byte_u h with ⟨a1, a2, a3⟩ | ⟨a1, a2, a3⟩
  · rw [a2]
  · omega
/-! ===== what the class sees ===== -/
/-- tape of N bytes b, place at P -/
def TpX (S : w_S) (b : Nat → Int32) (N P : Nat) : Prop := N ≤ 200 ∧ gI S 21 = nI N ∧ gI S 22 = nI P ∧ (∀ i, i < 200 → gA S 17 i = b i) ∧ (∀ i, i < 200 → (b i).toInt8.toInt32 = b i) ∧ P ≤ N
theorem TpX_P {S : w_S} {b : Nat → Int32} {N P Q : Nat} (h : TpX S b N P) (hQ : Q ≤ N) : TpX (sI S 22 (nI Q)) b N Q := by
  obtain ⟨h1, h2, h3, h4, h5, h6⟩ := h
  exact ⟨h1, h2, by rw [gI_sI, if_pos rfl], h4, h5, hQ⟩
theorem x_here {S : w_S} {b : Nat → Int32} {N P : Nat} (h : TpX S b N P) {a : Nat} (ha : a ≤ 200) : fX5_here_25 S (nI a) = some (if P + a < N then b (P + a) &&& 255 else -1) := by
  obtain ⟨h1, h2, h3, h4, h5, h6⟩ := h
  rw [fX5_here_25, h2, h3, nI_add, if_neg (nI_pos (by omega))]
  by_cases c : P + a < N
  · rw [if_neg (nI_ge c (by omega)), show (200 : Int32) = nI 200 from rfl, if_neg (nI_ge (by omega) (by omega)), if_pos (nI_inN (show P + a < 200 by omega) (by decide)), nI_clamp (by omega), h4 _ (by omega), if_pos c]
  · rw [if_pos (nI_le (by omega) (by omega)), if_neg c]
theorem x_skip2 {S : w_S} {b : Nat → Int32} {N : Nat} : ∀ g q v P, TpX S b N P → P + g = N → v + g ≤ 200 → g < q → fX5_skipBlanks_25_L2 q S (nI v) = some (sI S 22 (nI (fb (fun i => decide (¬ b i = 32)) g P))) := by
  intro g
  induction g generalizing S with
  | zero =>
    intro q v P h e1 e2 e3
    obtain ⟨q, rfl⟩ : ∃ q', q = q' + 1 := ⟨q - 1, by omega⟩
    have e : sI S 22 (nI (fb (fun i => decide (¬ b i = 32)) 0 P)) = S := by rw [fb, ← h.2.2.1, sI_self]
    rw [fX5_skipBlanks_25_L2, e]
    by_cases c : 200 ≤ nI v
    · rw [if_pos c]
    · have hh := x_here h (a := 0) (by omega)
      have hh' : fX5_here_25 S 0 = _ := hh
      rw [if_neg c, hh', Option.bind_some, if_neg (show ¬ P + 0 < N by omega), if_neg (by decide)]
  | succ g ih =>
    intro q v P h e1 e2 e3
    obtain ⟨q, rfl⟩ : ∃ q', q = q' + 1 := ⟨q - 1, by omega⟩
    obtain ⟨h1, h2, h3, h4, h5, h6⟩ := id h
    have hh := x_here h (a := 0) (by omega)
    have hh' : fX5_here_25 S 0 = _ := hh
    rw [fX5_skipBlanks_25_L2, show (200 : Int32) = nI 200 from rfl, if_neg (nI_ge (by omega) (by omega)), hh', Option.bind_some, if_pos (show P + 0 < N by omega), Nat.add_zero, fb]
    by_cases c : b P = 32
    · rw [if_pos ((byte_eq (h5 P (by omega)) (c := 32) ⟨by decide, by decide⟩).2 c), if_neg (by simp [c]), h3, nI_1, nI_1]
      have := ih q (v + 1) (P + 1) (TpX_P h (by omega)) (by omega) (by omega) (by omega)
      rw [this, sI_sI]
    · rw [if_neg (fun e => c ((byte_eq (h5 P (by omega)) (c := 32) ⟨by decide, by decide⟩).1 e)), if_pos (by simp [c]), ← h3, sI_self]
theorem x_skip {S : w_S} {b : Nat → Int32} {N P : Nat} (h : TpX S b N P) : fX5_skipBlanks_25 S = some (sI S 22 (nI (sk b N P))) := by
  have := x_skip2 (N - P) 256 0 P h (by have := h.2.2.2.2.2; omega) (by have := h.1; omega) (by have := h.1; omega)
  have t' : fX5_skipBlanks_25_L2 256 S 0 = _ := this
  rw [fX5_skipBlanks_25, t']; rfl
theorem x_str2 {S : w_S} {b : Nat → Int32} {N P : Nat} (h : TpX S b N P) {lo hi : Nat} (hlo : lo ≤ hi) (hhi : hi < 128) (p : Nat → Bool) (hp : ∀ i, i < 200 → p i = decide ((lo : Int) ≤ (b i).toInt ∧ (b i).toInt ≤ hi)) : ∀ g q v, P + v + g = N → g < q → fX5_stretch_25_L2 S (nI lo) (nI hi) q (nI v) = some (nI (fb (fun i => !p i) g (P + v) - P)) := by
  obtain ⟨h1, h2, h3, h4, h5, h6⟩ := id h
  intro g
  induction g with
  | zero =>
    intro q v e1 e2
    obtain ⟨q, rfl⟩ : ∃ q', q = q' + 1 := ⟨q - 1, by omega⟩
    rw [fX5_stretch_25_L2, fb, show P + v - P = v by omega]
    by_cases c : 200 ≤ nI v
    · rw [if_pos c]
    · rw [if_neg c, x_here h (a := v) (by omega), Option.bind_some, if_neg (show ¬ P + v < N by omega), if_pos (show (-1 : Int32) < nI lo by rw [i_lt, tm_1, nI_toInt (by omega)]; omega)]
  | succ g ih =>
    intro q v e1 e2
    obtain ⟨q, rfl⟩ : ∃ q', q = q' + 1 := ⟨q - 1, by omega⟩
    have hv := hp (P + v) (by omega)
    have ht := h5 (P + v) (by omega)
    rw [fX5_stretch_25_L2, show (200 : Int32) = nI 200 from rfl, if_neg (nI_ge (by omega) (by omega)), x_here h (a := v) (by omega), Option.bind_some, if_pos (show P + v < N by omega), Option.bind_some, fb]
    simp only [i_lt, nI_toInt (show lo < 2 ^ 31 by omega), nI_toInt (show hi < 2 ^ 31 by omega)]
    by_cases c : (lo : Int) ≤ (b (P + v)).toInt ∧ (b (P + v)).toInt ≤ hi
    · have pv : p (P + v) = true := by rw [hv]; simp [c]
      rw [pv, if_neg (show ¬ (!true) = true by decide)]
      rcases byte_u ht with ⟨a1, a2, a3⟩ | ⟨a1, a2, a3⟩
      · rw [if_neg (by omega), if_neg (by omega), nI_1]
        exact ih q (v + 1) (by omega) (by omega)
      · omega
    · have pv : p (P + v) = false := by rw [hv]; simpa using c
      rw [pv, if_pos (show (!false) = true by decide), show P + v - P = v by omega]
      rcases byte_u ht with ⟨a1, a2, a3⟩ | ⟨a1, a2, a3⟩
      · by_cases d : (b (P + v) &&& 255).toInt < lo
        · rw [if_pos d]
        · rw [if_neg d, if_pos (by omega)]
      · rw [if_neg (by omega), if_pos (by omega)]
theorem x_strL {S : w_S} {b : Nat → Int32} {N P : Nat} (h : TpX S b N P) : fX5_stretch_25 S 97 122 = some (nI (ed (isL b) N P - P)) := by
  have := x_str2 h (lo := 97) (hi := 122) (by omega) (by omega) (isL b) (fun i _ => rfl) (N - P) 256 0 (by have := h.2.2.2.2.2; omega) (by have := h.1; omega)
  have t' : fX5_stretch_25_L2 S 97 122 256 0 = _ := this
  rw [fX5_stretch_25, t', Nat.add_zero]; rfl
theorem x_strD {S : w_S} {b : Nat → Int32} {N P : Nat} (h : TpX S b N P) : fX5_stretch_25 S 48 57 = some (nI (ed (isD b) N P - P)) := by
  have := x_str2 h (lo := 48) (hi := 57) (by omega) (by omega) (isD b) (fun i _ => rfl) (N - P) 256 0 (by have := h.2.2.2.2.2; omega) (by have := h.1; omega)
  have t' : fX5_stretch_25_L2 S 48 57 256 0 = _ := this
  rw [fX5_stretch_25, t', Nat.add_zero]; rfl
/-! ===== what the model sees ===== -/
def TpM (S : w_S) (b : Nat → Int32) (N : Nat) : Prop := N ≤ 200 ∧ gI S 9 = nI N ∧ (∀ i, i < 200 → gA S 7 i = b i)
theorem m_isL {x : Int32} : fX7_isLetter x = some (if decide (97 ≤ x.toInt ∧ x.toInt ≤ 122) = true then 1 else 0) := by
  rw [fX7_isLetter]
  simp only [i_lt, ti_97, ti_122, decide_eq_true_eq]
  by_cases c : x.toInt < 97
  · rw [if_pos c, if_neg (by omega)]
  · rw [if_neg c]
    by_cases d : 122 < x.toInt
    · rw [if_pos d, if_neg (by omega)]
    · rw [if_neg d, if_pos (by omega)]
theorem m_isD {x : Int32} : fX7_isDigit x = some (if decide (48 ≤ x.toInt ∧ x.toInt ≤ 57) = true then 1 else 0) := by
  rw [fX7_isDigit]
  simp only [i_lt, ti_48, ti_57, decide_eq_true_eq]
  by_cases c : x.toInt < 48
  · rw [if_pos c, if_neg (by omega)]
  · rw [if_neg c]
    by_cases d : 57 < x.toInt
    · rw [if_pos d, if_neg (by omega)]
    · rw [if_neg d, if_pos (by omega)]
theorem m_next8 {S : w_S} {b : Nat → Int32} {N : Nat} (h : TpM S b N) : ∀ g q P, P + g = N → g < q → fX7_next_L8 q (sI S 10 (nI P)) = some (sI S 10 (nI (fb (fun i => decide (¬ b i = 32)) g P))) := by
  obtain ⟨h1, h2, h3⟩ := h
  intro g
  induction g with
  | zero =>
    intro q P e1 e2
    obtain ⟨q, rfl⟩ : ∃ q', q = q' + 1 := ⟨q - 1, by omega⟩
    rw [fX7_next_L8, show gI (sI S 10 (nI P)) 9 = nI N from h2, gI_sI, if_pos rfl, if_pos (nI_le (by omega) (by omega)), fb]
  | succ g ih =>
    intro q P e1 e2
    obtain ⟨q, rfl⟩ : ∃ q', q = q' + 1 := ⟨q - 1, by omega⟩
    rw [fX7_next_L8, show gI (sI S 10 (nI P)) 9 = nI N from h2, gI_sI, if_pos rfl, if_neg (nI_ge (by omega) (by omega)), if_pos (nI_inN (show P < 200 by omega) (by decide)), nI_clamp (by omega), show gA (sI S 10 (nI P)) 7 P = b P from h3 P (by omega), fb, sI_sI, nI_1]
    by_cases c : b P = 32
    · rw [if_pos c, if_neg (by simp [c])]
      exact ih q (P + 1) (by omega) (by omega)
    · rw [if_neg c, if_pos (by simp [c])]
theorem bool01 (x : Bool) : ((if x = true then (1 : Int32) else 0) = 0) ↔ x = false := by cases x <;> decide
theorem m_next102 {S : w_S} {b : Nat → Int32} {N : Nat} (h : TpM S b N) (l d : Bool) : ∀ g q t, t + g = N → g < q → fX7_next_L102 (if l = true then 1 else 0) (if d = true then 1 else 0) q (sI S 11 (nI t)) = some (sI S 11 (nI (fb (fun i => !((l && isL b i) || (d && isD b i))) g t))) := by
  obtain ⟨h1, h2, h3⟩ := h
  intro g
  induction g with
  | zero =>
    intro q t e1 e2
    obtain ⟨q, rfl⟩ : ∃ q', q = q' + 1 := ⟨q - 1, by omega⟩
    rw [fX7_next_L102, show gI (sI S 11 (nI t)) 9 = nI N from h2, gI_sI, if_pos rfl, if_pos (nI_le (by omega) (by omega)), fb]
  | succ g ih =>
    intro q t e1 e2
    obtain ⟨q, rfl⟩ : ∃ q', q = q' + 1 := ⟨q - 1, by omega⟩
    have hih := ih q (t + 1) (by omega) (by omega)
    rw [fX7_next_L102, show gI (sI S 11 (nI t)) 9 = nI N from h2, gI_sI, if_pos rfl, if_neg (nI_ge (by omega) (by omega)), if_pos (nI_inN (show t < 200 by omega) (by decide)), if_pos (nI_inN (show t < 200 by omega) (by decide)), nI_clamp (by omega), show gA (sI S 11 (nI t)) 7 t = b t from h3 t (by omega), m_isL, m_isD, Option.bind_some, Option.bind_some, fb, sI_sI, nI_1, hih]
    have eL : decide (97 ≤ (b t).toInt ∧ (b t).toInt ≤ 122) = isL b t := rfl
    have eD : decide (48 ≤ (b t).toInt ∧ (b t).toInt ≤ 57) = isD b t := rfl
    rw [eL, eD]
    cases l <;> cases d <;> cases isL b t <;> cases isD b t <;> rfl
theorem m_next {S : w_S} {b : Nat → Int32} {N P : Nat} (h : TpM S b N) (h11 : gI S 11 = nI P) (hP : P ≤ N) : fX7_next S = some (sI (sI S 10 (nI (sk b N P))) 11 (nI (te b N (sk b N P)))) := by
  obtain ⟨h1, h2, h3⟩ := id h
  have hs := sk_rg b hP
  have e8 := m_next8 h (N - P) 256 P (by omega) (by omega)
  have e8' : fX7_next_L8 256 (sI S 10 (nI P)) = some (sI S 10 (nI (sk b N P))) := e8
  rw [fX7_next, h11, e8', Option.bind_some]
  have hT : TpM (sI S 10 (nI (sk b N P))) b N := ⟨h1, h2, h3⟩
  generalize sk b N P = f at *
  rw [show gI (sI S 10 (nI f)) 9 = nI N from h2, show gI (sI S 10 (nI f)) 10 = nI f by rw [gI_sI, if_pos rfl]]
  unfold te
  by_cases c : f = N
  · rw [if_pos (by rw [c]), if_pos c]
  · have hf200 : ¬ (nI f < 0 ∨ 200 ≤ f) := fun e => by
      rcases e with e | e
      · exact nI_pos (by omega) e
      · omega
    have c102 := fun l d => m_next102 hT l d (N - (f + 1)) 256 (f + 1) (by omega) (by omega)
    rw [if_neg (by rw [nI_eq (by omega) (by omega)]; exact c), if_pos (nI_inN (show f < 200 by omega) (by decide)), nI_clamp (by omega), show gA (sI S 10 (nI f)) 7 f = b f from h3 f (by omega), m_isL, Option.bind_some, if_pos hf200, m_isD, Option.bind_some, sI_sI, nI_1, c102, if_neg c]
    have eL : decide (97 ≤ (b f).toInt ∧ (b f).toInt ≤ 122) = isL b f := rfl
    have eD : decide (48 ≤ (b f).toInt ∧ (b f).toInt ≤ 57) = isD b f := rfl
    rw [eL, eD]
    have ext : ∀ (P Q : Nat → Bool), (∀ i, P i = Q i) → ∀ n p, fb P n p = fb Q n p := fun P Q hPQ => by rw [show P = Q from funext hPQ]; exact fun _ _ => rfl
    show some (sI (sI S 10 (nI f)) 11 (nI (fb _ (N - (f + 1)) (f + 1)))) = _
    by_cases cl : isL b f = true
    · have cd : isD b f = false := by
        unfold isL at cl; unfold isD
        rw [decide_eq_true_eq] at cl
        rw [decide_eq_false_iff_not]; omega
      rw [if_pos cl, ed_1 (isL b) (by omega) cl]
      unfold ed
      rw [cl, cd, ext _ (fun i => !isL b i) (fun i => by simp)]
    · have cl' : isL b f = false := by simpa using cl
      rw [if_neg cl]
      by_cases cd : isD b f = true
      · rw [if_pos cd, ed_1 (isD b) (by omega) cd]
        unfold ed
        rw [cl', cd, ext _ (fun i => !isD b i) (fun i => by simp)]
      · have cd' : isD b f = false := by simpa using cd
        rw [if_neg cd, cl', cd']
        have : fb (fun i => !((false && isL b i) || (false && isD b i))) (N - (f + 1)) (f + 1) = f + 1 := by
          by_cases z : N - (f + 1) = 0
          · rw [z, fb]
          · obtain ⟨g, hg⟩ : ∃ g, N - (f + 1) = g + 1 := ⟨N - (f + 1) - 1, by omega⟩
            rw [hg, fb, if_pos (by simp)]
        rw [this]
/-- the token at hand is just the sign c -/
theorem m_is {S : w_S} {b : Nat → Int32} {N f : Nat} (h : TpM S b N) (hf : f ≤ N) (h10 : gI S 10 = nI f) (h11 : gI S 11 = nI (te b N f)) (c : Int32) : fX7_is S c = some (if f < N ∧ te b N f = f + 1 ∧ b f = c then 1 else 0) := by
  obtain ⟨h1, h2, h3⟩ := h
  have ht := te_rg b hf
  rw [fX7_is, h10, h11, nI_subN ht.1 (by omega), show (1 : Int32) = nI 1 from rfl]
  by_cases c1 : te b N f = f + 1
  · have hfN : f < N := by omega
    rw [c1, show f + 1 - f = 1 by omega, if_pos rfl, if_pos (nI_inN (show f < 200 by omega) (by decide)), nI_clamp (by omega), h3 f (by omega)]
    by_cases c2 : b f = c
    · rw [if_pos c2, if_pos ⟨hfN, rfl, c2⟩]
    · rw [if_neg c2, if_neg (fun e => c2 e.2.2)]
  · rw [if_neg (by rw [nI_eq (by omega) (by omega)]; omega), if_neg (fun e => c1 e.2.1)]
