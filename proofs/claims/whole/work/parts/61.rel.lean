/-! ===== what holds between the two states ===== -/
def bnd (lo hi : Int) (x : Int32) : Prop := lo ≤ x.toInt ∧ x.toInt ≤ hi
/-- a bundle of tables and equations, in its bounds -/
def okB (m n q : Int32) (a b c k s : Nat → Int32) : Prop :=
  (m = 1 ∨ m = 2 ∨ m = 3) ∧ (n = 1 ∨ n = 2 ∨ n = 3) ∧ bnd 0 6 q ∧ (∀ i, i < 9 → bnd (-5) 5 (a i)) ∧ (∀ i, i < 9 → bnd (-5) 5 (b i)) ∧ (∀ i, i < 9 → bnd (-50) 50 (c i)) ∧
  (∀ i j : Nat, i < 3 → j < 3 → (m.toInt ≤ (i : Int) ∨ m.toInt ≤ (j : Int)) → a (3 * i + j) = 0) ∧ (∀ i j : Nat, i < 3 → j < 3 → (n.toInt ≤ (i : Int) ∨ n.toInt ≤ (j : Int)) → b (3 * i + j) = 0) ∧ (∀ i j : Nat, i < 3 → j < 3 → (m.toInt ≤ (i : Int) ∨ n.toInt ≤ (j : Int)) → c (3 * i + j) = 0) ∧
  (∀ i, i < 6 → bnd 0 6 (k i)) ∧ (∀ i, i < 6 → bnd (-2) 2 (s i))
/-- the same bundle in both -/
def eqB (m n z q : Int32) (a b c k s : Nat → Int32) (m' n' z' q' : Int32) (t k' s' : Nat → Int32) : Prop :=
  m = m' ∧ n = n' ∧ z = z' ∧ q = q' ∧ (∀ i, i < 9 → a i = t i) ∧ (∀ i, i < 9 → b i = t (9 + i)) ∧ (∀ i, i < 9 → c i = t (18 + i)) ∧ (∀ i, i < 6 → k i = k' i) ∧ (∀ i, i < 6 → s i = s' i)
def R_now (X M : w_S) : Prop := eqB (gI X 0) (gI X 1) (gI X 2) (gI X 3) (gA X 0) (gA X 1) (gA X 2) (gA X 3) (gA X 4) (gI M 0) (gI M 1) (gI M 3) (gI M 2) (gA M 0) (gA M 3) (gA M 4) ∧ okB (gI X 0) (gI X 1) (gI X 3) (gA X 0) (gA X 1) (gA X 2) (gA X 3) (gA X 4)
def R_kept (X M : w_S) : Prop := gI X 12 = gI M 8 ∧ (gI X 12 = 0 ∨ gI X 12 = 1) ∧ (gI X 12 = 1 → eqB (gI X 4) (gI X 5) (gI X 6) (gI X 7) (gA X 5) (gA X 6) (gA X 7) (gA X 8) (gA X 9) (gI M 4) (gI M 5) (gI M 7) (gI M 6) (gA M 1) (gA M 5) (gA M 6) ∧ okB (gI X 4) (gI X 5) (gI X 7) (gA X 5) (gA X 6) (gA X 7) (gA X 8) (gA X 9))
def R_tape (X M : w_S) : Prop := gI X 21 = gI M 9 ∧ bnd 0 200 (gI X 21) ∧ (∀ i, i < 200 → gA X 17 i = gA M 7 i) ∧ (∀ i, i < 200 → (gA X 17 i).toInt8.toInt32 = gA X 17 i)
def R_sheets (X M : w_S) : Prop := ∀ k, k < 4 → gI X (28 + 2 * k) = gA M 12 k ∧ gI X (29 + 2 * k) = gA M 13 k ∧ bnd (-1) 3 (gI X (28 + 2 * k)) ∧ bnd 0 40 (gI X (29 + 2 * k)) ∧ (gI X (28 + 2 * k) = -1 → gI X (29 + 2 * k) = 0) ∧ (∀ j, j < 40 → gB X (2 + k) j = gB M 3 (40 * k + j))
def R_shelves (X M : w_S) : Prop := ∀ k, k < 4 → gI X (36 + 3 * k) = gA M 14 k ∧ bnd 0 2 (gI X (36 + 3 * k)) ∧ (gI X (36 + 3 * k) = 0 → gI X (37 + 3 * k) = gA M 15 k) ∧ (gI X (36 + 3 * k) = 1 → gI X (37 + 3 * k) = gA M 16 k ∧ gI X (38 + 3 * k) = gA M 15 k ∧ bnd 0 3 (gI X (38 + 3 * k)))
def R_acts (X M : w_S) : Prop := gI X 26 = gI M 18 ∧ bnd 0 30 (gI X 26) ∧ (∀ i, i < 30 → gA X 18 i = gA M 17 i)
def Rel (X M : w_S) : Prop := R_now X M ∧ R_kept X M ∧ R_tape X M ∧ R_sheets X M ∧ R_shelves X M ∧ R_acts X M
theorem bnd_dec (lo hi : Int) (x : Int32) : bnd lo hi x ↔ lo ≤ x.toInt ∧ x.toInt ≤ hi := Iff.rfl
theorem E0 : Rel s0X s0M := by
  refine ⟨⟨⟨rfl, rfl, rfl, rfl, fun i _ => rfl, fun i _ => rfl, fun i _ => rfl, fun i _ => rfl, fun i _ => rfl⟩, Or.inr (Or.inl rfl), Or.inr (Or.inl rfl), (show (0 : Int) ≤ (0 : Int32).toInt ∧ (0 : Int32).toInt ≤ 6 by decide), fun i _ => (show (-5 : Int) ≤ (0 : Int32).toInt ∧ (0 : Int32).toInt ≤ 5 by decide), fun i _ => (show (-5 : Int) ≤ (0 : Int32).toInt ∧ (0 : Int32).toInt ≤ 5 by decide), fun i _ => (show (-50 : Int) ≤ (0 : Int32).toInt ∧ (0 : Int32).toInt ≤ 50 by decide), fun i j _ _ _ => rfl, fun i j _ _ _ => rfl, fun i j _ _ _ => rfl, fun i _ => (show (0 : Int) ≤ (0 : Int32).toInt ∧ (0 : Int32).toInt ≤ 6 by decide), fun i _ => (show (-2 : Int) ≤ (0 : Int32).toInt ∧ (0 : Int32).toInt ≤ 2 by decide)⟩, ⟨rfl, Or.inl rfl, fun h => absurd (show (0 : Int32) = 1 from h) (by decide)⟩, ⟨rfl, (show (0 : Int) ≤ (0 : Int32).toInt ∧ (0 : Int32).toInt ≤ 200 by decide), fun i _ => rfl, fun i _ => rfl⟩, ?_, ?_, ⟨rfl, (show (0 : Int) ≤ (0 : Int32).toInt ∧ (0 : Int32).toInt ≤ 30 by decide), fun i _ => rfl⟩⟩
  · intro k hk
    match k, hk with
    | 0, _ => exact ⟨rfl, rfl, (show (-1 : Int) ≤ (-1 : Int32).toInt ∧ (-1 : Int32).toInt ≤ 3 by decide), (show (0 : Int) ≤ (0 : Int32).toInt ∧ (0 : Int32).toInt ≤ 40 by decide), fun _ => rfl, fun j _ => rfl⟩
    | 1, _ => exact ⟨rfl, rfl, (show (-1 : Int) ≤ (-1 : Int32).toInt ∧ (-1 : Int32).toInt ≤ 3 by decide), (show (0 : Int) ≤ (0 : Int32).toInt ∧ (0 : Int32).toInt ≤ 40 by decide), fun _ => rfl, fun j _ => rfl⟩
    | 2, _ => exact ⟨rfl, rfl, (show (-1 : Int) ≤ (-1 : Int32).toInt ∧ (-1 : Int32).toInt ≤ 3 by decide), (show (0 : Int) ≤ (0 : Int32).toInt ∧ (0 : Int32).toInt ≤ 40 by decide), fun _ => rfl, fun j _ => rfl⟩
    | 3, _ => exact ⟨rfl, rfl, (show (-1 : Int) ≤ (-1 : Int32).toInt ∧ (-1 : Int32).toInt ≤ 3 by decide), (show (0 : Int) ≤ (0 : Int32).toInt ∧ (0 : Int32).toInt ≤ 40 by decide), fun _ => rfl, fun j _ => rfl⟩
    | k + 4, h => omega
  · intro k hk
    match k, hk with
    | 0, _ => exact ⟨rfl, (show (0 : Int) ≤ (2 : Int32).toInt ∧ (2 : Int32).toInt ≤ 2 by decide), fun h => absurd (show (2 : Int32) = 0 from h) (by decide), fun h => absurd (show (2 : Int32) = 1 from h) (by decide)⟩
    | 1, _ => exact ⟨rfl, (show (0 : Int) ≤ (2 : Int32).toInt ∧ (2 : Int32).toInt ≤ 2 by decide), fun h => absurd (show (2 : Int32) = 0 from h) (by decide), fun h => absurd (show (2 : Int32) = 1 from h) (by decide)⟩
    | 2, _ => exact ⟨rfl, (show (0 : Int) ≤ (2 : Int32).toInt ∧ (2 : Int32).toInt ≤ 2 by decide), fun h => absurd (show (2 : Int32) = 0 from h) (by decide), fun h => absurd (show (2 : Int32) = 1 from h) (by decide)⟩
    | 3, _ => exact ⟨rfl, (show (0 : Int) ≤ (2 : Int32).toInt ∧ (2 : Int32).toInt ≤ 2 by decide), fun h => absurd (show (2 : Int32) = 0 from h) (by decide), fun h => absurd (show (2 : Int32) = 1 from h) (by decide)⟩
    | k + 4, h => omega
