/-! ===== the states of both systems: four families of numbers (ints, longs, rows of ints, rows of longs) ===== -/
abbrev w_S : Type := (Nat → Int32) × (Nat → Int64) × (Nat → Nat → Int32) × (Nat → Nat → Int64)
def gI (S : w_S) (k : Nat) : Int32 := S.1 k
def gL (S : w_S) (k : Nat) : Int64 := S.2.1 k
def gA (S : w_S) (k : Nat) : Nat → Int32 := S.2.2.1 k
def gB (S : w_S) (k : Nat) : Nat → Int64 := S.2.2.2 k
def sI (S : w_S) (k : Nat) (v : Int32) : w_S := (va_up S.1 k v, S.2.1, S.2.2.1, S.2.2.2)
def sL (S : w_S) (k : Nat) (v : Int64) : w_S := (S.1, va_up S.2.1 k v, S.2.2.1, S.2.2.2)
def sA (S : w_S) (k : Nat) (f : Nat → Int32) : w_S := (S.1, S.2.1, va_up S.2.2.1 k f, S.2.2.2)
def sB (S : w_S) (k : Nat) (f : Nat → Int64) : w_S := (S.1, S.2.1, S.2.2.1, va_up S.2.2.2 k f)
/-! what a partial function says, step by step -/
theorem hf_t {α : Type} {c : Prop} {hd : Decidable c} {X Y : Option α} {z : α} (hc : c) (h : (@ite _ c hd X Y) = some z) : X = some z := by rw [if_pos hc] at h; exact h
theorem hf_f {α : Type} {c : Prop} {hd : Decidable c} {X Y : Option α} {z : α} (hc : ¬ c) (h : (@ite _ c hd X Y) = some z) : Y = some z := by rw [if_neg hc] at h; exact h
theorem hf_g {α : Type} {c : Prop} {hd : Decidable c} {X : Option α} {z : α} (h : (@ite _ c hd X none) = some z) : c ∧ X = some z := by
  by_cases hc : c
  · rw [if_pos hc] at h; exact ⟨hc, h⟩
  · rw [if_neg hc] at h; cases h
theorem hf_b {α β : Type} {o : Option α} {k : α → Option β} {z : β} (h : o.bind k = some z) : ∃ a, o = some a ∧ k a = some z := by
  cases o with
  | none => cases h
  | some a => exact ⟨a, rfl, h⟩
theorem hf_0 {α : Type} {P : Prop} {z : α} (h : (none : Option α) = some z) : P := by cases h
