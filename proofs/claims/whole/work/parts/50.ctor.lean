theorem ctor_blind {av : List Value} {D : va_G} {B : Nat → ClassId} {v : va_W} {sz : Nat} : FrameBlind (va_Pc av (fun U => U.heap.size = sz ∧ va_P D vwCl v U.heap ∧ va_K D vwCl (tyB B) U ∧ va_D (fun _ => True) v ∧ True)) := fun a U g mk q => by
  obtain ⟨q0, q1, qP, qK, qD, qN⟩ := q
  exact ⟨q0, q1, qP, va_K.moved (u := U) (U := U.calling g mk a) (Vm.Alike.refl U.vm) qK, qD, trivial⟩
def rf4v (a b c d : Nat) : Nat → Option Nat := fun j => if j = 0 then some a else if j = 1 then some b else if j = 2 then some c else if j = 3 then some d else none
theorem up4 (a b c d : Nat) : va_up (va_up (va_up (va_up (fun _ => none) (0 : Int32).toNatClampNeg (some a)) (1 : Int32).toNatClampNeg (some b)) (2 : Int32).toNatClampNeg (some c)) (3 : Int32).toNatClampNeg (some d) = rf4v a b c d := by
  funext j
  rw [show (0 : Int32).toNatClampNeg = 0 by decide, show (1 : Int32).toNatClampNeg = 1 by decide, show (2 : Int32).toNatClampNeg = 2 by decide, show (3 : Int32).toNatClampNeg = 3 by decide]
  unfold va_up rf4v
  by_cases h3 : j = 3
  · subst h3; rfl
  · by_cases h2 : j = 2
    · subst h2; rfl
    · by_cases h1 : j = 1
      · subst h1; rfl
      · by_cases h0 : j = 0
        · subst h0; rfl
        · simp [h0, h1, h2, h3]
def nwC (U : State) : Prop := va_Nw (.methodLinkNest RX6 9 yX4_init "TwoSidedTables") U ∧ va_Nw (.methodLinkNest RX6 24 yX1_init "TwoSidedTables") U ∧ va_Nw (.methodLinkNest RX6 34 yX5_init "TwoSidedTables") U ∧ va_Nw (.methodLinkNest RX6 41 yX0_init "TwoSidedTables") U ∧ va_Nw (.methodLinkNest RX6 58 yX2_init "TwoSidedTables") U ∧ va_Nw (.methodLinkNest RX6 59 yX3_init "TwoSidedTables") U ∧ va_AO "TwoSidedTables$Sheet" U ∧ va_AO "TwoSidedTables$Shelf" U
abbrev rm_X4_init : Room := { frames := 1, cells := 5, slots := 39, locals := 40 }
set_option maxHeartbeats 4000000 in
set_option maxRecDepth 100000 in
theorem kX4_init (l : Launch) (D : va_G) (B : Nat → ClassId) (h0 sz : Nat) : MetC l yX4_init (wsO yX4_init cX4_init 1 none) rm_X4_init h0 D B (fun _ => True) [(h0, .inr (4, [.int 0, .int 0, .int 0, .int 0, .null, .null, .null, .null, .null]))] (fun _ => True) (fun u : Nat → Nat => [(h0, .inr (4, [.int 2, .int 2, .int 1, .int 0, .ref (u 1), .ref (u 2), .ref (u 3), .ref (u 4), .ref (u 5)])), ((u 1), .inl (B 1, 9, .inl (fun _ => 0))), ((u 2), .inl (B 1, 9, .inl (fun _ => 0))), ((u 3), .inl (B 1, 9, .inl (fun _ => 0))), ((u 4), .inl (B 1, 6, .inl (fun _ => 0))), ((u 5), .inl (B 1, 6, .inl (fun _ => 0)))]) sz 5 39 := by
  refine Met.ofW (cc := cX4_init) (maxL := 1) (ret := none) (by decide) rfl ?_
  intro p e s m args below meth c s₁ Bd hml hv
  obtain ⟨rfl, hsz, hP, hK, hD0, hN0⟩ := hv
  have hx := Bd.exec
  have hb := Bd.bytes
  have hr := Bd.returns
  have hts : ∀ w ∈ wsU, w.before _ s = true := fun w h => atoms_spec (ws := wsO yX4_init cX4_init 1 none) Bd.pre w (List.mem_cons_of_mem _ h)
  have hown := findClass_of_methodNamed Bd.named
  have hlocks := Bd.notSynchronized
  have hin0 : meth.name = "<init>" := (name_of_methodNamed Bd.named Bd.method).1
  subst hsz
  have hD := hD0.self (sz := s.heap.size)
  generalize hAe : va_A [(h0, .inr (4, [.int 0, .int 0, .int 0, .int 0, .null, .null, .null, .null, .null]))] s.heap.size = A at hD ⊢
  have hA : ∀ q : Nat, s.heap.size ≤ q → A q := fun q h => by rw [← hAe]; exact Or.inr h
  have hS : va_S A s.heap s.heap [] := va_S.rf
  have hP : va_P D vwCl [(h0, .inr (4, [.int 0, .int 0, .int 0, .int 0, .null, .null, .null, .null, .null]))] s.heap := hP
  have hl := lv_entry ([.ref h0]) (n := 1) (Nat.le_of_ble_eq_true rfl)
  rw [lg_entry_eq]
  generalize (lg_sl ([.ref h0]) ++ List.replicate (1 - (lg_sl ([.ref h0])).length) Slot.unset).toArray = ls at hl ⊢
  have hl : lv_has ls 1 [(0, .ref h0)] := hl
  refine lv_aload_n (pc := 0) hx hb dX4_init_0 rfl (lv_at hl 0 rfl) ?_
  refine W.objInit hx hb hown (hts (.methodLink RX4 3 objectInit) mU_42) (hts (.instanceMethod objectInit) mU_11) (hts _ mU_12) rfl (by rw [hml]; exact hl.1) rfl dX4_init_1 (Nat.le_of_ble_eq_true rfl) (Nat.le_of_ble_eq_true rfl) ?_
  refine W.eq (g2 := F0 m 4 ls []) rfl ?_
  refine lv_aload_n (pc := 4) hx hb dX4_init_4 rfl (lv_at hl 0 rfl) ?_
  refine lv_iconst (pc := 5) hx hb (v := 2) dX4_init_5 (by decide) ?_
  refine va_put (D := D) (ci := 4) (v := .int 2) (ty := .int) (C := RX4) (T := TX4) (N := 9) (pc := 6) hx hb hts inU4 tyX4 tyX4_ok nmX4 hown hK hP hD hS 0 rfl rfl 0 (by decide) (hts (.fieldLink RX4 9 "TwoSidedTables$State" "m" "I") mU_43) (fun _ h9 => h9) rfl (by decide +kernel) rfl rfl (Nat.le_of_ble_eq_true rfl) dX4_init_6 (fun H locs hP hD hS => ?_)
  have hP : va_P D vwCl [(h0, .inr (4, [.int 2, .int 0, .int 0, .int 0, .null, .null, .null, .null, .null]))] H := hP
  have hD : va_D A [(h0, .inr (4, [.int 2, .int 0, .int 0, .int 0, .null, .null, .null, .null, .null]))] := hD
  refine lv_aload_n (pc := 9) hx hb dX4_init_9 rfl (lv_at hl 0 rfl) ?_
  refine lv_iconst (pc := 10) hx hb (v := 2) dX4_init_10 (by decide) ?_
  refine va_put (D := D) (ci := 4) (v := .int 2) (ty := .int) (C := RX4) (T := TX4) (N := 9) (pc := 11) hx hb hts inU4 tyX4 tyX4_ok nmX4 hown hK hP hD hS 0 rfl rfl 1 (by decide) (hts (.fieldLink RX4 15 "TwoSidedTables$State" "n" "I") mU_44) (fun _ h9 => h9) rfl (by decide +kernel) rfl rfl (Nat.le_of_ble_eq_true rfl) dX4_init_11 (fun H locs hP hD hS => ?_)
  have hP : va_P D vwCl [(h0, .inr (4, [.int 2, .int 2, .int 0, .int 0, .null, .null, .null, .null, .null]))] H := hP
  have hD : va_D A [(h0, .inr (4, [.int 2, .int 2, .int 0, .int 0, .null, .null, .null, .null, .null]))] := hD
  refine lv_aload_n (pc := 14) hx hb dX4_init_14 rfl (lv_at hl 0 rfl) ?_
  refine lv_iconst (pc := 15) hx hb (v := 1) dX4_init_15 (by decide) ?_
  refine va_put (D := D) (ci := 4) (v := .int 1) (ty := .int) (C := RX4) (T := TX4) (N := 9) (pc := 16) hx hb hts inU4 tyX4 tyX4_ok nmX4 hown hK hP hD hS 0 rfl rfl 2 (by decide) (hts (.fieldLink RX4 18 "TwoSidedTables$State" "z" "I") mU_45) (fun _ h9 => h9) rfl (by decide +kernel) rfl rfl (Nat.le_of_ble_eq_true rfl) dX4_init_16 (fun H locs hP hD hS => ?_)
  have hP : va_P D vwCl [(h0, .inr (4, [.int 2, .int 2, .int 1, .int 0, .null, .null, .null, .null, .null]))] H := hP
  have hD : va_D A [(h0, .inr (4, [.int 2, .int 2, .int 1, .int 0, .null, .null, .null, .null, .null]))] := hD
  refine lv_aload_n (pc := 19) hx hb dX4_init_19 rfl (lv_at hl 0 rfl) ?_
  refine lv_bipush (pc := 20) hx hb (v := 9) dX4_init_20 (by decide) ?_
  refine va_newB (atype := .int) (pc := 22) hx hb (hts (.arrayClass .int) mU_46) (ty := .int) rfl 1 rfl (fun _ h => by cases h) hK hP hD hS hA (a0 := (9, .inl (fun _ => 0))) (fun _ => rfl) (by decide) (N' := 9) (by decide) (Nat.le_of_ble_eq_true rfl) (Nat.le_of_ble_eq_true rfl) (Nat.le_of_ble_eq_true rfl) dX4_init_22 (fun q22 H hP hD hS => ?_)
  have hP : va_P D vwCl [(h0, .inr (4, [.int 2, .int 2, .int 1, .int 0, .null, .null, .null, .null, .null])), (q22, .inl (B 1, 9, .inl (fun _ => 0)))] H := hP
  have hD : va_D A [(h0, .inr (4, [.int 2, .int 2, .int 1, .int 0, .null, .null, .null, .null, .null])), (q22, .inl (B 1, 9, .inl (fun _ => 0)))] := hD
  refine va_putF (D := D) (ci := 4) (v := .ref q22) (ty := .array .int) (C := RX4) (T := TX4) (N := 9) (pc := 24) hx hb hts inU4 tyX4 tyX4_ok nmX4 hown hK hP hD hS 0 rfl rfl 4 (by decide) (hts (.fieldLink RX4 21 "TwoSidedTables$State" "a" "[I") mU_47) (fun _ h9 => h9) rfl hin0 rfl (by decide +kernel) rfl rfl (Nat.le_of_ble_eq_true rfl) dX4_init_24 (fun H locs hP hD hS => ?_)
  have hP : va_P D vwCl [(h0, .inr (4, [.int 2, .int 2, .int 1, .int 0, .ref q22, .null, .null, .null, .null])), (q22, .inl (B 1, 9, .inl (fun _ => 0)))] H := hP
  have hD : va_D A [(h0, .inr (4, [.int 2, .int 2, .int 1, .int 0, .ref q22, .null, .null, .null, .null])), (q22, .inl (B 1, 9, .inl (fun _ => 0)))] := hD
  refine lv_aload_n (pc := 27) hx hb dX4_init_27 rfl (lv_at hl 0 rfl) ?_
  refine lv_bipush (pc := 28) hx hb (v := 9) dX4_init_28 (by decide) ?_
  refine va_newB (atype := .int) (pc := 30) hx hb (hts (.arrayClass .int) mU_46) (ty := .int) rfl 1 rfl (fun _ h => by cases h) hK hP hD hS hA (a0 := (9, .inl (fun _ => 0))) (fun _ => rfl) (by decide) (N' := 9) (by decide) (Nat.le_of_ble_eq_true rfl) (Nat.le_of_ble_eq_true rfl) (Nat.le_of_ble_eq_true rfl) dX4_init_30 (fun q30 H hP hD hS => ?_)
  have hP : va_P D vwCl [(h0, .inr (4, [.int 2, .int 2, .int 1, .int 0, .ref q22, .null, .null, .null, .null])), (q22, .inl (B 1, 9, .inl (fun _ => 0))), (q30, .inl (B 1, 9, .inl (fun _ => 0)))] H := hP
  have hD : va_D A [(h0, .inr (4, [.int 2, .int 2, .int 1, .int 0, .ref q22, .null, .null, .null, .null])), (q22, .inl (B 1, 9, .inl (fun _ => 0))), (q30, .inl (B 1, 9, .inl (fun _ => 0)))] := hD
  refine va_putF (D := D) (ci := 4) (v := .ref q30) (ty := .array .int) (C := RX4) (T := TX4) (N := 9) (pc := 32) hx hb hts inU4 tyX4 tyX4_ok nmX4 hown hK hP hD hS 0 rfl rfl 5 (by decide) (hts (.fieldLink RX4 25 "TwoSidedTables$State" "b" "[I") mU_48) (fun _ h9 => h9) rfl hin0 rfl (by decide +kernel) rfl rfl (Nat.le_of_ble_eq_true rfl) dX4_init_32 (fun H locs hP hD hS => ?_)
  have hP : va_P D vwCl [(h0, .inr (4, [.int 2, .int 2, .int 1, .int 0, .ref q22, .ref q30, .null, .null, .null])), (q22, .inl (B 1, 9, .inl (fun _ => 0))), (q30, .inl (B 1, 9, .inl (fun _ => 0)))] H := hP
  have hD : va_D A [(h0, .inr (4, [.int 2, .int 2, .int 1, .int 0, .ref q22, .ref q30, .null, .null, .null])), (q22, .inl (B 1, 9, .inl (fun _ => 0))), (q30, .inl (B 1, 9, .inl (fun _ => 0)))] := hD
  refine lv_aload_n (pc := 35) hx hb dX4_init_35 rfl (lv_at hl 0 rfl) ?_
  refine lv_bipush (pc := 36) hx hb (v := 9) dX4_init_36 (by decide) ?_
  refine va_newB (atype := .int) (pc := 38) hx hb (hts (.arrayClass .int) mU_46) (ty := .int) rfl 1 rfl (fun _ h => by cases h) hK hP hD hS hA (a0 := (9, .inl (fun _ => 0))) (fun _ => rfl) (by decide) (N' := 9) (by decide) (Nat.le_of_ble_eq_true rfl) (Nat.le_of_ble_eq_true rfl) (Nat.le_of_ble_eq_true rfl) dX4_init_38 (fun q38 H hP hD hS => ?_)
  have hP : va_P D vwCl [(h0, .inr (4, [.int 2, .int 2, .int 1, .int 0, .ref q22, .ref q30, .null, .null, .null])), (q22, .inl (B 1, 9, .inl (fun _ => 0))), (q30, .inl (B 1, 9, .inl (fun _ => 0))), (q38, .inl (B 1, 9, .inl (fun _ => 0)))] H := hP
  have hD : va_D A [(h0, .inr (4, [.int 2, .int 2, .int 1, .int 0, .ref q22, .ref q30, .null, .null, .null])), (q22, .inl (B 1, 9, .inl (fun _ => 0))), (q30, .inl (B 1, 9, .inl (fun _ => 0))), (q38, .inl (B 1, 9, .inl (fun _ => 0)))] := hD
  refine va_putF (D := D) (ci := 4) (v := .ref q38) (ty := .array .int) (C := RX4) (T := TX4) (N := 9) (pc := 40) hx hb hts inU4 tyX4 tyX4_ok nmX4 hown hK hP hD hS 0 rfl rfl 6 (by decide) (hts (.fieldLink RX4 28 "TwoSidedTables$State" "c" "[I") mU_49) (fun _ h9 => h9) rfl hin0 rfl (by decide +kernel) rfl rfl (Nat.le_of_ble_eq_true rfl) dX4_init_40 (fun H locs hP hD hS => ?_)
  have hP : va_P D vwCl [(h0, .inr (4, [.int 2, .int 2, .int 1, .int 0, .ref q22, .ref q30, .ref q38, .null, .null])), (q22, .inl (B 1, 9, .inl (fun _ => 0))), (q30, .inl (B 1, 9, .inl (fun _ => 0))), (q38, .inl (B 1, 9, .inl (fun _ => 0)))] H := hP
  have hD : va_D A [(h0, .inr (4, [.int 2, .int 2, .int 1, .int 0, .ref q22, .ref q30, .ref q38, .null, .null])), (q22, .inl (B 1, 9, .inl (fun _ => 0))), (q30, .inl (B 1, 9, .inl (fun _ => 0))), (q38, .inl (B 1, 9, .inl (fun _ => 0)))] := hD
  refine lv_aload_n (pc := 43) hx hb dX4_init_43 rfl (lv_at hl 0 rfl) ?_
  refine lv_bipush (pc := 44) hx hb (v := 6) dX4_init_44 (by decide) ?_
  refine va_newB (atype := .int) (pc := 46) hx hb (hts (.arrayClass .int) mU_46) (ty := .int) rfl 1 rfl (fun _ h => by cases h) hK hP hD hS hA (a0 := (6, .inl (fun _ => 0))) (fun _ => rfl) (by decide) (N' := 6) (by decide) (Nat.le_of_ble_eq_true rfl) (Nat.le_of_ble_eq_true rfl) (Nat.le_of_ble_eq_true rfl) dX4_init_46 (fun q46 H hP hD hS => ?_)
  have hP : va_P D vwCl [(h0, .inr (4, [.int 2, .int 2, .int 1, .int 0, .ref q22, .ref q30, .ref q38, .null, .null])), (q22, .inl (B 1, 9, .inl (fun _ => 0))), (q30, .inl (B 1, 9, .inl (fun _ => 0))), (q38, .inl (B 1, 9, .inl (fun _ => 0))), (q46, .inl (B 1, 6, .inl (fun _ => 0)))] H := hP
  have hD : va_D A [(h0, .inr (4, [.int 2, .int 2, .int 1, .int 0, .ref q22, .ref q30, .ref q38, .null, .null])), (q22, .inl (B 1, 9, .inl (fun _ => 0))), (q30, .inl (B 1, 9, .inl (fun _ => 0))), (q38, .inl (B 1, 9, .inl (fun _ => 0))), (q46, .inl (B 1, 6, .inl (fun _ => 0)))] := hD
  refine va_putF (D := D) (ci := 4) (v := .ref q46) (ty := .array .int) (C := RX4) (T := TX4) (N := 9) (pc := 48) hx hb hts inU4 tyX4 tyX4_ok nmX4 hown hK hP hD hS 0 rfl rfl 7 (by decide) (hts (.fieldLink RX4 31 "TwoSidedTables$State" "kindList" "[I") mU_50) (fun _ h9 => h9) rfl hin0 rfl (by decide +kernel) rfl rfl (Nat.le_of_ble_eq_true rfl) dX4_init_48 (fun H locs hP hD hS => ?_)
  have hP : va_P D vwCl [(h0, .inr (4, [.int 2, .int 2, .int 1, .int 0, .ref q22, .ref q30, .ref q38, .ref q46, .null])), (q22, .inl (B 1, 9, .inl (fun _ => 0))), (q30, .inl (B 1, 9, .inl (fun _ => 0))), (q38, .inl (B 1, 9, .inl (fun _ => 0))), (q46, .inl (B 1, 6, .inl (fun _ => 0)))] H := hP
  have hD : va_D A [(h0, .inr (4, [.int 2, .int 2, .int 1, .int 0, .ref q22, .ref q30, .ref q38, .ref q46, .null])), (q22, .inl (B 1, 9, .inl (fun _ => 0))), (q30, .inl (B 1, 9, .inl (fun _ => 0))), (q38, .inl (B 1, 9, .inl (fun _ => 0))), (q46, .inl (B 1, 6, .inl (fun _ => 0)))] := hD
  refine lv_aload_n (pc := 51) hx hb dX4_init_51 rfl (lv_at hl 0 rfl) ?_
  refine lv_bipush (pc := 52) hx hb (v := 6) dX4_init_52 (by decide) ?_
  refine va_newB (atype := .int) (pc := 54) hx hb (hts (.arrayClass .int) mU_46) (ty := .int) rfl 1 rfl (fun _ h => by cases h) hK hP hD hS hA (a0 := (6, .inl (fun _ => 0))) (fun _ => rfl) (by decide) (N' := 6) (by decide) (Nat.le_of_ble_eq_true rfl) (Nat.le_of_ble_eq_true rfl) (Nat.le_of_ble_eq_true rfl) dX4_init_54 (fun q54 H hP hD hS => ?_)
  have hP : va_P D vwCl [(h0, .inr (4, [.int 2, .int 2, .int 1, .int 0, .ref q22, .ref q30, .ref q38, .ref q46, .null])), (q22, .inl (B 1, 9, .inl (fun _ => 0))), (q30, .inl (B 1, 9, .inl (fun _ => 0))), (q38, .inl (B 1, 9, .inl (fun _ => 0))), (q46, .inl (B 1, 6, .inl (fun _ => 0))), (q54, .inl (B 1, 6, .inl (fun _ => 0)))] H := hP
  have hD : va_D A [(h0, .inr (4, [.int 2, .int 2, .int 1, .int 0, .ref q22, .ref q30, .ref q38, .ref q46, .null])), (q22, .inl (B 1, 9, .inl (fun _ => 0))), (q30, .inl (B 1, 9, .inl (fun _ => 0))), (q38, .inl (B 1, 9, .inl (fun _ => 0))), (q46, .inl (B 1, 6, .inl (fun _ => 0))), (q54, .inl (B 1, 6, .inl (fun _ => 0)))] := hD
  refine va_putF (D := D) (ci := 4) (v := .ref q54) (ty := .array .int) (C := RX4) (T := TX4) (N := 9) (pc := 56) hx hb hts inU4 tyX4 tyX4_ok nmX4 hown hK hP hD hS 0 rfl rfl 8 (by decide) (hts (.fieldLink RX4 34 "TwoSidedTables$State" "shiftList" "[I") mU_51) (fun _ h9 => h9) rfl hin0 rfl (by decide +kernel) rfl rfl (Nat.le_of_ble_eq_true rfl) dX4_init_56 (fun H locs hP hD hS => ?_)
  have hP : va_P D vwCl [(h0, .inr (4, [.int 2, .int 2, .int 1, .int 0, .ref q22, .ref q30, .ref q38, .ref q46, .ref q54])), (q22, .inl (B 1, 9, .inl (fun _ => 0))), (q30, .inl (B 1, 9, .inl (fun _ => 0))), (q38, .inl (B 1, 9, .inl (fun _ => 0))), (q46, .inl (B 1, 6, .inl (fun _ => 0))), (q54, .inl (B 1, 6, .inl (fun _ => 0)))] H := hP
  have hD : va_D A [(h0, .inr (4, [.int 2, .int 2, .int 1, .int 0, .ref q22, .ref q30, .ref q38, .ref q46, .ref q54])), (q22, .inl (B 1, 9, .inl (fun _ => 0))), (q30, .inl (B 1, 9, .inl (fun _ => 0))), (q38, .inl (B 1, 9, .inl (fun _ => 0))), (q46, .inl (B 1, 6, .inl (fun _ => 0))), (q54, .inl (B 1, 6, .inl (fun _ => 0)))] := hD
  exact W.vret hx hb hr (fun t ht hW => ⟨⟨(fun k => if k = 1 then q22 else if k = 2 then q30 else if k = 3 then q38 else if k = 4 then q46 else if k = 5 then q54 else 0), rfl, trivial, by rw [ht]; exact hP, va_K.moved hW.alike hK, hD⟩, hS.F ht⟩) hS.2.2 dX4_init_59 hlocks
abbrev rm_X1_init : Room := { frames := 1, cells := 2, slots := 100, locals := 40 }
set_option maxHeartbeats 4000000 in
set_option maxRecDepth 100000 in
theorem kX1_init (l : Launch) (D : va_G) (B : Nat → ClassId) (h0 sz : Nat) : MetC l yX1_init (wsO yX1_init cX1_init 1 none) rm_X1_init h0 D B (fun _ => True) [(h0, .inr (1, [.int 0, .int 0, .int 0, .long 0, .int 0, .null, .null]))] (fun _ => True) (fun u : Nat → Nat => [(h0, .inr (1, [.int 0, .int 0, .int 0, .long 1, .int 0, .ref (u 1), .ref (u 2)])), ((u 1), .inl (B 2, 90, .inr (.inl (fun _ => 0)))), ((u 2), .inl (B 1, 10, .inl (fun _ => 0)))]) sz 2 100 := by
  refine Met.ofW (cc := cX1_init) (maxL := 1) (ret := none) (by decide) rfl ?_
  intro p e s m args below meth c s₁ Bd hml hv
  obtain ⟨rfl, hsz, hP, hK, hD0, hN0⟩ := hv
  have hx := Bd.exec
  have hb := Bd.bytes
  have hr := Bd.returns
  have hts : ∀ w ∈ wsU, w.before _ s = true := fun w h => atoms_spec (ws := wsO yX1_init cX1_init 1 none) Bd.pre w (List.mem_cons_of_mem _ h)
  have hown := findClass_of_methodNamed Bd.named
  have hlocks := Bd.notSynchronized
  have hin0 : meth.name = "<init>" := (name_of_methodNamed Bd.named Bd.method).1
  subst hsz
  have hD := hD0.self (sz := s.heap.size)
  generalize hAe : va_A [(h0, .inr (1, [.int 0, .int 0, .int 0, .long 0, .int 0, .null, .null]))] s.heap.size = A at hD ⊢
  have hA : ∀ q : Nat, s.heap.size ≤ q → A q := fun q h => by rw [← hAe]; exact Or.inr h
  have hS : va_S A s.heap s.heap [] := va_S.rf
  have hP : va_P D vwCl [(h0, .inr (1, [.int 0, .int 0, .int 0, .long 0, .int 0, .null, .null]))] s.heap := hP
  have hl := lv_entry ([.ref h0]) (n := 1) (Nat.le_of_ble_eq_true rfl)
  rw [lg_entry_eq]
  generalize (lg_sl ([.ref h0]) ++ List.replicate (1 - (lg_sl ([.ref h0])).length) Slot.unset).toArray = ls at hl ⊢
  have hl : lv_has ls 1 [(0, .ref h0)] := hl
  refine lv_aload_n (pc := 0) hx hb dX1_init_0 rfl (lv_at hl 0 rfl) ?_
  refine W.objInit hx hb hown (hts (.methodLink RX1 3 objectInit) mU_54) (hts (.instanceMethod objectInit) mU_11) (hts _ mU_12) rfl (by rw [hml]; exact hl.1) rfl dX1_init_1 (Nat.le_of_ble_eq_true rfl) (Nat.le_of_ble_eq_true rfl) ?_
  refine W.eq (g2 := F0 m 4 ls []) rfl ?_
  refine lv_aload_n (pc := 4) hx hb dX1_init_4 rfl (lv_at hl 0 rfl) ?_
  refine lv_lconst (pc := 5) hx hb (v := 1) dX1_init_5 (by decide) ?_
  refine va_put (D := D) (ci := 1) (v := .long 1) (ty := .long) (C := RX1) (T := TX1) (N := 7) (pc := 6) hx hb hts inU1 tyX1 tyX1_ok nmX1 hown hK hP hD hS 0 rfl rfl 3 (by decide) (hts (.fieldLink RX1 9 "TwoSidedTables$Grid" "below" "J") mU_55) (fun _ h9 => h9) rfl (by decide +kernel) rfl rfl (Nat.le_of_ble_eq_true rfl) dX1_init_6 (fun H locs hP hD hS => ?_)
  have hP : va_P D vwCl [(h0, .inr (1, [.int 0, .int 0, .int 0, .long 1, .int 0, .null, .null]))] H := hP
  have hD : va_D A [(h0, .inr (1, [.int 0, .int 0, .int 0, .long 1, .int 0, .null, .null]))] := hD
  refine lv_aload_n (pc := 9) hx hb dX1_init_9 rfl (lv_at hl 0 rfl) ?_
  refine lv_bipush (pc := 10) hx hb (v := 90) dX1_init_10 (by decide) ?_
  refine va_newB (atype := .long) (pc := 12) hx hb (hts (.arrayClass .long) mU_56) (ty := .long) rfl 2 rfl (fun _ h => by cases h) hK hP hD hS hA (a0 := (90, .inr (.inl (fun _ => 0)))) (fun _ => rfl) (by decide) (N' := 90) (by decide) (Nat.le_of_ble_eq_true rfl) (Nat.le_of_ble_eq_true rfl) (Nat.le_of_ble_eq_true rfl) dX1_init_12 (fun q12 H hP hD hS => ?_)
  have hP : va_P D vwCl [(h0, .inr (1, [.int 0, .int 0, .int 0, .long 1, .int 0, .null, .null])), (q12, .inl (B 2, 90, .inr (.inl (fun _ => 0))))] H := hP
  have hD : va_D A [(h0, .inr (1, [.int 0, .int 0, .int 0, .long 1, .int 0, .null, .null])), (q12, .inl (B 2, 90, .inr (.inl (fun _ => 0))))] := hD
  refine va_putF (D := D) (ci := 1) (v := .ref q12) (ty := .array .long) (C := RX1) (T := TX1) (N := 7) (pc := 14) hx hb hts inU1 tyX1 tyX1_ok nmX1 hown hK hP hD hS 0 rfl rfl 5 (by decide) (hts (.fieldLink RX1 15 "TwoSidedTables$Grid" "cells" "[J") mU_57) (fun _ h9 => h9) rfl hin0 rfl (by decide +kernel) rfl rfl (Nat.le_of_ble_eq_true rfl) dX1_init_14 (fun H locs hP hD hS => ?_)
  have hP : va_P D vwCl [(h0, .inr (1, [.int 0, .int 0, .int 0, .long 1, .int 0, .ref q12, .null])), (q12, .inl (B 2, 90, .inr (.inl (fun _ => 0))))] H := hP
  have hD : va_D A [(h0, .inr (1, [.int 0, .int 0, .int 0, .long 1, .int 0, .ref q12, .null])), (q12, .inl (B 2, 90, .inr (.inl (fun _ => 0))))] := hD
  refine lv_aload_n (pc := 17) hx hb dX1_init_17 rfl (lv_at hl 0 rfl) ?_
  refine lv_bipush (pc := 18) hx hb (v := 10) dX1_init_18 (by decide) ?_
  refine va_newB (atype := .int) (pc := 20) hx hb (hts (.arrayClass .int) mU_46) (ty := .int) rfl 1 rfl (fun _ h => by cases h) hK hP hD hS hA (a0 := (10, .inl (fun _ => 0))) (fun _ => rfl) (by decide) (N' := 10) (by decide) (Nat.le_of_ble_eq_true rfl) (Nat.le_of_ble_eq_true rfl) (Nat.le_of_ble_eq_true rfl) dX1_init_20 (fun q20 H hP hD hS => ?_)
  have hP : va_P D vwCl [(h0, .inr (1, [.int 0, .int 0, .int 0, .long 1, .int 0, .ref q12, .null])), (q12, .inl (B 2, 90, .inr (.inl (fun _ => 0)))), (q20, .inl (B 1, 10, .inl (fun _ => 0)))] H := hP
  have hD : va_D A [(h0, .inr (1, [.int 0, .int 0, .int 0, .long 1, .int 0, .ref q12, .null])), (q12, .inl (B 2, 90, .inr (.inl (fun _ => 0)))), (q20, .inl (B 1, 10, .inl (fun _ => 0)))] := hD
  refine va_putF (D := D) (ci := 1) (v := .ref q20) (ty := .array .int) (C := RX1) (T := TX1) (N := 7) (pc := 22) hx hb hts inU1 tyX1 tyX1_ok nmX1 hown hK hP hD hS 0 rfl rfl 6 (by decide) (hts (.fieldLink RX1 19 "TwoSidedTables$Grid" "pivotRows" "[I") mU_58) (fun _ h9 => h9) rfl hin0 rfl (by decide +kernel) rfl rfl (Nat.le_of_ble_eq_true rfl) dX1_init_22 (fun H locs hP hD hS => ?_)
  have hP : va_P D vwCl [(h0, .inr (1, [.int 0, .int 0, .int 0, .long 1, .int 0, .ref q12, .ref q20])), (q12, .inl (B 2, 90, .inr (.inl (fun _ => 0)))), (q20, .inl (B 1, 10, .inl (fun _ => 0)))] H := hP
  have hD : va_D A [(h0, .inr (1, [.int 0, .int 0, .int 0, .long 1, .int 0, .ref q12, .ref q20])), (q12, .inl (B 2, 90, .inr (.inl (fun _ => 0)))), (q20, .inl (B 1, 10, .inl (fun _ => 0)))] := hD
  exact W.vret hx hb hr (fun t ht hW => ⟨⟨(fun k => if k = 1 then q12 else if k = 2 then q20 else 0), rfl, trivial, by rw [ht]; exact hP, va_K.moved hW.alike hK, hD⟩, hS.F ht⟩) hS.2.2 dX1_init_25 hlocks
abbrev rm_X5_init : Room := { frames := 1, cells := 1, slots := 200, locals := 40 }
set_option maxHeartbeats 4000000 in
set_option maxRecDepth 100000 in
theorem kX5_init (l : Launch) (D : va_G) (B : Nat → ClassId) (h0 sz : Nat) : MetC l yX5_init (wsO yX5_init cX5_init 1 none) rm_X5_init h0 D B (fun _ => True) [(h0, .inr (5, [.int 0, .int 0, .null]))] (fun _ => True) (fun u : Nat → Nat => [(h0, .inr (5, [.int 0, .int 0, .ref (u 1)])), ((u 1), .inl (B 0, 200, .inl (fun _ => 0)))]) sz 1 200 := by
  refine Met.ofW (cc := cX5_init) (maxL := 1) (ret := none) (by decide) rfl ?_
  intro p e s m args below meth c s₁ Bd hml hv
  obtain ⟨rfl, hsz, hP, hK, hD0, hN0⟩ := hv
  have hx := Bd.exec
  have hb := Bd.bytes
  have hr := Bd.returns
  have hts : ∀ w ∈ wsU, w.before _ s = true := fun w h => atoms_spec (ws := wsO yX5_init cX5_init 1 none) Bd.pre w (List.mem_cons_of_mem _ h)
  have hown := findClass_of_methodNamed Bd.named
  have hlocks := Bd.notSynchronized
  have hin0 : meth.name = "<init>" := (name_of_methodNamed Bd.named Bd.method).1
  subst hsz
  have hD := hD0.self (sz := s.heap.size)
  generalize hAe : va_A [(h0, .inr (5, [.int 0, .int 0, .null]))] s.heap.size = A at hD ⊢
  have hA : ∀ q : Nat, s.heap.size ≤ q → A q := fun q h => by rw [← hAe]; exact Or.inr h
  have hS : va_S A s.heap s.heap [] := va_S.rf
  have hP : va_P D vwCl [(h0, .inr (5, [.int 0, .int 0, .null]))] s.heap := hP
  have hl := lv_entry ([.ref h0]) (n := 1) (Nat.le_of_ble_eq_true rfl)
  rw [lg_entry_eq]
  generalize (lg_sl ([.ref h0]) ++ List.replicate (1 - (lg_sl ([.ref h0])).length) Slot.unset).toArray = ls at hl ⊢
  have hl : lv_has ls 1 [(0, .ref h0)] := hl
  refine lv_aload_n (pc := 0) hx hb dX5_init_0 rfl (lv_at hl 0 rfl) ?_
  refine W.objInit hx hb hown (hts (.methodLink RX5 3 objectInit) mU_61) (hts (.instanceMethod objectInit) mU_11) (hts _ mU_12) rfl (by rw [hml]; exact hl.1) rfl dX5_init_1 (Nat.le_of_ble_eq_true rfl) (Nat.le_of_ble_eq_true rfl) ?_
  refine W.eq (g2 := F0 m 4 ls []) rfl ?_
  refine lv_aload_n (pc := 4) hx hb dX5_init_4 rfl (lv_at hl 0 rfl) ?_
  refine lv_sipush (pc := 5) hx hb (v := 200) dX5_init_5 (by decide) ?_
  refine va_newB (atype := .byte) (pc := 8) hx hb (hts (.arrayClass .byte) mU_62) (ty := .byte) rfl 0 rfl (fun _ h => by cases h) hK hP hD hS hA (a0 := (200, .inl (fun _ => 0))) (fun _ => rfl) (by decide) (N' := 200) (by decide) (Nat.le_of_ble_eq_true rfl) (Nat.le_of_ble_eq_true rfl) (Nat.le_of_ble_eq_true rfl) dX5_init_8 (fun q8 H hP hD hS => ?_)
  have hP : va_P D vwCl [(h0, .inr (5, [.int 0, .int 0, .null])), (q8, .inl (B 0, 200, .inl (fun _ => 0)))] H := hP
  have hD : va_D A [(h0, .inr (5, [.int 0, .int 0, .null])), (q8, .inl (B 0, 200, .inl (fun _ => 0)))] := hD
  refine va_putF (D := D) (ci := 5) (v := .ref q8) (ty := .array .byte) (C := RX5) (T := TX5) (N := 3) (pc := 10) hx hb hts inU5 tyX5 tyX5_ok nmX5 hown hK hP hD hS 0 rfl rfl 2 (by decide) (hts (.fieldLink RX5 9 "TwoSidedTables$Tape" "bytes" "[B") mU_63) (fun _ h9 => h9) rfl hin0 rfl (by decide +kernel) rfl rfl (Nat.le_of_ble_eq_true rfl) dX5_init_10 (fun H locs hP hD hS => ?_)
  have hP : va_P D vwCl [(h0, .inr (5, [.int 0, .int 0, .ref q8])), (q8, .inl (B 0, 200, .inl (fun _ => 0)))] H := hP
  have hD : va_D A [(h0, .inr (5, [.int 0, .int 0, .ref q8])), (q8, .inl (B 0, 200, .inl (fun _ => 0)))] := hD
  exact W.vret hx hb hr (fun t ht hW => ⟨⟨(fun k => if k = 1 then q8 else 0), rfl, trivial, by rw [ht]; exact hP, va_K.moved hW.alike hK, hD⟩, hS.F ht⟩) hS.2.2 dX5_init_13 hlocks
abbrev rm_X0_init : Room := { frames := 1, cells := 1, slots := 30, locals := 40 }
set_option maxHeartbeats 4000000 in
set_option maxRecDepth 100000 in
theorem kX0_init (l : Launch) (D : va_G) (B : Nat → ClassId) (h0 sz : Nat) : MetC l yX0_init (wsO yX0_init cX0_init 1 none) rm_X0_init h0 D B (fun _ => True) [(h0, .inr (0, [.int 0, .int 0, .int 0, .int 0, .int 0, .null]))] (fun _ => True) (fun u : Nat → Nat => [(h0, .inr (0, [.int 0, .int 0, .int 0, .int 0, .int 0, .ref (u 1)])), ((u 1), .inl (B 1, 30, .inl (fun _ => 0)))]) sz 1 30 := by
  refine Met.ofW (cc := cX0_init) (maxL := 1) (ret := none) (by decide) rfl ?_
  intro p e s m args below meth c s₁ Bd hml hv
  obtain ⟨rfl, hsz, hP, hK, hD0, hN0⟩ := hv
  have hx := Bd.exec
  have hb := Bd.bytes
  have hr := Bd.returns
  have hts : ∀ w ∈ wsU, w.before _ s = true := fun w h => atoms_spec (ws := wsO yX0_init cX0_init 1 none) Bd.pre w (List.mem_cons_of_mem _ h)
  have hown := findClass_of_methodNamed Bd.named
  have hlocks := Bd.notSynchronized
  have hin0 : meth.name = "<init>" := (name_of_methodNamed Bd.named Bd.method).1
  subst hsz
  have hD := hD0.self (sz := s.heap.size)
  generalize hAe : va_A [(h0, .inr (0, [.int 0, .int 0, .int 0, .int 0, .int 0, .null]))] s.heap.size = A at hD ⊢
  have hA : ∀ q : Nat, s.heap.size ≤ q → A q := fun q h => by rw [← hAe]; exact Or.inr h
  have hS : va_S A s.heap s.heap [] := va_S.rf
  have hP : va_P D vwCl [(h0, .inr (0, [.int 0, .int 0, .int 0, .int 0, .int 0, .null]))] s.heap := hP
  have hl := lv_entry ([.ref h0]) (n := 1) (Nat.le_of_ble_eq_true rfl)
  rw [lg_entry_eq]
  generalize (lg_sl ([.ref h0]) ++ List.replicate (1 - (lg_sl ([.ref h0])).length) Slot.unset).toArray = ls at hl ⊢
  have hl : lv_has ls 1 [(0, .ref h0)] := hl
  refine lv_aload_n (pc := 0) hx hb dX0_init_0 rfl (lv_at hl 0 rfl) ?_
  refine W.objInit hx hb hown (hts (.methodLink RX0 3 objectInit) mU_66) (hts (.instanceMethod objectInit) mU_11) (hts _ mU_12) rfl (by rw [hml]; exact hl.1) rfl dX0_init_1 (Nat.le_of_ble_eq_true rfl) (Nat.le_of_ble_eq_true rfl) ?_
  refine W.eq (g2 := F0 m 4 ls []) rfl ?_
  refine lv_aload_n (pc := 4) hx hb dX0_init_4 rfl (lv_at hl 0 rfl) ?_
  refine lv_bipush (pc := 5) hx hb (v := 30) dX0_init_5 (by decide) ?_
  refine va_newB (atype := .int) (pc := 7) hx hb (hts (.arrayClass .int) mU_46) (ty := .int) rfl 1 rfl (fun _ h => by cases h) hK hP hD hS hA (a0 := (30, .inl (fun _ => 0))) (fun _ => rfl) (by decide) (N' := 30) (by decide) (Nat.le_of_ble_eq_true rfl) (Nat.le_of_ble_eq_true rfl) (Nat.le_of_ble_eq_true rfl) dX0_init_7 (fun q7 H hP hD hS => ?_)
  have hP : va_P D vwCl [(h0, .inr (0, [.int 0, .int 0, .int 0, .int 0, .int 0, .null])), (q7, .inl (B 1, 30, .inl (fun _ => 0)))] H := hP
  have hD : va_D A [(h0, .inr (0, [.int 0, .int 0, .int 0, .int 0, .int 0, .null])), (q7, .inl (B 1, 30, .inl (fun _ => 0)))] := hD
  refine va_putF (D := D) (ci := 0) (v := .ref q7) (ty := .array .int) (C := RX0) (T := TX0) (N := 6) (pc := 9) hx hb hts inU0 tyX0 tyX0_ok nmX0 hown hK hP hD hS 0 rfl rfl 5 (by decide) (hts (.fieldLink RX0 9 "TwoSidedTables$Acts" "bodies" "[I") mU_67) (fun _ h9 => h9) rfl hin0 rfl (by decide +kernel) rfl rfl (Nat.le_of_ble_eq_true rfl) dX0_init_9 (fun H locs hP hD hS => ?_)
  have hP : va_P D vwCl [(h0, .inr (0, [.int 0, .int 0, .int 0, .int 0, .int 0, .ref q7])), (q7, .inl (B 1, 30, .inl (fun _ => 0)))] H := hP
  have hD : va_D A [(h0, .inr (0, [.int 0, .int 0, .int 0, .int 0, .int 0, .ref q7])), (q7, .inl (B 1, 30, .inl (fun _ => 0)))] := hD
  exact W.vret hx hb hr (fun t ht hW => ⟨⟨(fun k => if k = 1 then q7 else 0), rfl, trivial, by rw [ht]; exact hP, va_K.moved hW.alike hK, hD⟩, hS.F ht⟩) hS.2.2 dX0_init_12 hlocks
abbrev rm_X2_init : Room := { frames := 1, cells := 1, slots := 40, locals := 40 }
set_option maxHeartbeats 4000000 in
set_option maxRecDepth 100000 in
theorem kX2_init (l : Launch) (D : va_G) (B : Nat → ClassId) (h0 sz : Nat) : MetC l yX2_init (wsO yX2_init cX2_init 1 none) rm_X2_init h0 D B (fun _ => True) [(h0, .inr (2, [.int 0, .int 0, .null]))] (fun _ => True) (fun u : Nat → Nat => [(h0, .inr (2, [.int (-1), .int 0, .ref (u 1)])), ((u 1), .inl (B 2, 40, .inr (.inl (fun _ => 0))))]) sz 1 40 := by
  refine Met.ofW (cc := cX2_init) (maxL := 1) (ret := none) (by decide) rfl ?_
  intro p e s m args below meth c s₁ Bd hml hv
  obtain ⟨rfl, hsz, hP, hK, hD0, hN0⟩ := hv
  have hx := Bd.exec
  have hb := Bd.bytes
  have hr := Bd.returns
  have hts : ∀ w ∈ wsU, w.before _ s = true := fun w h => atoms_spec (ws := wsO yX2_init cX2_init 1 none) Bd.pre w (List.mem_cons_of_mem _ h)
  have hown := findClass_of_methodNamed Bd.named
  have hlocks := Bd.notSynchronized
  have hin0 : meth.name = "<init>" := (name_of_methodNamed Bd.named Bd.method).1
  subst hsz
  have hD := hD0.self (sz := s.heap.size)
  generalize hAe : va_A [(h0, .inr (2, [.int 0, .int 0, .null]))] s.heap.size = A at hD ⊢
  have hA : ∀ q : Nat, s.heap.size ≤ q → A q := fun q h => by rw [← hAe]; exact Or.inr h
  have hS : va_S A s.heap s.heap [] := va_S.rf
  have hP : va_P D vwCl [(h0, .inr (2, [.int 0, .int 0, .null]))] s.heap := hP
  have hl := lv_entry ([.ref h0]) (n := 1) (Nat.le_of_ble_eq_true rfl)
  rw [lg_entry_eq]
  generalize (lg_sl ([.ref h0]) ++ List.replicate (1 - (lg_sl ([.ref h0])).length) Slot.unset).toArray = ls at hl ⊢
  have hl : lv_has ls 1 [(0, .ref h0)] := hl
  refine lv_aload_n (pc := 0) hx hb dX2_init_0 rfl (lv_at hl 0 rfl) ?_
  refine W.objInit hx hb hown (hts (.methodLink RX2 3 objectInit) mU_70) (hts (.instanceMethod objectInit) mU_11) (hts _ mU_12) rfl (by rw [hml]; exact hl.1) rfl dX2_init_1 (Nat.le_of_ble_eq_true rfl) (Nat.le_of_ble_eq_true rfl) ?_
  refine W.eq (g2 := F0 m 4 ls []) rfl ?_
  refine lv_aload_n (pc := 4) hx hb dX2_init_4 rfl (lv_at hl 0 rfl) ?_
  refine lv_iconst (pc := 5) hx hb (v := (-1)) dX2_init_5 (by decide) ?_
  refine va_put (D := D) (ci := 2) (v := .int (-1)) (ty := .int) (C := RX2) (T := TX2) (N := 3) (pc := 6) hx hb hts inU2 tyX2 tyX2_ok nmX2 hown hK hP hD hS 0 rfl rfl 0 (by decide) (hts (.fieldLink RX2 9 "TwoSidedTables$Sheet" "sort" "I") mU_71) (fun _ h9 => h9) rfl (by decide +kernel) rfl rfl (Nat.le_of_ble_eq_true rfl) dX2_init_6 (fun H locs hP hD hS => ?_)
  have hP : va_P D vwCl [(h0, .inr (2, [.int (-1), .int 0, .null]))] H := hP
  have hD : va_D A [(h0, .inr (2, [.int (-1), .int 0, .null]))] := hD
  refine lv_aload_n (pc := 9) hx hb dX2_init_9 rfl (lv_at hl 0 rfl) ?_
  refine lv_bipush (pc := 10) hx hb (v := 40) dX2_init_10 (by decide) ?_
  refine va_newB (atype := .long) (pc := 12) hx hb (hts (.arrayClass .long) mU_56) (ty := .long) rfl 2 rfl (fun _ h => by cases h) hK hP hD hS hA (a0 := (40, .inr (.inl (fun _ => 0)))) (fun _ => rfl) (by decide) (N' := 40) (by decide) (Nat.le_of_ble_eq_true rfl) (Nat.le_of_ble_eq_true rfl) (Nat.le_of_ble_eq_true rfl) dX2_init_12 (fun q12 H hP hD hS => ?_)
  have hP : va_P D vwCl [(h0, .inr (2, [.int (-1), .int 0, .null])), (q12, .inl (B 2, 40, .inr (.inl (fun _ => 0))))] H := hP
  have hD : va_D A [(h0, .inr (2, [.int (-1), .int 0, .null])), (q12, .inl (B 2, 40, .inr (.inl (fun _ => 0))))] := hD
  refine va_putF (D := D) (ci := 2) (v := .ref q12) (ty := .array .long) (C := RX2) (T := TX2) (N := 3) (pc := 14) hx hb hts inU2 tyX2 tyX2_ok nmX2 hown hK hP hD hS 0 rfl rfl 2 (by decide) (hts (.fieldLink RX2 15 "TwoSidedTables$Sheet" "items" "[J") mU_72) (fun _ h9 => h9) rfl hin0 rfl (by decide +kernel) rfl rfl (Nat.le_of_ble_eq_true rfl) dX2_init_14 (fun H locs hP hD hS => ?_)
  have hP : va_P D vwCl [(h0, .inr (2, [.int (-1), .int 0, .ref q12])), (q12, .inl (B 2, 40, .inr (.inl (fun _ => 0))))] H := hP
  have hD : va_D A [(h0, .inr (2, [.int (-1), .int 0, .ref q12])), (q12, .inl (B 2, 40, .inr (.inl (fun _ => 0))))] := hD
  exact W.vret hx hb hr (fun t ht hW => ⟨⟨(fun k => if k = 1 then q12 else 0), rfl, trivial, by rw [ht]; exact hP, va_K.moved hW.alike hK, hD⟩, hS.F ht⟩) hS.2.2 dX2_init_17 hlocks
abbrev rm_X3_init : Room := { frames := 1, cells := 0, slots := 0, locals := 40 }
set_option maxHeartbeats 4000000 in
set_option maxRecDepth 100000 in
theorem kX3_init (l : Launch) (D : va_G) (B : Nat → ClassId) (h0 sz : Nat) : MetC l yX3_init (wsO yX3_init cX3_init 1 none) rm_X3_init h0 D B (fun _ => True) [(h0, .inr (3, [.int 0, .int 0, .int 0]))] (fun _ => True) (fun u : Nat → Nat => [(h0, .inr (3, [.int 2, .int 0, .int 0]))]) sz 0 0 := by
  refine Met.ofW (cc := cX3_init) (maxL := 1) (ret := none) (by decide) rfl ?_
  intro p e s m args below meth c s₁ Bd hml hv
  obtain ⟨rfl, hsz, hP, hK, hD0, hN0⟩ := hv
  have hx := Bd.exec
  have hb := Bd.bytes
  have hr := Bd.returns
  have hts : ∀ w ∈ wsU, w.before _ s = true := fun w h => atoms_spec (ws := wsO yX3_init cX3_init 1 none) Bd.pre w (List.mem_cons_of_mem _ h)
  have hown := findClass_of_methodNamed Bd.named
  have hlocks := Bd.notSynchronized
  have hin0 : meth.name = "<init>" := (name_of_methodNamed Bd.named Bd.method).1
  subst hsz
  have hD := hD0.self (sz := s.heap.size)
  generalize hAe : va_A [(h0, .inr (3, [.int 0, .int 0, .int 0]))] s.heap.size = A at hD ⊢
  have hA : ∀ q : Nat, s.heap.size ≤ q → A q := fun q h => by rw [← hAe]; exact Or.inr h
  have hS : va_S A s.heap s.heap [] := va_S.rf
  have hP : va_P D vwCl [(h0, .inr (3, [.int 0, .int 0, .int 0]))] s.heap := hP
  have hl := lv_entry ([.ref h0]) (n := 1) (Nat.le_of_ble_eq_true rfl)
  rw [lg_entry_eq]
  generalize (lg_sl ([.ref h0]) ++ List.replicate (1 - (lg_sl ([.ref h0])).length) Slot.unset).toArray = ls at hl ⊢
  have hl : lv_has ls 1 [(0, .ref h0)] := hl
  refine lv_aload_n (pc := 0) hx hb dX3_init_0 rfl (lv_at hl 0 rfl) ?_
  refine W.objInit hx hb hown (hts (.methodLink RX3 3 objectInit) mU_75) (hts (.instanceMethod objectInit) mU_11) (hts _ mU_12) rfl (by rw [hml]; exact hl.1) rfl dX3_init_1 (Nat.le_of_ble_eq_true rfl) (Nat.le_of_ble_eq_true rfl) ?_
  refine W.eq (g2 := F0 m 4 ls []) rfl ?_
  refine lv_aload_n (pc := 4) hx hb dX3_init_4 rfl (lv_at hl 0 rfl) ?_
  refine lv_iconst (pc := 5) hx hb (v := 2) dX3_init_5 (by decide) ?_
  refine va_put (D := D) (ci := 3) (v := .int 2) (ty := .int) (C := RX3) (T := TX3) (N := 3) (pc := 6) hx hb hts inU3 tyX3 tyX3_ok nmX3 hown hK hP hD hS 0 rfl rfl 0 (by decide) (hts (.fieldLink RX3 9 "TwoSidedTables$Shelf" "holds" "I") mU_76) (fun _ h9 => h9) rfl (by decide +kernel) rfl rfl (Nat.le_of_ble_eq_true rfl) dX3_init_6 (fun H locs hP hD hS => ?_)
  have hP : va_P D vwCl [(h0, .inr (3, [.int 2, .int 0, .int 0]))] H := hP
  have hD : va_D A [(h0, .inr (3, [.int 2, .int 0, .int 0]))] := hD
  exact W.vret hx hb hr (fun t ht hW => ⟨⟨(fun k =>  0), rfl, trivial, by rw [ht]; exact hP, va_K.moved hW.alike hK, hD⟩, hS.F ht⟩) hS.2.2 dX3_init_9 hlocks
