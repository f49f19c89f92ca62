def fX1_hasCell_19 (a1 : Int32) (a2 : Int32) : Option (Int32) := (if a1 < 0 then some 0 else (if 9 ≤ a1 then some 0 else (if a2 < 0 then some 0 else (if 10 ≤ a2 then some 0 else some 1))))
def fX1_cell_19 (S : w_S) (a1 : Int32) (a2 : Int32) : Option (Int64) := (fX1_hasCell_19 a1 a2).bind (fun r3 => (if r3 = 0 then some 0 else (if ¬ (((a1 * 10) + a2) < 0 ∨ 90 ≤ ((a1 * 10) + a2).toNatClampNeg) then some ((gB S 0) ((a1 * 10) + a2).toNatClampNeg) else none)))
def fX1_isSolvable_19_L5 (k : Option (Int32)) (S : w_S) : Nat → Int32 → Option (Int32)
  | 0, _ => none
  | n + 1, v1 => (if (gI S 13) ≤ v1 then k  else (fX1_cell_19 S v1 (gI S 14)).bind (fun r19 => (if r19 = 0 then fX1_isSolvable_19_L5 k S n (v1 + 1) else some 0)))
def fX1_isSolvable_19 (S : w_S)  : Option (Int32) := fX1_isSolvable_19_L5 (some 1) S 256 (gI S 15)
def fX1_write_19 (S : w_S) (a1 : Int32) (a2 : Int32) (a3 : Int64) : Option (w_S) := (fX1_hasCell_19 a1 a2).bind (fun r3 => (if r3 = 0 then some S else (if ¬ (((a1 * 10) + a2) < 0 ∨ 90 ≤ ((a1 * 10) + a2).toNatClampNeg) then some (sB S 0 (vp_updL (gB S 0) ((a1 * 10) + a2).toNatClampNeg a3)) else none)))
def fX1_sweep_19_L47 (p1 : Int32) (p2 : Int32) (p3 : Int64) (p5 : Int32) (p6 : Int64) : Nat → w_S → Int32 → Option (w_S)
  | 0, _, _ => none
  | n + 1, S, v8 => (if (gI S 14) < v8 then some S else (fX1_cell_19 S p5 v8).bind (fun r61 => (fX1_cell_19 S p1 v8).bind (fun r72 => (if ¬ (gL S 0) = 0 then (fX1_write_19 S p5 v8 (((r61 * p3) - (p6 * r72)) / (gL S 0))).bind (fun r91 => fX1_sweep_19_L47 p1 p2 p3 p5 p6 n r91 (v8 + 1)) else none))))
def fX1_sweep_19_L20 (p1 : Int32) (p2 : Int32) (p3 : Int64) : Nat → w_S → Int32 → Option (w_S)
  | 0, _, _ => none
  | n + 1, S, v5 => (if (gI S 13) ≤ v5 then some S else (if v5 = p1 then fX1_sweep_19_L20 p1 p2 p3 n S (v5 + 1) else (fX1_cell_19 S v5 p2).bind (fun r39 => (fX1_sweep_19_L47 p1 p2 p3 v5 r39 256 S 0).bind (fun q47 => fX1_sweep_19_L20 p1 p2 p3 n q47 (v5 + 1)))))
def fX1_sweep_19 (S : w_S) (a1 : Int32) (a2 : Int32) : Option (w_S) := (if (gL S 0) = 0 then some S else (fX1_cell_19 S a1 a2).bind (fun r13 => (fX1_sweep_19_L20 a1 a2 r13 256 S 0).bind (fun q20 => some q20)))
abbrev rm_X1_hasCell : Room := { frames := 0, cells := 0, slots := 0, locals := 0 }
theorem hdX1_hasCell : yX1_hasCell.cls = RX1 ∧ yX1_hasCell.cls ≠ "java/lang/invoke/MethodHandle" ∧ yX1_hasCell.cls ≠ "java/lang/invoke/VarHandle" ∧ (parseMethodDescriptor yX1_hasCell.desc).map (fun d => d.parameters.length) = some 2 := by decide +kernel
abbrev rm_X1_cell : Room := { frames := 1, cells := 0, slots := 0, locals := 22 }
theorem hdX1_cell : yX1_cell.cls = RX1 ∧ yX1_cell.cls ≠ "java/lang/invoke/MethodHandle" ∧ yX1_cell.cls ≠ "java/lang/invoke/VarHandle" ∧ (parseMethodDescriptor yX1_cell.desc).map (fun d => d.parameters.length) = some 2 := by decide +kernel
abbrev rm_X1_isSolvable : Room := { frames := 2, cells := 0, slots := 0, locals := 44 }
theorem hdX1_isSolvable : yX1_isSolvable.cls = RX1 ∧ yX1_isSolvable.cls ≠ "java/lang/invoke/MethodHandle" ∧ yX1_isSolvable.cls ≠ "java/lang/invoke/VarHandle" ∧ (parseMethodDescriptor yX1_isSolvable.desc).map (fun d => d.parameters.length) = some 0 := by decide +kernel
abbrev rm_X1_write : Room := { frames := 1, cells := 0, slots := 0, locals := 22 }
theorem hdX1_write : yX1_write.cls = RX1 ∧ yX1_write.cls ≠ "java/lang/invoke/MethodHandle" ∧ yX1_write.cls ≠ "java/lang/invoke/VarHandle" ∧ (parseMethodDescriptor yX1_write.desc).map (fun d => d.parameters.length) = some 3 := by decide +kernel
abbrev rm_X1_sweep : Room := { frames := 2, cells := 0, slots := 0, locals := 46 }
theorem hdX1_sweep : yX1_sweep.cls = RX1 ∧ yX1_sweep.cls ≠ "java/lang/invoke/MethodHandle" ∧ yX1_sweep.cls ≠ "java/lang/invoke/VarHandle" ∧ (parseMethodDescriptor yX1_sweep.desc).map (fun d => d.parameters.length) = some 2 := by decide +kernel
set_option maxRecDepth 20000 in
theorem in_X1_cell_1 : ∀ w ∈ wsX10, w ∈ wsX1_cell := in_of [7, 8, 9, 10, 11, 12, 13] (by decide +kernel)
set_option maxRecDepth 20000 in
theorem in_X1_isSolvable_1 : ∀ w ∈ wsX10, w ∈ wsX1_isSolvable := in_of [14, 15, 16, 17, 18, 19, 20] (by decide +kernel)
set_option maxRecDepth 20000 in
theorem in_X1_write_1 : ∀ w ∈ wsX10, w ∈ wsX1_write := in_of [7, 8, 9, 10, 11, 12, 13] (by decide +kernel)
set_option maxRecDepth 20000 in
theorem in_X1_sweep_1 : ∀ w ∈ wsX10, w ∈ wsX1_sweep := in_of [18, 19, 20, 21, 22, 23, 24] (by decide +kernel)
set_option maxHeartbeats 4000000 in
set_option maxRecDepth 100000 in
theorem cX1_hasCell_19 (l : Launch) (D : va_G) (A : Nat → Nat) (B : Nat → ClassId) (sz : Nat) (S : w_S) (a1 : Int32) (a2 : Int32) (z : Int32) (hf : fX1_hasCell_19 a1 a2 = some z) : MetW l yX1_hasCell wsX1_hasCell rm_X1_hasCell [.ref (A 19), .int a1, .int a2] D (tyB B) (wX A B S) (wX A B S) sz (some (.int z)) := by
  refine MetW.mkZ (cc := cX1_hasCell) (maxL := 3) (by decide) rfl (Nat.le_of_ble_eq_true rfl) ?_
  intro p e s m args below meth c Ad Q hx hb hts hown hml hN hK hA hR H locs ls hP hD hS hl
  have hl : lv_has ls 3 [(0, .ref (A 19)), (1, .int a1), (2, .int a2)] := hl
  rw [fX1_hasCell_19] at hf
  refine lv_iload_n (pc := 0) hx hb dX1_hasCell_0 rfl (lv_at hl 1 rfl) ?_
  refine lv_if_lt (pc := 1) hx hb (tgt := 24) dX1_hasCell_1 (by decide) (fun c_1 => ?_) (fun c_1 => ?_)
  · have hf := hf_t c_1 hf
    refine lv_iconst (pc := 24) hx hb (v := 0) dX1_hasCell_24 (by decide) ?_
    cases hf
    exact hR H locs 25 ls hP hD hS rfl dX1_hasCell_25
  · have hf := hf_f c_1 hf
    refine lv_iload_n (pc := 4) hx hb dX1_hasCell_4 rfl (lv_at hl 1 rfl) ?_
    refine lv_bipush (pc := 5) hx hb (v := 9) dX1_hasCell_5 (by decide) ?_
    refine lv_icmp_ge (pc := 7) hx hb (tgt := 24) dX1_hasCell_7 (by decide) (fun c_7 => ?_) (fun c_7 => ?_)
    · have hf := hf_t c_7 hf
      refine lv_iconst (pc := 24) hx hb (v := 0) dX1_hasCell_24 (by decide) ?_
      cases hf
      exact hR H locs 25 ls hP hD hS rfl dX1_hasCell_25
    · have hf := hf_f c_7 hf
      refine lv_iload_n (pc := 10) hx hb dX1_hasCell_10 rfl (lv_at hl 2 rfl) ?_
      refine lv_if_lt (pc := 11) hx hb (tgt := 24) dX1_hasCell_11 (by decide) (fun c_11 => ?_) (fun c_11 => ?_)
      · have hf := hf_t c_11 hf
        refine lv_iconst (pc := 24) hx hb (v := 0) dX1_hasCell_24 (by decide) ?_
        cases hf
        exact hR H locs 25 ls hP hD hS rfl dX1_hasCell_25
      · have hf := hf_f c_11 hf
        refine lv_iload_n (pc := 14) hx hb dX1_hasCell_14 rfl (lv_at hl 2 rfl) ?_
        refine lv_bipush (pc := 15) hx hb (v := 10) dX1_hasCell_15 (by decide) ?_
        refine lv_icmp_ge (pc := 17) hx hb (tgt := 24) dX1_hasCell_17 (by decide) (fun c_17 => ?_) (fun c_17 => ?_)
        · have hf := hf_t c_17 hf
          refine lv_iconst (pc := 24) hx hb (v := 0) dX1_hasCell_24 (by decide) ?_
          cases hf
          exact hR H locs 25 ls hP hD hS rfl dX1_hasCell_25
        · have hf := hf_f c_17 hf
          refine lv_iconst (pc := 20) hx hb (v := 1) dX1_hasCell_20 (by decide) ?_
          refine lv_goto (pc := 21) hx hb (tgt := 25) dX1_hasCell_21 (by decide) ?_
          cases hf
          exact hR H locs 25 ls hP hD hS rfl dX1_hasCell_25
set_option maxHeartbeats 4000000 in
set_option maxRecDepth 100000 in
theorem cX1_cell_19 (l : Launch) (D : va_G) (A : Nat → Nat) (B : Nat → ClassId) (sz : Nat) (S : w_S) (a1 : Int32) (a2 : Int32) (z : Int64) (hf : fX1_cell_19 S a1 a2 = some z) : MetW l yX1_cell wsX1_cell rm_X1_cell [.ref (A 19), .int a1, .int a2] D (tyB B) (wX A B S) (wX A B S) sz (some (.long z)) := by
  refine MetW.mkL (cc := cX1_cell) (maxL := 3) (by decide) rfl (Nat.le_of_ble_eq_true rfl) ?_
  intro p e s m args below meth c Ad Q hx hb hts hown hml hN hK hA hR H locs ls hP hD hS hl
  have hl : lv_has ls 3 [(0, .ref (A 19)), (1, .int a1), (2, .int a2)] := hl
  rw [fX1_cell_19] at hf
  refine lv_aload_n (pc := 0) hx hb dX1_cell_0 rfl (lv_at hl 0 rfl) ?_
  refine lv_iload_n (pc := 1) hx hb dX1_cell_1 rfl (lv_at hl 1 rfl) ?_
  refine lv_iload_n (pc := 2) hx hb dX1_cell_2 rfl (lv_at hl 2 rfl) ?_
  obtain ⟨r3, hc3, hf⟩ := hf_b hf
  refine cl_V (pc := 3) (As := [.int a1, .int a2]) (rest := []) hx hb hml hown hts (cX1_hasCell_19 l D A B _ S a1 a2 r3 hc3) (cwV 2 hts gX1_cell_X1_hasCell rfl rfl rfl hdX1_hasCell ⟨Nat.le_of_ble_eq_true rfl, Nat.le_of_ble_eq_true rfl⟩) hN hK hP hD hS hA (va_recv hK hP (ci := 1) (q0 := 19) rfl (eX_19 A B _)) rfl hl.1 rfl (Nat.le_of_ble_eq_true rfl) dX1_cell_3 (st1 := [.int r3]) rfl ⟨Nat.zero_le _, Nat.zero_le _⟩ (fun H locs hP hD hS => ?_)
  refine lv_if_eq (pc := 6) hx hb (tgt := 23) dX1_cell_6 (by decide) (fun c_6 => ?_) (fun c_6 => ?_)
  · have hf := hf_t c_6 hf
    refine lv_lconst (pc := 23) hx hb (v := 0) dX1_cell_23 (by decide) ?_
    cases hf
    exact hR H locs 24 ls hP hD hS dX1_cell_24
  · have hf := hf_f c_6 hf
    refine lv_aload_n (pc := 9) hx hb dX1_cell_9 rfl (lv_at hl 0 rfl) ?_
    refine vXgRX1_15_19 (pc := 10) hx hb hts (List.mem_of_getElem? (i := 1) rfl) in_X1_cell_1 hown hK hP dX1_cell_10 ?_
    refine lv_iload_n (pc := 13) hx hb dX1_cell_13 rfl (lv_at hl 1 rfl) ?_
    refine lv_bipush (pc := 14) hx hb (v := 10) dX1_cell_14 (by decide) ?_
    refine lv_imul (pc := 16) hx hb dX1_cell_16 ?_
    refine lv_iload_n (pc := 17) hx hb dX1_cell_17 rfl (lv_at hl 2 rfl) ?_
    refine lv_iadd (pc := 18) hx hb dX1_cell_18 ?_
    obtain ⟨hg19, hf⟩ := hf_g hf
    refine vXra_20 (pc := 19) hx hb hK hP (f := (gB S 0)) rfl hg19 dX1_cell_19 ?_
    refine lv_goto (pc := 20) hx hb (tgt := 24) dX1_cell_20 (by decide) ?_
    cases hf
    exact hR H locs 24 ls hP hD hS dX1_cell_24
set_option maxHeartbeats 4000000 in
set_option maxRecDepth 100000 in
theorem cX1_isSolvable_19 (l : Launch) (D : va_G) (A : Nat → Nat) (B : Nat → ClassId) (sz : Nat) (S : w_S) (z : Int32) (hf : fX1_isSolvable_19 S = some z) : MetW l yX1_isSolvable wsX1_isSolvable rm_X1_isSolvable [.ref (A 19)] D (tyB B) (wX A B S) (wX A B S) sz (some (.int z)) := by
  refine MetW.mkZ (cc := cX1_isSolvable) (maxL := 2) (by decide) rfl (Nat.le_of_ble_eq_true rfl) ?_
  intro p e s m args below meth c Ad Q hx hb hts hown hml hN hK hA hR H locs ls hP hD hS hl
  have hl : lv_has ls 2 [(0, .ref (A 19))] := hl
  rw [fX1_isSolvable_19] at hf
  refine lv_aload_n (pc := 0) hx hb dX1_isSolvable_0 rfl (lv_at hl 0 rfl) ?_
  refine vXgRX1_61_19 (pc := 1) hx hb hts (List.mem_of_getElem? (i := 1) rfl) in_X1_isSolvable_1 hown hK hP (x := (gI S 15)) rfl dX1_isSolvable_1 ?_
  refine lv_istore_n (pc := 4) hx hb (lv' := [(1, .int (gI S 15)), (0, .ref (A 19))]) dX1_isSolvable_4 rfl hl (by decide) rfl (fun ls hl => ?_)
  have hk5 : ∀  (H : Heap) (locs : List Loc) (ls : Array Slot), some 1 = some z → va_P D vwCl (wX A B S) H → va_D Ad (wX A B S) → va_S Ad s.heap H locs → lv_has ls 2 [] → W p l e rm_X1_isSolvable s m args below meth c H locs 0 0 Q (F0 m 35 ls []) := by
    intro  H locs ls hf hP hD hS hl
    refine lv_iconst (pc := 35) hx hb (v := 1) dX1_isSolvable_35 (by decide) ?_
    cases hf
    exact hR H locs 36 ls hP hD hS rfl dX1_isSolvable_36
  have lp5 : ∀ (n : Nat) (u1_5 : Int32) (H : Heap) (locs : List Loc) (ls : Array Slot), fX1_isSolvable_19_L5 (some 1) S n u1_5 = some z → va_P D vwCl (wX A B S) H → va_D Ad (wX A B S) → va_S Ad s.heap H locs → lv_has ls 2 [(0, .ref (A 19)), (1, .int u1_5)] → W p l e rm_X1_isSolvable s m args below meth c H locs 0 0 Q (F0 m 5 ls []) := by
    intro n
    induction n with
    | zero => intro u1_5 H locs ls hf; exact hf_0 hf
    | succ n ih =>
      intro u1_5 H locs ls hf hP hD hS hl
      rw [fX1_isSolvable_19_L5] at hf
      refine lv_iload_n (pc := 5) hx hb dX1_isSolvable_5 rfl (lv_at hl 1 rfl) ?_
      refine lv_aload_n (pc := 6) hx hb dX1_isSolvable_6 rfl (lv_at hl 0 rfl) ?_
      refine vXgRX1_32_19 (pc := 7) hx hb hts (List.mem_of_getElem? (i := 2) rfl) in_X1_isSolvable_1 hown hK hP (x := (gI S 13)) rfl dX1_isSolvable_7 ?_
      refine lv_icmp_ge (pc := 10) hx hb (tgt := 35) dX1_isSolvable_10 (by decide) (fun c_10 => ?_) (fun c_10 => ?_)
      · have hf := hf_t c_10 hf
        exact hk5  H locs ls hf hP hD hS (lv_sub hl [] rfl)
      · have hf := hf_f c_10 hf
        refine lv_aload_n (pc := 13) hx hb dX1_isSolvable_13 rfl (lv_at hl 0 rfl) ?_
        refine lv_iload_n (pc := 14) hx hb dX1_isSolvable_14 rfl (lv_at hl 1 rfl) ?_
        refine lv_aload_n (pc := 15) hx hb dX1_isSolvable_15 rfl (lv_at hl 0 rfl) ?_
        refine vXgRX1_36_19 (pc := 16) hx hb hts (List.mem_of_getElem? (i := 3) rfl) in_X1_isSolvable_1 hown hK hP (x := (gI S 14)) rfl dX1_isSolvable_16 ?_
        obtain ⟨r19, hc19, hf⟩ := hf_b hf
        refine cl_V (pc := 19) (As := [.int u1_5, .int (gI S 14)]) (rest := []) hx hb hml hown hts (cX1_cell_19 l D A B _ S u1_5 (gI S 14) r19 hc19) (cwV 2 hts gX1_isSolvable_X1_cell rfl rfl rfl hdX1_cell ⟨Nat.le_of_ble_eq_true rfl, Nat.le_of_ble_eq_true rfl⟩) hN hK hP hD hS hA (va_recv hK hP (ci := 1) (q0 := 19) rfl (eX_19 A B _)) rfl hl.1 rfl (Nat.le_of_ble_eq_true rfl) dX1_isSolvable_19 (st1 := [.long r19]) rfl ⟨Nat.zero_le _, Nat.zero_le _⟩ (fun H locs hP hD hS => ?_)
        refine lv_lconst (pc := 22) hx hb (v := 0) dX1_isSolvable_22 (by decide) ?_
        refine W.lcmp (pc := 23) hx hb dX1_isSolvable_23 ?_
        refine lv_if_eq (pc := 24) hx hb (tgt := 29) dX1_isSolvable_24 (by decide) (fun c_24 => ?_) (fun c_24 => ?_)
        · have c_24 := lg_eq0.mp c_24
          have hf := hf_t c_24 hf
          refine lv_iinc (pc := 29) hx hb (v := u1_5 + 1) (lv' := [(1, .int (u1_5 + 1)), (0, .ref (A 19))]) dX1_isSolvable_29 hl (k := 1) rfl rfl (by decide) rfl (fun ls hl => ?_)
          refine lv_goto (pc := 32) hx hb (tgt := 5) dX1_isSolvable_32 (by decide) ?_
          exact ih (u1_5 + 1) H locs ls hf hP hD hS (lv_sub hl [1, 0] rfl)
        · have c_24 := fun h9 => c_24 (lg_eq0.mpr h9)
          have hf := hf_f c_24 hf
          refine lv_iconst (pc := 27) hx hb (v := 0) dX1_isSolvable_27 (by decide) ?_
          cases hf
          exact hR H locs 28 ls hP hD hS rfl dX1_isSolvable_28
  exact lp5 256 (gI S 15) H locs ls hf hP hD hS (lv_sub hl [1, 0] rfl)
set_option maxHeartbeats 4000000 in
set_option maxRecDepth 100000 in
theorem cX1_write_19 (l : Launch) (D : va_G) (A : Nat → Nat) (B : Nat → ClassId) (sz : Nat) (S : w_S) (a1 : Int32) (a2 : Int32) (a3 : Int64) (z : w_S) (hf : fX1_write_19 S a1 a2 a3 = some z) : MetW l yX1_write wsX1_write rm_X1_write [.ref (A 19), .int a1, .int a2, .long a3] D (tyB B) (wX A B S) (wX A B z) sz (none) := by
  refine MetW.mkV (cc := cX1_write) (maxL := 5) (by decide) rfl (Nat.le_of_ble_eq_true rfl) ?_
  intro p e s m args below meth c Ad Q hx hb hts hown hml hN hK hA hR H locs ls hP hD hS hl
  have hl : lv_has ls 5 [(0, .ref (A 19)), (1, .int a1), (2, .int a2), (3, .long a3)] := hl
  rw [fX1_write_19] at hf
  refine lv_aload_n (pc := 0) hx hb dX1_write_0 rfl (lv_at hl 0 rfl) ?_
  refine lv_iload_n (pc := 1) hx hb dX1_write_1 rfl (lv_at hl 1 rfl) ?_
  refine lv_iload_n (pc := 2) hx hb dX1_write_2 rfl (lv_at hl 2 rfl) ?_
  obtain ⟨r3, hc3, hf⟩ := hf_b hf
  refine cl_V (pc := 3) (As := [.int a1, .int a2]) (rest := []) hx hb hml hown hts (cX1_hasCell_19 l D A B _ S a1 a2 r3 hc3) (cwV 2 hts gX1_write_X1_hasCell rfl rfl rfl hdX1_hasCell ⟨Nat.le_of_ble_eq_true rfl, Nat.le_of_ble_eq_true rfl⟩) hN hK hP hD hS hA (va_recv hK hP (ci := 1) (q0 := 19) rfl (eX_19 A B _)) rfl hl.1 rfl (Nat.le_of_ble_eq_true rfl) dX1_write_3 (st1 := [.int r3]) rfl ⟨Nat.zero_le _, Nat.zero_le _⟩ (fun H locs hP hD hS => ?_)
  refine lv_if_eq (pc := 6) hx hb (tgt := 21) dX1_write_6 (by decide) (fun c_6 => ?_) (fun c_6 => ?_)
  · have hf := hf_t c_6 hf
    cases hf
    exact hR H locs 21 ls hP hD hS dX1_write_21
  · have hf := hf_f c_6 hf
    refine lv_aload_n (pc := 9) hx hb dX1_write_9 rfl (lv_at hl 0 rfl) ?_
    refine vXgRX1_15_19 (pc := 10) hx hb hts (List.mem_of_getElem? (i := 1) rfl) in_X1_write_1 hown hK hP dX1_write_10 ?_
    refine lv_iload_n (pc := 13) hx hb dX1_write_13 rfl (lv_at hl 1 rfl) ?_
    refine lv_bipush (pc := 14) hx hb (v := 10) dX1_write_14 (by decide) ?_
    refine lv_imul (pc := 16) hx hb dX1_write_16 ?_
    refine lv_iload_n (pc := 17) hx hb dX1_write_17 rfl (lv_at hl 2 rfl) ?_
    refine lv_iadd (pc := 18) hx hb dX1_write_18 ?_
    refine lv_lload_n (pc := 19) hx hb dX1_write_19 rfl (lv_at hl 3 rfl) ?_
    obtain ⟨hg20, hf⟩ := hf_g hf
    refine vXwa_20 (pc := 20) hx hb hK hP hD hS (f := (gB S 0)) rfl hg20 dX1_write_20 (fun H locs hP hD hS => ?_)
    cases hf
    exact hR H locs 21 ls hP hD hS dX1_write_21
set_option maxHeartbeats 4000000 in
set_option maxRecDepth 100000 in
theorem cX1_sweep_19 (l : Launch) (D : va_G) (A : Nat → Nat) (B : Nat → ClassId) (sz : Nat) (S : w_S) (a1 : Int32) (a2 : Int32) (z : w_S) (hf : fX1_sweep_19 S a1 a2 = some z) : MetW l yX1_sweep wsX1_sweep rm_X1_sweep [.ref (A 19), .int a1, .int a2] D (tyB B) (wX A B S) (wX A B z) sz (none) := by
  refine MetW.mkV (cc := cX1_sweep) (maxL := 11) (by decide) rfl (Nat.le_of_ble_eq_true rfl) ?_
  intro p e s m args below meth c Ad Q hx hb hts hown hml hN hK hA hR H locs ls hP hD hS hl
  have hl : lv_has ls 11 [(0, .ref (A 19)), (1, .int a1), (2, .int a2)] := hl
  rw [fX1_sweep_19] at hf
  refine lv_aload_n (pc := 0) hx hb dX1_sweep_0 rfl (lv_at hl 0 rfl) ?_
  refine vXgRX1_9_19 (pc := 1) hx hb hts (List.mem_of_getElem? (i := 1) rfl) in_X1_sweep_1 hown hK hP (x := (gL S 0)) rfl dX1_sweep_1 ?_
  refine lv_lconst (pc := 4) hx hb (v := 0) dX1_sweep_4 (by decide) ?_
  refine W.lcmp (pc := 5) hx hb dX1_sweep_5 ?_
  refine lv_if_ne (pc := 6) hx hb (tgt := 10) dX1_sweep_6 (by decide) (fun c_6 => ?_) (fun c_6 => ?_)
  · have c_6 := fun h9 => c_6 (lg_eq0.mpr h9)
    have hf := hf_f c_6 hf
    refine lv_aload_n (pc := 10) hx hb dX1_sweep_10 rfl (lv_at hl 0 rfl) ?_
    refine lv_iload_n (pc := 11) hx hb dX1_sweep_11 rfl (lv_at hl 1 rfl) ?_
    refine lv_iload_n (pc := 12) hx hb dX1_sweep_12 rfl (lv_at hl 2 rfl) ?_
    obtain ⟨r13, hc13, hf⟩ := hf_b hf
    refine cl_V (pc := 13) (As := [.int a1, .int a2]) (rest := []) hx hb hml hown hts (cX1_cell_19 l D A B _ S a1 a2 r13 hc13) (cwV 2 hts gX1_sweep_X1_cell rfl rfl rfl hdX1_cell ⟨Nat.le_of_ble_eq_true rfl, Nat.le_of_ble_eq_true rfl⟩) hN hK hP hD hS hA (va_recv hK hP (ci := 1) (q0 := 19) rfl (eX_19 A B _)) rfl hl.1 rfl (Nat.le_of_ble_eq_true rfl) dX1_sweep_13 (st1 := [.long r13]) rfl ⟨Nat.zero_le _, Nat.zero_le _⟩ (fun H locs hP hD hS => ?_)
    refine lv_lstore_n (pc := 16) hx hb (lv' := [(3, .long r13), (0, .ref (A 19)), (1, .int a1), (2, .int a2)]) dX1_sweep_16 rfl hl (by decide) rfl (fun ls hl => ?_)
    refine lv_iconst (pc := 17) hx hb (v := 0) dX1_sweep_17 (by decide) ?_
    refine lv_istore (pc := 18) hx hb (lv' := [(5, .int 0), (3, .long r13), (0, .ref (A 19)), (1, .int a1), (2, .int a2)]) dX1_sweep_18 hl (by decide) rfl (fun ls hl => ?_)
    obtain ⟨q20, hq20, hf⟩ := hf_b hf
    have hk20 : ∀ (H : Heap) (locs : List Loc) (ls : Array Slot), va_P D vwCl (wX A B q20) H → va_D Ad (wX A B q20) → va_S Ad s.heap H locs → lv_has ls 11 [] → W p l e rm_X1_sweep s m args below meth c H locs 0 0 Q (F0 m 106 ls []) := by
      intro H locs ls hP hD hS hl
      cases hf
      exact hR H locs 106 ls hP hD hS dX1_sweep_106
    have lp20 : ∀ (n : Nat) (T20 : w_S) (u5_20 : Int32) (H : Heap) (locs : List Loc) (ls : Array Slot), fX1_sweep_19_L20 a1 a2 r13 n T20 u5_20 = some q20 → va_P D vwCl (wX A B T20) H → va_D Ad (wX A B T20) → va_S Ad s.heap H locs → lv_has ls 11 [(0, .ref (A 19)), (1, .int a1), (2, .int a2), (3, .long r13), (5, .int u5_20)] → W p l e rm_X1_sweep s m args below meth c H locs 0 0 Q (F0 m 20 ls []) := by
      intro n
      induction n with
      | zero => intro T20 u5_20 H locs ls hq20; exact hf_0 hq20
      | succ n ih =>
        intro T20 u5_20 H locs ls hq20 hP hD hS hl
        rw [fX1_sweep_19_L20] at hq20
        refine lv_iload (pc := 20) hx hb dX1_sweep_20 (lv_at hl 4 rfl) ?_
        refine lv_aload_n (pc := 22) hx hb dX1_sweep_22 rfl (lv_at hl 0 rfl) ?_
        refine vXgRX1_32_19 (pc := 23) hx hb hts (List.mem_of_getElem? (i := 2) rfl) in_X1_sweep_1 hown hK hP (x := (gI T20 13)) rfl dX1_sweep_23 ?_
        refine lv_icmp_ge (pc := 26) hx hb (tgt := 106) dX1_sweep_26 (by decide) (fun c_26 => ?_) (fun c_26 => ?_)
        · have hq20 := hf_t c_26 hq20
          cases hq20
          exact hk20 H locs ls hP hD hS (lv_sub hl [] rfl)
        · have hq20 := hf_f c_26 hq20
          refine lv_iload (pc := 29) hx hb dX1_sweep_29 (lv_at hl 4 rfl) ?_
          refine lv_iload_n (pc := 31) hx hb dX1_sweep_31 rfl (lv_at hl 1 rfl) ?_
          refine lv_icmp_eq (pc := 32) hx hb (tgt := 100) dX1_sweep_32 (by decide) (fun c_32 => ?_) (fun c_32 => ?_)
          · have hq20 := hf_t c_32 hq20
            refine lv_iinc (pc := 100) hx hb (v := u5_20 + 1) (lv' := [(5, .int (u5_20 + 1)), (0, .ref (A 19)), (1, .int a1), (2, .int a2), (3, .long r13)]) dX1_sweep_100 hl (k := 4) rfl rfl (by decide) rfl (fun ls hl => ?_)
            refine lv_goto (pc := 103) hx hb (tgt := 20) dX1_sweep_103 (by decide) ?_
            exact ih T20 (u5_20 + 1) H locs ls hq20 hP hD hS (lv_sub hl [1, 2, 3, 4, 0] rfl)
          · have hq20 := hf_f c_32 hq20
            refine lv_aload_n (pc := 35) hx hb dX1_sweep_35 rfl (lv_at hl 0 rfl) ?_
            refine lv_iload (pc := 36) hx hb dX1_sweep_36 (lv_at hl 4 rfl) ?_
            refine lv_iload_n (pc := 38) hx hb dX1_sweep_38 rfl (lv_at hl 2 rfl) ?_
            obtain ⟨r39, hc39, hq20⟩ := hf_b hq20
            refine cl_V (pc := 39) (As := [.int u5_20, .int a2]) (rest := []) hx hb hml hown hts (cX1_cell_19 l D A B _ T20 u5_20 a2 r39 hc39) (cwV 2 hts gX1_sweep_X1_cell rfl rfl rfl hdX1_cell ⟨Nat.le_of_ble_eq_true rfl, Nat.le_of_ble_eq_true rfl⟩) hN hK hP hD hS hA (va_recv hK hP (ci := 1) (q0 := 19) rfl (eX_19 A B _)) rfl hl.1 rfl (Nat.le_of_ble_eq_true rfl) dX1_sweep_39 (st1 := [.long r39]) rfl ⟨Nat.zero_le _, Nat.zero_le _⟩ (fun H locs hP hD hS => ?_)
            refine lv_lstore (pc := 42) hx hb (lv' := [(6, .long r39), (0, .ref (A 19)), (1, .int a1), (2, .int a2), (3, .long r13), (5, .int u5_20)]) dX1_sweep_42 hl (by decide) rfl (fun ls hl => ?_)
            refine lv_iconst (pc := 44) hx hb (v := 0) dX1_sweep_44 (by decide) ?_
            refine lv_istore (pc := 45) hx hb (lv' := [(8, .int 0), (6, .long r39), (0, .ref (A 19)), (1, .int a1), (2, .int a2), (3, .long r13), (5, .int u5_20)]) dX1_sweep_45 hl (by decide) rfl (fun ls hl => ?_)
            obtain ⟨q47, hq47, hq20⟩ := hf_b hq20
            have hk47 : ∀ (H : Heap) (locs : List Loc) (ls : Array Slot), va_P D vwCl (wX A B q47) H → va_D Ad (wX A B q47) → va_S Ad s.heap H locs → lv_has ls 11 [(0, .ref (A 19)), (1, .int a1), (2, .int a2), (3, .long r13), (5, .int u5_20)] → W p l e rm_X1_sweep s m args below meth c H locs 0 0 Q (F0 m 100 ls []) := by
              intro H locs ls hP hD hS hl
              refine lv_iinc (pc := 100) hx hb (v := u5_20 + 1) (lv' := [(5, .int (u5_20 + 1)), (0, .ref (A 19)), (1, .int a1), (2, .int a2), (3, .long r13)]) dX1_sweep_100 hl (k := 4) rfl rfl (by decide) rfl (fun ls hl => ?_)
              refine lv_goto (pc := 103) hx hb (tgt := 20) dX1_sweep_103 (by decide) ?_
              exact ih q47 (u5_20 + 1) H locs ls hq20 hP hD hS (lv_sub hl [1, 2, 3, 4, 0] rfl)
            have lp47 : ∀ (n : Nat) (T47 : w_S) (u8_47 : Int32) (H : Heap) (locs : List Loc) (ls : Array Slot), fX1_sweep_19_L47 a1 a2 r13 u5_20 r39 n T47 u8_47 = some q47 → va_P D vwCl (wX A B T47) H → va_D Ad (wX A B T47) → va_S Ad s.heap H locs → lv_has ls 11 [(0, .ref (A 19)), (1, .int a1), (2, .int a2), (3, .long r13), (5, .int u5_20), (6, .long r39), (8, .int u8_47)] → W p l e rm_X1_sweep s m args below meth c H locs 0 0 Q (F0 m 47 ls []) := by
              intro n
              induction n with
              | zero => intro T47 u8_47 H locs ls hq47; exact hf_0 hq47
              | succ n ih =>
                intro T47 u8_47 H locs ls hq47 hP hD hS hl
                rw [fX1_sweep_19_L47] at hq47
                refine lv_iload (pc := 47) hx hb dX1_sweep_47 (lv_at hl 6 rfl) ?_
                refine lv_aload_n (pc := 49) hx hb dX1_sweep_49 rfl (lv_at hl 0 rfl) ?_
                refine vXgRX1_36_19 (pc := 50) hx hb hts (List.mem_of_getElem? (i := 3) rfl) in_X1_sweep_1 hown hK hP (x := (gI T47 14)) rfl dX1_sweep_50 ?_
                refine lv_icmp_gt (pc := 53) hx hb (tgt := 100) dX1_sweep_53 (by decide) (fun c_53 => ?_) (fun c_53 => ?_)
                · have hq47 := hf_t c_53 hq47
                  cases hq47
                  exact hk47 H locs ls hP hD hS (lv_sub hl [0, 1, 2, 3, 4] rfl)
                · have hq47 := hf_f c_53 hq47
                  refine lv_aload_n (pc := 56) hx hb dX1_sweep_56 rfl (lv_at hl 0 rfl) ?_
                  refine lv_iload (pc := 57) hx hb dX1_sweep_57 (lv_at hl 4 rfl) ?_
                  refine lv_iload (pc := 59) hx hb dX1_sweep_59 (lv_at hl 6 rfl) ?_
                  obtain ⟨r61, hc61, hq47⟩ := hf_b hq47
                  refine cl_V (pc := 61) (As := [.int u5_20, .int u8_47]) (rest := []) hx hb hml hown hts (cX1_cell_19 l D A B _ T47 u5_20 u8_47 r61 hc61) (cwV 2 hts gX1_sweep_X1_cell rfl rfl rfl hdX1_cell ⟨Nat.le_of_ble_eq_true rfl, Nat.le_of_ble_eq_true rfl⟩) hN hK hP hD hS hA (va_recv hK hP (ci := 1) (q0 := 19) rfl (eX_19 A B _)) rfl hl.1 rfl (Nat.le_of_ble_eq_true rfl) dX1_sweep_61 (st1 := [.long r61]) rfl ⟨Nat.zero_le _, Nat.zero_le _⟩ (fun H locs hP hD hS => ?_)
                  refine lv_lload_n (pc := 64) hx hb dX1_sweep_64 rfl (lv_at hl 3 rfl) ?_
                  refine lv_lmul (pc := 65) hx hb dX1_sweep_65 ?_
                  refine lv_lload (pc := 66) hx hb dX1_sweep_66 (lv_at hl 5 rfl) ?_
                  refine lv_aload_n (pc := 68) hx hb dX1_sweep_68 rfl (lv_at hl 0 rfl) ?_
                  refine lv_iload_n (pc := 69) hx hb dX1_sweep_69 rfl (lv_at hl 1 rfl) ?_
                  refine lv_iload (pc := 70) hx hb dX1_sweep_70 (lv_at hl 6 rfl) ?_
                  obtain ⟨r72, hc72, hq47⟩ := hf_b hq47
                  refine cl_V (pc := 72) (As := [.int a1, .int u8_47]) (rest := [.long r39, .long (r61 * r13)]) hx hb hml hown hts (cX1_cell_19 l D A B _ T47 a1 u8_47 r72 hc72) (cwV 2 hts gX1_sweep_X1_cell rfl rfl rfl hdX1_cell ⟨Nat.le_of_ble_eq_true rfl, Nat.le_of_ble_eq_true rfl⟩) hN hK hP hD hS hA (va_recv hK hP (ci := 1) (q0 := 19) rfl (eX_19 A B _)) rfl hl.1 rfl (Nat.le_of_ble_eq_true rfl) dX1_sweep_72 (st1 := [.long r72, .long r39, .long (r61 * r13)]) rfl ⟨Nat.zero_le _, Nat.zero_le _⟩ (fun H locs hP hD hS => ?_)
                  refine lv_lmul (pc := 75) hx hb dX1_sweep_75 ?_
                  refine lv_lsub (pc := 76) hx hb dX1_sweep_76 ?_
                  refine lv_lstore (pc := 77) hx hb (lv' := [(9, .long ((r61 * r13) - (r39 * r72))), (0, .ref (A 19)), (1, .int a1), (2, .int a2), (3, .long r13), (5, .int u5_20), (6, .long r39), (8, .int u8_47)]) dX1_sweep_77 hl (by decide) rfl (fun ls hl => ?_)
                  refine lv_aload_n (pc := 79) hx hb dX1_sweep_79 rfl (lv_at hl 1 rfl) ?_
                  refine lv_iload (pc := 80) hx hb dX1_sweep_80 (lv_at hl 5 rfl) ?_
                  refine lv_iload (pc := 82) hx hb dX1_sweep_82 (lv_at hl 7 rfl) ?_
                  refine lv_lload (pc := 84) hx hb dX1_sweep_84 (lv_at hl 0 rfl) ?_
                  refine lv_aload_n (pc := 86) hx hb dX1_sweep_86 rfl (lv_at hl 1 rfl) ?_
                  refine vXgRX1_9_19 (pc := 87) hx hb hts (List.mem_of_getElem? (i := 1) rfl) in_X1_sweep_1 hown hK hP (x := (gL T47 0)) rfl dX1_sweep_87 ?_
                  obtain ⟨hg90, hq47⟩ := hf_g hq47
                  refine lv_ldiv (pc := 90) hx hb dX1_sweep_90 hg90 ?_
                  obtain ⟨r91, hc91, hq47⟩ := hf_b hq47
                  refine cl_V (pc := 91) (As := [.int u5_20, .int u8_47, .long (((r61 * r13) - (r39 * r72)) / (gL T47 0))]) (rest := []) hx hb hml hown hts (cX1_write_19 l D A B _ T47 u5_20 u8_47 (((r61 * r13) - (r39 * r72)) / (gL T47 0)) r91 hc91) (cwV 3 hts gX1_sweep_X1_write rfl rfl rfl hdX1_write ⟨Nat.le_of_ble_eq_true rfl, Nat.le_of_ble_eq_true rfl⟩) hN hK hP hD hS hA (va_recv hK hP (ci := 1) (q0 := 19) rfl (eX_19 A B _)) rfl hl.1 rfl (Nat.le_of_ble_eq_true rfl) dX1_sweep_91 (st1 := []) rfl ⟨Nat.zero_le _, Nat.zero_le _⟩ (fun H locs hP hD hS => ?_)
                  refine lv_iinc (pc := 94) hx hb (v := u8_47 + 1) (lv' := [(8, .int (u8_47 + 1)), (9, .long ((r61 * r13) - (r39 * r72))), (0, .ref (A 19)), (1, .int a1), (2, .int a2), (3, .long r13), (5, .int u5_20), (6, .long r39)]) dX1_sweep_94 hl (k := 7) rfl rfl (by decide) rfl (fun ls hl => ?_)
                  refine lv_goto (pc := 97) hx hb (tgt := 47) dX1_sweep_97 (by decide) ?_
                  exact ih r91 (u8_47 + 1) H locs ls hq47 hP hD hS (lv_sub hl [2, 3, 4, 5, 6, 7, 0] rfl)
            exact lp47 256 T20 0 H locs ls hq47 hP hD hS (lv_sub hl [2, 3, 4, 5, 6, 1, 0] rfl)
    exact lp20 256 S 0 H locs ls hq20 hP hD hS (lv_sub hl [2, 3, 4, 1, 0] rfl)
  · have c_6 := lg_eq0.mp c_6
    have hf := hf_t c_6 hf
    cases hf
    exact hR H locs 9 ls hP hD hS dX1_sweep_9
