set_option maxHeartbeats 4000000 in
set_option maxRecDepth 100000 in
theorem kX1_eliminate_19 (l : Launch) (D : va_G) (A : Nat → Nat) (B : Nat → ClassId) (sz : Nat) (S : w_S) (z : w_S) (hf : fX1_eliminate_19 S = some z) : MetW l yX1_eliminate (wsO yX1_eliminate cX1_eliminate 3 none) rm_X1_eliminate [.ref (A 19)] D (tyB B) (wX A B S) (wX A B z) sz (none) := by
  refine MetW.mkV (cc := cX1_eliminate) (maxL := 3) (by decide) (Nat.le_of_ble_eq_true rfl) ?_
  intro p e s m args below meth c Ad Q hx hb hts hown hml hN hK hA hR H locs ls hP hD hS hl
  have hl : lv_has ls 3 [(0, .ref (A 19))] := hl
  rw [fX1_eliminate_19] at hf
  refine lv_aload_n (pc := 0) hx hb dX1_eliminate_0 rfl (lv_at hl 0 rfl) ?_
  refine lv_iconst (pc := 1) hx hb (v := 0) dX1_eliminate_1 (by decide) ?_
  refine vXpRX1_61_19 (pc := 2) hx hb hts mU_483 inU1 hown hK hP hD hS dX1_eliminate_2 (fun H locs hP hD hS => ?_)
  refine lv_aload_n (pc := 5) hx hb dX1_eliminate_5 rfl (lv_at hl 0 rfl) ?_
  refine lv_lconst (pc := 6) hx hb (v := 1) dX1_eliminate_6 (by decide) ?_
  refine vXpRX1_9_19 (pc := 7) hx hb hts mU_55 inU1 hown hK hP hD hS dX1_eliminate_7 (fun H locs hP hD hS => ?_)
  refine lv_aload_n (pc := 10) hx hb dX1_eliminate_10 rfl (lv_at hl 0 rfl) ?_
  refine lv_iconst (pc := 11) hx hb (v := 0) dX1_eliminate_11 (by decide) ?_
  refine vXpRX1_64_19 (pc := 12) hx hb hts mU_484 inU1 hown hK hP hD hS (by decide) dX1_eliminate_12 (fun H locs hP hD hS => ?_)
  refine lv_iconst (pc := 15) hx hb (v := 0) dX1_eliminate_15 (by decide) ?_
  refine lv_istore_n (pc := 16) hx hb (lv' := [(1, .int 0), (0, .ref (A 19))]) dX1_eliminate_16 rfl hl (by decide) rfl (fun ls hl => ?_)
  obtain ⟨q17, hq17, hf⟩ := hf_b hf
  have hk17 : ∀ (H : Heap) (locs : List Loc) (ls : Array Slot), va_P D vwCl (wX A B q17) H → va_D Ad (wX A B q17) → va_S Ad s.heap H locs → lv_has ls 3 [] → W p l e rm_X1_eliminate s m args below meth c H locs 0 0 Q (F0 m 106 ls []) := by
    intro H locs ls hP hD hS hl
    obtain rfl := Option.some.inj hf
    exact hR H locs 106 ls hP hD hS dX1_eliminate_106
  have lp17 : ∀ (n : Nat) (T17 : w_S) (u1_17 : Int32) (H : Heap) (locs : List Loc) (ls : Array Slot), fX1_eliminate_19_L17  n T17 u1_17 = some q17 → va_P D vwCl (wX A B T17) H → va_D Ad (wX A B T17) → va_S Ad s.heap H locs → lv_has ls 3 [(0, .ref (A 19)), (1, .int u1_17)] → W p l e rm_X1_eliminate s m args below meth c H locs 0 0 Q (F0 m 17 ls []) := by
    intro n17
    induction n17 with
    | zero => intro T17 u1_17 H locs ls hq17; exact hf_0 hq17
    | succ n17 ih17 =>
      intro T17 u1_17 H locs ls hq17 hP hD hS hl
      rw [fX1_eliminate_19_L17] at hq17
      refine lv_iload_n (pc := 17) hx hb dX1_eliminate_17 rfl (lv_at hl 1 rfl) ?_
      refine lv_aload_n (pc := 18) hx hb dX1_eliminate_18 rfl (lv_at hl 0 rfl) ?_
      refine vXgRX1_36_19 (pc := 19) hx hb hts mU_437 inU1 hown hK hP (x := (gI T17 14)) rfl dX1_eliminate_19 ?_
      refine lv_icmp_ge (pc := 22) hx hb (tgt := 106) dX1_eliminate_22 (by decide) (fun c_22 => ?_) (fun c_22 => ?_)
      · have hq17 := hf_t c_22 hq17
        obtain rfl := Option.some.inj hq17
        exact hk17 H locs ls hP hD hS (lv_sub hl [] rfl)
      · have hq17 := hf_f c_22 hq17
        refine lv_iload_n (pc := 25) hx hb dX1_eliminate_25 rfl (lv_at hl 1 rfl) ?_
        refine lv_bipush (pc := 26) hx hb (v := 10) dX1_eliminate_26 (by decide) ?_
        refine lv_icmp_ge (pc := 28) hx hb (tgt := 106) dX1_eliminate_28 (by decide) (fun c_28 => ?_) (fun c_28 => ?_)
        · have hq17 := hf_t c_28 hq17
          obtain rfl := Option.some.inj hq17
          exact hk17 H locs ls hP hD hS (lv_sub hl [] rfl)
        · have hq17 := hf_f c_28 hq17
          refine lv_aload_n (pc := 31) hx hb dX1_eliminate_31 rfl (lv_at hl 0 rfl) ?_
          refine lv_iload_n (pc := 32) hx hb dX1_eliminate_32 rfl (lv_at hl 1 rfl) ?_
          obtain ⟨r33, hc33, hq17⟩ := hf_b hq17
          refine cl_V (pc := 33) (As := [.int u1_17]) (rest := []) hx hb hml hown hts (kX1_firstFilled_19 l D A B _ T17 u1_17 r33 hc33) (cwV 1 hts gwRX1_68 rfl rfl rfl hdX1_firstFilled ⟨Nat.le_of_ble_eq_true rfl, Nat.le_of_ble_eq_true rfl⟩) hN hK hP hD hS hA (va_recv hK hP (ci := 1) (q0 := 19) rfl (eX_19 A B _)) rfl hl.1 rfl (Nat.le_of_ble_eq_true rfl) dX1_eliminate_33 (st1 := [.int r33]) rfl ⟨Nat.zero_le _, Nat.zero_le _⟩ (fun H locs hP hD hS => ?_)
          refine lv_istore_n (pc := 36) hx hb (lv' := [(2, .int r33), (0, .ref (A 19)), (1, .int u1_17)]) dX1_eliminate_36 rfl hl (by decide) rfl (fun ls hl => ?_)
          refine lv_aload_n (pc := 37) hx hb dX1_eliminate_37 rfl (lv_at hl 1 rfl) ?_
          refine vXgRX1_19_19 (pc := 38) hx hb hts mU_58 inU1 hown hK hP dX1_eliminate_38 ?_
          refine lv_iload_n (pc := 41) hx hb dX1_eliminate_41 rfl (lv_at hl 2 rfl) ?_
          refine lv_iload_n (pc := 42) hx hb dX1_eliminate_42 rfl (lv_at hl 0 rfl) ?_
          obtain ⟨q54, hv54, hq17⟩ := hf_b hq17
          have hj54 : ∀ (H : Heap) (locs : List Loc) (ls : Array Slot), va_P D vwCl (wX A B T17) H → va_D Ad (wX A B T17) → va_S Ad s.heap H locs → lv_has ls 3 [(0, .ref (A 19)), (1, .int u1_17), (2, .int r33)] → W p l e rm_X1_eliminate s m args below meth c H locs 0 0 Q (F0 m 54 ls [.int q54, .int u1_17, .ref (A 21)]) := by
            intro H locs ls hP hD hS hl
            obtain ⟨hg54, hq17⟩ := hf_g hq17
            refine vXwa_21 (pc := 54) hx hb hK hP hD hS (f := (gA T17 15)) rfl hg54 dX1_eliminate_54 (fun H locs hP hD hS => ?_)
            refine lv_iload_n (pc := 55) hx hb dX1_eliminate_55 rfl (lv_at hl 2 rfl) ?_
            refine lv_if_lt (pc := 56) hx hb (tgt := 100) dX1_eliminate_56 (by decide) (fun c_56 => ?_) (fun c_56 => ?_)
            · have hq17 := hf_t c_56 hq17
              refine lv_iinc (pc := 100) hx hb (v := u1_17 + 1) (lv' := [(1, .int (u1_17 + 1)), (0, .ref (A 19)), (2, .int r33)]) dX1_eliminate_100 hl (k := 1) rfl rfl (by decide) rfl (fun ls hl => ?_)
              refine lv_goto (pc := 103) hx hb (tgt := 17) dX1_eliminate_103 (by decide) ?_
              exact ih17 (sA T17 15 (upd (gA T17 15) u1_17.toNatClampNeg q54)) (u1_17 + 1) H locs ls hq17 hP hD hS (lv_sub hl [1, 0] rfl)
            · have hq17 := hf_f c_56 hq17
              refine lv_aload_n (pc := 59) hx hb dX1_eliminate_59 rfl (lv_at hl 0 rfl) ?_
              refine lv_iload_n (pc := 60) hx hb dX1_eliminate_60 rfl (lv_at hl 2 rfl) ?_
              refine lv_aload_n (pc := 61) hx hb dX1_eliminate_61 rfl (lv_at hl 0 rfl) ?_
              refine vXgRX1_61_19 (pc := 62) hx hb hts mU_483 inU1 hown hK hP (x := (gI T17 15)) rfl dX1_eliminate_62 ?_
              obtain ⟨r65, hc65, hq17⟩ := hf_b hq17
              refine cl_V (pc := 65) (As := [.int r33, .int (gI T17 15)]) (rest := []) hx hb hml hown hts (kX1_swapRows_19 l D A B _ (sA T17 15 (upd (gA T17 15) u1_17.toNatClampNeg q54)) r33 (gI T17 15) r65 hc65) (cwV 2 hts gwRX1_72 rfl rfl rfl hdX1_swapRows ⟨Nat.le_of_ble_eq_true rfl, Nat.le_of_ble_eq_true rfl⟩) hN hK hP hD hS hA (va_recv hK hP (ci := 1) (q0 := 19) rfl (eX_19 A B _)) rfl hl.1 rfl (Nat.le_of_ble_eq_true rfl) dX1_eliminate_65 (st1 := []) rfl ⟨Nat.zero_le _, Nat.zero_le _⟩ (fun H locs hP hD hS => ?_)
              refine lv_aload_n (pc := 68) hx hb dX1_eliminate_68 rfl (lv_at hl 0 rfl) ?_
              refine lv_aload_n (pc := 69) hx hb dX1_eliminate_69 rfl (lv_at hl 0 rfl) ?_
              refine vXgRX1_61_19 (pc := 70) hx hb hts mU_483 inU1 hown hK hP (x := (gI r65 15)) rfl dX1_eliminate_70 ?_
              refine lv_iload_n (pc := 73) hx hb dX1_eliminate_73 rfl (lv_at hl 1 rfl) ?_
              obtain ⟨r74, hc74, hq17⟩ := hf_b hq17
              refine cl_V (pc := 74) (As := [.int (gI r65 15), .int u1_17]) (rest := []) hx hb hml hown hts (kX1_sweep_19 l D A B _ r65 (gI r65 15) u1_17 r74 hc74) (cwV 2 hts gwRX1_75 rfl rfl rfl hdX1_sweep ⟨Nat.le_of_ble_eq_true rfl, Nat.le_of_ble_eq_true rfl⟩) hN hK hP hD hS hA (va_recv hK hP (ci := 1) (q0 := 19) rfl (eX_19 A B _)) rfl hl.1 rfl (Nat.le_of_ble_eq_true rfl) dX1_eliminate_74 (st1 := []) rfl ⟨Nat.zero_le _, Nat.zero_le _⟩ (fun H locs hP hD hS => ?_)
              refine lv_aload_n (pc := 77) hx hb dX1_eliminate_77 rfl (lv_at hl 0 rfl) ?_
              refine lv_aload_n (pc := 78) hx hb dX1_eliminate_78 rfl (lv_at hl 0 rfl) ?_
              refine lv_aload_n (pc := 79) hx hb dX1_eliminate_79 rfl (lv_at hl 0 rfl) ?_
              refine vXgRX1_61_19 (pc := 80) hx hb hts mU_483 inU1 hown hK hP (x := (gI r74 15)) rfl dX1_eliminate_80 ?_
              refine lv_iload_n (pc := 83) hx hb dX1_eliminate_83 rfl (lv_at hl 1 rfl) ?_
              obtain ⟨r84, hc84, hq17⟩ := hf_b hq17
              refine cl_V (pc := 84) (As := [.int (gI r74 15), .int u1_17]) (rest := [.ref (A 19)]) hx hb hml hown hts (kX1_cell_19 l D A B _ r74 (gI r74 15) u1_17 r84 hc84) (cwV 2 hts gwRX1_49 rfl rfl rfl hdX1_cell ⟨Nat.le_of_ble_eq_true rfl, Nat.le_of_ble_eq_true rfl⟩) hN hK hP hD hS hA (va_recv hK hP (ci := 1) (q0 := 19) rfl (eX_19 A B _)) rfl hl.1 rfl (Nat.le_of_ble_eq_true rfl) dX1_eliminate_84 (st1 := [.long r84, .ref (A 19)]) rfl ⟨Nat.zero_le _, Nat.zero_le _⟩ (fun H locs hP hD hS => ?_)
              refine vXpRX1_9_19 (pc := 87) hx hb hts mU_55 inU1 hown hK hP hD hS dX1_eliminate_87 (fun H locs hP hD hS => ?_)
              refine lv_aload_n (pc := 90) hx hb dX1_eliminate_90 rfl (lv_at hl 0 rfl) ?_
              refine lv_dup (pc := 91) hx hb dX1_eliminate_91 rfl ?_
              refine vXgRX1_61_19 (pc := 92) hx hb hts mU_483 inU1 hown hK hP (x := (gI r74 15)) rfl dX1_eliminate_92 ?_
              refine lv_iconst (pc := 95) hx hb (v := 1) dX1_eliminate_95 (by decide) ?_
              refine lv_iadd (pc := 96) hx hb dX1_eliminate_96 ?_
              refine vXpRX1_61_19 (pc := 97) hx hb hts mU_483 inU1 hown hK hP hD hS dX1_eliminate_97 (fun H locs hP hD hS => ?_)
              refine lv_iinc (pc := 100) hx hb (v := u1_17 + 1) (lv' := [(1, .int (u1_17 + 1)), (0, .ref (A 19)), (2, .int r33)]) dX1_eliminate_100 hl (k := 1) rfl rfl (by decide) rfl (fun ls hl => ?_)
              refine lv_goto (pc := 103) hx hb (tgt := 17) dX1_eliminate_103 (by decide) ?_
              exact ih17 (sI (sL r74 0 r84) 15 ((gI r74 15) + 1)) (u1_17 + 1) H locs ls hq17 hP hD hS (lv_sub hl [1, 0] rfl)
          refine lv_if_ge (pc := 43) hx hb (tgt := 50) dX1_eliminate_43 (by decide) (fun c_43 => ?_) (fun c_43 => ?_)
          · have hv54 := hf_t c_43 hv54
            refine lv_aload_n (pc := 50) hx hb dX1_eliminate_50 rfl (lv_at hl 1 rfl) ?_
            refine vXgRX1_61_19 (pc := 51) hx hb hts mU_483 inU1 hown hK hP (x := (gI T17 15)) rfl dX1_eliminate_51 ?_
            obtain rfl := Option.some.inj hv54
            exact hj54 H locs ls hP hD hS (lv_sub hl [1, 2, 0] rfl)
          · have hv54 := hf_f c_43 hv54
            refine lv_iconst (pc := 46) hx hb (v := (-1)) dX1_eliminate_46 (by decide) ?_
            refine lv_goto (pc := 47) hx hb (tgt := 54) dX1_eliminate_47 (by decide) ?_
            obtain rfl := Option.some.inj hv54
            exact hj54 H locs ls hP hD hS (lv_sub hl [1, 2, 0] rfl)
  exact lp17 256 (sI (sL (sI S 15 0) 0 1) 16 0) 0 H locs ls hq17 hP hD hS (lv_sub hl [1, 0] rfl)
set_option maxHeartbeats 4000000 in
set_option maxRecDepth 100000 in
theorem kX1_add_19 (l : Launch) (D : va_G) (A : Nat → Nat) (B : Nat → ClassId) (sz : Nat) (S : w_S) (a1 : Int32) (a2 : Int32) (a3 : Int64) (z : w_S) (hf : fX1_add_19 S a1 a2 a3 = some z) : MetW l yX1_add (wsO yX1_add cX1_add 5 none) rm_X1_add [.ref (A 19), .int a1, .int a2, .long a3] D (tyB B) (wX A B S) (wX A B z) sz (none) := by
  refine MetW.mkV (cc := cX1_add) (maxL := 5) (by decide) (Nat.le_of_ble_eq_true rfl) ?_
  intro p e s m args below meth c Ad Q hx hb hts hown hml hN hK hA hR H locs ls hP hD hS hl
  have hl : lv_has ls 5 [(0, .ref (A 19)), (1, .int a1), (2, .int a2), (3, .long a3)] := hl
  rw [fX1_add_19] at hf
  refine lv_aload_n (pc := 0) hx hb dX1_add_0 rfl (lv_at hl 0 rfl) ?_
  refine lv_iload_n (pc := 1) hx hb dX1_add_1 rfl (lv_at hl 1 rfl) ?_
  refine lv_iload_n (pc := 2) hx hb dX1_add_2 rfl (lv_at hl 2 rfl) ?_
  refine lv_aload_n (pc := 3) hx hb dX1_add_3 rfl (lv_at hl 0 rfl) ?_
  refine lv_iload_n (pc := 4) hx hb dX1_add_4 rfl (lv_at hl 1 rfl) ?_
  refine lv_iload_n (pc := 5) hx hb dX1_add_5 rfl (lv_at hl 2 rfl) ?_
  obtain ⟨r6, hc6, hf⟩ := hf_b hf
  refine cl_V (pc := 6) (As := [.int a1, .int a2]) (rest := [.int a2, .int a1, .ref (A 19)]) hx hb hml hown hts (kX1_cell_19 l D A B _ S a1 a2 r6 hc6) (cwV 2 hts gwRX1_49 rfl rfl rfl hdX1_cell ⟨Nat.le_of_ble_eq_true rfl, Nat.le_of_ble_eq_true rfl⟩) hN hK hP hD hS hA (va_recv hK hP (ci := 1) (q0 := 19) rfl (eX_19 A B _)) rfl hl.1 rfl (Nat.le_of_ble_eq_true rfl) dX1_add_6 (st1 := [.long r6, .int a2, .int a1, .ref (A 19)]) rfl ⟨Nat.zero_le _, Nat.zero_le _⟩ (fun H locs hP hD hS => ?_)
  refine lv_lload_n (pc := 9) hx hb dX1_add_9 rfl (lv_at hl 3 rfl) ?_
  refine lv_ladd (pc := 10) hx hb dX1_add_10 ?_
  obtain ⟨r11, hc11, hf⟩ := hf_b hf
  refine cl_V (pc := 11) (As := [.int a1, .int a2, .long (r6 + a3)]) (rest := []) hx hb hml hown hts (kX1_write_19 l D A B _ S a1 a2 (r6 + a3) r11 hc11) (cwV 3 hts gwRX1_53 rfl rfl rfl hdX1_write ⟨Nat.le_of_ble_eq_true rfl, Nat.le_of_ble_eq_true rfl⟩) hN hK hP hD hS hA (va_recv hK hP (ci := 1) (q0 := 19) rfl (eX_19 A B _)) rfl hl.1 rfl (Nat.le_of_ble_eq_true rfl) dX1_add_11 (st1 := []) rfl ⟨Nat.zero_le _, Nat.zero_le _⟩ (fun H locs hP hD hS => ?_)
  obtain rfl := Option.some.inj hf
  exact hR H locs 14 ls hP hD hS dX1_add_14
set_option maxHeartbeats 4000000 in
set_option maxRecDepth 100000 in
theorem kJ7_fill_d0a16_20 (l : Launch) (D : va_G) (A : Nat → Nat) (B : Nat → ClassId) (sz : Nat) (S : w_S) (a1 : Int64) (z : w_S) (hf : fJ7_fill_d0a16_20 S a1 = some z) : MetW l yJ7_fill_d0a16 (wsO yJ7_fill_d0a16 cJ7_fill_d0a16 5 none) rm_J7_fill_d0a16 [.ref (A 20), .long a1] D (tyB B) (wX A B S) (wX A B z) sz (none) := by
  refine MetW.mkV (cc := cJ7_fill_d0a16) (maxL := 5) (by decide) (Nat.le_of_ble_eq_true rfl) ?_
  intro p e s m args below meth c Ad Q hx hb hts hown hml hN hK hA hR H locs ls hP hD hS hl
  have hl : lv_has ls 5 [(0, .ref (A 20)), (1, .long a1)] := hl
  rw [fJ7_fill_d0a16_20] at hf
  refine lv_iconst (pc := 0) hx hb (v := 0) dJ7_fill_d0a16_0 (by decide) ?_
  refine lv_istore_n (pc := 1) hx hb (lv' := [(3, .int 0), (0, .ref (A 20)), (1, .long a1)]) dJ7_fill_d0a16_1 rfl hl (by decide) rfl (fun ls hl => ?_)
  refine lv_aload_n (pc := 2) hx hb dJ7_fill_d0a16_2 rfl (lv_at hl 1 rfl) ?_
  refine vXln_20 (pc := 3) hx hb hK hP dJ7_fill_d0a16_3 ?_
  refine lv_istore (pc := 4) hx hb (lv' := [(4, .int 90), (3, .int 0), (0, .ref (A 20)), (1, .long a1)]) dJ7_fill_d0a16_4 hl (by decide) rfl (fun ls hl => ?_)
  obtain ⟨q6, hq6, hf⟩ := hf_b hf
  have hk6 : ∀ (H : Heap) (locs : List Loc) (ls : Array Slot), va_P D vwCl (wX A B q6) H → va_D Ad (wX A B q6) → va_S Ad s.heap H locs → lv_has ls 5 [] → W p l e rm_J7_fill_d0a16 s m args below meth c H locs 0 0 Q (F0 m 22 ls []) := by
    intro H locs ls hP hD hS hl
    obtain rfl := Option.some.inj hf
    exact hR H locs 22 ls hP hD hS dJ7_fill_d0a16_22
  have lp6 : ∀ (n : Nat) (T6 : w_S) (u3_6 : Int32) (H : Heap) (locs : List Loc) (ls : Array Slot), fJ7_fill_d0a16_20_L6 a1 90 n T6 u3_6 = some q6 → va_P D vwCl (wX A B T6) H → va_D Ad (wX A B T6) → va_S Ad s.heap H locs → lv_has ls 5 [(0, .ref (A 20)), (1, .long a1), (3, .int u3_6), (4, .int 90)] → W p l e rm_J7_fill_d0a16 s m args below meth c H locs 0 0 Q (F0 m 6 ls []) := by
    intro n6
    induction n6 with
    | zero => intro T6 u3_6 H locs ls hq6; exact hf_0 hq6
    | succ n6 ih6 =>
      intro T6 u3_6 H locs ls hq6 hP hD hS hl
      rw [fJ7_fill_d0a16_20_L6] at hq6
      refine lv_iload_n (pc := 6) hx hb dJ7_fill_d0a16_6 rfl (lv_at hl 2 rfl) ?_
      refine lv_iload (pc := 7) hx hb dJ7_fill_d0a16_7 (lv_at hl 3 rfl) ?_
      refine lv_icmp_ge (pc := 9) hx hb (tgt := 22) dJ7_fill_d0a16_9 (by decide) (fun c_9 => ?_) (fun c_9 => ?_)
      · have hq6 := hf_t c_9 hq6
        obtain rfl := Option.some.inj hq6
        exact hk6 H locs ls hP hD hS (lv_sub hl [] rfl)
      · have hq6 := hf_f c_9 hq6
        refine lv_aload_n (pc := 12) hx hb dJ7_fill_d0a16_12 rfl (lv_at hl 0 rfl) ?_
        refine lv_iload_n (pc := 13) hx hb dJ7_fill_d0a16_13 rfl (lv_at hl 2 rfl) ?_
        refine lv_lload_n (pc := 14) hx hb dJ7_fill_d0a16_14 rfl (lv_at hl 1 rfl) ?_
        obtain ⟨hg15, hq6⟩ := hf_g hq6
        refine vXwa_20 (pc := 15) hx hb hK hP hD hS (f := (gB T6 0)) rfl hg15 dJ7_fill_d0a16_15 (fun H locs hP hD hS => ?_)
        refine lv_iinc (pc := 16) hx hb (v := u3_6 + 1) (lv' := [(3, .int (u3_6 + 1)), (0, .ref (A 20)), (1, .long a1), (4, .int 90)]) dJ7_fill_d0a16_16 hl (k := 2) rfl rfl (by decide) rfl (fun ls hl => ?_)
        refine lv_goto (pc := 19) hx hb (tgt := 6) dJ7_fill_d0a16_19 (by decide) ?_
        exact ih6 (sB T6 0 (vp_updL (gB T6 0) u3_6.toNatClampNeg a1)) (u3_6 + 1) H locs ls hq6 hP hD hS (lv_sub hl [1, 2, 0, 3] rfl)
  exact lp6 256 S 0 H locs ls hq6 hP hD hS (lv_sub hl [2, 3, 1, 0] rfl)
set_option maxHeartbeats 4000000 in
set_option maxRecDepth 100000 in
theorem kX1_clear_19 (l : Launch) (D : va_G) (A : Nat → Nat) (B : Nat → ClassId) (sz : Nat) (S : w_S) (a1 : Int32) (a2 : Int32) (z : w_S) (hf : fX1_clear_19 S a1 a2 = some z) : MetW l yX1_clear (wsO yX1_clear cX1_clear 3 none) rm_X1_clear [.ref (A 19), .int a1, .int a2] D (tyB B) (wX A B S) (wX A B z) sz (none) := by
  refine MetW.mkV (cc := cX1_clear) (maxL := 3) (by decide) (Nat.le_of_ble_eq_true rfl) ?_
  intro p e s m args below meth c Ad Q hx hb hts hown hml hN hK hA hR H locs ls hP hD hS hl
  have hl : lv_has ls 3 [(0, .ref (A 19)), (1, .int a1), (2, .int a2)] := hl
  rw [fX1_clear_19] at hf
  refine lv_aload_n (pc := 0) hx hb dX1_clear_0 rfl (lv_at hl 0 rfl) ?_
  refine lv_iconst (pc := 1) hx hb (v := 0) dX1_clear_1 (by decide) ?_
  refine lv_iload_n (pc := 2) hx hb dX1_clear_2 rfl (lv_at hl 1 rfl) ?_
  refine lv_bipush (pc := 3) hx hb (v := 9) dX1_clear_3 (by decide) ?_
  refine va_mmin (pc := 5) hx hb (hml.trans hl.1.symm) hown (hts (.methodLink RX1 23 Lib.Math.min.name) mU_429) (hts (.static Lib.Math.min.name) mU_430) (hts (.initialized "java/lang/Math") mU_431) (hts (.code Lib.Math.min.name Lib.Math.min.code 2 (some .int)) mU_432) (Nat.le_of_ble_eq_true rfl) (Nat.le_of_ble_eq_true rfl) (Nat.zero_le _) (Nat.zero_le _) dX1_clear_5 ?_
  refine va_mmax (pc := 8) hx hb (hml.trans hl.1.symm) hown (hts (.methodLink RX1 29 Lib.Math.max.name) mU_433) (hts (.static Lib.Math.max.name) mU_434) (hts (.initialized "java/lang/Math") mU_431) (hts (.code Lib.Math.max.name Lib.Math.max.code 2 (some .int)) mU_435) (Nat.le_of_ble_eq_true rfl) (Nat.le_of_ble_eq_true rfl) (Nat.zero_le _) (Nat.zero_le _) dX1_clear_8 ?_
  refine vXpRX1_32_19 (pc := 11) hx hb hts mU_436 inU1 hown hK hP hD hS dX1_clear_11 (fun H locs hP hD hS => ?_)
  refine lv_aload_n (pc := 14) hx hb dX1_clear_14 rfl (lv_at hl 0 rfl) ?_
  refine lv_iconst (pc := 15) hx hb (v := 0) dX1_clear_15 (by decide) ?_
  refine lv_iload_n (pc := 16) hx hb dX1_clear_16 rfl (lv_at hl 2 rfl) ?_
  refine lv_bipush (pc := 17) hx hb (v := 9) dX1_clear_17 (by decide) ?_
  refine va_mmin (pc := 19) hx hb (hml.trans hl.1.symm) hown (hts (.methodLink RX1 23 Lib.Math.min.name) mU_429) (hts (.static Lib.Math.min.name) mU_430) (hts (.initialized "java/lang/Math") mU_431) (hts (.code Lib.Math.min.name Lib.Math.min.code 2 (some .int)) mU_432) (Nat.le_of_ble_eq_true rfl) (Nat.le_of_ble_eq_true rfl) (Nat.zero_le _) (Nat.zero_le _) dX1_clear_19 ?_
  refine va_mmax (pc := 22) hx hb (hml.trans hl.1.symm) hown (hts (.methodLink RX1 29 Lib.Math.max.name) mU_433) (hts (.static Lib.Math.max.name) mU_434) (hts (.initialized "java/lang/Math") mU_431) (hts (.code Lib.Math.max.name Lib.Math.max.code 2 (some .int)) mU_435) (Nat.le_of_ble_eq_true rfl) (Nat.le_of_ble_eq_true rfl) (Nat.zero_le _) (Nat.zero_le _) dX1_clear_22 ?_
  refine vXpRX1_36_19 (pc := 25) hx hb hts mU_437 inU1 hown hK hP hD hS dX1_clear_25 (fun H locs hP hD hS => ?_)
  refine lv_aload_n (pc := 28) hx hb dX1_clear_28 rfl (lv_at hl 0 rfl) ?_
  refine vXgRX1_15_19 (pc := 29) hx hb hts mU_57 inU1 hown hK hP dX1_clear_29 ?_
  refine lv_lconst (pc := 32) hx hb (v := 0) dX1_clear_32 (by decide) ?_
  obtain ⟨r33, hc33, hf⟩ := hf_b hf
  refine cl_S (pc := 33) (As := [.ref (A 20), .long 0]) (rest := []) hx hb hml hown hts (kJ7_fill_d0a16_20 l D A B _ (sI (sI S 13 (if 0 < (if 9 < a1 then 9 else a1) then (if 9 < a1 then 9 else a1) else 0)) 14 (if 0 < (if 9 < a2 then 9 else a2) then (if 9 < a2 then 9 else a2) else 0)) 0 r33 hc33) (va_cwS 2 hts gwRX1_39 rfl rfl rfl hdJ7_fill_d0a16 ⟨Nat.le_of_ble_eq_true rfl, Nat.le_of_ble_eq_true rfl⟩) hN hK hP hD hS hA rfl hl.1 rfl (Nat.le_of_ble_eq_true rfl) dX1_clear_33 (st1 := []) rfl ⟨Nat.zero_le _, Nat.zero_le _⟩ (fun H locs hP hD hS => ?_)
  obtain rfl := Option.some.inj hf
  exact hR H locs 36 ls hP hD hS dX1_clear_36
set_option maxHeartbeats 4000000 in
set_option maxRecDepth 100000 in
theorem kX4_leftEntry_1 (l : Launch) (D : va_G) (A : Nat → Nat) (B : Nat → ClassId) (sz : Nat) (S : w_S) (a1 : Int32) (a2 : Int32) (a3 : Int32) (z : Int32) (hf : fX4_leftEntry_1 S a1 a2 a3 = some z) : MetW l yX4_leftEntry (wsO yX4_leftEntry cX4_leftEntry 4 (some .int)) rm_X4_leftEntry [.ref (A 1), .int a1, .int a2, .int a3] D (tyB B) (wX A B S) (wX A B S) sz (some (.int z)) := by
  refine MetW.mkI (cc := cX4_leftEntry) (maxL := 4) (by decide) (Nat.le_of_ble_eq_true rfl) ?_
  intro p e s m args below meth c Ad Q hx hb hts hown hml hN hK hA hR H locs ls hP hD hS hl
  have hl : lv_has ls 4 [(0, .ref (A 1)), (1, .int a1), (2, .int a2), (3, .int a3)] := hl
  rw [fX4_leftEntry_1] at hf
  refine lv_aload_n (pc := 0) hx hb dX4_leftEntry_0 rfl (lv_at hl 0 rfl) ?_
  refine lv_iconst (pc := 1) hx hb (v := 0) dX4_leftEntry_1 (by decide) ?_
  refine lv_iload_n (pc := 2) hx hb dX4_leftEntry_2 rfl (lv_at hl 2 rfl) ?_
  refine lv_iload_n (pc := 3) hx hb dX4_leftEntry_3 rfl (lv_at hl 3 rfl) ?_
  obtain ⟨r4, hc4, hf⟩ := hf_b hf
  refine cl_V (pc := 4) (As := [.int 0, .int a2, .int a3]) (rest := []) hx hb hml hown hts (kX4_entry_1 l D A B _ S 0 a2 a3 r4 hc4) (cwV 3 hts gwRX4_63 rfl rfl rfl hdX4_entry ⟨Nat.le_of_ble_eq_true rfl, Nat.le_of_ble_eq_true rfl⟩) hN hK hP hD hS hA (va_recv hK hP (ci := 4) (q0 := 1) rfl (eX_1 A B _)) rfl hl.1 rfl (Nat.le_of_ble_eq_true rfl) dX4_leftEntry_4 (st1 := [.int r4]) rfl ⟨Nat.zero_le _, Nat.zero_le _⟩ (fun H locs hP hD hS => ?_)
  refine lv_iload_n (pc := 7) hx hb dX4_leftEntry_7 rfl (lv_at hl 2 rfl) ?_
  refine lv_iload_n (pc := 8) hx hb dX4_leftEntry_8 rfl (lv_at hl 3 rfl) ?_
  refine lv_icmp_ne (pc := 9) hx hb (tgt := 16) dX4_leftEntry_9 (by decide) (fun c_9 => ?_) (fun c_9 => ?_)
  · have hf := hf_f c_9 hf
    refine lv_iconst (pc := 16) hx hb (v := 0) dX4_leftEntry_16 (by decide) ?_
    refine lv_iadd (pc := 17) hx hb dX4_leftEntry_17 ?_
    obtain rfl := Option.some.inj hf
    exact hR H locs 18 ls hP hD hS dX4_leftEntry_18
  · have hf := hf_t c_9 hf
    refine lv_iload_n (pc := 12) hx hb dX4_leftEntry_12 rfl (lv_at hl 1 rfl) ?_
    refine lv_goto (pc := 13) hx hb (tgt := 17) dX4_leftEntry_13 (by decide) ?_
    refine lv_iadd (pc := 17) hx hb dX4_leftEntry_17 ?_
    obtain rfl := Option.some.inj hf
    exact hR H locs 18 ls hP hD hS dX4_leftEntry_18
set_option maxHeartbeats 4000000 in
set_option maxRecDepth 100000 in
theorem kX4_rightEntry_1 (l : Launch) (D : va_G) (A : Nat → Nat) (B : Nat → ClassId) (sz : Nat) (S : w_S) (a1 : Int32) (a2 : Int32) (a3 : Int32) (z : Int32) (hf : fX4_rightEntry_1 S a1 a2 a3 = some z) : MetW l yX4_rightEntry (wsO yX4_rightEntry cX4_rightEntry 4 (some .int)) rm_X4_rightEntry [.ref (A 1), .int a1, .int a2, .int a3] D (tyB B) (wX A B S) (wX A B S) sz (some (.int z)) := by
  refine MetW.mkI (cc := cX4_rightEntry) (maxL := 4) (by decide) (Nat.le_of_ble_eq_true rfl) ?_
  intro p e s m args below meth c Ad Q hx hb hts hown hml hN hK hA hR H locs ls hP hD hS hl
  have hl : lv_has ls 4 [(0, .ref (A 1)), (1, .int a1), (2, .int a2), (3, .int a3)] := hl
  rw [fX4_rightEntry_1] at hf
  refine lv_iload_n (pc := 0) hx hb dX4_rightEntry_0 rfl (lv_at hl 1 rfl) ?_
  by_cases e1_0 : a1 = (0 : Int32)
  · have hf := hf_t e1_0 hf
    refine lv_tableIn (pc := 1) hx hb (off := 35) (tgt := 36) dX4_rightEntry_1 (by rw [e1_0]; decide) (by rw [e1_0]; decide) (by rw [e1_0]; rfl) (by decide) ?_
    refine lv_aload_n (pc := 36) hx hb dX4_rightEntry_36 rfl (lv_at hl 0 rfl) ?_
    refine lv_iconst (pc := 37) hx hb (v := 1) dX4_rightEntry_37 (by decide) ?_
    refine lv_iload_n (pc := 38) hx hb dX4_rightEntry_38 rfl (lv_at hl 2 rfl) ?_
    refine lv_iload_n (pc := 39) hx hb dX4_rightEntry_39 rfl (lv_at hl 3 rfl) ?_
    obtain ⟨r40, hc40, hf⟩ := hf_b hf
    refine cl_V (pc := 40) (As := [.int 1, .int a2, .int a3]) (rest := []) hx hb hml hown hts (kX4_entry_1 l D A B _ S 1 a2 a3 r40 hc40) (cwV 3 hts gwRX4_63 rfl rfl rfl hdX4_entry ⟨Nat.le_of_ble_eq_true rfl, Nat.le_of_ble_eq_true rfl⟩) hN hK hP hD hS hA (va_recv hK hP (ci := 4) (q0 := 1) rfl (eX_1 A B _)) rfl hl.1 rfl (Nat.le_of_ble_eq_true rfl) dX4_rightEntry_40 (st1 := [.int r40]) rfl ⟨Nat.zero_le _, Nat.zero_le _⟩ (fun H locs hP hD hS => ?_)
    obtain rfl := Option.some.inj hf
    exact hR H locs 43 ls hP hD hS dX4_rightEntry_43
  · have hf := hf_f e1_0 hf
    by_cases e1_1 : a1 = (1 : Int32)
    · have hf := hf_t e1_1 hf
      refine lv_tableIn (pc := 1) hx hb (off := 43) (tgt := 44) dX4_rightEntry_1 (by rw [e1_1]; decide) (by rw [e1_1]; decide) (by rw [e1_1]; rfl) (by decide) ?_
      refine lv_iconst (pc := 44) hx hb (v := 0) dX4_rightEntry_44 (by decide) ?_
      obtain rfl := Option.some.inj hf
      exact hR H locs 45 ls hP hD hS dX4_rightEntry_45
    · have hf := hf_f e1_1 hf
      by_cases e1_2 : a1 = (2 : Int32)
      · have hf := hf_t e1_2 hf
        refine lv_tableIn (pc := 1) hx hb (off := 45) (tgt := 46) dX4_rightEntry_1 (by rw [e1_2]; decide) (by rw [e1_2]; decide) (by rw [e1_2]; rfl) (by decide) ?_
        refine lv_aload_n (pc := 46) hx hb dX4_rightEntry_46 rfl (lv_at hl 0 rfl) ?_
        refine lv_iconst (pc := 47) hx hb (v := 0) dX4_rightEntry_47 (by decide) ?_
        refine lv_iload_n (pc := 48) hx hb dX4_rightEntry_48 rfl (lv_at hl 2 rfl) ?_
        refine lv_iload_n (pc := 49) hx hb dX4_rightEntry_49 rfl (lv_at hl 3 rfl) ?_
        obtain ⟨r50, hc50, hf⟩ := hf_b hf
        refine cl_V (pc := 50) (As := [.int 0, .int a2, .int a3]) (rest := []) hx hb hml hown hts (kX4_entry_1 l D A B _ S 0 a2 a3 r50 hc50) (cwV 3 hts gwRX4_63 rfl rfl rfl hdX4_entry ⟨Nat.le_of_ble_eq_true rfl, Nat.le_of_ble_eq_true rfl⟩) hN hK hP hD hS hA (va_recv hK hP (ci := 4) (q0 := 1) rfl (eX_1 A B _)) rfl hl.1 rfl (Nat.le_of_ble_eq_true rfl) dX4_rightEntry_50 (st1 := [.int r50]) rfl ⟨Nat.zero_le _, Nat.zero_le _⟩ (fun H locs hP hD hS => ?_)
        refine lv_ineg (pc := 53) hx hb dX4_rightEntry_53 ?_
        obtain rfl := Option.some.inj hf
        exact hR H locs 54 ls hP hD hS dX4_rightEntry_54
      · have hf := hf_f e1_2 hf
        by_cases e1_3 : a1 = (3 : Int32)
        · have hf := hf_t e1_3 hf
          refine lv_tableIn (pc := 1) hx hb (off := 54) (tgt := 55) dX4_rightEntry_1 (by rw [e1_3]; decide) (by rw [e1_3]; decide) (by rw [e1_3]; rfl) (by decide) ?_
          refine lv_aload_n (pc := 55) hx hb dX4_rightEntry_55 rfl (lv_at hl 0 rfl) ?_
          refine lv_iconst (pc := 56) hx hb (v := 0) dX4_rightEntry_56 (by decide) ?_
          refine lv_iload_n (pc := 57) hx hb dX4_rightEntry_57 rfl (lv_at hl 3 rfl) ?_
          refine lv_iload_n (pc := 58) hx hb dX4_rightEntry_58 rfl (lv_at hl 2 rfl) ?_
          obtain ⟨r59, hc59, hf⟩ := hf_b hf
          refine cl_V (pc := 59) (As := [.int 0, .int a3, .int a2]) (rest := []) hx hb hml hown hts (kX4_entry_1 l D A B _ S 0 a3 a2 r59 hc59) (cwV 3 hts gwRX4_63 rfl rfl rfl hdX4_entry ⟨Nat.le_of_ble_eq_true rfl, Nat.le_of_ble_eq_true rfl⟩) hN hK hP hD hS hA (va_recv hK hP (ci := 4) (q0 := 1) rfl (eX_1 A B _)) rfl hl.1 rfl (Nat.le_of_ble_eq_true rfl) dX4_rightEntry_59 (st1 := [.int r59]) rfl ⟨Nat.zero_le _, Nat.zero_le _⟩ (fun H locs hP hD hS => ?_)
          obtain rfl := Option.some.inj hf
          exact hR H locs 62 ls hP hD hS dX4_rightEntry_62
        · have hf := hf_f e1_3 hf
          by_cases e1_4 : a1 = (4 : Int32)
          · have hf := hf_t e1_4 hf
            refine lv_tableIn (pc := 1) hx hb (off := 45) (tgt := 46) dX4_rightEntry_1 (by rw [e1_4]; decide) (by rw [e1_4]; decide) (by rw [e1_4]; rfl) (by decide) ?_
            refine lv_aload_n (pc := 46) hx hb dX4_rightEntry_46 rfl (lv_at hl 0 rfl) ?_
            refine lv_iconst (pc := 47) hx hb (v := 0) dX4_rightEntry_47 (by decide) ?_
            refine lv_iload_n (pc := 48) hx hb dX4_rightEntry_48 rfl (lv_at hl 2 rfl) ?_
            refine lv_iload_n (pc := 49) hx hb dX4_rightEntry_49 rfl (lv_at hl 3 rfl) ?_
            obtain ⟨r50, hc50, hf⟩ := hf_b hf
            refine cl_V (pc := 50) (As := [.int 0, .int a2, .int a3]) (rest := []) hx hb hml hown hts (kX4_entry_1 l D A B _ S 0 a2 a3 r50 hc50) (cwV 3 hts gwRX4_63 rfl rfl rfl hdX4_entry ⟨Nat.le_of_ble_eq_true rfl, Nat.le_of_ble_eq_true rfl⟩) hN hK hP hD hS hA (va_recv hK hP (ci := 4) (q0 := 1) rfl (eX_1 A B _)) rfl hl.1 rfl (Nat.le_of_ble_eq_true rfl) dX4_rightEntry_50 (st1 := [.int r50]) rfl ⟨Nat.zero_le _, Nat.zero_le _⟩ (fun H locs hP hD hS => ?_)
            refine lv_ineg (pc := 53) hx hb dX4_rightEntry_53 ?_
            obtain rfl := Option.some.inj hf
            exact hR H locs 54 ls hP hD hS dX4_rightEntry_54
          · have hf := hf_f e1_4 hf
            have n1_0 := lv_neT (a := 0) e1_0 rfl
            have n1_1 := lv_neT (a := 1) e1_1 rfl
            have n1_2 := lv_neT (a := 2) e1_2 rfl
            have n1_3 := lv_neT (a := 3) e1_3 rfl
            have n1_4 := lv_neT (a := 4) e1_4 rfl
            refine lv_tableOut (pc := 1) hx hb (tgt := 55) dX4_rightEntry_1 (by omega) (by decide) ?_
            refine lv_aload_n (pc := 55) hx hb dX4_rightEntry_55 rfl (lv_at hl 0 rfl) ?_
            refine lv_iconst (pc := 56) hx hb (v := 0) dX4_rightEntry_56 (by decide) ?_
            refine lv_iload_n (pc := 57) hx hb dX4_rightEntry_57 rfl (lv_at hl 3 rfl) ?_
            refine lv_iload_n (pc := 58) hx hb dX4_rightEntry_58 rfl (lv_at hl 2 rfl) ?_
            obtain ⟨r59, hc59, hf⟩ := hf_b hf
            refine cl_V (pc := 59) (As := [.int 0, .int a3, .int a2]) (rest := []) hx hb hml hown hts (kX4_entry_1 l D A B _ S 0 a3 a2 r59 hc59) (cwV 3 hts gwRX4_63 rfl rfl rfl hdX4_entry ⟨Nat.le_of_ble_eq_true rfl, Nat.le_of_ble_eq_true rfl⟩) hN hK hP hD hS hA (va_recv hK hP (ci := 4) (q0 := 1) rfl (eX_1 A B _)) rfl hl.1 rfl (Nat.le_of_ble_eq_true rfl) dX4_rightEntry_59 (st1 := [.int r59]) rfl ⟨Nat.zero_le _, Nat.zero_le _⟩ (fun H locs hP hD hS => ?_)
            obtain rfl := Option.some.inj hf
            exact hR H locs 62 ls hP hD hS dX4_rightEntry_62
set_option maxHeartbeats 4000000 in
set_option maxRecDepth 100000 in
theorem kX4_signAt_1 (l : Launch) (D : va_G) (A : Nat → Nat) (B : Nat → ClassId) (sz : Nat) (S : w_S) (a1 : Int32) (a2 : Int32) (a3 : Int32) (z : Int32) (hf : fX4_signAt_1 a1 a2 a3 = some z) : MetW l yX4_signAt (wsO yX4_signAt cX4_signAt 4 (some .int)) rm_X4_signAt [.ref (A 1), .int a1, .int a2, .int a3] D (tyB B) (wX A B S) (wX A B S) sz (some (.int z)) := by
  refine MetW.mkI (cc := cX4_signAt) (maxL := 4) (by decide) (Nat.le_of_ble_eq_true rfl) ?_
  intro p e s m args below meth c Ad Q hx hb hts hown hml hN hK hA hR H locs ls hP hD hS hl
  have hl : lv_has ls 4 [(0, .ref (A 1)), (1, .int a1), (2, .int a2), (3, .int a3)] := hl
  rw [fX4_signAt_1] at hf
  refine lv_iload_n (pc := 0) hx hb dX4_signAt_0 rfl (lv_at hl 1 rfl) ?_
  refine lv_iconst (pc := 1) hx hb (v := 4) dX4_signAt_1 (by decide) ?_
  refine lv_icmp_ne (pc := 2) hx hb (tgt := 16) dX4_signAt_2 (by decide) (fun c_2 => ?_) (fun c_2 => ?_)
  · have hf := hf_f c_2 hf
    refine lv_iload_n (pc := 16) hx hb dX4_signAt_16 rfl (lv_at hl 1 rfl) ?_
    refine lv_bipush (pc := 17) hx hb (v := 6) dX4_signAt_17 (by decide) ?_
    refine lv_icmp_ne (pc := 19) hx hb (tgt := 42) dX4_signAt_19 (by decide) (fun c_19 => ?_) (fun c_19 => ?_)
    · have hf := hf_f c_19 hf
      refine lv_iconst (pc := 42) hx hb (v := 1) dX4_signAt_42 (by decide) ?_
      obtain rfl := Option.some.inj hf
      exact hR H locs 43 ls hP hD hS dX4_signAt_43
    · have hf := hf_t c_19 hf
      refine lv_iload_n (pc := 22) hx hb dX4_signAt_22 rfl (lv_at hl 2 rfl) ?_
      refine lv_iload_n (pc := 23) hx hb dX4_signAt_23 rfl (lv_at hl 3 rfl) ?_
      refine lv_icmp_ne (pc := 24) hx hb (tgt := 31) dX4_signAt_24 (by decide) (fun c_24 => ?_) (fun c_24 => ?_)
      · have hf := hf_f c_24 hf
        refine lv_iload_n (pc := 31) hx hb dX4_signAt_31 rfl (lv_at hl 2 rfl) ?_
        refine lv_iload_n (pc := 32) hx hb dX4_signAt_32 rfl (lv_at hl 3 rfl) ?_
        refine lv_icmp_ge (pc := 33) hx hb (tgt := 40) dX4_signAt_33 (by decide) (fun c_33 => ?_) (fun c_33 => ?_)
        · have hf := hf_t c_33 hf
          refine lv_iconst (pc := 40) hx hb (v := (-1)) dX4_signAt_40 (by decide) ?_
          obtain rfl := Option.some.inj hf
          exact hR H locs 41 ls hP hD hS dX4_signAt_41
        · have hf := hf_f c_33 hf
          refine lv_iconst (pc := 36) hx hb (v := 1) dX4_signAt_36 (by decide) ?_
          refine lv_goto (pc := 37) hx hb (tgt := 41) dX4_signAt_37 (by decide) ?_
          obtain rfl := Option.some.inj hf
          exact hR H locs 41 ls hP hD hS dX4_signAt_41
      · have hf := hf_t c_24 hf
        refine lv_iconst (pc := 27) hx hb (v := 0) dX4_signAt_27 (by decide) ?_
        refine lv_goto (pc := 28) hx hb (tgt := 41) dX4_signAt_28 (by decide) ?_
        obtain rfl := Option.some.inj hf
        exact hR H locs 41 ls hP hD hS dX4_signAt_41
  · have hf := hf_t c_2 hf
    refine lv_iload_n (pc := 5) hx hb dX4_signAt_5 rfl (lv_at hl 2 rfl) ?_
    refine lv_iload_n (pc := 6) hx hb dX4_signAt_6 rfl (lv_at hl 3 rfl) ?_
    refine lv_icmp_ne (pc := 7) hx hb (tgt := 14) dX4_signAt_7 (by decide) (fun c_7 => ?_) (fun c_7 => ?_)
    · have hf := hf_f c_7 hf
      refine lv_iconst (pc := 14) hx hb (v := 0) dX4_signAt_14 (by decide) ?_
      obtain rfl := Option.some.inj hf
      exact hR H locs 15 ls hP hD hS dX4_signAt_15
    · have hf := hf_t c_7 hf
      refine lv_iconst (pc := 10) hx hb (v := 1) dX4_signAt_10 (by decide) ?_
      refine lv_goto (pc := 11) hx hb (tgt := 15) dX4_signAt_11 (by decide) ?_
      obtain rfl := Option.some.inj hf
      exact hR H locs 15 ls hP hD hS dX4_signAt_15
set_option maxHeartbeats 4000000 in
set_option maxRecDepth 100000 in
theorem kX4_unknownAt_1 (l : Launch) (D : va_G) (A : Nat → Nat) (B : Nat → ClassId) (sz : Nat) (S : w_S) (a1 : Int32) (a2 : Int32) (a3 : Int32) (z : Int32) (hf : fX4_unknownAt_1 S a1 a2 a3 = some z) : MetW l yX4_unknownAt (wsO yX4_unknownAt cX4_unknownAt 6 (some .int)) rm_X4_unknownAt [.ref (A 1), .int a1, .int a2, .int a3] D (tyB B) (wX A B S) (wX A B S) sz (some (.int z)) := by
  refine MetW.mkI (cc := cX4_unknownAt) (maxL := 6) (by decide) (Nat.le_of_ble_eq_true rfl) ?_
  intro p e s m args below meth c Ad Q hx hb hts hown hml hN hK hA hR H locs ls hP hD hS hl
  have hl : lv_has ls 6 [(0, .ref (A 1)), (1, .int a1), (2, .int a2), (3, .int a3)] := hl
  rw [fX4_unknownAt_1] at hf
  refine lv_iload_n (pc := 0) hx hb dX4_unknownAt_0 rfl (lv_at hl 2 rfl) ?_
  refine lv_iload_n (pc := 1) hx hb dX4_unknownAt_1 rfl (lv_at hl 3 rfl) ?_
  refine va_mmin (pc := 2) hx hb (hml.trans hl.1.symm) hown (hts (.methodLink RX4 103 Lib.Math.min.name) mU_469) (hts (.static Lib.Math.min.name) mU_430) (hts (.initialized "java/lang/Math") mU_431) (hts (.code Lib.Math.min.name Lib.Math.min.code 2 (some .int)) mU_432) (Nat.le_of_ble_eq_true rfl) (Nat.le_of_ble_eq_true rfl) (Nat.zero_le _) (Nat.zero_le _) dX4_unknownAt_2 ?_
  refine lv_istore (pc := 5) hx hb (lv' := [(4, .int (if a3 < a2 then a3 else a2)), (0, .ref (A 1)), (1, .int a1), (2, .int a2), (3, .int a3)]) dX4_unknownAt_5 hl (by decide) rfl (fun ls hl => ?_)
  refine lv_iload_n (pc := 7) hx hb dX4_unknownAt_7 rfl (lv_at hl 3 rfl) ?_
  refine lv_iload_n (pc := 8) hx hb dX4_unknownAt_8 rfl (lv_at hl 4 rfl) ?_
  refine va_mmax (pc := 9) hx hb (hml.trans hl.1.symm) hown (hts (.methodLink RX4 109 Lib.Math.max.name) mU_470) (hts (.static Lib.Math.max.name) mU_434) (hts (.initialized "java/lang/Math") mU_431) (hts (.code Lib.Math.max.name Lib.Math.max.code 2 (some .int)) mU_435) (Nat.le_of_ble_eq_true rfl) (Nat.le_of_ble_eq_true rfl) (Nat.zero_le _) (Nat.zero_le _) dX4_unknownAt_9 ?_
  refine lv_istore (pc := 12) hx hb (lv' := [(5, .int (if a2 < a3 then a3 else a2)), (4, .int (if a3 < a2 then a3 else a2)), (0, .ref (A 1)), (1, .int a1), (2, .int a2), (3, .int a3)]) dX4_unknownAt_12 hl (by decide) rfl (fun ls hl => ?_)
  refine lv_iload_n (pc := 14) hx hb dX4_unknownAt_14 rfl (lv_at hl 3 rfl) ?_
  by_cases e15_4 : a1 = (4 : Int32)
  · have hf := hf_t e15_4 hf
    refine lv_tableIn (pc := 15) hx hb (off := 25) (tgt := 40) dX4_unknownAt_15 (by rw [e15_4]; decide) (by rw [e15_4]; decide) (by rw [e15_4]; rfl) (by decide) ?_
    refine lv_iload_n (pc := 40) hx hb dX4_unknownAt_40 rfl (lv_at hl 4 rfl) ?_
    obtain rfl := Option.some.inj hf
    exact hR H locs 41 ls hP hD hS dX4_unknownAt_41
  · have hf := hf_f e15_4 hf
    by_cases e15_5 : a1 = (5 : Int32)
    · have hf := hf_t e15_5 hf
      refine lv_tableIn (pc := 15) hx hb (off := 27) (tgt := 42) dX4_unknownAt_15 (by rw [e15_5]; decide) (by rw [e15_5]; decide) (by rw [e15_5]; rfl) (by decide) ?_
      refine lv_iload (pc := 42) hx hb dX4_unknownAt_42 (lv_at hl 1 rfl) ?_
      refine lv_aload_n (pc := 44) hx hb dX4_unknownAt_44 rfl (lv_at hl 2 rfl) ?_
      refine vXgRX4_15_1 (pc := 45) hx hb hts mU_44 inU4 hown hK hP (x := (gI S 1)) rfl dX4_unknownAt_45 ?_
      refine lv_imul (pc := 48) hx hb dX4_unknownAt_48 ?_
      refine lv_iload (pc := 49) hx hb dX4_unknownAt_49 (lv_at hl 1 rfl) ?_
      refine lv_iload (pc := 51) hx hb dX4_unknownAt_51 (lv_at hl 1 rfl) ?_
      refine lv_iconst (pc := 53) hx hb (v := 1) dX4_unknownAt_53 (by decide) ?_
      refine lv_isub (pc := 54) hx hb dX4_unknownAt_54 ?_
      refine lv_imul (pc := 55) hx hb dX4_unknownAt_55 ?_
      refine lv_iconst (pc := 56) hx hb (v := 2) dX4_unknownAt_56 (by decide) ?_
      refine lv_idiv (pc := 57) hx hb dX4_unknownAt_57 (by decide) ?_
      refine lv_isub (pc := 58) hx hb dX4_unknownAt_58 ?_
      refine lv_iload (pc := 59) hx hb dX4_unknownAt_59 (lv_at hl 0 rfl) ?_
      refine lv_iadd (pc := 61) hx hb dX4_unknownAt_61 ?_
      refine lv_iload (pc := 62) hx hb dX4_unknownAt_62 (lv_at hl 1 rfl) ?_
      refine lv_isub (pc := 64) hx hb dX4_unknownAt_64 ?_
      obtain rfl := Option.some.inj hf
      exact hR H locs 65 ls hP hD hS dX4_unknownAt_65
    · have hf := hf_f e15_5 hf
      by_cases e15_6 : a1 = (6 : Int32)
      · have hf := hf_t e15_6 hf
        refine lv_tableIn (pc := 15) hx hb (off := 51) (tgt := 66) dX4_unknownAt_15 (by rw [e15_6]; decide) (by rw [e15_6]; decide) (by rw [e15_6]; rfl) (by decide) ?_
        refine lv_iload (pc := 66) hx hb dX4_unknownAt_66 (lv_at hl 1 rfl) ?_
        refine lv_aload_n (pc := 68) hx hb dX4_unknownAt_68 rfl (lv_at hl 2 rfl) ?_
        refine vXgRX4_15_1 (pc := 69) hx hb hts mU_44 inU4 hown hK hP (x := (gI S 1)) rfl dX4_unknownAt_69 ?_
        refine lv_imul (pc := 72) hx hb dX4_unknownAt_72 ?_
        refine lv_iload (pc := 73) hx hb dX4_unknownAt_73 (lv_at hl 1 rfl) ?_
        refine lv_iload (pc := 75) hx hb dX4_unknownAt_75 (lv_at hl 1 rfl) ?_
        refine lv_iconst (pc := 77) hx hb (v := 1) dX4_unknownAt_77 (by decide) ?_
        refine lv_iadd (pc := 78) hx hb dX4_unknownAt_78 ?_
        refine lv_imul (pc := 79) hx hb dX4_unknownAt_79 ?_
        refine lv_iconst (pc := 80) hx hb (v := 2) dX4_unknownAt_80 (by decide) ?_
        refine lv_idiv (pc := 81) hx hb dX4_unknownAt_81 (by decide) ?_
        refine lv_isub (pc := 82) hx hb dX4_unknownAt_82 ?_
        refine lv_iload (pc := 83) hx hb dX4_unknownAt_83 (lv_at hl 0 rfl) ?_
        refine lv_iadd (pc := 85) hx hb dX4_unknownAt_85 ?_
        refine lv_iload (pc := 86) hx hb dX4_unknownAt_86 (lv_at hl 1 rfl) ?_
        refine lv_isub (pc := 88) hx hb dX4_unknownAt_88 ?_
        refine lv_iconst (pc := 89) hx hb (v := 1) dX4_unknownAt_89 (by decide) ?_
        refine lv_isub (pc := 90) hx hb dX4_unknownAt_90 ?_
        obtain rfl := Option.some.inj hf
        exact hR H locs 91 ls hP hD hS dX4_unknownAt_91
      · have hf := hf_f e15_6 hf
        have n15_4 := lv_neT (a := 4) e15_4 rfl
        have n15_5 := lv_neT (a := 5) e15_5 rfl
        have n15_6 := lv_neT (a := 6) e15_6 rfl
        refine lv_tableOut (pc := 15) hx hb (tgt := 92) dX4_unknownAt_15 (by omega) (by decide) ?_
        refine lv_iload_n (pc := 92) hx hb dX4_unknownAt_92 rfl (lv_at hl 4 rfl) ?_
        refine lv_aload_n (pc := 93) hx hb dX4_unknownAt_93 rfl (lv_at hl 2 rfl) ?_
        refine vXgRX4_15_1 (pc := 94) hx hb hts mU_44 inU4 hown hK hP (x := (gI S 1)) rfl dX4_unknownAt_94 ?_
        refine lv_imul (pc := 97) hx hb dX4_unknownAt_97 ?_
        refine lv_iload_n (pc := 98) hx hb dX4_unknownAt_98 rfl (lv_at hl 5 rfl) ?_
        refine lv_iadd (pc := 99) hx hb dX4_unknownAt_99 ?_
        obtain rfl := Option.some.inj hf
        exact hR H locs 100 ls hP hD hS dX4_unknownAt_100
set_option maxHeartbeats 4000000 in
set_option maxRecDepth 100000 in
theorem kX6_fillRow (l : Launch) (D : va_G) (A : Nat → Nat) (B : Nat → ClassId) (sz : Nat) (S : w_S) (a1 : Int32) (a2 : Int32) (a3 : Int32) (a4 : Int32) (a5 : Int32) (a6 : Int32) (z : w_S) (hf : fX6_fillRow S a1 a2 a3 a4 a5 a6 = some z) : MetW l yX6_fillRow (wsO yX6_fillRow cX6_fillRow 13 none) rm_X6_fillRow [.ref (A 0), .int a1, .int a2, .int a3, .int a4, .int a5, .int a6] D (tyB B) (wX A B S) (wX A B z) sz (none) := by
  refine MetW.mkV (cc := cX6_fillRow) (maxL := 13) (by decide) (Nat.le_of_ble_eq_true rfl) ?_
  intro p e s m args below meth c Ad Q hx hb hts hown hml hN hK hA hR H locs ls hP hD hS hl
  have hl : lv_has ls 13 [(0, .ref (A 0)), (1, .int a1), (2, .int a2), (3, .int a3), (4, .int a4), (5, .int a5), (6, .int a6)] := hl
  rw [fX6_fillRow] at hf
  refine lv_iload (pc := 0) hx hb dX6_fillRow_0 (lv_at hl 5 rfl) ?_
  refine lv_iload (pc := 2) hx hb dX6_fillRow_2 (lv_at hl 4 rfl) ?_
  refine lv_isub (pc := 4) hx hb dX6_fillRow_4 ?_
  refine lv_aload_n (pc := 5) hx hb dX6_fillRow_5 rfl (lv_at hl 0 rfl) ?_
  refine vXgRX6_10_0 (pc := 6) hx hb hts mU_16 inU6 hown hK hP dX6_fillRow_6 ?_
  refine vXgRX6_64_1 (pc := 9) hx hb hts mU_112 inU4 hown hK hP (x := (gI S 1)) rfl dX6_fillRow_9 ?_
  refine lv_imul (pc := 12) hx hb dX6_fillRow_12 ?_
  refine lv_iload (pc := 13) hx hb dX6_fillRow_13 (lv_at hl 6 rfl) ?_
  refine lv_iadd (pc := 15) hx hb dX6_fillRow_15 ?_
  refine lv_istore (pc := 16) hx hb (lv' := [(7, .int (((a5 - a4) * (gI S 1)) + a6)), (0, .ref (A 0)), (1, .int a1), (2, .int a2), (3, .int a3), (4, .int a4), (5, .int a5), (6, .int a6)]) dX6_fillRow_16 hl (by decide) rfl (fun ls hl => ?_)
  refine lv_iload (pc := 18) hx hb dX6_fillRow_18 (lv_at hl 5 rfl) ?_
  refine lv_istore (pc := 20) hx hb (lv' := [(8, .int a4), (7, .int (((a5 - a4) * (gI S 1)) + a6)), (0, .ref (A 0)), (1, .int a1), (2, .int a2), (3, .int a3), (4, .int a4), (5, .int a5), (6, .int a6)]) dX6_fillRow_20 hl (by decide) rfl (fun ls hl => ?_)
  obtain ⟨q22, hq22, hf⟩ := hf_b hf
  have hk22 : ∀ (H : Heap) (locs : List Loc) (ls : Array Slot), va_P D vwCl (wX A B q22) H → va_D Ad (wX A B q22) → va_S Ad s.heap H locs → lv_has ls 13 [] → W p l e rm_X6_fillRow s m args below meth c H locs 0 0 Q (F0 m 189 ls []) := by
    intro H locs ls hP hD hS hl
    obtain rfl := Option.some.inj hf
    exact hR H locs 189 ls hP hD hS dX6_fillRow_189
  have lp22 : ∀ (n : Nat) (T22 : w_S) (u8_22 : Int32) (H : Heap) (locs : List Loc) (ls : Array Slot), fX6_fillRow_L22 a1 a2 a3 a4 a5 a6 (((a5 - a4) * (gI S 1)) + a6) n T22 u8_22 = some q22 → va_P D vwCl (wX A B T22) H → va_D Ad (wX A B T22) → va_S Ad s.heap H locs → lv_has ls 13 [(0, .ref (A 0)), (1, .int a1), (2, .int a2), (3, .int a3), (4, .int a4), (5, .int a5), (6, .int a6), (7, .int (((a5 - a4) * (gI S 1)) + a6)), (8, .int u8_22)] → W p l e rm_X6_fillRow s m args below meth c H locs 0 0 Q (F0 m 22 ls []) := by
    intro n22
    induction n22 with
    | zero => intro T22 u8_22 H locs ls hq22; exact hf_0 hq22
    | succ n22 ih22 =>
      intro T22 u8_22 H locs ls hq22 hP hD hS hl
      rw [fX6_fillRow_L22] at hq22
      refine lv_iload (pc := 22) hx hb dX6_fillRow_22 (lv_at hl 8 rfl) ?_
      refine lv_aload_n (pc := 24) hx hb dX6_fillRow_24 rfl (lv_at hl 0 rfl) ?_
      refine vXgRX6_10_0 (pc := 25) hx hb hts mU_16 inU6 hown hK hP dX6_fillRow_25 ?_
      refine vXgRX6_60_1 (pc := 28) hx hb hts mU_111 inU4 hown hK hP (x := (gI T22 0)) rfl dX6_fillRow_28 ?_
      refine lv_icmp_ge (pc := 31) hx hb (tgt := 189) dX6_fillRow_31 (by decide) (fun c_31 => ?_) (fun c_31 => ?_)
      · have hq22 := hf_t c_31 hq22
        obtain rfl := Option.some.inj hq22
        exact hk22 H locs ls hP hD hS (lv_sub hl [] rfl)
      · have hq22 := hf_f c_31 hq22
        refine lv_iconst (pc := 34) hx hb (v := 0) dX6_fillRow_34 (by decide) ?_
        refine lv_istore (pc := 35) hx hb (lv' := [(9, .int 0), (0, .ref (A 0)), (1, .int a1), (2, .int a2), (3, .int a3), (4, .int a4), (5, .int a5), (6, .int a6), (7, .int (((a5 - a4) * (gI S 1)) + a6)), (8, .int u8_22)]) dX6_fillRow_35 hl (by decide) rfl (fun ls hl => ?_)
        obtain ⟨q37, hq37, hq22⟩ := hf_b hq22
        have hk37 : ∀ (H : Heap) (locs : List Loc) (ls : Array Slot), va_P D vwCl (wX A B q37) H → va_D Ad (wX A B q37) → va_S Ad s.heap H locs → lv_has ls 13 [(0, .ref (A 0)), (1, .int a1), (2, .int a2), (3, .int a3), (4, .int a4), (5, .int a5), (6, .int a6), (7, .int (((a5 - a4) * (gI S 1)) + a6)), (8, .int u8_22)] → W p l e rm_X6_fillRow s m args below meth c H locs 0 0 Q (F0 m 183 ls []) := by
          intro H locs ls hP hD hS hl
          refine lv_iinc (pc := 183) hx hb (v := u8_22 + 1) (lv' := [(8, .int (u8_22 + 1)), (0, .ref (A 0)), (1, .int a1), (2, .int a2), (3, .int a3), (4, .int a4), (5, .int a5), (6, .int a6), (7, .int (((a5 - a4) * (gI S 1)) + a6))]) dX6_fillRow_183 hl (k := 8) rfl rfl (by decide) rfl (fun ls hl => ?_)
          refine lv_goto (pc := 186) hx hb (tgt := 22) dX6_fillRow_186 (by decide) ?_
          exact ih22 q37 (u8_22 + 1) H locs ls hq22 hP hD hS (lv_sub hl [1, 2, 3, 4, 5, 6, 7, 8, 0] rfl)
        have lp37 : ∀ (n : Nat) (T37 : w_S) (u9_37 : Int32) (H : Heap) (locs : List Loc) (ls : Array Slot), fX6_fillRow_L37 a1 a2 a3 a4 a5 a6 (((a5 - a4) * (gI S 1)) + a6) u8_22 n T37 u9_37 = some q37 → va_P D vwCl (wX A B T37) H → va_D Ad (wX A B T37) → va_S Ad s.heap H locs → lv_has ls 13 [(0, .ref (A 0)), (1, .int a1), (2, .int a2), (3, .int a3), (4, .int a4), (5, .int a5), (6, .int a6), (7, .int (((a5 - a4) * (gI S 1)) + a6)), (8, .int u8_22), (9, .int u9_37)] → W p l e rm_X6_fillRow s m args below meth c H locs 0 0 Q (F0 m 37 ls []) := by
          intro n37
          induction n37 with
          | zero => intro T37 u9_37 H locs ls hq37; exact hf_0 hq37
          | succ n37 ih37 =>
            intro T37 u9_37 H locs ls hq37 hP hD hS hl
            rw [fX6_fillRow_L37] at hq37
            refine lv_iload (pc := 37) hx hb dX6_fillRow_37 (lv_at hl 9 rfl) ?_
            refine lv_aload_n (pc := 39) hx hb dX6_fillRow_39 rfl (lv_at hl 0 rfl) ?_
            refine vXgRX6_10_0 (pc := 40) hx hb hts mU_16 inU6 hown hK hP dX6_fillRow_40 ?_
            refine vXgRX6_64_1 (pc := 43) hx hb hts mU_112 inU4 hown hK hP (x := (gI T37 1)) rfl dX6_fillRow_43 ?_
            refine lv_icmp_ge (pc := 46) hx hb (tgt := 183) dX6_fillRow_46 (by decide) (fun c_46 => ?_) (fun c_46 => ?_)
            · have hq37 := hf_t c_46 hq37
              obtain rfl := Option.some.inj hq37
              exact hk37 H locs ls hP hD hS (lv_sub hl [0, 1, 2, 3, 4, 5, 6, 7, 8] rfl)
            · have hq37 := hf_f c_46 hq37
              refine lv_aload_n (pc := 49) hx hb dX6_fillRow_49 rfl (lv_at hl 0 rfl) ?_
              refine vXgRX6_10_0 (pc := 50) hx hb hts mU_16 inU6 hown hK hP dX6_fillRow_50 ?_
              refine lv_iload_n (pc := 53) hx hb dX6_fillRow_53 rfl (lv_at hl 2 rfl) ?_
              refine lv_iload (pc := 54) hx hb dX6_fillRow_54 (lv_at hl 8 rfl) ?_
              refine lv_iload (pc := 56) hx hb dX6_fillRow_56 (lv_at hl 9 rfl) ?_
              obtain ⟨r58, hc58, hq37⟩ := hf_b hq37
              refine cl_V (pc := 58) (As := [.int a2, .int u8_22, .int u9_37]) (rest := []) hx hb hml hown hts (kX4_signAt_1 l D A B _ T37 a2 u8_22 u9_37 r58 hc58) (cwV 3 hts gwRX6_183 rfl rfl rfl hdX4_signAt ⟨Nat.le_of_ble_eq_true rfl, Nat.le_of_ble_eq_true rfl⟩) hN hK hP hD hS hA (va_recv hK hP (ci := 4) (q0 := 1) rfl (eX_1 A B _)) rfl hl.1 rfl (Nat.le_of_ble_eq_true rfl) dX6_fillRow_58 (st1 := [.int r58]) rfl ⟨Nat.zero_le _, Nat.zero_le _⟩ (fun H locs hP hD hS => ?_)
              refine lv_istore (pc := 61) hx hb (lv' := [(10, .int r58), (0, .ref (A 0)), (1, .int a1), (2, .int a2), (3, .int a3), (4, .int a4), (5, .int a5), (6, .int a6), (7, .int (((a5 - a4) * (gI S 1)) + a6)), (8, .int u8_22), (9, .int u9_37)]) dX6_fillRow_61 hl (by decide) rfl (fun ls hl => ?_)
              refine lv_iload (pc := 63) hx hb dX6_fillRow_63 (lv_at hl 0 rfl) ?_
              refine lv_if_eq (pc := 65) hx hb (tgt := 177) dX6_fillRow_65 (by decide) (fun c_65 => ?_) (fun c_65 => ?_)
              · have hq37 := hf_t c_65 hq37
                refine lv_iinc (pc := 177) hx hb (v := u9_37 + 1) (lv' := [(9, .int (u9_37 + 1)), (10, .int r58), (0, .ref (A 0)), (1, .int a1), (2, .int a2), (3, .int a3), (4, .int a4), (5, .int a5), (6, .int a6), (7, .int (((a5 - a4) * (gI S 1)) + a6)), (8, .int u8_22)]) dX6_fillRow_177 hl (k := 10) rfl rfl (by decide) rfl (fun ls hl => ?_)
                refine lv_goto (pc := 180) hx hb (tgt := 37) dX6_fillRow_180 (by decide) ?_
                exact ih37 T37 (u9_37 + 1) H locs ls hq37 hP hD hS (lv_sub hl [2, 3, 4, 5, 6, 7, 8, 9, 10, 0] rfl)
              · have hq37 := hf_f c_65 hq37
                refine lv_iload (pc := 68) hx hb dX6_fillRow_68 (lv_at hl 10 rfl) ?_
                refine lv_iload (pc := 70) hx hb dX6_fillRow_70 (lv_at hl 7 rfl) ?_
                refine lv_icmp_eq (pc := 72) hx hb (tgt := 82) dX6_fillRow_72 (by decide) (fun c_72 => ?_) (fun c_72 => ?_)
                · have hq37 := hf_t c_72 hq37
                  refine lv_aload_n (pc := 82) hx hb dX6_fillRow_82 rfl (lv_at hl 1 rfl) ?_
                  refine vXgRX6_10_0 (pc := 83) hx hb hts mU_16 inU6 hown hK hP dX6_fillRow_83 ?_
                  refine lv_iload_n (pc := 86) hx hb dX6_fillRow_86 rfl (lv_at hl 3 rfl) ?_
                  refine lv_iload (pc := 87) hx hb dX6_fillRow_87 (lv_at hl 9 rfl) ?_
                  refine lv_iload (pc := 89) hx hb dX6_fillRow_89 (lv_at hl 10 rfl) ?_
                  obtain ⟨r91, hc91, hq37⟩ := hf_b hq37
                  refine cl_V (pc := 91) (As := [.int a2, .int u8_22, .int u9_37]) (rest := []) hx hb hml hown hts (kX4_unknownAt_1 l D A B _ T37 a2 u8_22 u9_37 r91 hc91) (cwV 3 hts gwRX6_186 rfl rfl rfl hdX4_unknownAt ⟨Nat.le_of_ble_eq_true rfl, Nat.le_of_ble_eq_true rfl⟩) hN hK hP hD hS hA (va_recv hK hP (ci := 4) (q0 := 1) rfl (eX_1 A B _)) rfl hl.1 rfl (Nat.le_of_ble_eq_true rfl) dX6_fillRow_91 (st1 := [.int r91]) rfl ⟨Nat.zero_le _, Nat.zero_le _⟩ (fun H locs hP hD hS => ?_)
                  refine lv_iload (pc := 94) hx hb dX6_fillRow_94 (lv_at hl 5 rfl) ?_
                  refine lv_aload_n (pc := 96) hx hb dX6_fillRow_96 rfl (lv_at hl 1 rfl) ?_
                  refine vXgRX6_10_0 (pc := 97) hx hb hts mU_16 inU6 hown hK hP dX6_fillRow_97 ?_
                  refine vXgRX6_64_1 (pc := 100) hx hb hts mU_112 inU4 hown hK hP (x := (gI T37 1)) rfl dX6_fillRow_100 ?_
                  refine lv_imul (pc := 103) hx hb dX6_fillRow_103 ?_
                  refine lv_isub (pc := 104) hx hb dX6_fillRow_104 ?_
                  refine lv_istore (pc := 105) hx hb (lv' := [(11, .int (r91 - (a4 * (gI T37 1)))), (10, .int r58), (0, .ref (A 0)), (1, .int a1), (2, .int a2), (3, .int a3), (4, .int a4), (5, .int a5), (6, .int a6), (7, .int (((a5 - a4) * (gI S 1)) + a6)), (8, .int u8_22), (9, .int u9_37)]) dX6_fillRow_105 hl (by decide) rfl (fun ls hl => ?_)
                  refine lv_iload (pc := 107) hx hb dX6_fillRow_107 (lv_at hl 11 rfl) ?_
                  refine lv_iload (pc := 109) hx hb dX6_fillRow_109 (lv_at hl 8 rfl) ?_
                  obtain ⟨q130, hv130, hq37⟩ := hf_b hq37
                  have hj130 : ∀ (H : Heap) (locs : List Loc) (ls : Array Slot), va_P D vwCl (wX A B T37) H → va_D Ad (wX A B T37) → va_S Ad s.heap H locs → lv_has ls 13 [(0, .ref (A 0)), (1, .int a1), (2, .int a2), (3, .int a3), (4, .int a4), (5, .int a5), (6, .int a6), (7, .int (((a5 - a4) * (gI S 1)) + a6)), (8, .int u8_22), (9, .int u9_37), (10, .int r58), (11, .int (r91 - (a4 * (gI T37 1))))] → W p l e rm_X6_fillRow s m args below meth c H locs 0 0 Q (F0 m 130 ls [.int q130]) := by
                    intro H locs ls hP hD hS hl
                    refine lv_istore (pc := 130) hx hb (lv' := [(12, .int q130), (0, .ref (A 0)), (1, .int a1), (2, .int a2), (3, .int a3), (4, .int a4), (5, .int a5), (6, .int a6), (7, .int (((a5 - a4) * (gI S 1)) + a6)), (8, .int u8_22), (9, .int u9_37), (10, .int r58), (11, .int (r91 - (a4 * (gI T37 1))))]) dX6_fillRow_130 hl (by decide) rfl (fun ls hl => ?_)
                    refine lv_iload (pc := 132) hx hb dX6_fillRow_132 (lv_at hl 0 rfl) ?_
                    refine lv_iload (pc := 134) hx hb dX6_fillRow_134 (lv_at hl 9 rfl) ?_
                    refine lv_iload (pc := 136) hx hb dX6_fillRow_136 (lv_at hl 6 rfl) ?_
                    obtain ⟨q157, hv157, hq37⟩ := hf_b hq37
                    have hj157 : ∀ (H : Heap) (locs : List Loc) (ls : Array Slot), va_P D vwCl (wX A B T37) H → va_D Ad (wX A B T37) → va_S Ad s.heap H locs → lv_has ls 13 [(0, .ref (A 0)), (1, .int a1), (2, .int a2), (3, .int a3), (4, .int a4), (5, .int a5), (6, .int a6), (7, .int (((a5 - a4) * (gI S 1)) + a6)), (8, .int u8_22), (9, .int u9_37), (10, .int r58), (11, .int (r91 - (a4 * (gI T37 1))))] → W p l e rm_X6_fillRow s m args below meth c H locs 0 0 Q (F0 m 157 ls [.int q157, .int q130]) := by
                      intro H locs ls hP hD hS hl
                      refine lv_iadd (pc := 157) hx hb dX6_fillRow_157 ?_
                      refine lv_istore (pc := 158) hx hb (lv' := [(12, .int (q130 + q157)), (0, .ref (A 0)), (1, .int a1), (2, .int a2), (3, .int a3), (4, .int a4), (5, .int a5), (6, .int a6), (7, .int (((a5 - a4) * (gI S 1)) + a6)), (8, .int u8_22), (9, .int u9_37), (10, .int r58), (11, .int (r91 - (a4 * (gI T37 1))))]) dX6_fillRow_158 hl (by decide) rfl (fun ls hl => ?_)
                      refine lv_aload_n (pc := 160) hx hb dX6_fillRow_160 rfl (lv_at hl 1 rfl) ?_
                      refine vXgRX6_25_0 (pc := 161) hx hb hts mU_22 inU6 hown hK hP dX6_fillRow_161 ?_
                      refine lv_iload (pc := 164) hx hb dX6_fillRow_164 (lv_at hl 8 rfl) ?_
                      refine lv_iload (pc := 166) hx hb dX6_fillRow_166 (lv_at hl 12 rfl) ?_
                      refine lv_iload (pc := 168) hx hb dX6_fillRow_168 (lv_at hl 11 rfl) ?_
                      refine lv_iload (pc := 170) hx hb dX6_fillRow_170 (lv_at hl 0 rfl) ?_
                      refine lv_imul (pc := 172) hx hb dX6_fillRow_172 ?_
                      refine lv_i2l (pc := 173) hx hb (v := (r58 * (q130 + q157)).toInt64) dX6_fillRow_173 rfl ?_
                      obtain ⟨r174, hc174, hq37⟩ := hf_b hq37
                      refine cl_V (pc := 174) (As := [.int (((a5 - a4) * (gI S 1)) + a6), .int (r91 - (a4 * (gI T37 1))), .long ((r58 * (q130 + q157)).toInt64)]) (rest := []) hx hb hml hown hts (kX1_add_19 l D A B _ T37 (((a5 - a4) * (gI S 1)) + a6) (r91 - (a4 * (gI T37 1))) ((r58 * (q130 + q157)).toInt64) r174 hc174) (cwV 3 hts gwRX6_340 rfl rfl rfl hdX1_add ⟨Nat.le_of_ble_eq_true rfl, Nat.le_of_ble_eq_true rfl⟩) hN hK hP hD hS hA (va_recv hK hP (ci := 1) (q0 := 19) rfl (eX_19 A B _)) rfl hl.1 rfl (Nat.le_of_ble_eq_true rfl) dX6_fillRow_174 (st1 := []) rfl ⟨Nat.zero_le _, Nat.zero_le _⟩ (fun H locs hP hD hS => ?_)
                      refine lv_iinc (pc := 177) hx hb (v := u9_37 + 1) (lv' := [(9, .int (u9_37 + 1)), (12, .int (q130 + q157)), (0, .ref (A 0)), (1, .int a1), (2, .int a2), (3, .int a3), (4, .int a4), (5, .int a5), (6, .int a6), (7, .int (((a5 - a4) * (gI S 1)) + a6)), (8, .int u8_22), (10, .int r58), (11, .int (r91 - (a4 * (gI T37 1))))]) dX6_fillRow_177 hl (k := 10) rfl rfl (by decide) rfl (fun ls hl => ?_)
                      refine lv_goto (pc := 180) hx hb (tgt := 37) dX6_fillRow_180 (by decide) ?_
                      exact ih37 r174 (u9_37 + 1) H locs ls hq37 hP hD hS (lv_sub hl [2, 3, 4, 5, 6, 7, 8, 9, 10, 0] rfl)
                    refine lv_icmp_ne (pc := 138) hx hb (tgt := 156) dX6_fillRow_138 (by decide) (fun c_138 => ?_) (fun c_138 => ?_)
                    · have hv157 := hf_f c_138 hv157
                      refine lv_iconst (pc := 156) hx hb (v := 0) dX6_fillRow_156 (by decide) ?_
                      obtain rfl := Option.some.inj hv157
                      exact hj157 H locs ls hP hD hS (lv_sub hl [1, 2, 3, 4, 5, 6, 7, 8, 9, 10, 11, 12] rfl)
                    · have hv157 := hf_t c_138 hv157
                      refine lv_aload_n (pc := 141) hx hb dX6_fillRow_141 rfl (lv_at hl 1 rfl) ?_
                      refine vXgRX6_10_0 (pc := 142) hx hb hts mU_16 inU6 hown hK hP dX6_fillRow_142 ?_
                      refine lv_iload_n (pc := 145) hx hb dX6_fillRow_145 rfl (lv_at hl 2 rfl) ?_
                      refine lv_iload (pc := 146) hx hb dX6_fillRow_146 (lv_at hl 10 rfl) ?_
                      refine lv_iload (pc := 148) hx hb dX6_fillRow_148 (lv_at hl 7 rfl) ?_
                      obtain ⟨r150, hc150, hv157⟩ := hf_b hv157
                      refine cl_V (pc := 150) (As := [.int a1, .int u9_37, .int a6]) (rest := [.int q130]) hx hb hml hown hts (kX4_rightEntry_1 l D A B _ T37 a1 u9_37 a6 r150 hc150) (cwV 3 hts gwRX6_162 rfl rfl rfl hdX4_rightEntry ⟨Nat.le_of_ble_eq_true rfl, Nat.le_of_ble_eq_true rfl⟩) hN hK hP hD hS hA (va_recv hK hP (ci := 4) (q0 := 1) rfl (eX_1 A B _)) rfl hl.1 rfl (Nat.le_of_ble_eq_true rfl) dX6_fillRow_150 (st1 := [.int r150, .int q130]) rfl ⟨Nat.zero_le _, Nat.zero_le _⟩ (fun H locs hP hD hS => ?_)
                      refine lv_goto (pc := 153) hx hb (tgt := 157) dX6_fillRow_153 (by decide) ?_
                      obtain rfl := Option.some.inj hv157
                      exact hj157 H locs ls hP hD hS (lv_sub hl [1, 2, 3, 4, 5, 6, 7, 8, 9, 10, 11, 12] rfl)
                  refine lv_icmp_ne (pc := 111) hx hb (tgt := 129) dX6_fillRow_111 (by decide) (fun c_111 => ?_) (fun c_111 => ?_)
                  · have hv130 := hf_f c_111 hv130
                    refine lv_iconst (pc := 129) hx hb (v := 0) dX6_fillRow_129 (by decide) ?_
                    obtain rfl := Option.some.inj hv130
                    exact hj130 H locs ls hP hD hS (lv_sub hl [2, 3, 4, 5, 6, 7, 8, 9, 10, 11, 1, 0] rfl)
                  · have hv130 := hf_t c_111 hv130
                    refine lv_aload_n (pc := 114) hx hb dX6_fillRow_114 rfl (lv_at hl 2 rfl) ?_
                    refine vXgRX6_10_0 (pc := 115) hx hb hts mU_16 inU6 hown hK hP dX6_fillRow_115 ?_
                    refine lv_iload_n (pc := 118) hx hb dX6_fillRow_118 rfl (lv_at hl 5 rfl) ?_
                    refine lv_iload (pc := 119) hx hb dX6_fillRow_119 (lv_at hl 7 rfl) ?_
                    refine lv_iload (pc := 121) hx hb dX6_fillRow_121 (lv_at hl 10 rfl) ?_
                    obtain ⟨r123, hc123, hv130⟩ := hf_b hv130
                    refine cl_V (pc := 123) (As := [.int a3, .int a5, .int u8_22]) (rest := []) hx hb hml hown hts (kX4_leftEntry_1 l D A B _ T37 a3 a5 u8_22 r123 hc123) (cwV 3 hts gwRX6_348 rfl rfl rfl hdX4_leftEntry ⟨Nat.le_of_ble_eq_true rfl, Nat.le_of_ble_eq_true rfl⟩) hN hK hP hD hS hA (va_recv hK hP (ci := 4) (q0 := 1) rfl (eX_1 A B _)) rfl hl.1 rfl (Nat.le_of_ble_eq_true rfl) dX6_fillRow_123 (st1 := [.int r123]) rfl ⟨Nat.zero_le _, Nat.zero_le _⟩ (fun H locs hP hD hS => ?_)
                    refine lv_goto (pc := 126) hx hb (tgt := 130) dX6_fillRow_126 (by decide) ?_
                    obtain rfl := Option.some.inj hv130
                    exact hj130 H locs ls hP hD hS (lv_sub hl [2, 3, 4, 5, 6, 7, 8, 9, 10, 11, 1, 0] rfl)
                · have hq37 := hf_f c_72 hq37
                  refine lv_iload (pc := 75) hx hb dX6_fillRow_75 (lv_at hl 9 rfl) ?_
                  refine lv_iload (pc := 77) hx hb dX6_fillRow_77 (lv_at hl 6 rfl) ?_
                  refine lv_icmp_ne (pc := 79) hx hb (tgt := 177) dX6_fillRow_79 (by decide) (fun c_79 => ?_) (fun c_79 => ?_)
                  · have hq37 := hf_f c_79 hq37
                    refine lv_iinc (pc := 177) hx hb (v := u9_37 + 1) (lv' := [(9, .int (u9_37 + 1)), (10, .int r58), (0, .ref (A 0)), (1, .int a1), (2, .int a2), (3, .int a3), (4, .int a4), (5, .int a5), (6, .int a6), (7, .int (((a5 - a4) * (gI S 1)) + a6)), (8, .int u8_22)]) dX6_fillRow_177 hl (k := 10) rfl rfl (by decide) rfl (fun ls hl => ?_)
                    refine lv_goto (pc := 180) hx hb (tgt := 37) dX6_fillRow_180 (by decide) ?_
                    exact ih37 T37 (u9_37 + 1) H locs ls hq37 hP hD hS (lv_sub hl [2, 3, 4, 5, 6, 7, 8, 9, 10, 0] rfl)
                  · have hq37 := hf_t c_79 hq37
                    refine lv_aload_n (pc := 82) hx hb dX6_fillRow_82 rfl (lv_at hl 1 rfl) ?_
                    refine vXgRX6_10_0 (pc := 83) hx hb hts mU_16 inU6 hown hK hP dX6_fillRow_83 ?_
                    refine lv_iload_n (pc := 86) hx hb dX6_fillRow_86 rfl (lv_at hl 3 rfl) ?_
                    refine lv_iload (pc := 87) hx hb dX6_fillRow_87 (lv_at hl 9 rfl) ?_
                    refine lv_iload (pc := 89) hx hb dX6_fillRow_89 (lv_at hl 10 rfl) ?_
                    obtain ⟨r91, hc91, hq37⟩ := hf_b hq37
                    refine cl_V (pc := 91) (As := [.int a2, .int u8_22, .int u9_37]) (rest := []) hx hb hml hown hts (kX4_unknownAt_1 l D A B _ T37 a2 u8_22 u9_37 r91 hc91) (cwV 3 hts gwRX6_186 rfl rfl rfl hdX4_unknownAt ⟨Nat.le_of_ble_eq_true rfl, Nat.le_of_ble_eq_true rfl⟩) hN hK hP hD hS hA (va_recv hK hP (ci := 4) (q0 := 1) rfl (eX_1 A B _)) rfl hl.1 rfl (Nat.le_of_ble_eq_true rfl) dX6_fillRow_91 (st1 := [.int r91]) rfl ⟨Nat.zero_le _, Nat.zero_le _⟩ (fun H locs hP hD hS => ?_)
                    refine lv_iload (pc := 94) hx hb dX6_fillRow_94 (lv_at hl 5 rfl) ?_
                    refine lv_aload_n (pc := 96) hx hb dX6_fillRow_96 rfl (lv_at hl 1 rfl) ?_
                    refine vXgRX6_10_0 (pc := 97) hx hb hts mU_16 inU6 hown hK hP dX6_fillRow_97 ?_
                    refine vXgRX6_64_1 (pc := 100) hx hb hts mU_112 inU4 hown hK hP (x := (gI T37 1)) rfl dX6_fillRow_100 ?_
                    refine lv_imul (pc := 103) hx hb dX6_fillRow_103 ?_
                    refine lv_isub (pc := 104) hx hb dX6_fillRow_104 ?_
                    refine lv_istore (pc := 105) hx hb (lv' := [(11, .int (r91 - (a4 * (gI T37 1)))), (10, .int r58), (0, .ref (A 0)), (1, .int a1), (2, .int a2), (3, .int a3), (4, .int a4), (5, .int a5), (6, .int a6), (7, .int (((a5 - a4) * (gI S 1)) + a6)), (8, .int u8_22), (9, .int u9_37)]) dX6_fillRow_105 hl (by decide) rfl (fun ls hl => ?_)
                    refine lv_iload (pc := 107) hx hb dX6_fillRow_107 (lv_at hl 11 rfl) ?_
                    refine lv_iload (pc := 109) hx hb dX6_fillRow_109 (lv_at hl 8 rfl) ?_
                    obtain ⟨q130, hv130, hq37⟩ := hf_b hq37
                    have hj130 : ∀ (H : Heap) (locs : List Loc) (ls : Array Slot), va_P D vwCl (wX A B T37) H → va_D Ad (wX A B T37) → va_S Ad s.heap H locs → lv_has ls 13 [(0, .ref (A 0)), (1, .int a1), (2, .int a2), (3, .int a3), (4, .int a4), (5, .int a5), (6, .int a6), (7, .int (((a5 - a4) * (gI S 1)) + a6)), (8, .int u8_22), (9, .int u9_37), (10, .int r58), (11, .int (r91 - (a4 * (gI T37 1))))] → W p l e rm_X6_fillRow s m args below meth c H locs 0 0 Q (F0 m 130 ls [.int q130]) := by
                      intro H locs ls hP hD hS hl
                      refine lv_istore (pc := 130) hx hb (lv' := [(12, .int q130), (0, .ref (A 0)), (1, .int a1), (2, .int a2), (3, .int a3), (4, .int a4), (5, .int a5), (6, .int a6), (7, .int (((a5 - a4) * (gI S 1)) + a6)), (8, .int u8_22), (9, .int u9_37), (10, .int r58), (11, .int (r91 - (a4 * (gI T37 1))))]) dX6_fillRow_130 hl (by decide) rfl (fun ls hl => ?_)
                      refine lv_iload (pc := 132) hx hb dX6_fillRow_132 (lv_at hl 0 rfl) ?_
                      refine lv_iload (pc := 134) hx hb dX6_fillRow_134 (lv_at hl 9 rfl) ?_
                      refine lv_iload (pc := 136) hx hb dX6_fillRow_136 (lv_at hl 6 rfl) ?_
                      obtain ⟨q157, hv157, hq37⟩ := hf_b hq37
                      have hj157 : ∀ (H : Heap) (locs : List Loc) (ls : Array Slot), va_P D vwCl (wX A B T37) H → va_D Ad (wX A B T37) → va_S Ad s.heap H locs → lv_has ls 13 [(0, .ref (A 0)), (1, .int a1), (2, .int a2), (3, .int a3), (4, .int a4), (5, .int a5), (6, .int a6), (7, .int (((a5 - a4) * (gI S 1)) + a6)), (8, .int u8_22), (9, .int u9_37), (10, .int r58), (11, .int (r91 - (a4 * (gI T37 1))))] → W p l e rm_X6_fillRow s m args below meth c H locs 0 0 Q (F0 m 157 ls [.int q157, .int q130]) := by
                        intro H locs ls hP hD hS hl
                        refine lv_iadd (pc := 157) hx hb dX6_fillRow_157 ?_
                        refine lv_istore (pc := 158) hx hb (lv' := [(12, .int (q130 + q157)), (0, .ref (A 0)), (1, .int a1), (2, .int a2), (3, .int a3), (4, .int a4), (5, .int a5), (6, .int a6), (7, .int (((a5 - a4) * (gI S 1)) + a6)), (8, .int u8_22), (9, .int u9_37), (10, .int r58), (11, .int (r91 - (a4 * (gI T37 1))))]) dX6_fillRow_158 hl (by decide) rfl (fun ls hl => ?_)
                        refine lv_aload_n (pc := 160) hx hb dX6_fillRow_160 rfl (lv_at hl 1 rfl) ?_
                        refine vXgRX6_25_0 (pc := 161) hx hb hts mU_22 inU6 hown hK hP dX6_fillRow_161 ?_
                        refine lv_iload (pc := 164) hx hb dX6_fillRow_164 (lv_at hl 8 rfl) ?_
                        refine lv_iload (pc := 166) hx hb dX6_fillRow_166 (lv_at hl 12 rfl) ?_
                        refine lv_iload (pc := 168) hx hb dX6_fillRow_168 (lv_at hl 11 rfl) ?_
                        refine lv_iload (pc := 170) hx hb dX6_fillRow_170 (lv_at hl 0 rfl) ?_
                        refine lv_imul (pc := 172) hx hb dX6_fillRow_172 ?_
                        refine lv_i2l (pc := 173) hx hb (v := (r58 * (q130 + q157)).toInt64) dX6_fillRow_173 rfl ?_
                        obtain ⟨r174, hc174, hq37⟩ := hf_b hq37
                        refine cl_V (pc := 174) (As := [.int (((a5 - a4) * (gI S 1)) + a6), .int (r91 - (a4 * (gI T37 1))), .long ((r58 * (q130 + q157)).toInt64)]) (rest := []) hx hb hml hown hts (kX1_add_19 l D A B _ T37 (((a5 - a4) * (gI S 1)) + a6) (r91 - (a4 * (gI T37 1))) ((r58 * (q130 + q157)).toInt64) r174 hc174) (cwV 3 hts gwRX6_340 rfl rfl rfl hdX1_add ⟨Nat.le_of_ble_eq_true rfl, Nat.le_of_ble_eq_true rfl⟩) hN hK hP hD hS hA (va_recv hK hP (ci := 1) (q0 := 19) rfl (eX_19 A B _)) rfl hl.1 rfl (Nat.le_of_ble_eq_true rfl) dX6_fillRow_174 (st1 := []) rfl ⟨Nat.zero_le _, Nat.zero_le _⟩ (fun H locs hP hD hS => ?_)
                        refine lv_iinc (pc := 177) hx hb (v := u9_37 + 1) (lv' := [(9, .int (u9_37 + 1)), (12, .int (q130 + q157)), (0, .ref (A 0)), (1, .int a1), (2, .int a2), (3, .int a3), (4, .int a4), (5, .int a5), (6, .int a6), (7, .int (((a5 - a4) * (gI S 1)) + a6)), (8, .int u8_22), (10, .int r58), (11, .int (r91 - (a4 * (gI T37 1))))]) dX6_fillRow_177 hl (k := 10) rfl rfl (by decide) rfl (fun ls hl => ?_)
                        refine lv_goto (pc := 180) hx hb (tgt := 37) dX6_fillRow_180 (by decide) ?_
                        exact ih37 r174 (u9_37 + 1) H locs ls hq37 hP hD hS (lv_sub hl [2, 3, 4, 5, 6, 7, 8, 9, 10, 0] rfl)
                      refine lv_icmp_ne (pc := 138) hx hb (tgt := 156) dX6_fillRow_138 (by decide) (fun c_138 => ?_) (fun c_138 => ?_)
                      · have hv157 := hf_f c_138 hv157
                        refine lv_iconst (pc := 156) hx hb (v := 0) dX6_fillRow_156 (by decide) ?_
                        obtain rfl := Option.some.inj hv157
                        exact hj157 H locs ls hP hD hS (lv_sub hl [1, 2, 3, 4, 5, 6, 7, 8, 9, 10, 11, 12] rfl)
                      · have hv157 := hf_t c_138 hv157
                        refine lv_aload_n (pc := 141) hx hb dX6_fillRow_141 rfl (lv_at hl 1 rfl) ?_
                        refine vXgRX6_10_0 (pc := 142) hx hb hts mU_16 inU6 hown hK hP dX6_fillRow_142 ?_
                        refine lv_iload_n (pc := 145) hx hb dX6_fillRow_145 rfl (lv_at hl 2 rfl) ?_
                        refine lv_iload (pc := 146) hx hb dX6_fillRow_146 (lv_at hl 10 rfl) ?_
                        refine lv_iload (pc := 148) hx hb dX6_fillRow_148 (lv_at hl 7 rfl) ?_
                        obtain ⟨r150, hc150, hv157⟩ := hf_b hv157
                        refine cl_V (pc := 150) (As := [.int a1, .int u9_37, .int a6]) (rest := [.int q130]) hx hb hml hown hts (kX4_rightEntry_1 l D A B _ T37 a1 u9_37 a6 r150 hc150) (cwV 3 hts gwRX6_162 rfl rfl rfl hdX4_rightEntry ⟨Nat.le_of_ble_eq_true rfl, Nat.le_of_ble_eq_true rfl⟩) hN hK hP hD hS hA (va_recv hK hP (ci := 4) (q0 := 1) rfl (eX_1 A B _)) rfl hl.1 rfl (Nat.le_of_ble_eq_true rfl) dX6_fillRow_150 (st1 := [.int r150, .int q130]) rfl ⟨Nat.zero_le _, Nat.zero_le _⟩ (fun H locs hP hD hS => ?_)
                        refine lv_goto (pc := 153) hx hb (tgt := 157) dX6_fillRow_153 (by decide) ?_
                        obtain rfl := Option.some.inj hv157
                        exact hj157 H locs ls hP hD hS (lv_sub hl [1, 2, 3, 4, 5, 6, 7, 8, 9, 10, 11, 12] rfl)
                    refine lv_icmp_ne (pc := 111) hx hb (tgt := 129) dX6_fillRow_111 (by decide) (fun c_111 => ?_) (fun c_111 => ?_)
                    · have hv130 := hf_f c_111 hv130
                      refine lv_iconst (pc := 129) hx hb (v := 0) dX6_fillRow_129 (by decide) ?_
                      obtain rfl := Option.some.inj hv130
                      exact hj130 H locs ls hP hD hS (lv_sub hl [2, 3, 4, 5, 6, 7, 8, 9, 10, 11, 1, 0] rfl)
                    · have hv130 := hf_t c_111 hv130
                      refine lv_aload_n (pc := 114) hx hb dX6_fillRow_114 rfl (lv_at hl 2 rfl) ?_
                      refine vXgRX6_10_0 (pc := 115) hx hb hts mU_16 inU6 hown hK hP dX6_fillRow_115 ?_
                      refine lv_iload_n (pc := 118) hx hb dX6_fillRow_118 rfl (lv_at hl 5 rfl) ?_
                      refine lv_iload (pc := 119) hx hb dX6_fillRow_119 (lv_at hl 7 rfl) ?_
                      refine lv_iload (pc := 121) hx hb dX6_fillRow_121 (lv_at hl 10 rfl) ?_
                      obtain ⟨r123, hc123, hv130⟩ := hf_b hv130
                      refine cl_V (pc := 123) (As := [.int a3, .int a5, .int u8_22]) (rest := []) hx hb hml hown hts (kX4_leftEntry_1 l D A B _ T37 a3 a5 u8_22 r123 hc123) (cwV 3 hts gwRX6_348 rfl rfl rfl hdX4_leftEntry ⟨Nat.le_of_ble_eq_true rfl, Nat.le_of_ble_eq_true rfl⟩) hN hK hP hD hS hA (va_recv hK hP (ci := 4) (q0 := 1) rfl (eX_1 A B _)) rfl hl.1 rfl (Nat.le_of_ble_eq_true rfl) dX6_fillRow_123 (st1 := [.int r123]) rfl ⟨Nat.zero_le _, Nat.zero_le _⟩ (fun H locs hP hD hS => ?_)
                      refine lv_goto (pc := 126) hx hb (tgt := 130) dX6_fillRow_126 (by decide) ?_
                      obtain rfl := Option.some.inj hv130
                      exact hj130 H locs ls hP hD hS (lv_sub hl [2, 3, 4, 5, 6, 7, 8, 9, 10, 11, 1, 0] rfl)
        exact lp37 256 T22 0 H locs ls hq37 hP hD hS (lv_sub hl [1, 2, 3, 4, 5, 6, 7, 8, 9, 0] rfl)
  exact lp22 256 S a4 H locs ls hq22 hP hD hS (lv_sub hl [2, 3, 4, 5, 6, 7, 8, 1, 0] rfl)
set_option maxHeartbeats 4000000 in
set_option maxRecDepth 100000 in
theorem kX6_fillGrid (l : Launch) (D : va_G) (A : Nat → Nat) (B : Nat → ClassId) (sz : Nat) (S : w_S) (a1 : Int32) (a2 : Int32) (a3 : Int32) (a4 : Int32) (z : w_S) (hf : fX6_fillGrid S a1 a2 a3 a4 = some z) : MetW l yX6_fillGrid (wsO yX6_fillGrid cX6_fillGrid 9 none) rm_X6_fillGrid [.ref (A 0), .int a1, .int a2, .int a3, .int a4] D (tyB B) (wX A B S) (wX A B z) sz (none) := by
  refine MetW.mkV (cc := cX6_fillGrid) (maxL := 9) (by decide) (Nat.le_of_ble_eq_true rfl) ?_
  intro p e s m args below meth c Ad Q hx hb hts hown hml hN hK hA hR H locs ls hP hD hS hl
  have hl : lv_has ls 9 [(0, .ref (A 0)), (1, .int a1), (2, .int a2), (3, .int a3), (4, .int a4)] := hl
  rw [fX6_fillGrid] at hf
  refine lv_aload_n (pc := 0) hx hb dX6_fillGrid_0 rfl (lv_at hl 0 rfl) ?_
  refine vXgRX6_10_0 (pc := 1) hx hb hts mU_16 inU6 hown hK hP dX6_fillGrid_1 ?_
  refine vXgRX6_64_1 (pc := 4) hx hb hts mU_112 inU4 hown hK hP (x := (gI S 1)) rfl dX6_fillGrid_4 ?_
  refine lv_istore (pc := 7) hx hb (lv' := [(5, .int (gI S 1)), (0, .ref (A 0)), (1, .int a1), (2, .int a2), (3, .int a3), (4, .int a4)]) dX6_fillGrid_7 hl (by decide) rfl (fun ls hl => ?_)
  refine lv_aload_n (pc := 9) hx hb dX6_fillGrid_9 rfl (lv_at hl 1 rfl) ?_
  refine vXgRX6_10_0 (pc := 10) hx hb hts mU_16 inU6 hown hK hP dX6_fillGrid_10 ?_
  refine lv_iload_n (pc := 13) hx hb dX6_fillGrid_13 rfl (lv_at hl 3 rfl) ?_
  obtain ⟨r14, hc14, hf⟩ := hf_b hf
  refine cl_V (pc := 14) (As := [.int a2]) (rest := []) hx hb hml hown hts (kX4_unknowns_1 l D A B _ S a2 r14 hc14) (cwV 1 hts gwRX6_140 rfl rfl rfl hdX4_unknowns ⟨Nat.le_of_ble_eq_true rfl, Nat.le_of_ble_eq_true rfl⟩) hN hK hP hD hS hA (va_recv hK hP (ci := 4) (q0 := 1) rfl (eX_1 A B _)) rfl hl.1 rfl (Nat.le_of_ble_eq_true rfl) dX6_fillGrid_14 (st1 := [.int r14]) rfl ⟨Nat.zero_le _, Nat.zero_le _⟩ (fun H locs hP hD hS => ?_)
  refine lv_iload (pc := 17) hx hb dX6_fillGrid_17 (lv_at hl 5 rfl) ?_
  refine lv_iload (pc := 19) hx hb dX6_fillGrid_19 (lv_at hl 0 rfl) ?_
  refine lv_imul (pc := 21) hx hb dX6_fillGrid_21 ?_
  refine lv_isub (pc := 22) hx hb dX6_fillGrid_22 ?_
  refine lv_istore (pc := 23) hx hb (lv' := [(6, .int (r14 - (a4 * (gI S 1)))), (5, .int (gI S 1)), (0, .ref (A 0)), (1, .int a1), (2, .int a2), (3, .int a3), (4, .int a4)]) dX6_fillGrid_23 hl (by decide) rfl (fun ls hl => ?_)
  refine lv_aload_n (pc := 25) hx hb dX6_fillGrid_25 rfl (lv_at hl 2 rfl) ?_
  refine vXgRX6_25_0 (pc := 26) hx hb hts mU_22 inU6 hown hK hP dX6_fillGrid_26 ?_
  refine lv_aload_n (pc := 29) hx hb dX6_fillGrid_29 rfl (lv_at hl 2 rfl) ?_
  refine vXgRX6_10_0 (pc := 30) hx hb hts mU_16 inU6 hown hK hP dX6_fillGrid_30 ?_
  refine vXgRX6_60_1 (pc := 33) hx hb hts mU_111 inU4 hown hK hP (x := (gI S 0)) rfl dX6_fillGrid_33 ?_
  refine lv_iload (pc := 36) hx hb dX6_fillGrid_36 (lv_at hl 6 rfl) ?_
  refine lv_isub (pc := 38) hx hb dX6_fillGrid_38 ?_
  refine lv_iload (pc := 39) hx hb dX6_fillGrid_39 (lv_at hl 1 rfl) ?_
  refine lv_imul (pc := 41) hx hb dX6_fillGrid_41 ?_
  refine lv_iload (pc := 42) hx hb dX6_fillGrid_42 (lv_at hl 0 rfl) ?_
  obtain ⟨r44, hc44, hf⟩ := hf_b hf
  refine cl_V (pc := 44) (As := [.int (((gI S 0) - a4) * (gI S 1)), .int (r14 - (a4 * (gI S 1)))]) (rest := []) hx hb hml hown hts (kX1_clear_19 l D A B _ S (((gI S 0) - a4) * (gI S 1)) (r14 - (a4 * (gI S 1))) r44 hc44) (cwV 2 hts gwRX6_337 rfl rfl rfl hdX1_clear ⟨Nat.le_of_ble_eq_true rfl, Nat.le_of_ble_eq_true rfl⟩) hN hK hP hD hS hA (va_recv hK hP (ci := 1) (q0 := 19) rfl (eX_19 A B _)) rfl hl.1 rfl (Nat.le_of_ble_eq_true rfl) dX6_fillGrid_44 (st1 := []) rfl ⟨Nat.zero_le _, Nat.zero_le _⟩ (fun H locs hP hD hS => ?_)
  refine lv_iload (pc := 47) hx hb dX6_fillGrid_47 (lv_at hl 6 rfl) ?_
  refine lv_istore (pc := 49) hx hb (lv' := [(7, .int a4), (6, .int (r14 - (a4 * (gI S 1)))), (5, .int (gI S 1)), (0, .ref (A 0)), (1, .int a1), (2, .int a2), (3, .int a3), (4, .int a4)]) dX6_fillGrid_49 hl (by decide) rfl (fun ls hl => ?_)
  obtain ⟨q51, hq51, hf⟩ := hf_b hf
  have hk51 : ∀ (H : Heap) (locs : List Loc) (ls : Array Slot), va_P D vwCl (wX A B q51) H → va_D Ad (wX A B q51) → va_S Ad s.heap H locs → lv_has ls 9 [] → W p l e rm_X6_fillGrid s m args below meth c H locs 0 0 Q (F0 m 131 ls []) := by
    intro H locs ls hP hD hS hl
    obtain rfl := Option.some.inj hf
    exact hR H locs 131 ls hP hD hS dX6_fillGrid_131
  have lp51 : ∀ (n : Nat) (T51 : w_S) (u7_51 : Int32) (H : Heap) (locs : List Loc) (ls : Array Slot), fX6_fillGrid_L51 a1 a2 a3 a4 (gI S 1) (r14 - (a4 * (gI S 1))) n T51 u7_51 = some q51 → va_P D vwCl (wX A B T51) H → va_D Ad (wX A B T51) → va_S Ad s.heap H locs → lv_has ls 9 [(0, .ref (A 0)), (1, .int a1), (2, .int a2), (3, .int a3), (4, .int a4), (5, .int (gI S 1)), (6, .int (r14 - (a4 * (gI S 1)))), (7, .int u7_51)] → W p l e rm_X6_fillGrid s m args below meth c H locs 0 0 Q (F0 m 51 ls []) := by
    intro n51
    induction n51 with
    | zero => intro T51 u7_51 H locs ls hq51; exact hf_0 hq51
    | succ n51 ih51 =>
      intro T51 u7_51 H locs ls hq51 hP hD hS hl
      rw [fX6_fillGrid_L51] at hq51
      refine lv_iload (pc := 51) hx hb dX6_fillGrid_51 (lv_at hl 7 rfl) ?_
      refine lv_aload_n (pc := 53) hx hb dX6_fillGrid_53 rfl (lv_at hl 0 rfl) ?_
      refine vXgRX6_10_0 (pc := 54) hx hb hts mU_16 inU6 hown hK hP dX6_fillGrid_54 ?_
      refine vXgRX6_60_1 (pc := 57) hx hb hts mU_111 inU4 hown hK hP (x := (gI T51 0)) rfl dX6_fillGrid_57 ?_
      refine lv_icmp_ge (pc := 60) hx hb (tgt := 131) dX6_fillGrid_60 (by decide) (fun c_60 => ?_) (fun c_60 => ?_)
      · have hq51 := hf_t c_60 hq51
        obtain rfl := Option.some.inj hq51
        exact hk51 H locs ls hP hD hS (lv_sub hl [] rfl)
      · have hq51 := hf_f c_60 hq51
        refine lv_iconst (pc := 63) hx hb (v := 0) dX6_fillGrid_63 (by decide) ?_
        refine lv_istore (pc := 64) hx hb (lv' := [(8, .int 0), (0, .ref (A 0)), (1, .int a1), (2, .int a2), (3, .int a3), (4, .int a4), (5, .int (gI S 1)), (6, .int (r14 - (a4 * (gI S 1)))), (7, .int u7_51)]) dX6_fillGrid_64 hl (by decide) rfl (fun ls hl => ?_)
        obtain ⟨q66, hq66, hq51⟩ := hf_b hq51
        have hk66 : ∀ (H : Heap) (locs : List Loc) (ls : Array Slot), va_P D vwCl (wX A B q66) H → va_D Ad (wX A B q66) → va_S Ad s.heap H locs → lv_has ls 9 [(0, .ref (A 0)), (1, .int a1), (2, .int a2), (3, .int a3), (4, .int a4), (5, .int (gI S 1)), (6, .int (r14 - (a4 * (gI S 1)))), (7, .int u7_51)] → W p l e rm_X6_fillGrid s m args below meth c H locs 0 0 Q (F0 m 125 ls []) := by
          intro H locs ls hP hD hS hl
          refine lv_iinc (pc := 125) hx hb (v := u7_51 + 1) (lv' := [(7, .int (u7_51 + 1)), (0, .ref (A 0)), (1, .int a1), (2, .int a2), (3, .int a3), (4, .int a4), (5, .int (gI S 1)), (6, .int (r14 - (a4 * (gI S 1))))]) dX6_fillGrid_125 hl (k := 7) rfl rfl (by decide) rfl (fun ls hl => ?_)
          refine lv_goto (pc := 128) hx hb (tgt := 51) dX6_fillGrid_128 (by decide) ?_
          exact ih51 q66 (u7_51 + 1) H locs ls hq51 hP hD hS (lv_sub hl [1, 2, 3, 4, 5, 6, 7, 0] rfl)
        have lp66 : ∀ (n : Nat) (T66 : w_S) (u8_66 : Int32) (H : Heap) (locs : List Loc) (ls : Array Slot), fX6_fillGrid_L66 a1 a2 a3 a4 (gI S 1) (r14 - (a4 * (gI S 1))) u7_51 n T66 u8_66 = some q66 → va_P D vwCl (wX A B T66) H → va_D Ad (wX A B T66) → va_S Ad s.heap H locs → lv_has ls 9 [(0, .ref (A 0)), (1, .int a1), (2, .int a2), (3, .int a3), (4, .int a4), (5, .int (gI S 1)), (6, .int (r14 - (a4 * (gI S 1)))), (7, .int u7_51), (8, .int u8_66)] → W p l e rm_X6_fillGrid s m args below meth c H locs 0 0 Q (F0 m 66 ls []) := by
          intro n66
          induction n66 with
          | zero => intro T66 u8_66 H locs ls hq66; exact hf_0 hq66
          | succ n66 ih66 =>
            intro T66 u8_66 H locs ls hq66 hP hD hS hl
            rw [fX6_fillGrid_L66] at hq66
            refine lv_iload (pc := 66) hx hb dX6_fillGrid_66 (lv_at hl 8 rfl) ?_
            refine lv_iload (pc := 68) hx hb dX6_fillGrid_68 (lv_at hl 5 rfl) ?_
            refine lv_icmp_ge (pc := 70) hx hb (tgt := 125) dX6_fillGrid_70 (by decide) (fun c_70 => ?_) (fun c_70 => ?_)
            · have hq66 := hf_t c_70 hq66
              obtain rfl := Option.some.inj hq66
              exact hk66 H locs ls hP hD hS (lv_sub hl [0, 1, 2, 3, 4, 5, 6, 7] rfl)
            · have hq66 := hf_f c_70 hq66
              refine lv_aload_n (pc := 73) hx hb dX6_fillGrid_73 rfl (lv_at hl 0 rfl) ?_
              refine vXgRX6_25_0 (pc := 74) hx hb hts mU_22 inU6 hown hK hP dX6_fillGrid_74 ?_
              refine lv_iload (pc := 77) hx hb dX6_fillGrid_77 (lv_at hl 7 rfl) ?_
              refine lv_iload (pc := 79) hx hb dX6_fillGrid_79 (lv_at hl 4 rfl) ?_
              refine lv_isub (pc := 81) hx hb dX6_fillGrid_81 ?_
              refine lv_iload (pc := 82) hx hb dX6_fillGrid_82 (lv_at hl 5 rfl) ?_
              refine lv_imul (pc := 84) hx hb dX6_fillGrid_84 ?_
              refine lv_iload (pc := 85) hx hb dX6_fillGrid_85 (lv_at hl 8 rfl) ?_
              refine lv_iadd (pc := 87) hx hb dX6_fillGrid_87 ?_
              refine lv_iload (pc := 88) hx hb dX6_fillGrid_88 (lv_at hl 6 rfl) ?_
              refine lv_aload_n (pc := 90) hx hb dX6_fillGrid_90 rfl (lv_at hl 0 rfl) ?_
              refine vXgRX6_10_0 (pc := 91) hx hb hts mU_16 inU6 hown hK hP dX6_fillGrid_91 ?_
              refine lv_iconst (pc := 94) hx hb (v := 2) dX6_fillGrid_94 (by decide) ?_
              refine lv_iload (pc := 95) hx hb dX6_fillGrid_95 (lv_at hl 7 rfl) ?_
              refine lv_iload (pc := 97) hx hb dX6_fillGrid_97 (lv_at hl 8 rfl) ?_
              obtain ⟨r99, hc99, hq66⟩ := hf_b hq66
              refine cl_V (pc := 99) (As := [.int 2, .int u7_51, .int u8_66]) (rest := [.int (r14 - (a4 * (gI S 1))), .int (((u7_51 - a4) * (gI S 1)) + u8_66), .ref (A 19)]) hx hb hml hown hts (kX4_entry_1 l D A B _ T66 2 u7_51 u8_66 r99 hc99) (cwV 3 hts gwRX6_79 rfl rfl rfl hdX4_entry ⟨Nat.le_of_ble_eq_true rfl, Nat.le_of_ble_eq_true rfl⟩) hN hK hP hD hS hA (va_recv hK hP (ci := 4) (q0 := 1) rfl (eX_1 A B _)) rfl hl.1 rfl (Nat.le_of_ble_eq_true rfl) dX6_fillGrid_99 (st1 := [.int r99, .int (r14 - (a4 * (gI S 1))), .int (((u7_51 - a4) * (gI S 1)) + u8_66), .ref (A 19)]) rfl ⟨Nat.zero_le _, Nat.zero_le _⟩ (fun H locs hP hD hS => ?_)
              refine lv_i2l (pc := 102) hx hb (v := r99.toInt64) dX6_fillGrid_102 rfl ?_
              obtain ⟨r103, hc103, hq66⟩ := hf_b hq66
              refine cl_V (pc := 103) (As := [.int (((u7_51 - a4) * (gI S 1)) + u8_66), .int (r14 - (a4 * (gI S 1))), .long r99.toInt64]) (rest := []) hx hb hml hown hts (kX1_add_19 l D A B _ T66 (((u7_51 - a4) * (gI S 1)) + u8_66) (r14 - (a4 * (gI S 1))) r99.toInt64 r103 hc103) (cwV 3 hts gwRX6_340 rfl rfl rfl hdX1_add ⟨Nat.le_of_ble_eq_true rfl, Nat.le_of_ble_eq_true rfl⟩) hN hK hP hD hS hA (va_recv hK hP (ci := 1) (q0 := 19) rfl (eX_19 A B _)) rfl hl.1 rfl (Nat.le_of_ble_eq_true rfl) dX6_fillGrid_103 (st1 := []) rfl ⟨Nat.zero_le _, Nat.zero_le _⟩ (fun H locs hP hD hS => ?_)
              refine lv_aload_n (pc := 106) hx hb dX6_fillGrid_106 rfl (lv_at hl 0 rfl) ?_
              refine lv_iload_n (pc := 107) hx hb dX6_fillGrid_107 rfl (lv_at hl 1 rfl) ?_
              refine lv_iload_n (pc := 108) hx hb dX6_fillGrid_108 rfl (lv_at hl 2 rfl) ?_
              refine lv_iload_n (pc := 109) hx hb dX6_fillGrid_109 rfl (lv_at hl 3 rfl) ?_
              refine lv_iload (pc := 110) hx hb dX6_fillGrid_110 (lv_at hl 4 rfl) ?_
              refine lv_iload (pc := 112) hx hb dX6_fillGrid_112 (lv_at hl 7 rfl) ?_
              refine lv_iload (pc := 114) hx hb dX6_fillGrid_114 (lv_at hl 8 rfl) ?_
              obtain ⟨r116, hc116, hq66⟩ := hf_b hq66
              refine cl_V (pc := 116) (As := [.int a1, .int a2, .int a3, .int a4, .int u7_51, .int u8_66]) (rest := []) hx hb hml hown hts (kX6_fillRow l D A B _ r103 a1 a2 a3 a4 u7_51 u8_66 r116 hc116) (cwV 6 hts gwRX6_344 rfl rfl rfl hdX6_fillRow ⟨Nat.le_of_ble_eq_true rfl, Nat.le_of_ble_eq_true rfl⟩) hN hK hP hD hS hA (va_recv hK hP (ci := 6) (q0 := 0) rfl (eX_0 A B _)) rfl hl.1 rfl (Nat.le_of_ble_eq_true rfl) dX6_fillGrid_116 (st1 := []) rfl ⟨Nat.zero_le _, Nat.zero_le _⟩ (fun H locs hP hD hS => ?_)
              refine lv_iinc (pc := 119) hx hb (v := u8_66 + 1) (lv' := [(8, .int (u8_66 + 1)), (0, .ref (A 0)), (1, .int a1), (2, .int a2), (3, .int a3), (4, .int a4), (5, .int (gI S 1)), (6, .int (r14 - (a4 * (gI S 1)))), (7, .int u7_51)]) dX6_fillGrid_119 hl (k := 8) rfl rfl (by decide) rfl (fun ls hl => ?_)
              refine lv_goto (pc := 122) hx hb (tgt := 66) dX6_fillGrid_122 (by decide) ?_
              exact ih66 r116 (u8_66 + 1) H locs ls hq66 hP hD hS (lv_sub hl [1, 2, 3, 4, 5, 6, 7, 8, 0] rfl)
        exact lp66 256 T51 0 H locs ls hq66 hP hD hS (lv_sub hl [1, 2, 3, 4, 5, 6, 7, 8, 0] rfl)
  exact lp51 256 r44 a4 H locs ls hq51 hP hD hS (lv_sub hl [3, 4, 5, 6, 7, 2, 1, 0] rfl)
set_option maxHeartbeats 4000000 in
set_option maxRecDepth 100000 in
theorem kX6_solve (l : Launch) (D : va_G) (A : Nat → Nat) (B : Nat → ClassId) (sz : Nat) (S : w_S) (a1 : Int32) (z : w_S) (hf : fX6_solve S a1 = some z) : MetW l yX6_solve (wsO yX6_solve cX6_solve 3 none) rm_X6_solve [.ref (A 0), .int a1] D (tyB B) (wX A B S) (wX A B z) sz (none) := by
  refine MetW.mkV (cc := cX6_solve) (maxL := 3) (by decide) (Nat.le_of_ble_eq_true rfl) ?_
  intro p e s m args below meth c Ad Q hx hb hts hown hml hN hK hA hR H locs ls hP hD hS hl
  have hl : lv_has ls 3 [(0, .ref (A 0)), (1, .int a1)] := hl
  rw [fX6_solve] at hf
  refine lv_aload_n (pc := 0) hx hb dX6_solve_0 rfl (lv_at hl 0 rfl) ?_
  refine vXgRX6_10_0 (pc := 1) hx hb hts mU_16 inU6 hown hK hP dX6_solve_1 ?_
  refine lv_iload_n (pc := 4) hx hb dX6_solve_4 rfl (lv_at hl 1 rfl) ?_
  obtain ⟨r5, hc5, hf⟩ := hf_b hf
  refine cl_V (pc := 5) (As := [.int a1]) (rest := []) hx hb hml hown hts (kX4_kindOf_1 l D A B _ S a1 r5 hc5) (cwV 1 hts gwRX6_128 rfl rfl rfl hdX4_kindOf ⟨Nat.le_of_ble_eq_true rfl, Nat.le_of_ble_eq_true rfl⟩) hN hK hP hD hS hA (va_recv hK hP (ci := 4) (q0 := 1) rfl (eX_1 A B _)) rfl hl.1 rfl (Nat.le_of_ble_eq_true rfl) dX6_solve_5 (st1 := [.int r5]) rfl ⟨Nat.zero_le _, Nat.zero_le _⟩ (fun H locs hP hD hS => ?_)
  refine lv_istore_n (pc := 8) hx hb (lv' := [(2, .int r5), (0, .ref (A 0)), (1, .int a1)]) dX6_solve_8 rfl hl (by decide) rfl (fun ls hl => ?_)
  refine lv_aload_n (pc := 9) hx hb dX6_solve_9 rfl (lv_at hl 1 rfl) ?_
  refine lv_iload_n (pc := 10) hx hb dX6_solve_10 rfl (lv_at hl 0 rfl) ?_
  refine lv_iload_n (pc := 11) hx hb dX6_solve_11 rfl (lv_at hl 0 rfl) ?_
  refine lv_aload_n (pc := 12) hx hb dX6_solve_12 rfl (lv_at hl 1 rfl) ?_
  refine vXgRX6_10_0 (pc := 13) hx hb hts mU_16 inU6 hown hK hP dX6_solve_13 ?_
  refine lv_iload_n (pc := 16) hx hb dX6_solve_16 rfl (lv_at hl 2 rfl) ?_
  obtain ⟨r17, hc17, hf⟩ := hf_b hf
  refine cl_V (pc := 17) (As := [.int a1]) (rest := [.int r5, .int r5, .ref (A 0)]) hx hb hml hown hts (kX4_shiftOf_1 l D A B _ S a1 r17 hc17) (cwV 1 hts gwRX6_131 rfl rfl rfl hdX4_shiftOf ⟨Nat.le_of_ble_eq_true rfl, Nat.le_of_ble_eq_true rfl⟩) hN hK hP hD hS hA (va_recv hK hP (ci := 4) (q0 := 1) rfl (eX_1 A B _)) rfl hl.1 rfl (Nat.le_of_ble_eq_true rfl) dX6_solve_17 (st1 := [.int r17, .int r5, .int r5, .ref (A 0)]) rfl ⟨Nat.zero_le _, Nat.zero_le _⟩ (fun H locs hP hD hS => ?_)
  refine lv_iconst (pc := 20) hx hb (v := 0) dX6_solve_20 (by decide) ?_
  obtain ⟨r21, hc21, hf⟩ := hf_b hf
  refine cl_V (pc := 21) (As := [.int r5, .int r5, .int r17, .int 0]) (rest := []) hx hb hml hown hts (kX6_fillGrid l D A B _ S r5 r5 r17 0 r21 hc21) (cwV 4 hts gwRX6_192 rfl rfl rfl hdX6_fillGrid ⟨Nat.le_of_ble_eq_true rfl, Nat.le_of_ble_eq_true rfl⟩) hN hK hP hD hS hA (va_recv hK hP (ci := 6) (q0 := 0) rfl (eX_0 A B _)) rfl hl.1 rfl (Nat.le_of_ble_eq_true rfl) dX6_solve_21 (st1 := []) rfl ⟨Nat.zero_le _, Nat.zero_le _⟩ (fun H locs hP hD hS => ?_)
  refine lv_aload_n (pc := 24) hx hb dX6_solve_24 rfl (lv_at hl 1 rfl) ?_
  refine vXgRX6_25_0 (pc := 25) hx hb hts mU_22 inU6 hown hK hP dX6_solve_25 ?_
  obtain ⟨r28, hc28, hf⟩ := hf_b hf
  refine cl_V (pc := 28) (As := []) (rest := []) hx hb hml hown hts (kX1_eliminate_19 l D A B _ r21 r28 hc28) (cwV 0 hts gwRX6_199 rfl rfl rfl hdX1_eliminate ⟨Nat.le_of_ble_eq_true rfl, Nat.le_of_ble_eq_true rfl⟩) hN hK hP hD hS hA (va_recv hK hP (ci := 1) (q0 := 19) rfl (eX_19 A B _)) rfl hl.1 rfl (Nat.le_of_ble_eq_true rfl) dX6_solve_28 (st1 := []) rfl ⟨Nat.zero_le _, Nat.zero_le _⟩ (fun H locs hP hD hS => ?_)
  obtain rfl := Option.some.inj hf
  exact hR H locs 31 ls hP hD hS dX6_solve_31
set_option maxHeartbeats 4000000 in
set_option maxRecDepth 100000 in
theorem kX6_of (l : Launch) (D : va_G) (A : Nat → Nat) (B : Nat → ClassId) (sz : Nat) (S : w_S) (a1 : Int32) (a2 : Int32) (z : Int32 × w_S) (hf : fX6_of S a1 a2 = some z) : MetW l yX6_of (wsO yX6_of cX6_of 4 (some .int)) rm_X6_of [.ref (A 0), .int a1, .int a2] D (tyB B) (wX A B S) (wX A B z.2) sz (some (.int z.1)) := by
  refine MetW.mkI (cc := cX6_of) (maxL := 4) (by decide) (Nat.le_of_ble_eq_true rfl) ?_
  intro p e s m args below meth c Ad Q hx hb hts hown hml hN hK hA hR H locs ls hP hD hS hl
  have hl : lv_has ls 4 [(0, .ref (A 0)), (1, .int a1), (2, .int a2)] := hl
  rw [fX6_of] at hf
  refine lv_aload_n (pc := 0) hx hb dX6_of_0 rfl (lv_at hl 0 rfl) ?_
  refine vXgRX6_10_0 (pc := 1) hx hb hts mU_16 inU6 hown hK hP dX6_of_1 ?_
  refine lv_iload_n (pc := 4) hx hb dX6_of_4 rfl (lv_at hl 1 rfl) ?_
  obtain ⟨r5, hc5, hf⟩ := hf_b hf
  refine cl_V (pc := 5) (As := [.int a1]) (rest := []) hx hb hml hown hts (kX4_hasEquation_1 l D A B _ S a1 r5 hc5) (cwV 1 hts gwRX6_125 rfl rfl rfl hdX4_hasEquation ⟨Nat.le_of_ble_eq_true rfl, Nat.le_of_ble_eq_true rfl⟩) hN hK hP hD hS hA (va_recv hK hP (ci := 4) (q0 := 1) rfl (eX_1 A B _)) rfl hl.1 rfl (Nat.le_of_ble_eq_true rfl) dX6_of_5 (st1 := [.int r5]) rfl ⟨Nat.zero_le _, Nat.zero_le _⟩ (fun H locs hP hD hS => ?_)
  refine lv_if_eq (pc := 8) hx hb (tgt := 21) dX6_of_8 (by decide) (fun c_8 => ?_) (fun c_8 => ?_)
  · have hf := hf_t c_8 hf
    refine lv_iconst (pc := 21) hx hb (v := (-1)) dX6_of_21 (by decide) ?_
    obtain rfl := Option.some.inj hf
    exact hR H locs 22 ls hP hD hS dX6_of_22
  · have hf := hf_f c_8 hf
    refine lv_iload_n (pc := 11) hx hb dX6_of_11 rfl (lv_at hl 2 rfl) ?_
    refine lv_if_lt (pc := 12) hx hb (tgt := 21) dX6_of_12 (by decide) (fun c_12 => ?_) (fun c_12 => ?_)
    · have hf := hf_t c_12 hf
      refine lv_iconst (pc := 21) hx hb (v := (-1)) dX6_of_21 (by decide) ?_
      obtain rfl := Option.some.inj hf
      exact hR H locs 22 ls hP hD hS dX6_of_22
    · have hf := hf_f c_12 hf
      refine lv_iload_n (pc := 15) hx hb dX6_of_15 rfl (lv_at hl 2 rfl) ?_
      refine lv_bipush (pc := 16) hx hb (v := 6) dX6_of_16 (by decide) ?_
      refine lv_icmp_le (pc := 18) hx hb (tgt := 23) dX6_of_18 (by decide) (fun c_18 => ?_) (fun c_18 => ?_)
      · have hf := hf_t c_18 hf
        refine lv_aload_n (pc := 23) hx hb dX6_of_23 rfl (lv_at hl 0 rfl) ?_
        refine vXgRX6_10_0 (pc := 24) hx hb hts mU_16 inU6 hown hK hP dX6_of_24 ?_
        refine lv_iload_n (pc := 27) hx hb dX6_of_27 rfl (lv_at hl 1 rfl) ?_
        obtain ⟨r28, hc28, hf⟩ := hf_b hf
        refine cl_V (pc := 28) (As := [.int a1]) (rest := []) hx hb hml hown hts (kX4_kindOf_1 l D A B _ S a1 r28 hc28) (cwV 1 hts gwRX6_128 rfl rfl rfl hdX4_kindOf ⟨Nat.le_of_ble_eq_true rfl, Nat.le_of_ble_eq_true rfl⟩) hN hK hP hD hS hA (va_recv hK hP (ci := 4) (q0 := 1) rfl (eX_1 A B _)) rfl hl.1 rfl (Nat.le_of_ble_eq_true rfl) dX6_of_28 (st1 := [.int r28]) rfl ⟨Nat.zero_le _, Nat.zero_le _⟩ (fun H locs hP hD hS => ?_)
        refine lv_istore_n (pc := 31) hx hb (lv' := [(3, .int r28), (0, .ref (A 0)), (1, .int a1), (2, .int a2)]) dX6_of_31 rfl hl (by decide) rfl (fun ls hl => ?_)
        refine lv_iload_n (pc := 32) hx hb dX6_of_32 rfl (lv_at hl 3 rfl) ?_
        refine lv_if_ne (pc := 33) hx hb (tgt := 38) dX6_of_33 (by decide) (fun c_33 => ?_) (fun c_33 => ?_)
        · have hf := hf_f c_33 hf
          refine lv_iload_n (pc := 38) hx hb dX6_of_38 rfl (lv_at hl 3 rfl) ?_
          refine lv_iconst (pc := 39) hx hb (v := 1) dX6_of_39 (by decide) ?_
          refine lv_icmp_ne (pc := 40) hx hb (tgt := 55) dX6_of_40 (by decide) (fun c_40 => ?_) (fun c_40 => ?_)
          · have hf := hf_f c_40 hf
            refine lv_iload_n (pc := 55) hx hb dX6_of_55 rfl (lv_at hl 3 rfl) ?_
            refine lv_iconst (pc := 56) hx hb (v := 2) dX6_of_56 (by decide) ?_
            refine lv_icmp_ne (pc := 57) hx hb (tgt := 77) dX6_of_57 (by decide) (fun c_57 => ?_) (fun c_57 => ?_)
            · have hf := hf_f c_57 hf
              refine lv_iload_n (pc := 77) hx hb dX6_of_77 rfl (lv_at hl 3 rfl) ?_
              refine lv_iconst (pc := 78) hx hb (v := 3) dX6_of_78 (by decide) ?_
              refine lv_icmp_ne (pc := 79) hx hb (tgt := 107) dX6_of_79 (by decide) (fun c_79 => ?_) (fun c_79 => ?_)
              · have hf := hf_f c_79 hf
                refine lv_aload_n (pc := 107) hx hb dX6_of_107 rfl (lv_at hl 1 rfl) ?_
                refine vXgRX6_10_0 (pc := 108) hx hb hts mU_16 inU6 hown hK hP dX6_of_108 ?_
                refine lv_iload_n (pc := 111) hx hb dX6_of_111 rfl (lv_at hl 0 rfl) ?_
                obtain ⟨r112, hc112, hf⟩ := hf_b hf
                refine cl_V (pc := 112) (As := [.int r28]) (rest := []) hx hb hml hown hts (kX4_fits_1 l D A B _ S r28 r112 hc112) (cwV 1 hts gwRX6_134 rfl rfl rfl hdX4_fits ⟨Nat.le_of_ble_eq_true rfl, Nat.le_of_ble_eq_true rfl⟩) hN hK hP hD hS hA (va_recv hK hP (ci := 4) (q0 := 1) rfl (eX_1 A B _)) rfl hl.1 rfl (Nat.le_of_ble_eq_true rfl) dX6_of_112 (st1 := [.int r112]) rfl ⟨Nat.zero_le _, Nat.zero_le _⟩ (fun H locs hP hD hS => ?_)
                refine lv_if_ne (pc := 115) hx hb (tgt := 121) dX6_of_115 (by decide) (fun c_115 => ?_) (fun c_115 => ?_)
                · have hf := hf_f c_115 hf
                  refine lv_aload_n (pc := 121) hx hb dX6_of_121 rfl (lv_at hl 1 rfl) ?_
                  refine lv_iload_n (pc := 122) hx hb dX6_of_122 rfl (lv_at hl 2 rfl) ?_
                  obtain ⟨r123, hc123, hf⟩ := hf_b hf
                  refine cl_V (pc := 123) (As := [.int a1]) (rest := []) hx hb hml hown hts (kX6_solve l D A B _ S a1 r123 hc123) (cwV 1 hts gwRX6_143 rfl rfl rfl hdX6_solve ⟨Nat.le_of_ble_eq_true rfl, Nat.le_of_ble_eq_true rfl⟩) hN hK hP hD hS hA (va_recv hK hP (ci := 6) (q0 := 0) rfl (eX_0 A B _)) rfl hl.1 rfl (Nat.le_of_ble_eq_true rfl) dX6_of_123 (st1 := []) rfl ⟨Nat.zero_le _, Nat.zero_le _⟩ (fun H locs hP hD hS => ?_)
                  refine lv_iload_n (pc := 126) hx hb dX6_of_126 rfl (lv_at hl 3 rfl) ?_
                  refine lv_iconst (pc := 127) hx hb (v := 4) dX6_of_127 (by decide) ?_
                  refine lv_icmp_ne (pc := 128) hx hb (tgt := 139) dX6_of_128 (by decide) (fun c_128 => ?_) (fun c_128 => ?_)
                  · have hf := hf_f c_128 hf
                    refine lv_iload_n (pc := 139) hx hb dX6_of_139 rfl (lv_at hl 3 rfl) ?_
                    refine lv_iconst (pc := 140) hx hb (v := 5) dX6_of_140 (by decide) ?_
                    refine lv_icmp_ne (pc := 141) hx hb (tgt := 154) dX6_of_141 (by decide) (fun c_141 => ?_) (fun c_141 => ?_)
                    · have hf := hf_f c_141 hf
                      refine lv_aload_n (pc := 154) hx hb dX6_of_154 rfl (lv_at hl 1 rfl) ?_
                      refine vXgRX6_25_0 (pc := 155) hx hb hts mU_22 inU6 hown hK hP dX6_of_155 ?_
                      obtain ⟨r158, hc158, hf⟩ := hf_b hf
                      refine cl_V (pc := 158) (As := []) (rest := []) hx hb hml hown hts (kX1_isSolvable_19 l D A B _ r123 r158 hc158) (cwV 0 hts gwRX6_154 rfl rfl rfl hdX1_isSolvable ⟨Nat.le_of_ble_eq_true rfl, Nat.le_of_ble_eq_true rfl⟩) hN hK hP hD hS hA (va_recv hK hP (ci := 1) (q0 := 19) rfl (eX_19 A B _)) rfl hl.1 rfl (Nat.le_of_ble_eq_true rfl) dX6_of_158 (st1 := [.int r158]) rfl ⟨Nat.zero_le _, Nat.zero_le _⟩ (fun H locs hP hD hS => ?_)
                      obtain ⟨r161, hc161, hf⟩ := hf_b hf
                      refine cl_S (pc := 161) (As := [.int r158]) (rest := []) hx hb hml hown hts (kX6_oneIf l D A B _ r123 r158 r161 hc161) (va_cwS 1 hts gwRX6_158 rfl rfl rfl hdX6_oneIf ⟨Nat.le_of_ble_eq_true rfl, Nat.le_of_ble_eq_true rfl⟩) hN hK hP hD hS hA rfl hl.1 rfl (Nat.le_of_ble_eq_true rfl) dX6_of_161 (st1 := [.int r161]) rfl ⟨Nat.zero_le _, Nat.zero_le _⟩ (fun H locs hP hD hS => ?_)
                      obtain rfl := Option.some.inj hf
                      exact hR H locs 164 ls hP hD hS dX6_of_164
                    · have hf := hf_t c_141 hf
                      refine lv_aload_n (pc := 144) hx hb dX6_of_144 rfl (lv_at hl 1 rfl) ?_
                      refine vXgRX6_25_0 (pc := 145) hx hb hts mU_22 inU6 hown hK hP dX6_of_145 ?_
                      obtain ⟨r148, hc148, hf⟩ := hf_b hf
                      refine cl_V (pc := 148) (As := []) (rest := []) hx hb hml hown hts (kX1_freeSet_19 l D A B _ r123 r148 hc148) (cwV 0 hts gwRX6_150 rfl rfl rfl hdX1_freeSet ⟨Nat.le_of_ble_eq_true rfl, Nat.le_of_ble_eq_true rfl⟩) hN hK hP hD hS hA (va_recv hK hP (ci := 1) (q0 := 19) rfl (eX_19 A B _)) rfl hl.1 rfl (Nat.le_of_ble_eq_true rfl) dX6_of_148 (st1 := [.int r148]) rfl ⟨Nat.zero_le _, Nat.zero_le _⟩ (fun H locs hP hD hS => ?_)
                      refine lv_goto (pc := 151) hx hb (tgt := 164) dX6_of_151 (by decide) ?_
                      obtain rfl := Option.some.inj hf
                      exact hR H locs 164 ls hP hD hS dX6_of_164
                  · have hf := hf_t c_128 hf
                    refine lv_aload_n (pc := 131) hx hb dX6_of_131 rfl (lv_at hl 1 rfl) ?_
                    refine vXgRX6_25_0 (pc := 132) hx hb hts mU_22 inU6 hown hK hP dX6_of_132 ?_
                    refine vXgRX6_147_19 (pc := 135) hx hb hts mU_393 inU1 hown hK hP (x := (gI r123 15)) rfl dX6_of_135 ?_
                    obtain rfl := Option.some.inj hf
                    exact hR H locs 138 ls hP hD hS dX6_of_138
                · have hf := hf_t c_115 hf
                  refine lv_bipush (pc := 118) hx hb (v := (-4)) dX6_of_118 (by decide) ?_
                  obtain rfl := Option.some.inj hf
                  exact hR H locs 120 ls hP hD hS dX6_of_120
              · have hf := hf_t c_79 hf
                refine lv_aload_n (pc := 82) hx hb dX6_of_82 rfl (lv_at hl 1 rfl) ?_
                refine vXgRX6_10_0 (pc := 83) hx hb hts mU_16 inU6 hown hK hP dX6_of_83 ?_
                refine lv_iload_n (pc := 86) hx hb dX6_of_86 rfl (lv_at hl 0 rfl) ?_
                obtain ⟨r87, hc87, hf⟩ := hf_b hf
                refine cl_V (pc := 87) (As := [.int r28]) (rest := []) hx hb hml hown hts (kX4_hasRight_1 l D A B _ S r28 r87 hc87) (cwV 1 hts gwRX6_137 rfl rfl rfl hdX4_hasRight ⟨Nat.le_of_ble_eq_true rfl, Nat.le_of_ble_eq_true rfl⟩) hN hK hP hD hS hA (va_recv hK hP (ci := 4) (q0 := 1) rfl (eX_1 A B _)) rfl hl.1 rfl (Nat.le_of_ble_eq_true rfl) dX6_of_87 (st1 := [.int r87]) rfl ⟨Nat.zero_le _, Nat.zero_le _⟩ (fun H locs hP hD hS => ?_)
                refine lv_if_eq (pc := 90) hx hb (tgt := 104) dX6_of_90 (by decide) (fun c_90 => ?_) (fun c_90 => ?_)
                · have hf := hf_t c_90 hf
                  refine lv_bipush (pc := 104) hx hb (v := (-4)) dX6_of_104 (by decide) ?_
                  obtain rfl := Option.some.inj hf
                  exact hR H locs 106 ls hP hD hS dX6_of_106
                · have hf := hf_f c_90 hf
                  refine lv_aload_n (pc := 93) hx hb dX6_of_93 rfl (lv_at hl 1 rfl) ?_
                  refine vXgRX6_10_0 (pc := 94) hx hb hts mU_16 inU6 hown hK hP dX6_of_94 ?_
                  refine lv_iload_n (pc := 97) hx hb dX6_of_97 rfl (lv_at hl 0 rfl) ?_
                  obtain ⟨r98, hc98, hf⟩ := hf_b hf
                  refine cl_V (pc := 98) (As := [.int r28]) (rest := []) hx hb hml hown hts (kX4_unknowns_1 l D A B _ S r28 r98 hc98) (cwV 1 hts gwRX6_140 rfl rfl rfl hdX4_unknowns ⟨Nat.le_of_ble_eq_true rfl, Nat.le_of_ble_eq_true rfl⟩) hN hK hP hD hS hA (va_recv hK hP (ci := 4) (q0 := 1) rfl (eX_1 A B _)) rfl hl.1 rfl (Nat.le_of_ble_eq_true rfl) dX6_of_98 (st1 := [.int r98]) rfl ⟨Nat.zero_le _, Nat.zero_le _⟩ (fun H locs hP hD hS => ?_)
                  refine lv_goto (pc := 101) hx hb (tgt := 106) dX6_of_101 (by decide) ?_
                  obtain rfl := Option.some.inj hf
                  exact hR H locs 106 ls hP hD hS dX6_of_106
            · have hf := hf_t c_57 hf
              refine lv_aload_n (pc := 60) hx hb dX6_of_60 rfl (lv_at hl 1 rfl) ?_
              refine vXgRX6_10_0 (pc := 61) hx hb hts mU_16 inU6 hown hK hP dX6_of_61 ?_
              refine lv_iload_n (pc := 64) hx hb dX6_of_64 rfl (lv_at hl 0 rfl) ?_
              obtain ⟨r65, hc65, hf⟩ := hf_b hf
              refine cl_V (pc := 65) (As := [.int r28]) (rest := []) hx hb hml hown hts (kX4_fits_1 l D A B _ S r28 r65 hc65) (cwV 1 hts gwRX6_134 rfl rfl rfl hdX4_fits ⟨Nat.le_of_ble_eq_true rfl, Nat.le_of_ble_eq_true rfl⟩) hN hK hP hD hS hA (va_recv hK hP (ci := 4) (q0 := 1) rfl (eX_1 A B _)) rfl hl.1 rfl (Nat.le_of_ble_eq_true rfl) dX6_of_65 (st1 := [.int r65]) rfl ⟨Nat.zero_le _, Nat.zero_le _⟩ (fun H locs hP hD hS => ?_)
              refine lv_if_eq (pc := 68) hx hb (tgt := 75) dX6_of_68 (by decide) (fun c_68 => ?_) (fun c_68 => ?_)
              · have hf := hf_t c_68 hf
                refine lv_iconst (pc := 75) hx hb (v := 0) dX6_of_75 (by decide) ?_
                obtain rfl := Option.some.inj hf
                exact hR H locs 76 ls hP hD hS dX6_of_76
              · have hf := hf_f c_68 hf
                refine lv_iconst (pc := 71) hx hb (v := 1) dX6_of_71 (by decide) ?_
                refine lv_goto (pc := 72) hx hb (tgt := 76) dX6_of_72 (by decide) ?_
                obtain rfl := Option.some.inj hf
                exact hR H locs 76 ls hP hD hS dX6_of_76
          · have hf := hf_t c_40 hf
            refine lv_bipush (pc := 43) hx hb (v := 10) dX6_of_43 (by decide) ?_
            refine lv_aload_n (pc := 45) hx hb dX6_of_45 rfl (lv_at hl 1 rfl) ?_
            refine vXgRX6_10_0 (pc := 46) hx hb hts mU_16 inU6 hown hK hP dX6_of_46 ?_
            refine lv_iload_n (pc := 49) hx hb dX6_of_49 rfl (lv_at hl 2 rfl) ?_
            obtain ⟨r50, hc50, hf⟩ := hf_b hf
            refine cl_V (pc := 50) (As := [.int a1]) (rest := [.int 10]) hx hb hml hown hts (kX4_shiftOf_1 l D A B _ S a1 r50 hc50) (cwV 1 hts gwRX6_131 rfl rfl rfl hdX4_shiftOf ⟨Nat.le_of_ble_eq_true rfl, Nat.le_of_ble_eq_true rfl⟩) hN hK hP hD hS hA (va_recv hK hP (ci := 4) (q0 := 1) rfl (eX_1 A B _)) rfl hl.1 rfl (Nat.le_of_ble_eq_true rfl) dX6_of_50 (st1 := [.int r50, .int 10]) rfl ⟨Nat.zero_le _, Nat.zero_le _⟩ (fun H locs hP hD hS => ?_)
            refine lv_iadd (pc := 53) hx hb dX6_of_53 ?_
            obtain rfl := Option.some.inj hf
            exact hR H locs 54 ls hP hD hS dX6_of_54
        · have hf := hf_t c_33 hf
          refine lv_iload_n (pc := 36) hx hb dX6_of_36 rfl (lv_at hl 0 rfl) ?_
          obtain rfl := Option.some.inj hf
          exact hR H locs 37 ls hP hD hS dX6_of_37
      · have hf := hf_f c_18 hf
        refine lv_iconst (pc := 21) hx hb (v := (-1)) dX6_of_21 (by decide) ?_
        obtain rfl := Option.some.inj hf
        exact hR H locs 22 ls hP hD hS dX6_of_22
set_option maxHeartbeats 4000000 in
set_option maxRecDepth 100000 in
theorem kX6_change (l : Launch) (D : va_G) (A : Nat → Nat) (B : Nat → ClassId) (sz : Nat) (S : w_S) (a1 : Int32) (a2 : Int32) (a3 : Int32) (z : Int32 × w_S) (hf : fX6_change S a1 a2 a3 = some z) : MetW l yX6_change (wsO yX6_change cX6_change 5 (some .int)) rm_X6_change [.ref (A 0), .int a1, .int a2, .int a3] D (tyB B) (wX A B S) (wX A B z.2) sz (some (.int z.1)) := by
  refine MetW.mkI (cc := cX6_change) (maxL := 5) (by decide) (Nat.le_of_ble_eq_true rfl) ?_
  intro p e s m args below meth c Ad Q hx hb hts hown hml hN hK hA hR H locs ls hP hD hS hl
  have hl : lv_has ls 5 [(0, .ref (A 0)), (1, .int a1), (2, .int a2), (3, .int a3)] := hl
  rw [fX6_change] at hf
  refine lv_aload_n (pc := 0) hx hb dX6_change_0 rfl (lv_at hl 0 rfl) ?_
  refine vXgRX6_10_0 (pc := 1) hx hb hts mU_16 inU6 hown hK hP dX6_change_1 ?_
  refine lv_iload_n (pc := 4) hx hb dX6_change_4 rfl (lv_at hl 1 rfl) ?_
  obtain ⟨r5, hc5, hf⟩ := hf_b hf
  refine cl_V (pc := 5) (As := [.int a1]) (rest := []) hx hb hml hown hts (kX4_hasEquation_1 l D A B _ S a1 r5 hc5) (cwV 1 hts gwRX6_125 rfl rfl rfl hdX4_hasEquation ⟨Nat.le_of_ble_eq_true rfl, Nat.le_of_ble_eq_true rfl⟩) hN hK hP hD hS hA (va_recv hK hP (ci := 4) (q0 := 1) rfl (eX_1 A B _)) rfl hl.1 rfl (Nat.le_of_ble_eq_true rfl) dX6_change_5 (st1 := [.int r5]) rfl ⟨Nat.zero_le _, Nat.zero_le _⟩ (fun H locs hP hD hS => ?_)
  refine lv_if_eq (pc := 8) hx hb (tgt := 25) dX6_change_8 (by decide) (fun c_8 => ?_) (fun c_8 => ?_)
  · have hf := hf_t c_8 hf
    refine lv_iconst (pc := 25) hx hb (v := (-1)) dX6_change_25 (by decide) ?_
    obtain rfl := Option.some.inj hf
    exact hR H locs 26 ls hP hD hS dX6_change_26
  · have hf := hf_f c_8 hf
    refine lv_iload_n (pc := 11) hx hb dX6_change_11 rfl (lv_at hl 2 rfl) ?_
    obtain ⟨r12, hc12, hf⟩ := hf_b hf
    refine cl_S (pc := 12) (As := [.int a2]) (rest := []) hx hb hml hown hts (kX6_isKind l D A B _ S a2 r12 hc12) (va_cwS 1 hts gwRX6_113 rfl rfl rfl hdX6_isKind ⟨Nat.le_of_ble_eq_true rfl, Nat.le_of_ble_eq_true rfl⟩) hN hK hP hD hS hA rfl hl.1 rfl (Nat.le_of_ble_eq_true rfl) dX6_change_12 (st1 := [.int r12]) rfl ⟨Nat.zero_le _, Nat.zero_le _⟩ (fun H locs hP hD hS => ?_)
    refine lv_if_eq (pc := 15) hx hb (tgt := 25) dX6_change_15 (by decide) (fun c_15 => ?_) (fun c_15 => ?_)
    · have hf := hf_t c_15 hf
      refine lv_iconst (pc := 25) hx hb (v := (-1)) dX6_change_25 (by decide) ?_
      obtain rfl := Option.some.inj hf
      exact hR H locs 26 ls hP hD hS dX6_change_26
    · have hf := hf_f c_15 hf
      refine lv_iload_n (pc := 18) hx hb dX6_change_18 rfl (lv_at hl 3 rfl) ?_
      obtain ⟨r19, hc19, hf⟩ := hf_b hf
      refine cl_S (pc := 19) (As := [.int a3]) (rest := []) hx hb hml hown hts (kX6_isShift l D A B _ S a3 r19 hc19) (va_cwS 1 hts gwRX6_117 rfl rfl rfl hdX6_isShift ⟨Nat.le_of_ble_eq_true rfl, Nat.le_of_ble_eq_true rfl⟩) hN hK hP hD hS hA rfl hl.1 rfl (Nat.le_of_ble_eq_true rfl) dX6_change_19 (st1 := [.int r19]) rfl ⟨Nat.zero_le _, Nat.zero_le _⟩ (fun H locs hP hD hS => ?_)
      refine lv_if_ne (pc := 22) hx hb (tgt := 27) dX6_change_22 (by decide) (fun c_22 => ?_) (fun c_22 => ?_)
      · have hf := hf_f c_22 hf
        refine lv_aload_n (pc := 27) hx hb dX6_change_27 rfl (lv_at hl 0 rfl) ?_
        refine vXgRX6_10_0 (pc := 28) hx hb hts mU_16 inU6 hown hK hP dX6_change_28 ?_
        refine lv_iload_n (pc := 31) hx hb dX6_change_31 rfl (lv_at hl 1 rfl) ?_
        obtain ⟨r32, hc32, hf⟩ := hf_b hf
        refine cl_V (pc := 32) (As := [.int a1]) (rest := []) hx hb hml hown hts (kX4_kindOf_1 l D A B _ S a1 r32 hc32) (cwV 1 hts gwRX6_128 rfl rfl rfl hdX4_kindOf ⟨Nat.le_of_ble_eq_true rfl, Nat.le_of_ble_eq_true rfl⟩) hN hK hP hD hS hA (va_recv hK hP (ci := 4) (q0 := 1) rfl (eX_1 A B _)) rfl hl.1 rfl (Nat.le_of_ble_eq_true rfl) dX6_change_32 (st1 := [.int r32]) rfl ⟨Nat.zero_le _, Nat.zero_le _⟩ (fun H locs hP hD hS => ?_)
        refine lv_istore (pc := 35) hx hb (lv' := [(4, .int r32), (0, .ref (A 0)), (1, .int a1), (2, .int a2), (3, .int a3)]) dX6_change_35 hl (by decide) rfl (fun ls hl => ?_)
        refine lv_aload_n (pc := 37) hx hb dX6_change_37 rfl (lv_at hl 1 rfl) ?_
        refine vXgRX6_10_0 (pc := 38) hx hb hts mU_16 inU6 hown hK hP dX6_change_38 ?_
        refine lv_iload_n (pc := 41) hx hb dX6_change_41 rfl (lv_at hl 2 rfl) ?_
        refine lv_iload_n (pc := 42) hx hb dX6_change_42 rfl (lv_at hl 3 rfl) ?_
        refine lv_iload_n (pc := 43) hx hb dX6_change_43 rfl (lv_at hl 4 rfl) ?_
        obtain ⟨r44, hc44, hf⟩ := hf_b hf
        refine cl_V (pc := 44) (As := [.int a1, .int a2, .int a3]) (rest := []) hx hb hml hown hts (kX4_become_1 l D A B _ S a1 a2 a3 r44 hc44) (cwV 3 hts gwRX6_121 rfl rfl rfl hdX4_become ⟨Nat.le_of_ble_eq_true rfl, Nat.le_of_ble_eq_true rfl⟩) hN hK hP hD hS hA (va_recv hK hP (ci := 4) (q0 := 1) rfl (eX_1 A B _)) rfl hl.1 rfl (Nat.le_of_ble_eq_true rfl) dX6_change_44 (st1 := []) rfl ⟨Nat.zero_le _, Nat.zero_le _⟩ (fun H locs hP hD hS => ?_)
        refine lv_iload (pc := 47) hx hb dX6_change_47 (lv_at hl 0 rfl) ?_
        obtain rfl := Option.some.inj hf
        exact hR H locs 49 ls hP hD hS dX6_change_49
      · have hf := hf_t c_22 hf
        refine lv_iconst (pc := 25) hx hb (v := (-1)) dX6_change_25 (by decide) ?_
        obtain rfl := Option.some.inj hf
        exact hR H locs 26 ls hP hD hS dX6_change_26
set_option maxHeartbeats 4000000 in
set_option maxRecDepth 100000 in
theorem kX6_right (l : Launch) (D : va_G) (A : Nat → Nat) (B : Nat → ClassId) (sz : Nat) (S : w_S) (a1 : Int32) (a2 : Int32) (a3 : Int32) (z : Int64) (hf : fX6_right S a1 a2 a3 = some z) : MetW l yX6_right (wsO yX6_right cX6_right 4 (some .long)) rm_X6_right [.ref (A 0), .int a1, .int a2, .int a3] D (tyB B) (wX A B S) (wX A B S) sz (some (.long z)) := by
  refine MetW.mkL (cc := cX6_right) (maxL := 4) (by decide) (Nat.le_of_ble_eq_true rfl) ?_
  intro p e s m args below meth c Ad Q hx hb hts hown hml hN hK hA hR H locs ls hP hD hS hl
  have hl : lv_has ls 4 [(0, .ref (A 0)), (1, .int a1), (2, .int a2), (3, .int a3)] := hl
  rw [fX6_right] at hf
  refine lv_aload_n (pc := 0) hx hb dX6_right_0 rfl (lv_at hl 0 rfl) ?_
  refine vXgRX6_10_0 (pc := 1) hx hb hts mU_16 inU6 hown hK hP dX6_right_1 ?_
  refine lv_iload_n (pc := 4) hx hb dX6_right_4 rfl (lv_at hl 1 rfl) ?_
  obtain ⟨r5, hc5, hf⟩ := hf_b hf
  refine cl_V (pc := 5) (As := [.int a1]) (rest := []) hx hb hml hown hts (kX4_hasEquation_1 l D A B _ S a1 r5 hc5) (cwV 1 hts gwRX6_125 rfl rfl rfl hdX4_hasEquation ⟨Nat.le_of_ble_eq_true rfl, Nat.le_of_ble_eq_true rfl⟩) hN hK hP hD hS hA (va_recv hK hP (ci := 4) (q0 := 1) rfl (eX_1 A B _)) rfl hl.1 rfl (Nat.le_of_ble_eq_true rfl) dX6_right_5 (st1 := [.int r5]) rfl ⟨Nat.zero_le _, Nat.zero_le _⟩ (fun H locs hP hD hS => ?_)
  refine lv_if_eq (pc := 8) hx hb (tgt := 24) dX6_right_8 (by decide) (fun c_8 => ?_) (fun c_8 => ?_)
  · have hf := hf_t c_8 hf
    refine lv_iconst (pc := 24) hx hb (v := (-1)) dX6_right_24 (by decide) ?_
    obtain ⟨r25, hc25, hf⟩ := hf_b hf
    refine cl_S (pc := 25) (As := [.int (-1)]) (rest := []) hx hb hml hown hts (kX6_far l D A B _ S (-1) r25 hc25) (va_cwS 1 hts gwRX6_87 rfl rfl rfl hdX6_far ⟨Nat.le_of_ble_eq_true rfl, Nat.le_of_ble_eq_true rfl⟩) hN hK hP hD hS hA rfl hl.1 rfl (Nat.le_of_ble_eq_true rfl) dX6_right_25 (st1 := [.long r25]) rfl ⟨Nat.zero_le _, Nat.zero_le _⟩ (fun H locs hP hD hS => ?_)
    obtain rfl := Option.some.inj hf
    exact hR H locs 28 ls hP hD hS dX6_right_28
  · have hf := hf_f c_8 hf
    refine lv_aload_n (pc := 11) hx hb dX6_right_11 rfl (lv_at hl 0 rfl) ?_
    refine vXgRX6_10_0 (pc := 12) hx hb hts mU_16 inU6 hown hK hP dX6_right_12 ?_
    refine lv_iconst (pc := 15) hx hb (v := 1) dX6_right_15 (by decide) ?_
    refine lv_iload_n (pc := 16) hx hb dX6_right_16 rfl (lv_at hl 2 rfl) ?_
    refine lv_iload_n (pc := 17) hx hb dX6_right_17 rfl (lv_at hl 3 rfl) ?_
    obtain ⟨r18, hc18, hf⟩ := hf_b hf
    refine cl_V (pc := 18) (As := [.int 1, .int a2, .int a3]) (rest := []) hx hb hml hown hts (kX4_hasEntry_1 l D A B _ S 1 a2 a3 r18 hc18) (cwV 3 hts gwRX6_71 rfl rfl rfl hdX4_hasEntry ⟨Nat.le_of_ble_eq_true rfl, Nat.le_of_ble_eq_true rfl⟩) hN hK hP hD hS hA (va_recv hK hP (ci := 4) (q0 := 1) rfl (eX_1 A B _)) rfl hl.1 rfl (Nat.le_of_ble_eq_true rfl) dX6_right_18 (st1 := [.int r18]) rfl ⟨Nat.zero_le _, Nat.zero_le _⟩ (fun H locs hP hD hS => ?_)
    refine lv_if_ne (pc := 21) hx hb (tgt := 29) dX6_right_21 (by decide) (fun c_21 => ?_) (fun c_21 => ?_)
    · have hf := hf_f c_21 hf
      refine lv_aload_n (pc := 29) hx hb dX6_right_29 rfl (lv_at hl 0 rfl) ?_
      refine vXgRX6_10_0 (pc := 30) hx hb hts mU_16 inU6 hown hK hP dX6_right_30 ?_
      refine lv_aload_n (pc := 33) hx hb dX6_right_33 rfl (lv_at hl 0 rfl) ?_
      refine vXgRX6_10_0 (pc := 34) hx hb hts mU_16 inU6 hown hK hP dX6_right_34 ?_
      refine lv_iload_n (pc := 37) hx hb dX6_right_37 rfl (lv_at hl 1 rfl) ?_
      obtain ⟨r38, hc38, hf⟩ := hf_b hf
      refine cl_V (pc := 38) (As := [.int a1]) (rest := [.ref (A 1)]) hx hb hml hown hts (kX4_kindOf_1 l D A B _ S a1 r38 hc38) (cwV 1 hts gwRX6_128 rfl rfl rfl hdX4_kindOf ⟨Nat.le_of_ble_eq_true rfl, Nat.le_of_ble_eq_true rfl⟩) hN hK hP hD hS hA (va_recv hK hP (ci := 4) (q0 := 1) rfl (eX_1 A B _)) rfl hl.1 rfl (Nat.le_of_ble_eq_true rfl) dX6_right_38 (st1 := [.int r38, .ref (A 1)]) rfl ⟨Nat.zero_le _, Nat.zero_le _⟩ (fun H locs hP hD hS => ?_)
      obtain ⟨r41, hc41, hf⟩ := hf_b hf
      refine cl_V (pc := 41) (As := [.int r38]) (rest := []) hx hb hml hown hts (kX4_hasRight_1 l D A B _ S r38 r41 hc41) (cwV 1 hts gwRX6_137 rfl rfl rfl hdX4_hasRight ⟨Nat.le_of_ble_eq_true rfl, Nat.le_of_ble_eq_true rfl⟩) hN hK hP hD hS hA (va_recv hK hP (ci := 4) (q0 := 1) rfl (eX_1 A B _)) rfl hl.1 rfl (Nat.le_of_ble_eq_true rfl) dX6_right_41 (st1 := [.int r41]) rfl ⟨Nat.zero_le _, Nat.zero_le _⟩ (fun H locs hP hD hS => ?_)
      refine lv_if_ne (pc := 44) hx hb (tgt := 53) dX6_right_44 (by decide) (fun c_44 => ?_) (fun c_44 => ?_)
      · have hf := hf_f c_44 hf
        refine lv_aload_n (pc := 53) hx hb dX6_right_53 rfl (lv_at hl 0 rfl) ?_
        refine vXgRX6_10_0 (pc := 54) hx hb hts mU_16 inU6 hown hK hP dX6_right_54 ?_
        refine lv_aload_n (pc := 57) hx hb dX6_right_57 rfl (lv_at hl 0 rfl) ?_
        refine vXgRX6_10_0 (pc := 58) hx hb hts mU_16 inU6 hown hK hP dX6_right_58 ?_
        refine lv_iload_n (pc := 61) hx hb dX6_right_61 rfl (lv_at hl 1 rfl) ?_
        obtain ⟨r62, hc62, hf⟩ := hf_b hf
        refine cl_V (pc := 62) (As := [.int a1]) (rest := [.ref (A 1)]) hx hb hml hown hts (kX4_kindOf_1 l D A B _ S a1 r62 hc62) (cwV 1 hts gwRX6_128 rfl rfl rfl hdX4_kindOf ⟨Nat.le_of_ble_eq_true rfl, Nat.le_of_ble_eq_true rfl⟩) hN hK hP hD hS hA (va_recv hK hP (ci := 4) (q0 := 1) rfl (eX_1 A B _)) rfl hl.1 rfl (Nat.le_of_ble_eq_true rfl) dX6_right_62 (st1 := [.int r62, .ref (A 1)]) rfl ⟨Nat.zero_le _, Nat.zero_le _⟩ (fun H locs hP hD hS => ?_)
        refine lv_iload_n (pc := 65) hx hb dX6_right_65 rfl (lv_at hl 2 rfl) ?_
        refine lv_iload_n (pc := 66) hx hb dX6_right_66 rfl (lv_at hl 3 rfl) ?_
        obtain ⟨r67, hc67, hf⟩ := hf_b hf
        refine cl_V (pc := 67) (As := [.int r62, .int a2, .int a3]) (rest := []) hx hb hml hown hts (kX4_rightEntry_1 l D A B _ S r62 a2 a3 r67 hc67) (cwV 3 hts gwRX6_162 rfl rfl rfl hdX4_rightEntry ⟨Nat.le_of_ble_eq_true rfl, Nat.le_of_ble_eq_true rfl⟩) hN hK hP hD hS hA (va_recv hK hP (ci := 4) (q0 := 1) rfl (eX_1 A B _)) rfl hl.1 rfl (Nat.le_of_ble_eq_true rfl) dX6_right_67 (st1 := [.int r67]) rfl ⟨Nat.zero_le _, Nat.zero_le _⟩ (fun H locs hP hD hS => ?_)
        refine lv_i2l (pc := 70) hx hb (v := r67.toInt64) dX6_right_70 rfl ?_
        obtain rfl := Option.some.inj hf
        exact hR H locs 71 ls hP hD hS dX6_right_71
      · have hf := hf_t c_44 hf
        refine lv_bipush (pc := 47) hx hb (v := (-4)) dX6_right_47 (by decide) ?_
        obtain ⟨r49, hc49, hf⟩ := hf_b hf
        refine cl_S (pc := 49) (As := [.int (-4)]) (rest := []) hx hb hml hown hts (kX6_far l D A B _ S (-4) r49 hc49) (va_cwS 1 hts gwRX6_87 rfl rfl rfl hdX6_far ⟨Nat.le_of_ble_eq_true rfl, Nat.le_of_ble_eq_true rfl⟩) hN hK hP hD hS hA rfl hl.1 rfl (Nat.le_of_ble_eq_true rfl) dX6_right_49 (st1 := [.long r49]) rfl ⟨Nat.zero_le _, Nat.zero_le _⟩ (fun H locs hP hD hS => ?_)
        obtain rfl := Option.some.inj hf
        exact hR H locs 52 ls hP hD hS dX6_right_52
    · have hf := hf_t c_21 hf
      refine lv_iconst (pc := 24) hx hb (v := (-1)) dX6_right_24 (by decide) ?_
      obtain ⟨r25, hc25, hf⟩ := hf_b hf
      refine cl_S (pc := 25) (As := [.int (-1)]) (rest := []) hx hb hml hown hts (kX6_far l D A B _ S (-1) r25 hc25) (va_cwS 1 hts gwRX6_87 rfl rfl rfl hdX6_far ⟨Nat.le_of_ble_eq_true rfl, Nat.le_of_ble_eq_true rfl⟩) hN hK hP hD hS hA rfl hl.1 rfl (Nat.le_of_ble_eq_true rfl) dX6_right_25 (st1 := [.long r25]) rfl ⟨Nat.zero_le _, Nat.zero_le _⟩ (fun H locs hP hD hS => ?_)
      obtain rfl := Option.some.inj hf
      exact hR H locs 28 ls hP hD hS dX6_right_28
set_option maxHeartbeats 4000000 in
set_option maxRecDepth 100000 in
theorem kX6_commonDivisor (l : Launch) (D : va_G) (A : Nat → Nat) (B : Nat → ClassId) (sz : Nat) (S : w_S) (a0 : Int64) (a2 : Int64) (z : Int64) (hf : fX6_commonDivisor a0 a2 = some z) : MetW l yX6_commonDivisor (wsO yX6_commonDivisor cX6_commonDivisor 11 (some .long)) rm_X6_commonDivisor [.long a0, .long a2] D (tyB B) (wX A B S) (wX A B S) sz (some (.long z)) := by
  refine MetW.mkL (cc := cX6_commonDivisor) (maxL := 11) (by decide) (Nat.le_of_ble_eq_true rfl) ?_
  intro p e s m args below meth c Ad Q hx hb hts hown hml hN hK hA hR H locs ls hP hD hS hl
  have hl : lv_has ls 11 [(0, .long a0), (2, .long a2)] := hl
  rw [fX6_commonDivisor] at hf
  refine lv_lload_n (pc := 0) hx hb dX6_commonDivisor_0 rfl (lv_at hl 0 rfl) ?_
  refine lv_lconst (pc := 1) hx hb (v := 0) dX6_commonDivisor_1 (by decide) ?_
  obtain ⟨q12, hv12, hf⟩ := hf_b hf
  have hj12 : ∀ (H : Heap) (locs : List Loc) (ls : Array Slot), va_P D vwCl (wX A B S) H → va_D Ad (wX A B S) → va_S Ad s.heap H locs → lv_has ls 11 [(2, .long a2)] → W p l e rm_X6_commonDivisor s m args below meth c H locs 0 0 Q (F0 m 12 ls [.long q12]) := by
    intro H locs ls hP hD hS hl
    refine lv_lstore (pc := 12) hx hb (lv' := [(4, .long q12), (2, .long a2)]) dX6_commonDivisor_12 hl (by decide) rfl (fun ls hl => ?_)
    refine lv_lload_n (pc := 14) hx hb dX6_commonDivisor_14 rfl (lv_at hl 1 rfl) ?_
    refine lv_lconst (pc := 15) hx hb (v := 0) dX6_commonDivisor_15 (by decide) ?_
    obtain ⟨q26, hv26, hf⟩ := hf_b hf
    have hj26 : ∀ (H : Heap) (locs : List Loc) (ls : Array Slot), va_P D vwCl (wX A B S) H → va_D Ad (wX A B S) → va_S Ad s.heap H locs → lv_has ls 11 [(2, .long a2), (4, .long q12)] → W p l e rm_X6_commonDivisor s m args below meth c H locs 0 0 Q (F0 m 26 ls [.long q26]) := by
      intro H locs ls hP hD hS hl
      refine lv_lstore (pc := 26) hx hb (lv' := [(6, .long q26), (2, .long a2), (4, .long q12)]) dX6_commonDivisor_26 hl (by decide) rfl (fun ls hl => ?_)
      refine lv_iconst (pc := 28) hx hb (v := 0) dX6_commonDivisor_28 (by decide) ?_
      refine lv_istore (pc := 29) hx hb (lv' := [(8, .int 0), (6, .long q26), (2, .long a2), (4, .long q12)]) dX6_commonDivisor_29 hl (by decide) rfl (fun ls hl => ?_)
      obtain ⟨q31, hq31, hf⟩ := hf_b hf
      have hk31 : ∀ (H : Heap) (locs : List Loc) (ls : Array Slot), va_P D vwCl (wX A B S) H → va_D Ad (wX A B S) → va_S Ad s.heap H locs → lv_has ls 11 [(2, .long a2), (4, .long q31)] → W p l e rm_X6_commonDivisor s m args below meth c H locs 0 0 Q (F0 m 67 ls []) := by
        intro H locs ls hP hD hS hl
        refine lv_lload_n (pc := 67) hx hb dX6_commonDivisor_67 rfl (lv_at hl 0 rfl) ?_
        refine lv_lconst (pc := 68) hx hb (v := 0) dX6_commonDivisor_68 (by decide) ?_
        refine W.lcmp (pc := 69) hx hb dX6_commonDivisor_69 ?_
        refine lv_if_le (pc := 70) hx hb (tgt := 79) dX6_commonDivisor_70 (by decide) (fun c_70 => ?_) (fun c_70 => ?_)
        · have c_70 := lg_le0.mp c_70
          have hf := hf_f c_70 hf
          refine lv_lload (pc := 79) hx hb dX6_commonDivisor_79 (lv_at hl 1 rfl) ?_
          obtain rfl := Option.some.inj hf
          exact hR H locs 81 ls hP hD hS dX6_commonDivisor_81
        · have c_70 := Classical.byContradiction fun h9 => c_70 (lg_le0.mpr h9)
          have hf := hf_t c_70 hf
          refine lv_lload (pc := 73) hx hb dX6_commonDivisor_73 (lv_at hl 1 rfl) ?_
          refine lv_lneg (pc := 75) hx hb dX6_commonDivisor_75 ?_
          refine lv_goto (pc := 76) hx hb (tgt := 81) dX6_commonDivisor_76 (by decide) ?_
          obtain rfl := Option.some.inj hf
          exact hR H locs 81 ls hP hD hS dX6_commonDivisor_81
      have lp31 : ∀ (n : Nat) (u4_31 : Int64) (u6_31 : Int64) (u8_31 : Int32) (H : Heap) (locs : List Loc) (ls : Array Slot), fX6_commonDivisor_L31 a2 n u4_31 u6_31 u8_31 = some q31 → va_P D vwCl (wX A B S) H → va_D Ad (wX A B S) → va_S Ad s.heap H locs → lv_has ls 11 [(2, .long a2), (4, .long u4_31), (6, .long u6_31), (8, .int u8_31)] → W p l e rm_X6_commonDivisor s m args below meth c H locs 0 0 Q (F0 m 31 ls []) := by
        intro n31
        induction n31 with
        | zero => intro u4_31 u6_31 u8_31 H locs ls hq31; exact hf_0 hq31
        | succ n31 ih31 =>
          intro u4_31 u6_31 u8_31 H locs ls hq31 hP hD hS hl
          rw [fX6_commonDivisor_L31] at hq31
          refine lv_iload (pc := 31) hx hb dX6_commonDivisor_31 (lv_at hl 3 rfl) ?_
          refine lv_sipush (pc := 33) hx hb (v := 200) dX6_commonDivisor_33 (by decide) ?_
          refine lv_icmp_ge (pc := 36) hx hb (tgt := 67) dX6_commonDivisor_36 (by decide) (fun c_36 => ?_) (fun c_36 => ?_)
          · have hq31 := hf_t c_36 hq31
            obtain rfl := Option.some.inj hq31
            exact hk31 H locs ls hP hD hS (lv_sub hl [0, 1] rfl)
          · have hq31 := hf_f c_36 hq31
            refine lv_lload (pc := 39) hx hb dX6_commonDivisor_39 (lv_at hl 2 rfl) ?_
            refine lv_lconst (pc := 41) hx hb (v := 0) dX6_commonDivisor_41 (by decide) ?_
            refine W.lcmp (pc := 42) hx hb dX6_commonDivisor_42 ?_
            refine lv_if_eq (pc := 43) hx hb (tgt := 67) dX6_commonDivisor_43 (by decide) (fun c_43 => ?_) (fun c_43 => ?_)
            · have c_43 := lg_eq0.mp c_43
              have hq31 := hf_t c_43 hq31
              obtain rfl := Option.some.inj hq31
              exact hk31 H locs ls hP hD hS (lv_sub hl [0, 1] rfl)
            · have c_43 := fun h9 => c_43 (lg_eq0.mpr h9)
              have hq31 := hf_f c_43 hq31
              refine lv_lload (pc := 46) hx hb dX6_commonDivisor_46 (lv_at hl 1 rfl) ?_
              refine lv_lload (pc := 48) hx hb dX6_commonDivisor_48 (lv_at hl 2 rfl) ?_
              obtain ⟨hg50, hq31⟩ := hf_g hq31
              refine lv_lrem (pc := 50) hx hb dX6_commonDivisor_50 hg50 ?_
              refine lv_lstore (pc := 51) hx hb (lv' := [(9, .long (u4_31 - u4_31 / u6_31 * u6_31)), (2, .long a2), (4, .long u4_31), (6, .long u6_31), (8, .int u8_31)]) dX6_commonDivisor_51 hl (by decide) rfl (fun ls hl => ?_)
              refine lv_lload (pc := 53) hx hb dX6_commonDivisor_53 (lv_at hl 3 rfl) ?_
              refine lv_lstore (pc := 55) hx hb (lv' := [(4, .long u6_31), (9, .long (u4_31 - u4_31 / u6_31 * u6_31)), (2, .long a2), (6, .long u6_31), (8, .int u8_31)]) dX6_commonDivisor_55 hl (by decide) rfl (fun ls hl => ?_)
              refine lv_lload (pc := 57) hx hb dX6_commonDivisor_57 (lv_at hl 1 rfl) ?_
              refine lv_lstore (pc := 59) hx hb (lv' := [(6, .long (u4_31 - u4_31 / u6_31 * u6_31)), (4, .long u6_31), (9, .long (u4_31 - u4_31 / u6_31 * u6_31)), (2, .long a2), (8, .int u8_31)]) dX6_commonDivisor_59 hl (by decide) rfl (fun ls hl => ?_)
              refine lv_iinc (pc := 61) hx hb (v := u8_31 + 1) (lv' := [(8, .int (u8_31 + 1)), (6, .long (u4_31 - u4_31 / u6_31 * u6_31)), (4, .long u6_31), (9, .long (u4_31 - u4_31 / u6_31 * u6_31)), (2, .long a2)]) dX6_commonDivisor_61 hl (k := 4) rfl rfl (by decide) rfl (fun ls hl => ?_)
              refine lv_goto (pc := 64) hx hb (tgt := 31) dX6_commonDivisor_64 (by decide) ?_
              exact ih31 u6_31 (u4_31 - u4_31 / u6_31 * u6_31) (u8_31 + 1) H locs ls hq31 hP hD hS (lv_sub hl [4, 2, 1, 0] rfl)
      exact lp31 256 q12 q26 0 H locs ls hq31 hP hD hS (lv_sub hl [2, 3, 1, 0] rfl)
    refine W.lcmp (pc := 16) hx hb dX6_commonDivisor_16 ?_
    refine lv_if_le (pc := 17) hx hb (tgt := 25) dX6_commonDivisor_17 (by decide) (fun c_17 => ?_) (fun c_17 => ?_)
    · have c_17 := lg_le0.mp c_17
      have hv26 := hf_f c_17 hv26
      refine lv_lload_n (pc := 25) hx hb dX6_commonDivisor_25 rfl (lv_at hl 1 rfl) ?_
      obtain rfl := Option.some.inj hv26
      exact hj26 H locs ls hP hD hS (lv_sub hl [1, 0] rfl)
    · have c_17 := Classical.byContradiction fun h9 => c_17 (lg_le0.mpr h9)
      have hv26 := hf_t c_17 hv26
      refine lv_lload_n (pc := 20) hx hb dX6_commonDivisor_20 rfl (lv_at hl 1 rfl) ?_
      refine lv_lneg (pc := 21) hx hb dX6_commonDivisor_21 ?_
      refine lv_goto (pc := 22) hx hb (tgt := 26) dX6_commonDivisor_22 (by decide) ?_
      obtain rfl := Option.some.inj hv26
      exact hj26 H locs ls hP hD hS (lv_sub hl [1, 0] rfl)
  refine W.lcmp (pc := 2) hx hb dX6_commonDivisor_2 ?_
  refine lv_if_le (pc := 3) hx hb (tgt := 11) dX6_commonDivisor_3 (by decide) (fun c_3 => ?_) (fun c_3 => ?_)
  · have c_3 := lg_le0.mp c_3
    have hv12 := hf_f c_3 hv12
    refine lv_lload_n (pc := 11) hx hb dX6_commonDivisor_11 rfl (lv_at hl 0 rfl) ?_
    obtain rfl := Option.some.inj hv12
    exact hj12 H locs ls hP hD hS (lv_sub hl [1] rfl)
  · have c_3 := Classical.byContradiction fun h9 => c_3 (lg_le0.mpr h9)
    have hv12 := hf_t c_3 hv12
    refine lv_lload_n (pc := 6) hx hb dX6_commonDivisor_6 rfl (lv_at hl 0 rfl) ?_
    refine lv_lneg (pc := 7) hx hb dX6_commonDivisor_7 ?_
    refine lv_goto (pc := 8) hx hb (tgt := 12) dX6_commonDivisor_8 (by decide) ?_
    obtain rfl := Option.some.inj hv12
    exact hj12 H locs ls hP hD hS (lv_sub hl [1] rfl)
set_option maxHeartbeats 4000000 in
set_option maxRecDepth 100000 in
theorem kX6_fractionPart (l : Launch) (D : va_G) (A : Nat → Nat) (B : Nat → ClassId) (sz : Nat) (S : w_S) (a0 : Int64) (a2 : Int64) (a4 : Int32) (z : Int64) (hf : fX6_fractionPart a0 a2 a4 = some z) : MetW l yX6_fractionPart (wsO yX6_fractionPart cX6_fractionPart 7 (some .long)) rm_X6_fractionPart [.long a0, .long a2, .int a4] D (tyB B) (wX A B S) (wX A B S) sz (some (.long z)) := by
  refine MetW.mkL (cc := cX6_fractionPart) (maxL := 7) (by decide) (Nat.le_of_ble_eq_true rfl) ?_
  intro p e s m args below meth c Ad Q hx hb hts hown hml hN hK hA hR H locs ls hP hD hS hl
  have hl : lv_has ls 7 [(0, .long a0), (2, .long a2), (4, .int a4)] := hl
  rw [fX6_fractionPart] at hf
  refine lv_lload_n (pc := 0) hx hb dX6_fractionPart_0 rfl (lv_at hl 0 rfl) ?_
  refine lv_lload_n (pc := 1) hx hb dX6_fractionPart_1 rfl (lv_at hl 1 rfl) ?_
  obtain ⟨r2, hc2, hf⟩ := hf_b hf
  refine cl_S (pc := 2) (As := [.long a0, .long a2]) (rest := []) hx hb hml hown hts (kX6_commonDivisor l D A B _ S a0 a2 r2 hc2) (va_cwS 2 hts gwRX6_326 rfl rfl rfl hdX6_commonDivisor ⟨Nat.le_of_ble_eq_true rfl, Nat.le_of_ble_eq_true rfl⟩) hN hK hP hD hS hA rfl hl.1 rfl (Nat.le_of_ble_eq_true rfl) dX6_fractionPart_2 (st1 := [.long r2]) rfl ⟨Nat.zero_le _, Nat.zero_le _⟩ (fun H locs hP hD hS => ?_)
  refine lv_lstore (pc := 5) hx hb (lv' := [(5, .long r2), (0, .long a0), (2, .long a2), (4, .int a4)]) dX6_fractionPart_5 hl (by decide) rfl (fun ls hl => ?_)
  refine lv_lload_n (pc := 7) hx hb dX6_fractionPart_7 rfl (lv_at hl 2 rfl) ?_
  refine lv_lconst (pc := 8) hx hb (v := 0) dX6_fractionPart_8 (by decide) ?_
  refine W.lcmp (pc := 9) hx hb dX6_fractionPart_9 ?_
  refine lv_if_eq (pc := 10) hx hb (tgt := 20) dX6_fractionPart_10 (by decide) (fun c_10 => ?_) (fun c_10 => ?_)
  · have c_10 := lg_eq0.mp c_10
    have hf := hf_t c_10 hf
    refine lv_bipush (pc := 20) hx hb (v := (-15)) dX6_fractionPart_20 (by decide) ?_
    obtain ⟨r22, hc22, hf⟩ := hf_b hf
    refine cl_S (pc := 22) (As := [.int (-15)]) (rest := []) hx hb hml hown hts (kX6_far l D A B _ S (-15) r22 hc22) (va_cwS 1 hts gwRX6_87 rfl rfl rfl hdX6_far ⟨Nat.le_of_ble_eq_true rfl, Nat.le_of_ble_eq_true rfl⟩) hN hK hP hD hS hA rfl hl.1 rfl (Nat.le_of_ble_eq_true rfl) dX6_fractionPart_22 (st1 := [.long r22]) rfl ⟨Nat.zero_le _, Nat.zero_le _⟩ (fun H locs hP hD hS => ?_)
    obtain rfl := Option.some.inj hf
    exact hR H locs 25 ls hP hD hS dX6_fractionPart_25
  · have c_10 := fun h9 => c_10 (lg_eq0.mpr h9)
    have hf := hf_f c_10 hf
    refine lv_lload (pc := 13) hx hb dX6_fractionPart_13 (lv_at hl 0 rfl) ?_
    refine lv_lconst (pc := 15) hx hb (v := 0) dX6_fractionPart_15 (by decide) ?_
    refine W.lcmp (pc := 16) hx hb dX6_fractionPart_16 ?_
    refine lv_if_ne (pc := 17) hx hb (tgt := 26) dX6_fractionPart_17 (by decide) (fun c_17 => ?_) (fun c_17 => ?_)
    · have c_17 := fun h9 => c_17 (lg_eq0.mpr h9)
      have hf := hf_f c_17 hf
      refine lv_lload (pc := 26) hx hb dX6_fractionPart_26 (lv_at hl 0 rfl) ?_
      refine lv_ldc2 (pc := 28) hx hb (v := (-1)) hown (hts (.constantLong RX6 330 (-1)) mU_622) dX6_fractionPart_28 ?_
      refine W.lcmp (pc := 31) hx hb dX6_fractionPart_31 ?_
      refine lv_if_ne (pc := 32) hx hb (tgt := 57) dX6_fractionPart_32 (by decide) (fun c_32 => ?_) (fun c_32 => ?_)
      · have c_32 := fun h9 => c_32 (lg_eq0.mpr h9)
        have hf := hf_f c_32 hf
        refine lv_iload (pc := 57) hx hb dX6_fractionPart_57 (lv_at hl 3 rfl) ?_
        refine lv_if_ne (pc := 59) hx hb (tgt := 66) dX6_fractionPart_59 (by decide) (fun c_59 => ?_) (fun c_59 => ?_)
        · have hf := hf_f c_59 hf
          refine lv_lload_n (pc := 66) hx hb dX6_fractionPart_66 rfl (lv_at hl 2 rfl) ?_
          refine lv_lload (pc := 67) hx hb dX6_fractionPart_67 (lv_at hl 0 rfl) ?_
          obtain ⟨hg69, hf⟩ := hf_g hf
          refine lv_ldiv (pc := 69) hx hb dX6_fractionPart_69 hg69 ?_
          obtain rfl := Option.some.inj hf
          exact hR H locs 70 ls hP hD hS dX6_fractionPart_70
        · have hf := hf_t c_59 hf
          refine lv_lload_n (pc := 62) hx hb dX6_fractionPart_62 rfl (lv_at hl 1 rfl) ?_
          refine lv_goto (pc := 63) hx hb (tgt := 67) dX6_fractionPart_63 (by decide) ?_
          refine lv_lload (pc := 67) hx hb dX6_fractionPart_67 (lv_at hl 0 rfl) ?_
          obtain ⟨hg69, hf⟩ := hf_g hf
          refine lv_ldiv (pc := 69) hx hb dX6_fractionPart_69 hg69 ?_
          obtain rfl := Option.some.inj hf
          exact hR H locs 70 ls hP hD hS dX6_fractionPart_70
      · have c_32 := lg_eq0.mp c_32
        have hf := hf_t c_32 hf
        refine lv_lload_n (pc := 35) hx hb dX6_fractionPart_35 rfl (lv_at hl 1 rfl) ?_
        refine lv_ldc2 (pc := 36) hx hb (v := (-9223372036854775808)) hown (hts (.constantLong RX6 332 (-9223372036854775808)) mU_623) dX6_fractionPart_36 ?_
        refine W.lcmp (pc := 39) hx hb dX6_fractionPart_39 ?_
        refine lv_if_eq (pc := 40) hx hb (tgt := 51) dX6_fractionPart_40 (by decide) (fun c_40 => ?_) (fun c_40 => ?_)
        · have c_40 := lg_eq0.mp c_40
          have hf := hf_t c_40 hf
          refine lv_bipush (pc := 51) hx hb (v := (-16)) dX6_fractionPart_51 (by decide) ?_
          obtain ⟨r53, hc53, hf⟩ := hf_b hf
          refine cl_S (pc := 53) (As := [.int (-16)]) (rest := []) hx hb hml hown hts (kX6_far l D A B _ S (-16) r53 hc53) (va_cwS 1 hts gwRX6_87 rfl rfl rfl hdX6_far ⟨Nat.le_of_ble_eq_true rfl, Nat.le_of_ble_eq_true rfl⟩) hN hK hP hD hS hA rfl hl.1 rfl (Nat.le_of_ble_eq_true rfl) dX6_fractionPart_53 (st1 := [.long r53]) rfl ⟨Nat.zero_le _, Nat.zero_le _⟩ (fun H locs hP hD hS => ?_)
          obtain rfl := Option.some.inj hf
          exact hR H locs 56 ls hP hD hS dX6_fractionPart_56
        · have c_40 := fun h9 => c_40 (lg_eq0.mpr h9)
          have hf := hf_f c_40 hf
          refine lv_lload_n (pc := 43) hx hb dX6_fractionPart_43 rfl (lv_at hl 2 rfl) ?_
          refine lv_ldc2 (pc := 44) hx hb (v := (-9223372036854775808)) hown (hts (.constantLong RX6 332 (-9223372036854775808)) mU_623) dX6_fractionPart_44 ?_
          refine W.lcmp (pc := 47) hx hb dX6_fractionPart_47 ?_
          refine lv_if_ne (pc := 48) hx hb (tgt := 57) dX6_fractionPart_48 (by decide) (fun c_48 => ?_) (fun c_48 => ?_)
          · have c_48 := fun h9 => c_48 (lg_eq0.mpr h9)
            have hf := hf_f c_48 hf
            refine lv_iload (pc := 57) hx hb dX6_fractionPart_57 (lv_at hl 3 rfl) ?_
            refine lv_if_ne (pc := 59) hx hb (tgt := 66) dX6_fractionPart_59 (by decide) (fun c_59 => ?_) (fun c_59 => ?_)
            · have hf := hf_f c_59 hf
              refine lv_lload_n (pc := 66) hx hb dX6_fractionPart_66 rfl (lv_at hl 2 rfl) ?_
              refine lv_lload (pc := 67) hx hb dX6_fractionPart_67 (lv_at hl 0 rfl) ?_
              obtain ⟨hg69, hf⟩ := hf_g hf
              refine lv_ldiv (pc := 69) hx hb dX6_fractionPart_69 hg69 ?_
              obtain rfl := Option.some.inj hf
              exact hR H locs 70 ls hP hD hS dX6_fractionPart_70
            · have hf := hf_t c_59 hf
              refine lv_lload_n (pc := 62) hx hb dX6_fractionPart_62 rfl (lv_at hl 1 rfl) ?_
              refine lv_goto (pc := 63) hx hb (tgt := 67) dX6_fractionPart_63 (by decide) ?_
              refine lv_lload (pc := 67) hx hb dX6_fractionPart_67 (lv_at hl 0 rfl) ?_
              obtain ⟨hg69, hf⟩ := hf_g hf
              refine lv_ldiv (pc := 69) hx hb dX6_fractionPart_69 hg69 ?_
              obtain rfl := Option.some.inj hf
              exact hR H locs 70 ls hP hD hS dX6_fractionPart_70
          · have c_48 := lg_eq0.mp c_48
            have hf := hf_t c_48 hf
            refine lv_bipush (pc := 51) hx hb (v := (-16)) dX6_fractionPart_51 (by decide) ?_
            obtain ⟨r53, hc53, hf⟩ := hf_b hf
            refine cl_S (pc := 53) (As := [.int (-16)]) (rest := []) hx hb hml hown hts (kX6_far l D A B _ S (-16) r53 hc53) (va_cwS 1 hts gwRX6_87 rfl rfl rfl hdX6_far ⟨Nat.le_of_ble_eq_true rfl, Nat.le_of_ble_eq_true rfl⟩) hN hK hP hD hS hA rfl hl.1 rfl (Nat.le_of_ble_eq_true rfl) dX6_fractionPart_53 (st1 := [.long r53]) rfl ⟨Nat.zero_le _, Nat.zero_le _⟩ (fun H locs hP hD hS => ?_)
            obtain rfl := Option.some.inj hf
            exact hR H locs 56 ls hP hD hS dX6_fractionPart_56
    · have c_17 := lg_eq0.mp c_17
      have hf := hf_t c_17 hf
      refine lv_bipush (pc := 20) hx hb (v := (-15)) dX6_fractionPart_20 (by decide) ?_
      obtain ⟨r22, hc22, hf⟩ := hf_b hf
      refine cl_S (pc := 22) (As := [.int (-15)]) (rest := []) hx hb hml hown hts (kX6_far l D A B _ S (-15) r22 hc22) (va_cwS 1 hts gwRX6_87 rfl rfl rfl hdX6_far ⟨Nat.le_of_ble_eq_true rfl, Nat.le_of_ble_eq_true rfl⟩) hN hK hP hD hS hA rfl hl.1 rfl (Nat.le_of_ble_eq_true rfl) dX6_fractionPart_22 (st1 := [.long r22]) rfl ⟨Nat.zero_le _, Nat.zero_le _⟩ (fun H locs hP hD hS => ?_)
      obtain rfl := Option.some.inj hf
      exact hR H locs 25 ls hP hD hS dX6_fractionPart_25
set_option maxHeartbeats 4000000 in
set_option maxRecDepth 100000 in
theorem kX6_isPart (l : Launch) (D : va_G) (A : Nat → Nat) (B : Nat → ClassId) (sz : Nat) (S : w_S) (a0 : Int32) (z : Int32) (hf : fX6_isPart a0 = some z) : MetW l yX6_isPart (wsO yX6_isPart cX6_isPart 1 (some .boolean)) rm_X6_isPart [.int a0] D (tyB B) (wX A B S) (wX A B S) sz (some (.int z)) := by
  refine MetW.mkZ (cc := cX6_isPart) (maxL := 1) (by decide) (Nat.le_of_ble_eq_true rfl) ?_
  intro p e s m args below meth c Ad Q hx hb hts hown hml hN hK hA hR H locs ls hP hD hS hl
  have hl : lv_has ls 1 [(0, .int a0)] := hl
  rw [fX6_isPart] at hf
  refine lv_iload_n (pc := 0) hx hb dX6_isPart_0 rfl (lv_at hl 0 rfl) ?_
  refine lv_if_eq (pc := 1) hx hb (tgt := 9) dX6_isPart_1 (by decide) (fun c_1 => ?_) (fun c_1 => ?_)
  · have hf := hf_t c_1 hf
    refine lv_iconst (pc := 9) hx hb (v := 1) dX6_isPart_9 (by decide) ?_
    refine lv_goto (pc := 10) hx hb (tgt := 14) dX6_isPart_10 (by decide) ?_
    obtain rfl := Option.some.inj hf
    exact hR H locs 14 ls hP hD hS (nz_of (.inr rfl)) dX6_isPart_14
  · have hf := hf_f c_1 hf
    refine lv_iload_n (pc := 4) hx hb dX6_isPart_4 rfl (lv_at hl 0 rfl) ?_
    refine lv_iconst (pc := 5) hx hb (v := 1) dX6_isPart_5 (by decide) ?_
    refine lv_icmp_ne (pc := 6) hx hb (tgt := 13) dX6_isPart_6 (by decide) (fun c_6 => ?_) (fun c_6 => ?_)
    · have hf := hf_f c_6 hf
      refine lv_iconst (pc := 13) hx hb (v := 0) dX6_isPart_13 (by decide) ?_
      obtain rfl := Option.some.inj hf
      exact hR H locs 14 ls hP hD hS (nz_of (.inl rfl)) dX6_isPart_14
    · have hf := hf_t c_6 hf
      refine lv_iconst (pc := 9) hx hb (v := 1) dX6_isPart_9 (by decide) ?_
      refine lv_goto (pc := 10) hx hb (tgt := 14) dX6_isPart_10 (by decide) ?_
      obtain rfl := Option.some.inj hf
      exact hR H locs 14 ls hP hD hS (nz_of (.inr rfl)) dX6_isPart_14
set_option maxHeartbeats 4000000 in
set_option maxRecDepth 100000 in
theorem kX1_isPivot_19 (l : Launch) (D : va_G) (A : Nat → Nat) (B : Nat → ClassId) (sz : Nat) (S : w_S) (a1 : Int32) (z : Int32) (hf : fX1_isPivot_19 S a1 = some z) : MetW l yX1_isPivot (wsO yX1_isPivot cX1_isPivot 2 (some .boolean)) rm_X1_isPivot [.ref (A 19), .int a1] D (tyB B) (wX A B S) (wX A B S) sz (some (.int z)) := by
  refine MetW.mkZ (cc := cX1_isPivot) (maxL := 2) (by decide) (Nat.le_of_ble_eq_true rfl) ?_
  intro p e s m args below meth c Ad Q hx hb hts hown hml hN hK hA hR H locs ls hP hD hS hl
  have hl : lv_has ls 2 [(0, .ref (A 19)), (1, .int a1)] := hl
  rw [fX1_isPivot_19] at hf
  refine lv_iload_n (pc := 0) hx hb dX1_isPivot_0 rfl (lv_at hl 1 rfl) ?_
  refine lv_if_lt (pc := 1) hx hb (tgt := 31) dX1_isPivot_1 (by decide) (fun c_1 => ?_) (fun c_1 => ?_)
  · have hf := hf_t c_1 hf
    refine lv_iconst (pc := 31) hx hb (v := 0) dX1_isPivot_31 (by decide) ?_
    obtain rfl := Option.some.inj hf
    exact hR H locs 32 ls hP hD hS (nz_of (.inl rfl)) dX1_isPivot_32
  · have hf := hf_f c_1 hf
    refine lv_iload_n (pc := 4) hx hb dX1_isPivot_4 rfl (lv_at hl 1 rfl) ?_
    refine lv_aload_n (pc := 5) hx hb dX1_isPivot_5 rfl (lv_at hl 0 rfl) ?_
    refine vXgRX1_36_19 (pc := 6) hx hb hts mU_437 inU1 hown hK hP (x := (gI S 14)) rfl dX1_isPivot_6 ?_
    refine lv_icmp_ge (pc := 9) hx hb (tgt := 31) dX1_isPivot_9 (by decide) (fun c_9 => ?_) (fun c_9 => ?_)
    · have hf := hf_t c_9 hf
      refine lv_iconst (pc := 31) hx hb (v := 0) dX1_isPivot_31 (by decide) ?_
      obtain rfl := Option.some.inj hf
      exact hR H locs 32 ls hP hD hS (nz_of (.inl rfl)) dX1_isPivot_32
    · have hf := hf_f c_9 hf
      refine lv_iload_n (pc := 12) hx hb dX1_isPivot_12 rfl (lv_at hl 1 rfl) ?_
      refine lv_bipush (pc := 13) hx hb (v := 10) dX1_isPivot_13 (by decide) ?_
      refine lv_icmp_ge (pc := 15) hx hb (tgt := 31) dX1_isPivot_15 (by decide) (fun c_15 => ?_) (fun c_15 => ?_)
      · have hf := hf_t c_15 hf
        refine lv_iconst (pc := 31) hx hb (v := 0) dX1_isPivot_31 (by decide) ?_
        obtain rfl := Option.some.inj hf
        exact hR H locs 32 ls hP hD hS (nz_of (.inl rfl)) dX1_isPivot_32
      · have hf := hf_f c_15 hf
        refine lv_aload_n (pc := 18) hx hb dX1_isPivot_18 rfl (lv_at hl 0 rfl) ?_
        refine vXgRX1_19_19 (pc := 19) hx hb hts mU_58 inU1 hown hK hP dX1_isPivot_19 ?_
        refine lv_iload_n (pc := 22) hx hb dX1_isPivot_22 rfl (lv_at hl 1 rfl) ?_
        obtain ⟨hg23, hf⟩ := hf_g hf
        refine vXra_21 (pc := 23) hx hb hK hP (f := (gA S 15)) rfl hg23 dX1_isPivot_23 ?_
        refine lv_if_lt (pc := 24) hx hb (tgt := 31) dX1_isPivot_24 (by decide) (fun c_24 => ?_) (fun c_24 => ?_)
        · have hf := hf_t c_24 hf
          refine lv_iconst (pc := 31) hx hb (v := 0) dX1_isPivot_31 (by decide) ?_
          obtain rfl := Option.some.inj hf
          exact hR H locs 32 ls hP hD hS (nz_of (.inl rfl)) dX1_isPivot_32
        · have hf := hf_f c_24 hf
          refine lv_iconst (pc := 27) hx hb (v := 1) dX1_isPivot_27 (by decide) ?_
          refine lv_goto (pc := 28) hx hb (tgt := 32) dX1_isPivot_28 (by decide) ?_
          obtain rfl := Option.some.inj hf
          exact hR H locs 32 ls hP hD hS (nz_of (.inr rfl)) dX1_isPivot_32
set_option maxHeartbeats 4000000 in
set_option maxRecDepth 100000 in
theorem kX1_solutionAbove_19 (l : Launch) (D : va_G) (A : Nat → Nat) (B : Nat → ClassId) (sz : Nat) (S : w_S) (a1 : Int32) (z : Int64) (hf : fX1_solutionAbove_19 S a1 = some z) : MetW l yX1_solutionAbove (wsO yX1_solutionAbove cX1_solutionAbove 2 (some .long)) rm_X1_solutionAbove [.ref (A 19), .int a1] D (tyB B) (wX A B S) (wX A B S) sz (some (.long z)) := by
  refine MetW.mkL (cc := cX1_solutionAbove) (maxL := 2) (by decide) (Nat.le_of_ble_eq_true rfl) ?_
  intro p e s m args below meth c Ad Q hx hb hts hown hml hN hK hA hR H locs ls hP hD hS hl
  have hl : lv_has ls 2 [(0, .ref (A 19)), (1, .int a1)] := hl
  rw [fX1_solutionAbove_19] at hf
  refine lv_aload_n (pc := 0) hx hb dX1_solutionAbove_0 rfl (lv_at hl 0 rfl) ?_
  refine lv_iload_n (pc := 1) hx hb dX1_solutionAbove_1 rfl (lv_at hl 1 rfl) ?_
  obtain ⟨r2, hc2, hf⟩ := hf_b hf
  refine cl_V (pc := 2) (As := [.int a1]) (rest := []) hx hb hml hown hts (kX1_isPivot_19 l D A B _ S a1 r2 hc2) (cwV 1 hts gwRX1_82 rfl rfl rfl hdX1_isPivot ⟨Nat.le_of_ble_eq_true rfl, Nat.le_of_ble_eq_true rfl⟩) hN hK hP hD hS hA (va_recv hK hP (ci := 1) (q0 := 19) rfl (eX_19 A B _)) rfl hl.1 rfl (Nat.le_of_ble_eq_true rfl) dX1_solutionAbove_2 (st1 := [.int r2]) rfl ⟨Nat.zero_le _, Nat.zero_le _⟩ (fun H locs hP hD hS => ?_)
  refine lv_if_eq (pc := 5) hx hb (tgt := 25) dX1_solutionAbove_5 (by decide) (fun c_5 => ?_) (fun c_5 => ?_)
  · have hf := hf_t c_5 hf
    refine lv_lconst (pc := 25) hx hb (v := 0) dX1_solutionAbove_25 (by decide) ?_
    obtain rfl := Option.some.inj hf
    exact hR H locs 26 ls hP hD hS dX1_solutionAbove_26
  · have hf := hf_f c_5 hf
    refine lv_aload_n (pc := 8) hx hb dX1_solutionAbove_8 rfl (lv_at hl 0 rfl) ?_
    refine lv_aload_n (pc := 9) hx hb dX1_solutionAbove_9 rfl (lv_at hl 0 rfl) ?_
    refine vXgRX1_19_19 (pc := 10) hx hb hts mU_58 inU1 hown hK hP dX1_solutionAbove_10 ?_
    refine lv_iload_n (pc := 13) hx hb dX1_solutionAbove_13 rfl (lv_at hl 1 rfl) ?_
    obtain ⟨hg14, hf⟩ := hf_g hf
    refine vXra_21 (pc := 14) hx hb hK hP (f := (gA S 15)) rfl hg14 dX1_solutionAbove_14 ?_
    refine lv_aload_n (pc := 15) hx hb dX1_solutionAbove_15 rfl (lv_at hl 0 rfl) ?_
    refine vXgRX1_36_19 (pc := 16) hx hb hts mU_437 inU1 hown hK hP (x := (gI S 14)) rfl dX1_solutionAbove_16 ?_
    obtain ⟨r19, hc19, hf⟩ := hf_b hf
    refine cl_V (pc := 19) (As := [.int ((gA S 15) a1.toNatClampNeg), .int (gI S 14)]) (rest := []) hx hb hml hown hts (kX1_cell_19 l D A B _ S ((gA S 15) a1.toNatClampNeg) (gI S 14) r19 hc19) (cwV 2 hts gwRX1_49 rfl rfl rfl hdX1_cell ⟨Nat.le_of_ble_eq_true rfl, Nat.le_of_ble_eq_true rfl⟩) hN hK hP hD hS hA (va_recv hK hP (ci := 1) (q0 := 19) rfl (eX_19 A B _)) rfl hl.1 rfl (Nat.le_of_ble_eq_true rfl) dX1_solutionAbove_19 (st1 := [.long r19]) rfl ⟨Nat.zero_le _, Nat.zero_le _⟩ (fun H locs hP hD hS => ?_)
    refine lv_goto (pc := 22) hx hb (tgt := 26) dX1_solutionAbove_22 (by decide) ?_
    obtain rfl := Option.some.inj hf
    exact hR H locs 26 ls hP hD hS dX1_solutionAbove_26
set_option maxHeartbeats 4000000 in
set_option maxRecDepth 100000 in
theorem kX6_solutionAbove (l : Launch) (D : va_G) (A : Nat → Nat) (B : Nat → ClassId) (sz : Nat) (S : w_S) (a1 : Int32) (a2 : Int32) (a3 : Int32) (z : Int64) (hf : fX6_solutionAbove S a1 a2 a3 = some z) : MetW l yX6_solutionAbove (wsO yX6_solutionAbove cX6_solutionAbove 4 (some .long)) rm_X6_solutionAbove [.ref (A 0), .int a1, .int a2, .int a3] D (tyB B) (wX A B S) (wX A B S) sz (some (.long z)) := by
  refine MetW.mkL (cc := cX6_solutionAbove) (maxL := 4) (by decide) (Nat.le_of_ble_eq_true rfl) ?_
  intro p e s m args below meth c Ad Q hx hb hts hown hml hN hK hA hR H locs ls hP hD hS hl
  have hl : lv_has ls 4 [(0, .ref (A 0)), (1, .int a1), (2, .int a2), (3, .int a3)] := hl
  rw [fX6_solutionAbove] at hf
  refine lv_aload_n (pc := 0) hx hb dX6_solutionAbove_0 rfl (lv_at hl 0 rfl) ?_
  refine vXgRX6_10_0 (pc := 1) hx hb hts mU_16 inU6 hown hK hP dX6_solutionAbove_1 ?_
  refine lv_iload_n (pc := 4) hx hb dX6_solutionAbove_4 rfl (lv_at hl 1 rfl) ?_
  refine lv_iload_n (pc := 5) hx hb dX6_solutionAbove_5 rfl (lv_at hl 2 rfl) ?_
  refine lv_iload_n (pc := 6) hx hb dX6_solutionAbove_6 rfl (lv_at hl 3 rfl) ?_
  obtain ⟨r7, hc7, hf⟩ := hf_b hf
  refine cl_V (pc := 7) (As := [.int a1, .int a2, .int a3]) (rest := []) hx hb hml hown hts (kX4_signAt_1 l D A B _ S a1 a2 a3 r7 hc7) (cwV 3 hts gwRX6_183 rfl rfl rfl hdX4_signAt ⟨Nat.le_of_ble_eq_true rfl, Nat.le_of_ble_eq_true rfl⟩) hN hK hP hD hS hA (va_recv hK hP (ci := 4) (q0 := 1) rfl (eX_1 A B _)) rfl hl.1 rfl (Nat.le_of_ble_eq_true rfl) dX6_solutionAbove_7 (st1 := [.int r7]) rfl ⟨Nat.zero_le _, Nat.zero_le _⟩ (fun H locs hP hD hS => ?_)
  refine lv_i2l (pc := 10) hx hb (v := r7.toInt64) dX6_solutionAbove_10 rfl ?_
  refine lv_aload_n (pc := 11) hx hb dX6_solutionAbove_11 rfl (lv_at hl 0 rfl) ?_
  refine vXgRX6_25_0 (pc := 12) hx hb hts mU_22 inU6 hown hK hP dX6_solutionAbove_12 ?_
  refine lv_aload_n (pc := 15) hx hb dX6_solutionAbove_15 rfl (lv_at hl 0 rfl) ?_
  refine vXgRX6_10_0 (pc := 16) hx hb hts mU_16 inU6 hown hK hP dX6_solutionAbove_16 ?_
  refine lv_iload_n (pc := 19) hx hb dX6_solutionAbove_19 rfl (lv_at hl 1 rfl) ?_
  refine lv_iload_n (pc := 20) hx hb dX6_solutionAbove_20 rfl (lv_at hl 2 rfl) ?_
  refine lv_iload_n (pc := 21) hx hb dX6_solutionAbove_21 rfl (lv_at hl 3 rfl) ?_
  obtain ⟨r22, hc22, hf⟩ := hf_b hf
  refine cl_V (pc := 22) (As := [.int a1, .int a2, .int a3]) (rest := [.ref (A 19), .long r7.toInt64]) hx hb hml hown hts (kX4_unknownAt_1 l D A B _ S a1 a2 a3 r22 hc22) (cwV 3 hts gwRX6_186 rfl rfl rfl hdX4_unknownAt ⟨Nat.le_of_ble_eq_true rfl, Nat.le_of_ble_eq_true rfl⟩) hN hK hP hD hS hA (va_recv hK hP (ci := 4) (q0 := 1) rfl (eX_1 A B _)) rfl hl.1 rfl (Nat.le_of_ble_eq_true rfl) dX6_solutionAbove_22 (st1 := [.int r22, .ref (A 19), .long r7.toInt64]) rfl ⟨Nat.zero_le _, Nat.zero_le _⟩ (fun H locs hP hD hS => ?_)
  obtain ⟨r25, hc25, hf⟩ := hf_b hf
  refine cl_V (pc := 25) (As := [.int r22]) (rest := [.long r7.toInt64]) hx hb hml hown hts (kX1_solutionAbove_19 l D A B _ S r22 r25 hc25) (cwV 1 hts gwRX6_202 rfl rfl rfl hdX1_solutionAbove ⟨Nat.le_of_ble_eq_true rfl, Nat.le_of_ble_eq_true rfl⟩) hN hK hP hD hS hA (va_recv hK hP (ci := 1) (q0 := 19) rfl (eX_19 A B _)) rfl hl.1 rfl (Nat.le_of_ble_eq_true rfl) dX6_solutionAbove_25 (st1 := [.long r25, .long r7.toInt64]) rfl ⟨Nat.zero_le _, Nat.zero_le _⟩ (fun H locs hP hD hS => ?_)
  refine lv_lmul (pc := 28) hx hb dX6_solutionAbove_28 ?_
  obtain rfl := Option.some.inj hf
  exact hR H locs 29 ls hP hD hS dX6_solutionAbove_29
