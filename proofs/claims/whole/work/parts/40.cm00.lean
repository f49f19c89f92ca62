set_option maxHeartbeats 4000000 in
set_option maxRecDepth 100000 in
theorem kX7_in (l : Launch) (D : va_G) (A : Nat → Nat) (B : Nat → ClassId) (sz : Nat) (S : w_S) (a0 : Int64) (a2 : Int64) (a4 : Int64) (z : Int32) (hf : fX7_in a0 a2 a4 = some z) : MetW l yX7_in (wsO yX7_in cX7_in 6 (some .boolean)) rm_X7_in [.long a0, .long a2, .long a4] D (tyB B) (wM A B S) (wM A B S) sz (some (.int z)) := by
  refine MetW.mkZ (cc := cX7_in) (maxL := 6) (by decide) (Nat.le_of_ble_eq_true rfl) ?_
  intro p e s m args below meth c Ad Q hx hb hts hown hml hN hK hA hR H locs ls hP hD hS hl
  have hl : lv_has ls 6 [(0, .long a0), (2, .long a2), (4, .long a4)] := hl
  rw [fX7_in] at hf
  refine lv_lload_n (pc := 0) hx hb dX7_in_0 rfl (lv_at hl 0 rfl) ?_
  refine lv_lload_n (pc := 1) hx hb dX7_in_1 rfl (lv_at hl 1 rfl) ?_
  refine W.lcmp (pc := 2) hx hb dX7_in_2 ?_
  refine lv_if_lt (pc := 3) hx hb (tgt := 17) dX7_in_3 (by decide) (fun c_3 => ?_) (fun c_3 => ?_)
  · have c_3 := lg_lt0.mp c_3
    have hf := hf_t c_3 hf
    refine lv_iconst (pc := 17) hx hb (v := 0) dX7_in_17 (by decide) ?_
    obtain rfl := Option.some.inj hf
    exact hR H locs 18 ls hP hD hS (nz_of (.inl rfl)) dX7_in_18
  · have c_3 := fun h9 => c_3 (lg_lt0.mpr h9)
    have hf := hf_f c_3 hf
    refine lv_lload_n (pc := 6) hx hb dX7_in_6 rfl (lv_at hl 0 rfl) ?_
    refine lv_lload (pc := 7) hx hb dX7_in_7 (lv_at hl 2 rfl) ?_
    refine W.lcmp (pc := 9) hx hb dX7_in_9 ?_
    refine lv_if_gt (pc := 10) hx hb (tgt := 17) dX7_in_10 (by decide) (fun c_10 => ?_) (fun c_10 => ?_)
    · have c_10 := lg_gt0.mp c_10
      have hf := hf_t c_10 hf
      refine lv_iconst (pc := 17) hx hb (v := 0) dX7_in_17 (by decide) ?_
      obtain rfl := Option.some.inj hf
      exact hR H locs 18 ls hP hD hS (nz_of (.inl rfl)) dX7_in_18
    · have c_10 := fun h9 => c_10 (lg_gt0.mpr h9)
      have hf := hf_f c_10 hf
      refine lv_iconst (pc := 13) hx hb (v := 1) dX7_in_13 (by decide) ?_
      refine lv_goto (pc := 14) hx hb (tgt := 18) dX7_in_14 (by decide) ?_
      obtain rfl := Option.some.inj hf
      exact hR H locs 18 ls hP hD hS (nz_of (.inr rfl)) dX7_in_18
set_option maxHeartbeats 4000000 in
set_option maxRecDepth 100000 in
theorem kX7_size (l : Launch) (D : va_G) (A : Nat → Nat) (B : Nat → ClassId) (sz : Nat) (S : w_S) (a1 : Int32) (a2 : Int32) (z : Int32 × w_S) (hf : fX7_size S a1 a2 = some z) : MetW l yX7_size (wsO yX7_size cX7_size 5 (some .int)) rm_X7_size [.ref (A 0), .int a1, .int a2] D (tyB B) (wM A B S) (wM A B z.2) sz (some (.int z.1)) := by
  refine MetW.mkI (cc := cX7_size) (maxL := 5) (by decide) (Nat.le_of_ble_eq_true rfl) ?_
  intro p e s m args below meth c Ad Q hx hb hts hown hml hN hK hA hR H locs ls hP hD hS hl
  have hl : lv_has ls 5 [(0, .ref (A 0)), (1, .int a1), (2, .int a2)] := hl
  rw [fX7_size] at hf
  refine lv_iload_n (pc := 0) hx hb dX7_size_0 rfl (lv_at hl 1 rfl) ?_
  refine lv_i2l (pc := 1) hx hb (v := a1.toInt64) dX7_size_1 rfl ?_
  refine lv_lconst (pc := 2) hx hb (v := 1) dX7_size_2 (by decide) ?_
  refine lv_ldc2 (pc := 3) hx hb (v := 3) hown (hts (.constantLong RX7 118 (3)) mU_125) dX7_size_3 ?_
  obtain ⟨r6, hc6, hf⟩ := hf_b hf
  refine cl_S (pc := 6) (As := [.long a1.toInt64, .long 1, .long 3]) (rest := []) hx hb hml hown hts (kX7_in l D A B _ S a1.toInt64 1 3 r6 hc6) (va_cwS 3 hts gwRX7_99 rfl rfl rfl hdX7_in ⟨Nat.le_of_ble_eq_true rfl, Nat.le_of_ble_eq_true rfl⟩) hN hK hP hD hS hA rfl hl.1 rfl (Nat.le_of_ble_eq_true rfl) dX7_size_6 (st1 := [.int r6]) rfl ⟨Nat.zero_le _, Nat.zero_le _⟩ (fun H locs hP hD hS => ?_)
  refine lv_if_eq (pc := 9) hx hb (tgt := 24) dX7_size_9 (by decide) (fun c_9 => ?_) (fun c_9 => ?_)
  · have hf := hf_t c_9 hf
    refine lv_iconst (pc := 24) hx hb (v := (-1)) dX7_size_24 (by decide) ?_
    obtain rfl := Option.some.inj hf
    exact hR H locs 25 ls hP hD hS dX7_size_25
  · have hf := hf_f c_9 hf
    refine lv_iload_n (pc := 12) hx hb dX7_size_12 rfl (lv_at hl 2 rfl) ?_
    refine lv_i2l (pc := 13) hx hb (v := a2.toInt64) dX7_size_13 rfl ?_
    refine lv_lconst (pc := 14) hx hb (v := 1) dX7_size_14 (by decide) ?_
    refine lv_ldc2 (pc := 15) hx hb (v := 3) hown (hts (.constantLong RX7 118 (3)) mU_125) dX7_size_15 ?_
    obtain ⟨r18, hc18, hf⟩ := hf_b hf
    refine cl_S (pc := 18) (As := [.long a2.toInt64, .long 1, .long 3]) (rest := []) hx hb hml hown hts (kX7_in l D A B _ S a2.toInt64 1 3 r18 hc18) (va_cwS 3 hts gwRX7_99 rfl rfl rfl hdX7_in ⟨Nat.le_of_ble_eq_true rfl, Nat.le_of_ble_eq_true rfl⟩) hN hK hP hD hS hA rfl hl.1 rfl (Nat.le_of_ble_eq_true rfl) dX7_size_18 (st1 := [.int r18]) rfl ⟨Nat.zero_le _, Nat.zero_le _⟩ (fun H locs hP hD hS => ?_)
    refine lv_if_ne (pc := 21) hx hb (tgt := 26) dX7_size_21 (by decide) (fun c_21 => ?_) (fun c_21 => ?_)
    · have hf := hf_f c_21 hf
      refine lv_bipush (pc := 26) hx hb (v := 10) dX7_size_26 (by decide) ?_
      refine lv_aload_n (pc := 28) hx hb dX7_size_28 rfl (lv_at hl 0 rfl) ?_
      refine vMgRX7_19_0 (pc := 29) hx hb hts mU_84 inU7 hown hK hP (x := (gI S 0)) rfl dX7_size_29 ?_
      refine lv_imul (pc := 32) hx hb dX7_size_32 ?_
      refine lv_aload_n (pc := 33) hx hb dX7_size_33 rfl (lv_at hl 0 rfl) ?_
      refine vMgRX7_23_0 (pc := 34) hx hb hts mU_85 inU7 hown hK hP (x := (gI S 1)) rfl dX7_size_34 ?_
      refine lv_iadd (pc := 37) hx hb dX7_size_37 ?_
      refine lv_istore_n (pc := 38) hx hb (lv' := [(3, .int ((10 * (gI S 0)) + (gI S 1))), (0, .ref (A 0)), (1, .int a1), (2, .int a2)]) dX7_size_38 rfl hl (by decide) rfl (fun ls hl => ?_)
      refine lv_aload_n (pc := 39) hx hb dX7_size_39 rfl (lv_at hl 1 rfl) ?_
      refine lv_iload_n (pc := 40) hx hb dX7_size_40 rfl (lv_at hl 2 rfl) ?_
      refine vMpRX7_19_0 (pc := 41) hx hb hts mU_84 inU7 hown hK hP hD hS dX7_size_41 (fun H locs hP hD hS => ?_)
      refine lv_aload_n (pc := 44) hx hb dX7_size_44 rfl (lv_at hl 1 rfl) ?_
      refine lv_iload_n (pc := 45) hx hb dX7_size_45 rfl (lv_at hl 3 rfl) ?_
      refine vMpRX7_23_0 (pc := 46) hx hb hts mU_85 inU7 hown hK hP hD hS dX7_size_46 (fun H locs hP hD hS => ?_)
      refine lv_iconst (pc := 49) hx hb (v := 0) dX7_size_49 (by decide) ?_
      refine lv_istore (pc := 50) hx hb (lv' := [(4, .int 0), (3, .int ((10 * (gI S 0)) + (gI S 1))), (0, .ref (A 0)), (1, .int a1), (2, .int a2)]) dX7_size_50 hl (by decide) rfl (fun ls hl => ?_)
      obtain ⟨q52, hq52, hf⟩ := hf_b hf
      have hk52 : ∀ (H : Heap) (locs : List Loc) (ls : Array Slot), va_P D vwCl (wM A B q52) H → va_D Ad (wM A B q52) → va_S Ad s.heap H locs → lv_has ls 5 [(3, .int ((10 * (gI S 0)) + (gI S 1)))] → W p l e rm_X7_size s m args below meth c H locs 0 0 Q (F0 m 73 ls []) := by
        intro H locs ls hP hD hS hl
        refine lv_iload_n (pc := 73) hx hb dX7_size_73 rfl (lv_at hl 0 rfl) ?_
        obtain rfl := Option.some.inj hf
        exact hR H locs 74 ls hP hD hS dX7_size_74
      have lp52 : ∀ (n : Nat) (T52 : w_S) (u4_52 : Int32) (H : Heap) (locs : List Loc) (ls : Array Slot), fX7_size_L52 ((10 * (gI S 0)) + (gI S 1)) n T52 u4_52 = some q52 → va_P D vwCl (wM A B T52) H → va_D Ad (wM A B T52) → va_S Ad s.heap H locs → lv_has ls 5 [(0, .ref (A 0)), (3, .int ((10 * (gI S 0)) + (gI S 1))), (4, .int u4_52)] → W p l e rm_X7_size s m args below meth c H locs 0 0 Q (F0 m 52 ls []) := by
        intro n52
        induction n52 with
        | zero => intro T52 u4_52 H locs ls hq52; exact hf_0 hq52
        | succ n52 ih52 =>
          intro T52 u4_52 H locs ls hq52 hP hD hS hl
          rw [fX7_size_L52] at hq52
          refine lv_iload (pc := 52) hx hb dX7_size_52 (lv_at hl 2 rfl) ?_
          refine lv_bipush (pc := 54) hx hb (v := 27) dX7_size_54 (by decide) ?_
          refine lv_icmp_ge (pc := 56) hx hb (tgt := 73) dX7_size_56 (by decide) (fun c_56 => ?_) (fun c_56 => ?_)
          · have hq52 := hf_t c_56 hq52
            obtain rfl := Option.some.inj hq52
            exact hk52 H locs ls hP hD hS (lv_sub hl [1] rfl)
          · have hq52 := hf_f c_56 hq52
            refine lv_aload_n (pc := 59) hx hb dX7_size_59 rfl (lv_at hl 0 rfl) ?_
            refine vMgRX7_7_0 (pc := 60) hx hb hts mU_81 inU7 hown hK hP dX7_size_60 ?_
            refine lv_iload (pc := 63) hx hb dX7_size_63 (lv_at hl 2 rfl) ?_
            refine lv_iconst (pc := 65) hx hb (v := 0) dX7_size_65 (by decide) ?_
            obtain ⟨hg66, hq52⟩ := hf_g hq52
            refine vMwa_1 (pc := 66) hx hb hK hP hD hS (f := (gA T52 0)) rfl hg66 dX7_size_66 (fun H locs hP hD hS => ?_)
            refine lv_iinc (pc := 67) hx hb (v := u4_52 + 1) (lv' := [(4, .int (u4_52 + 1)), (0, .ref (A 0)), (3, .int ((10 * (gI S 0)) + (gI S 1)))]) dX7_size_67 hl (k := 2) rfl rfl (by decide) rfl (fun ls hl => ?_)
            refine lv_goto (pc := 70) hx hb (tgt := 52) dX7_size_70 (by decide) ?_
            exact ih52 (sA T52 0 (upd (gA T52 0) u4_52.toNatClampNeg 0)) (u4_52 + 1) H locs ls hq52 hP hD hS (lv_sub hl [1, 2, 0] rfl)
      exact lp52 256 (sI (sI S 0 a1) 1 a2) 0 H locs ls hq52 hP hD hS (lv_sub hl [2, 1, 0] rfl)
    · have hf := hf_t c_21 hf
      refine lv_iconst (pc := 24) hx hb (v := (-1)) dX7_size_24 (by decide) ?_
      obtain rfl := Option.some.inj hf
      exact hR H locs 25 ls hP hD hS dX7_size_25
set_option maxHeartbeats 4000000 in
set_option maxRecDepth 100000 in
theorem kX7_isEntry (l : Launch) (D : va_G) (A : Nat → Nat) (B : Nat → ClassId) (sz : Nat) (S : w_S) (a0 : Int32) (a1 : Int32) (z : Int32) (hf : fX7_isEntry a0 a1 = some z) : MetW l yX7_isEntry (wsO yX7_isEntry cX7_isEntry 2 (some .boolean)) rm_X7_isEntry [.int a0, .int a1] D (tyB B) (wM A B S) (wM A B S) sz (some (.int z)) := by
  refine MetW.mkZ (cc := cX7_isEntry) (maxL := 2) (by decide) (Nat.le_of_ble_eq_true rfl) ?_
  intro p e s m args below meth c Ad Q hx hb hts hown hml hN hK hA hR H locs ls hP hD hS hl
  have hl : lv_has ls 2 [(0, .int a0), (1, .int a1)] := hl
  rw [fX7_isEntry] at hf
  refine lv_iload_n (pc := 0) hx hb dX7_isEntry_0 rfl (lv_at hl 0 rfl) ?_
  refine lv_iconst (pc := 1) hx hb (v := 2) dX7_isEntry_1 (by decide) ?_
  refine lv_icmp_ne (pc := 2) hx hb (tgt := 19) dX7_isEntry_2 (by decide) (fun c_2 => ?_) (fun c_2 => ?_)
  · have hf := hf_f c_2 hf
    refine lv_iload_n (pc := 19) hx hb dX7_isEntry_19 rfl (lv_at hl 1 rfl) ?_
    refine lv_i2l (pc := 20) hx hb (v := a1.toInt64) dX7_isEntry_20 rfl ?_
    refine lv_ldc2 (pc := 21) hx hb (v := (-5)) hown (hts (.constantLong RX7 114 (-5)) mU_181) dX7_isEntry_21 ?_
    refine lv_ldc2 (pc := 24) hx hb (v := 5) hown (hts (.constantLong RX7 116 (5)) mU_182) dX7_isEntry_24 ?_
    obtain ⟨r27, hc27, hf⟩ := hf_b hf
    refine cl_S (pc := 27) (As := [.long a1.toInt64, .long (-5), .long 5]) (rest := []) hx hb hml hown hts (kX7_in l D A B _ S a1.toInt64 (-5) 5 r27 hc27) (va_cwS 3 hts gwRX7_99 rfl rfl rfl hdX7_in ⟨Nat.le_of_ble_eq_true rfl, Nat.le_of_ble_eq_true rfl⟩) hN hK hP hD hS hA rfl hl.1 rfl (Nat.le_of_ble_eq_true rfl) dX7_isEntry_27 (st1 := [.int r27]) rfl ⟨Nat.zero_le _, Nat.zero_le _⟩ (fun H locs hP hD hS => ?_)
    obtain ⟨hg30, hf⟩ := hf_g hf
    obtain rfl := Option.some.inj hf
    exact hR H locs 30 ls hP hD hS (nz_of hg30) dX7_isEntry_30
  · have hf := hf_t c_2 hf
    refine lv_iload_n (pc := 5) hx hb dX7_isEntry_5 rfl (lv_at hl 1 rfl) ?_
    refine lv_i2l (pc := 6) hx hb (v := a1.toInt64) dX7_isEntry_6 rfl ?_
    refine lv_ldc2 (pc := 7) hx hb (v := (-50)) hown (hts (.constantLong RX7 110 (-50)) mU_179) dX7_isEntry_7 ?_
    refine lv_ldc2 (pc := 10) hx hb (v := 50) hown (hts (.constantLong RX7 112 (50)) mU_180) dX7_isEntry_10 ?_
    obtain ⟨r13, hc13, hf⟩ := hf_b hf
    refine cl_S (pc := 13) (As := [.long a1.toInt64, .long (-50), .long 50]) (rest := []) hx hb hml hown hts (kX7_in l D A B _ S a1.toInt64 (-50) 50 r13 hc13) (va_cwS 3 hts gwRX7_99 rfl rfl rfl hdX7_in ⟨Nat.le_of_ble_eq_true rfl, Nat.le_of_ble_eq_true rfl⟩) hN hK hP hD hS hA rfl hl.1 rfl (Nat.le_of_ble_eq_true rfl) dX7_isEntry_13 (st1 := [.int r13]) rfl ⟨Nat.zero_le _, Nat.zero_le _⟩ (fun H locs hP hD hS => ?_)
    refine lv_goto (pc := 16) hx hb (tgt := 30) dX7_isEntry_16 (by decide) ?_
    obtain ⟨hg30, hf⟩ := hf_g hf
    obtain rfl := Option.some.inj hf
    exact hR H locs 30 ls hP hD hS (nz_of hg30) dX7_isEntry_30
set_option maxHeartbeats 4000000 in
set_option maxRecDepth 100000 in
theorem kX7_columnsOf (l : Launch) (D : va_G) (A : Nat → Nat) (B : Nat → ClassId) (sz : Nat) (S : w_S) (a1 : Int32) (z : Int32) (hf : fX7_columnsOf S a1 = some z) : MetW l yX7_columnsOf (wsO yX7_columnsOf cX7_columnsOf 2 (some .int)) rm_X7_columnsOf [.ref (A 0), .int a1] D (tyB B) (wM A B S) (wM A B S) sz (some (.int z)) := by
  refine MetW.mkI (cc := cX7_columnsOf) (maxL := 2) (by decide) (Nat.le_of_ble_eq_true rfl) ?_
  intro p e s m args below meth c Ad Q hx hb hts hown hml hN hK hA hR H locs ls hP hD hS hl
  have hl : lv_has ls 2 [(0, .ref (A 0)), (1, .int a1)] := hl
  rw [fX7_columnsOf] at hf
  refine lv_iload_n (pc := 0) hx hb dX7_columnsOf_0 rfl (lv_at hl 1 rfl) ?_
  refine lv_if_ne (pc := 1) hx hb (tgt := 11) dX7_columnsOf_1 (by decide) (fun c_1 => ?_) (fun c_1 => ?_)
  · have hf := hf_f c_1 hf
    refine lv_aload_n (pc := 11) hx hb dX7_columnsOf_11 rfl (lv_at hl 0 rfl) ?_
    refine vMgRX7_23_0 (pc := 12) hx hb hts mU_85 inU7 hown hK hP (x := (gI S 1)) rfl dX7_columnsOf_12 ?_
    obtain rfl := Option.some.inj hf
    exact hR H locs 15 ls hP hD hS dX7_columnsOf_15
  · have hf := hf_t c_1 hf
    refine lv_aload_n (pc := 4) hx hb dX7_columnsOf_4 rfl (lv_at hl 0 rfl) ?_
    refine vMgRX7_19_0 (pc := 5) hx hb hts mU_84 inU7 hown hK hP (x := (gI S 0)) rfl dX7_columnsOf_5 ?_
    refine lv_goto (pc := 8) hx hb (tgt := 15) dX7_columnsOf_8 (by decide) ?_
    obtain rfl := Option.some.inj hf
    exact hR H locs 15 ls hP hD hS dX7_columnsOf_15
set_option maxHeartbeats 4000000 in
set_option maxRecDepth 100000 in
theorem kX7_rowsOf (l : Launch) (D : va_G) (A : Nat → Nat) (B : Nat → ClassId) (sz : Nat) (S : w_S) (a1 : Int32) (z : Int32) (hf : fX7_rowsOf S a1 = some z) : MetW l yX7_rowsOf (wsO yX7_rowsOf cX7_rowsOf 2 (some .int)) rm_X7_rowsOf [.ref (A 0), .int a1] D (tyB B) (wM A B S) (wM A B S) sz (some (.int z)) := by
  refine MetW.mkI (cc := cX7_rowsOf) (maxL := 2) (by decide) (Nat.le_of_ble_eq_true rfl) ?_
  intro p e s m args below meth c Ad Q hx hb hts hown hml hN hK hA hR H locs ls hP hD hS hl
  have hl : lv_has ls 2 [(0, .ref (A 0)), (1, .int a1)] := hl
  rw [fX7_rowsOf] at hf
  refine lv_iload_n (pc := 0) hx hb dX7_rowsOf_0 rfl (lv_at hl 1 rfl) ?_
  refine lv_iconst (pc := 1) hx hb (v := 1) dX7_rowsOf_1 (by decide) ?_
  refine lv_icmp_ne (pc := 2) hx hb (tgt := 12) dX7_rowsOf_2 (by decide) (fun c_2 => ?_) (fun c_2 => ?_)
  · have hf := hf_f c_2 hf
    refine lv_aload_n (pc := 12) hx hb dX7_rowsOf_12 rfl (lv_at hl 0 rfl) ?_
    refine vMgRX7_19_0 (pc := 13) hx hb hts mU_84 inU7 hown hK hP (x := (gI S 0)) rfl dX7_rowsOf_13 ?_
    obtain rfl := Option.some.inj hf
    exact hR H locs 16 ls hP hD hS dX7_rowsOf_16
  · have hf := hf_t c_2 hf
    refine lv_aload_n (pc := 5) hx hb dX7_rowsOf_5 rfl (lv_at hl 0 rfl) ?_
    refine vMgRX7_23_0 (pc := 6) hx hb hts mU_85 inU7 hown hK hP (x := (gI S 1)) rfl dX7_rowsOf_6 ?_
    refine lv_goto (pc := 9) hx hb (tgt := 16) dX7_rowsOf_9 (by decide) ?_
    obtain rfl := Option.some.inj hf
    exact hR H locs 16 ls hP hD hS dX7_rowsOf_16
set_option maxHeartbeats 4000000 in
set_option maxRecDepth 100000 in
theorem kX7_isPlace (l : Launch) (D : va_G) (A : Nat → Nat) (B : Nat → ClassId) (sz : Nat) (S : w_S) (a1 : Int32) (a2 : Int32) (a3 : Int32) (z : Int32) (hf : fX7_isPlace S a1 a2 a3 = some z) : MetW l yX7_isPlace (wsO yX7_isPlace cX7_isPlace 4 (some .boolean)) rm_X7_isPlace [.ref (A 0), .int a1, .int a2, .int a3] D (tyB B) (wM A B S) (wM A B S) sz (some (.int z)) := by
  refine MetW.mkZ (cc := cX7_isPlace) (maxL := 4) (by decide) (Nat.le_of_ble_eq_true rfl) ?_
  intro p e s m args below meth c Ad Q hx hb hts hown hml hN hK hA hR H locs ls hP hD hS hl
  have hl : lv_has ls 4 [(0, .ref (A 0)), (1, .int a1), (2, .int a2), (3, .int a3)] := hl
  rw [fX7_isPlace] at hf
  refine lv_iload_n (pc := 0) hx hb dX7_isPlace_0 rfl (lv_at hl 1 rfl) ?_
  refine lv_i2l (pc := 1) hx hb (v := a1.toInt64) dX7_isPlace_1 rfl ?_
  refine lv_lconst (pc := 2) hx hb (v := 0) dX7_isPlace_2 (by decide) ?_
  refine lv_ldc2 (pc := 3) hx hb (v := 2) hown (hts (.constantLong RX7 97 (2)) mU_167) dX7_isPlace_3 ?_
  obtain ⟨r6, hc6, hf⟩ := hf_b hf
  refine cl_S (pc := 6) (As := [.long a1.toInt64, .long 0, .long 2]) (rest := []) hx hb hml hown hts (kX7_in l D A B _ S a1.toInt64 0 2 r6 hc6) (va_cwS 3 hts gwRX7_99 rfl rfl rfl hdX7_in ⟨Nat.le_of_ble_eq_true rfl, Nat.le_of_ble_eq_true rfl⟩) hN hK hP hD hS hA rfl hl.1 rfl (Nat.le_of_ble_eq_true rfl) dX7_isPlace_6 (st1 := [.int r6]) rfl ⟨Nat.zero_le _, Nat.zero_le _⟩ (fun H locs hP hD hS => ?_)
  refine lv_if_eq (pc := 9) hx hb (tgt := 50) dX7_isPlace_9 (by decide) (fun c_9 => ?_) (fun c_9 => ?_)
  · have hf := hf_t c_9 hf
    refine lv_iconst (pc := 50) hx hb (v := 0) dX7_isPlace_50 (by decide) ?_
    obtain rfl := Option.some.inj hf
    exact hR H locs 51 ls hP hD hS (nz_of (.inl rfl)) dX7_isPlace_51
  · have hf := hf_f c_9 hf
    refine lv_iload_n (pc := 12) hx hb dX7_isPlace_12 rfl (lv_at hl 2 rfl) ?_
    refine lv_i2l (pc := 13) hx hb (v := a2.toInt64) dX7_isPlace_13 rfl ?_
    refine lv_lconst (pc := 14) hx hb (v := 0) dX7_isPlace_14 (by decide) ?_
    refine lv_aload_n (pc := 15) hx hb dX7_isPlace_15 rfl (lv_at hl 0 rfl) ?_
    refine lv_iload_n (pc := 16) hx hb dX7_isPlace_16 rfl (lv_at hl 1 rfl) ?_
    obtain ⟨r17, hc17, hf⟩ := hf_b hf
    refine cl_V (pc := 17) (As := [.int a1]) (rest := [.long 0, .long a2.toInt64]) hx hb hml hown hts (kX7_rowsOf l D A B _ S a1 r17 hc17) (cwV 1 hts gwRX7_103 rfl rfl rfl hdX7_rowsOf ⟨Nat.le_of_ble_eq_true rfl, Nat.le_of_ble_eq_true rfl⟩) hN hK hP hD hS hA (va_recv hK hP (ci := 7) (q0 := 0) rfl (eM_0 A B _)) rfl hl.1 rfl (Nat.le_of_ble_eq_true rfl) dX7_isPlace_17 (st1 := [.int r17, .long 0, .long a2.toInt64]) rfl ⟨Nat.zero_le _, Nat.zero_le _⟩ (fun H locs hP hD hS => ?_)
    refine lv_iconst (pc := 20) hx hb (v := 1) dX7_isPlace_20 (by decide) ?_
    refine lv_isub (pc := 21) hx hb dX7_isPlace_21 ?_
    refine lv_i2l (pc := 22) hx hb (v := (r17 - 1).toInt64) dX7_isPlace_22 rfl ?_
    obtain ⟨r23, hc23, hf⟩ := hf_b hf
    refine cl_S (pc := 23) (As := [.long a2.toInt64, .long 0, .long ((r17 - 1).toInt64)]) (rest := []) hx hb hml hown hts (kX7_in l D A B _ S a2.toInt64 0 ((r17 - 1).toInt64) r23 hc23) (va_cwS 3 hts gwRX7_99 rfl rfl rfl hdX7_in ⟨Nat.le_of_ble_eq_true rfl, Nat.le_of_ble_eq_true rfl⟩) hN hK hP hD hS hA rfl hl.1 rfl (Nat.le_of_ble_eq_true rfl) dX7_isPlace_23 (st1 := [.int r23]) rfl ⟨Nat.zero_le _, Nat.zero_le _⟩ (fun H locs hP hD hS => ?_)
    refine lv_if_eq (pc := 26) hx hb (tgt := 50) dX7_isPlace_26 (by decide) (fun c_26 => ?_) (fun c_26 => ?_)
    · have hf := hf_t c_26 hf
      refine lv_iconst (pc := 50) hx hb (v := 0) dX7_isPlace_50 (by decide) ?_
      obtain rfl := Option.some.inj hf
      exact hR H locs 51 ls hP hD hS (nz_of (.inl rfl)) dX7_isPlace_51
    · have hf := hf_f c_26 hf
      refine lv_iload_n (pc := 29) hx hb dX7_isPlace_29 rfl (lv_at hl 3 rfl) ?_
      refine lv_i2l (pc := 30) hx hb (v := a3.toInt64) dX7_isPlace_30 rfl ?_
      refine lv_lconst (pc := 31) hx hb (v := 0) dX7_isPlace_31 (by decide) ?_
      refine lv_aload_n (pc := 32) hx hb dX7_isPlace_32 rfl (lv_at hl 0 rfl) ?_
      refine lv_iload_n (pc := 33) hx hb dX7_isPlace_33 rfl (lv_at hl 1 rfl) ?_
      obtain ⟨r34, hc34, hf⟩ := hf_b hf
      refine cl_V (pc := 34) (As := [.int a1]) (rest := [.long 0, .long a3.toInt64]) hx hb hml hown hts (kX7_columnsOf l D A B _ S a1 r34 hc34) (cwV 1 hts gwRX7_107 rfl rfl rfl hdX7_columnsOf ⟨Nat.le_of_ble_eq_true rfl, Nat.le_of_ble_eq_true rfl⟩) hN hK hP hD hS hA (va_recv hK hP (ci := 7) (q0 := 0) rfl (eM_0 A B _)) rfl hl.1 rfl (Nat.le_of_ble_eq_true rfl) dX7_isPlace_34 (st1 := [.int r34, .long 0, .long a3.toInt64]) rfl ⟨Nat.zero_le _, Nat.zero_le _⟩ (fun H locs hP hD hS => ?_)
      refine lv_iconst (pc := 37) hx hb (v := 1) dX7_isPlace_37 (by decide) ?_
      refine lv_isub (pc := 38) hx hb dX7_isPlace_38 ?_
      refine lv_i2l (pc := 39) hx hb (v := (r34 - 1).toInt64) dX7_isPlace_39 rfl ?_
      obtain ⟨r40, hc40, hf⟩ := hf_b hf
      refine cl_S (pc := 40) (As := [.long a3.toInt64, .long 0, .long ((r34 - 1).toInt64)]) (rest := []) hx hb hml hown hts (kX7_in l D A B _ S a3.toInt64 0 ((r34 - 1).toInt64) r40 hc40) (va_cwS 3 hts gwRX7_99 rfl rfl rfl hdX7_in ⟨Nat.le_of_ble_eq_true rfl, Nat.le_of_ble_eq_true rfl⟩) hN hK hP hD hS hA rfl hl.1 rfl (Nat.le_of_ble_eq_true rfl) dX7_isPlace_40 (st1 := [.int r40]) rfl ⟨Nat.zero_le _, Nat.zero_le _⟩ (fun H locs hP hD hS => ?_)
      refine lv_if_eq (pc := 43) hx hb (tgt := 50) dX7_isPlace_43 (by decide) (fun c_43 => ?_) (fun c_43 => ?_)
      · have hf := hf_t c_43 hf
        refine lv_iconst (pc := 50) hx hb (v := 0) dX7_isPlace_50 (by decide) ?_
        obtain rfl := Option.some.inj hf
        exact hR H locs 51 ls hP hD hS (nz_of (.inl rfl)) dX7_isPlace_51
      · have hf := hf_f c_43 hf
        refine lv_iconst (pc := 46) hx hb (v := 1) dX7_isPlace_46 (by decide) ?_
        refine lv_goto (pc := 47) hx hb (tgt := 51) dX7_isPlace_47 (by decide) ?_
        obtain rfl := Option.some.inj hf
        exact hR H locs 51 ls hP hD hS (nz_of (.inr rfl)) dX7_isPlace_51
set_option maxHeartbeats 4000000 in
set_option maxRecDepth 100000 in
theorem kX7_its (l : Launch) (D : va_G) (A : Nat → Nat) (B : Nat → ClassId) (sz : Nat) (S : w_S) (a1 : Int32) (a2 : Int32) (a3 : Int32) (z : Int32) (hf : fX7_its S a1 a2 a3 = some z) : MetW l yX7_its (wsO yX7_its cX7_its 4 (some .int)) rm_X7_its [.ref (A 0), .int a1, .int a2, .int a3] D (tyB B) (wM A B S) (wM A B S) sz (some (.int z)) := by
  refine MetW.mkI (cc := cX7_its) (maxL := 4) (by decide) (Nat.le_of_ble_eq_true rfl) ?_
  intro p e s m args below meth c Ad Q hx hb hts hown hml hN hK hA hR H locs ls hP hD hS hl
  have hl : lv_has ls 4 [(0, .ref (A 0)), (1, .int a1), (2, .int a2), (3, .int a3)] := hl
  rw [fX7_its] at hf
  refine lv_aload_n (pc := 0) hx hb dX7_its_0 rfl (lv_at hl 0 rfl) ?_
  refine vMgRX7_7_0 (pc := 1) hx hb hts mU_81 inU7 hown hK hP dX7_its_1 ?_
  refine lv_bipush (pc := 4) hx hb (v := 9) dX7_its_4 (by decide) ?_
  refine lv_iload_n (pc := 6) hx hb dX7_its_6 rfl (lv_at hl 1 rfl) ?_
  refine lv_imul (pc := 7) hx hb dX7_its_7 ?_
  refine lv_iconst (pc := 8) hx hb (v := 3) dX7_its_8 (by decide) ?_
  refine lv_iload_n (pc := 9) hx hb dX7_its_9 rfl (lv_at hl 2 rfl) ?_
  refine lv_imul (pc := 10) hx hb dX7_its_10 ?_
  refine lv_iadd (pc := 11) hx hb dX7_its_11 ?_
  refine lv_iload_n (pc := 12) hx hb dX7_its_12 rfl (lv_at hl 3 rfl) ?_
  refine lv_iadd (pc := 13) hx hb dX7_its_13 ?_
  obtain ⟨hg14, hf⟩ := hf_g hf
  refine vMra_1 (pc := 14) hx hb hK hP (f := (gA S 0)) rfl hg14 dX7_its_14 ?_
  obtain rfl := Option.some.inj hf
  exact hR H locs 15 ls hP hD hS dX7_its_15
set_option maxHeartbeats 4000000 in
set_option maxRecDepth 100000 in
theorem kX7_set (l : Launch) (D : va_G) (A : Nat → Nat) (B : Nat → ClassId) (sz : Nat) (S : w_S) (a1 : Int32) (a2 : Int32) (a3 : Int32) (a4 : Int32) (z : Int32 × w_S) (hf : fX7_set S a1 a2 a3 a4 = some z) : MetW l yX7_set (wsO yX7_set cX7_set 6 (some .int)) rm_X7_set [.ref (A 0), .int a1, .int a2, .int a3, .int a4] D (tyB B) (wM A B S) (wM A B z.2) sz (some (.int z.1)) := by
  refine MetW.mkI (cc := cX7_set) (maxL := 6) (by decide) (Nat.le_of_ble_eq_true rfl) ?_
  intro p e s m args below meth c Ad Q hx hb hts hown hml hN hK hA hR H locs ls hP hD hS hl
  have hl : lv_has ls 6 [(0, .ref (A 0)), (1, .int a1), (2, .int a2), (3, .int a3), (4, .int a4)] := hl
  rw [fX7_set] at hf
  refine lv_aload_n (pc := 0) hx hb dX7_set_0 rfl (lv_at hl 0 rfl) ?_
  refine lv_iload_n (pc := 1) hx hb dX7_set_1 rfl (lv_at hl 1 rfl) ?_
  refine lv_iload_n (pc := 2) hx hb dX7_set_2 rfl (lv_at hl 2 rfl) ?_
  refine lv_iload_n (pc := 3) hx hb dX7_set_3 rfl (lv_at hl 3 rfl) ?_
  obtain ⟨r4, hc4, hf⟩ := hf_b hf
  refine cl_V (pc := 4) (As := [.int a1, .int a2, .int a3]) (rest := []) hx hb hml hown hts (kX7_isPlace l D A B _ S a1 a2 a3 r4 hc4) (cwV 3 hts gwRX7_120 rfl rfl rfl hdX7_isPlace ⟨Nat.le_of_ble_eq_true rfl, Nat.le_of_ble_eq_true rfl⟩) hN hK hP hD hS hA (va_recv hK hP (ci := 7) (q0 := 0) rfl (eM_0 A B _)) rfl hl.1 rfl (Nat.le_of_ble_eq_true rfl) dX7_set_4 (st1 := [.int r4]) rfl ⟨Nat.zero_le _, Nat.zero_le _⟩ (fun H locs hP hD hS => ?_)
  refine lv_if_eq (pc := 7) hx hb (tgt := 19) dX7_set_7 (by decide) (fun c_7 => ?_) (fun c_7 => ?_)
  · have hf := hf_t c_7 hf
    refine lv_iconst (pc := 19) hx hb (v := (-1)) dX7_set_19 (by decide) ?_
    obtain rfl := Option.some.inj hf
    exact hR H locs 20 ls hP hD hS dX7_set_20
  · have hf := hf_f c_7 hf
    refine lv_iload_n (pc := 10) hx hb dX7_set_10 rfl (lv_at hl 1 rfl) ?_
    refine lv_iload (pc := 11) hx hb dX7_set_11 (lv_at hl 4 rfl) ?_
    obtain ⟨r13, hc13, hf⟩ := hf_b hf
    refine cl_S (pc := 13) (As := [.int a1, .int a4]) (rest := []) hx hb hml hown hts (kX7_isEntry l D A B _ S a1 a4 r13 hc13) (va_cwS 2 hts gwRX7_124 rfl rfl rfl hdX7_isEntry ⟨Nat.le_of_ble_eq_true rfl, Nat.le_of_ble_eq_true rfl⟩) hN hK hP hD hS hA rfl hl.1 rfl (Nat.le_of_ble_eq_true rfl) dX7_set_13 (st1 := [.int r13]) rfl ⟨Nat.zero_le _, Nat.zero_le _⟩ (fun H locs hP hD hS => ?_)
    refine lv_if_ne (pc := 16) hx hb (tgt := 21) dX7_set_16 (by decide) (fun c_16 => ?_) (fun c_16 => ?_)
    · have hf := hf_f c_16 hf
      refine lv_aload_n (pc := 21) hx hb dX7_set_21 rfl (lv_at hl 0 rfl) ?_
      refine lv_iload_n (pc := 22) hx hb dX7_set_22 rfl (lv_at hl 1 rfl) ?_
      refine lv_iload_n (pc := 23) hx hb dX7_set_23 rfl (lv_at hl 2 rfl) ?_
      refine lv_iload_n (pc := 24) hx hb dX7_set_24 rfl (lv_at hl 3 rfl) ?_
      obtain ⟨r25, hc25, hf⟩ := hf_b hf
      refine cl_V (pc := 25) (As := [.int a1, .int a2, .int a3]) (rest := []) hx hb hml hown hts (kX7_its l D A B _ S a1 a2 a3 r25 hc25) (cwV 3 hts gwRX7_128 rfl rfl rfl hdX7_its ⟨Nat.le_of_ble_eq_true rfl, Nat.le_of_ble_eq_true rfl⟩) hN hK hP hD hS hA (va_recv hK hP (ci := 7) (q0 := 0) rfl (eM_0 A B _)) rfl hl.1 rfl (Nat.le_of_ble_eq_true rfl) dX7_set_25 (st1 := [.int r25]) rfl ⟨Nat.zero_le _, Nat.zero_le _⟩ (fun H locs hP hD hS => ?_)
      refine lv_istore (pc := 28) hx hb (lv' := [(5, .int r25), (0, .ref (A 0)), (1, .int a1), (2, .int a2), (3, .int a3), (4, .int a4)]) dX7_set_28 hl (by decide) rfl (fun ls hl => ?_)
      refine lv_aload_n (pc := 30) hx hb dX7_set_30 rfl (lv_at hl 1 rfl) ?_
      refine vMgRX7_7_0 (pc := 31) hx hb hts mU_81 inU7 hown hK hP dX7_set_31 ?_
      refine lv_bipush (pc := 34) hx hb (v := 9) dX7_set_34 (by decide) ?_
      refine lv_iload_n (pc := 36) hx hb dX7_set_36 rfl (lv_at hl 2 rfl) ?_
      refine lv_imul (pc := 37) hx hb dX7_set_37 ?_
      refine lv_iconst (pc := 38) hx hb (v := 3) dX7_set_38 (by decide) ?_
      refine lv_iload_n (pc := 39) hx hb dX7_set_39 rfl (lv_at hl 3 rfl) ?_
      refine lv_imul (pc := 40) hx hb dX7_set_40 ?_
      refine lv_iadd (pc := 41) hx hb dX7_set_41 ?_
      refine lv_iload_n (pc := 42) hx hb dX7_set_42 rfl (lv_at hl 4 rfl) ?_
      refine lv_iadd (pc := 43) hx hb dX7_set_43 ?_
      refine lv_iload (pc := 44) hx hb dX7_set_44 (lv_at hl 5 rfl) ?_
      obtain ⟨hg46, hf⟩ := hf_g hf
      refine vMwa_1 (pc := 46) hx hb hK hP hD hS (f := (gA S 0)) rfl hg46 dX7_set_46 (fun H locs hP hD hS => ?_)
      refine lv_bipush (pc := 47) hx hb (v := 100) dX7_set_47 (by decide) ?_
      refine lv_iload (pc := 49) hx hb dX7_set_49 (lv_at hl 0 rfl) ?_
      refine lv_iadd (pc := 51) hx hb dX7_set_51 ?_
      obtain rfl := Option.some.inj hf
      exact hR H locs 52 ls hP hD hS dX7_set_52
    · have hf := hf_t c_16 hf
      refine lv_iconst (pc := 19) hx hb (v := (-1)) dX7_set_19 (by decide) ?_
      obtain rfl := Option.some.inj hf
      exact hR H locs 20 ls hP hD hS dX7_set_20
set_option maxHeartbeats 4000000 in
set_option maxRecDepth 100000 in
theorem kX7_at (l : Launch) (D : va_G) (A : Nat → Nat) (B : Nat → ClassId) (sz : Nat) (S : w_S) (a1 : Int32) (a2 : Int32) (a3 : Int32) (z : Int32) (hf : fX7_at S a1 a2 a3 = some z) : MetW l yX7_at (wsO yX7_at cX7_at 4 (some .int)) rm_X7_at [.ref (A 0), .int a1, .int a2, .int a3] D (tyB B) (wM A B S) (wM A B S) sz (some (.int z)) := by
  refine MetW.mkI (cc := cX7_at) (maxL := 4) (by decide) (Nat.le_of_ble_eq_true rfl) ?_
  intro p e s m args below meth c Ad Q hx hb hts hown hml hN hK hA hR H locs ls hP hD hS hl
  have hl : lv_has ls 4 [(0, .ref (A 0)), (1, .int a1), (2, .int a2), (3, .int a3)] := hl
  rw [fX7_at] at hf
  refine lv_aload_n (pc := 0) hx hb dX7_at_0 rfl (lv_at hl 0 rfl) ?_
  refine lv_iload_n (pc := 1) hx hb dX7_at_1 rfl (lv_at hl 1 rfl) ?_
  refine lv_iload_n (pc := 2) hx hb dX7_at_2 rfl (lv_at hl 2 rfl) ?_
  refine lv_iload_n (pc := 3) hx hb dX7_at_3 rfl (lv_at hl 3 rfl) ?_
  obtain ⟨r4, hc4, hf⟩ := hf_b hf
  refine cl_V (pc := 4) (As := [.int a1, .int a2, .int a3]) (rest := []) hx hb hml hown hts (kX7_isPlace l D A B _ S a1 a2 a3 r4 hc4) (cwV 3 hts gwRX7_120 rfl rfl rfl hdX7_isPlace ⟨Nat.le_of_ble_eq_true rfl, Nat.le_of_ble_eq_true rfl⟩) hN hK hP hD hS hA (va_recv hK hP (ci := 7) (q0 := 0) rfl (eM_0 A B _)) rfl hl.1 rfl (Nat.le_of_ble_eq_true rfl) dX7_at_4 (st1 := [.int r4]) rfl ⟨Nat.zero_le _, Nat.zero_le _⟩ (fun H locs hP hD hS => ?_)
  refine lv_if_eq (pc := 7) hx hb (tgt := 23) dX7_at_7 (by decide) (fun c_7 => ?_) (fun c_7 => ?_)
  · have hf := hf_t c_7 hf
    refine lv_iconst (pc := 23) hx hb (v := (-1)) dX7_at_23 (by decide) ?_
    obtain rfl := Option.some.inj hf
    exact hR H locs 24 ls hP hD hS dX7_at_24
  · have hf := hf_f c_7 hf
    refine lv_bipush (pc := 10) hx hb (v := 100) dX7_at_10 (by decide) ?_
    refine lv_aload_n (pc := 12) hx hb dX7_at_12 rfl (lv_at hl 0 rfl) ?_
    refine lv_iload_n (pc := 13) hx hb dX7_at_13 rfl (lv_at hl 1 rfl) ?_
    refine lv_iload_n (pc := 14) hx hb dX7_at_14 rfl (lv_at hl 2 rfl) ?_
    refine lv_iload_n (pc := 15) hx hb dX7_at_15 rfl (lv_at hl 3 rfl) ?_
    obtain ⟨r16, hc16, hf⟩ := hf_b hf
    refine cl_V (pc := 16) (As := [.int a1, .int a2, .int a3]) (rest := [.int 100]) hx hb hml hown hts (kX7_its l D A B _ S a1 a2 a3 r16 hc16) (cwV 3 hts gwRX7_128 rfl rfl rfl hdX7_its ⟨Nat.le_of_ble_eq_true rfl, Nat.le_of_ble_eq_true rfl⟩) hN hK hP hD hS hA (va_recv hK hP (ci := 7) (q0 := 0) rfl (eM_0 A B _)) rfl hl.1 rfl (Nat.le_of_ble_eq_true rfl) dX7_at_16 (st1 := [.int r16, .int 100]) rfl ⟨Nat.zero_le _, Nat.zero_le _⟩ (fun H locs hP hD hS => ?_)
    refine lv_iadd (pc := 19) hx hb dX7_at_19 ?_
    refine lv_goto (pc := 20) hx hb (tgt := 24) dX7_at_20 (by decide) ?_
    obtain rfl := Option.some.inj hf
    exact hR H locs 24 ls hP hD hS dX7_at_24
set_option maxHeartbeats 4000000 in
set_option maxRecDepth 100000 in
theorem kX7_cross (l : Launch) (D : va_G) (A : Nat → Nat) (B : Nat → ClassId) (sz : Nat) (S : w_S) (a1 : Int32) (a2 : Int32) (a3 : Int32) (a4 : Int32) (a5 : Int32) (z : Int64) (hf : fX7_cross S a1 a2 a3 a4 a5 = some z) : MetW l yX7_cross (wsO yX7_cross cX7_cross 6 (some .long)) rm_X7_cross [.ref (A 0), .int a1, .int a2, .int a3, .int a4, .int a5] D (tyB B) (wM A B S) (wM A B S) sz (some (.long z)) := by
  refine MetW.mkL (cc := cX7_cross) (maxL := 6) (by decide) (Nat.le_of_ble_eq_true rfl) ?_
  intro p e s m args below meth c Ad Q hx hb hts hown hml hN hK hA hR H locs ls hP hD hS hl
  have hl : lv_has ls 6 [(0, .ref (A 0)), (1, .int a1), (2, .int a2), (3, .int a3), (4, .int a4), (5, .int a5)] := hl
  rw [fX7_cross] at hf
  refine lv_aload_n (pc := 0) hx hb dX7_cross_0 rfl (lv_at hl 0 rfl) ?_
  refine lv_iload_n (pc := 1) hx hb dX7_cross_1 rfl (lv_at hl 1 rfl) ?_
  refine lv_iload_n (pc := 2) hx hb dX7_cross_2 rfl (lv_at hl 2 rfl) ?_
  refine lv_iload (pc := 3) hx hb dX7_cross_3 (lv_at hl 4 rfl) ?_
  obtain ⟨r5, hc5, hf⟩ := hf_b hf
  refine cl_V (pc := 5) (As := [.int a1, .int a2, .int a4]) (rest := []) hx hb hml hown hts (kX7_its l D A B _ S a1 a2 a4 r5 hc5) (cwV 3 hts gwRX7_128 rfl rfl rfl hdX7_its ⟨Nat.le_of_ble_eq_true rfl, Nat.le_of_ble_eq_true rfl⟩) hN hK hP hD hS hA (va_recv hK hP (ci := 7) (q0 := 0) rfl (eM_0 A B _)) rfl hl.1 rfl (Nat.le_of_ble_eq_true rfl) dX7_cross_5 (st1 := [.int r5]) rfl ⟨Nat.zero_le _, Nat.zero_le _⟩ (fun H locs hP hD hS => ?_)
  refine lv_i2l (pc := 8) hx hb (v := r5.toInt64) dX7_cross_8 rfl ?_
  refine lv_aload_n (pc := 9) hx hb dX7_cross_9 rfl (lv_at hl 0 rfl) ?_
  refine lv_iload_n (pc := 10) hx hb dX7_cross_10 rfl (lv_at hl 1 rfl) ?_
  refine lv_iload_n (pc := 11) hx hb dX7_cross_11 rfl (lv_at hl 3 rfl) ?_
  refine lv_iload (pc := 12) hx hb dX7_cross_12 (lv_at hl 5 rfl) ?_
  obtain ⟨r14, hc14, hf⟩ := hf_b hf
  refine cl_V (pc := 14) (As := [.int a1, .int a3, .int a5]) (rest := [.long r5.toInt64]) hx hb hml hown hts (kX7_its l D A B _ S a1 a3 a5 r14 hc14) (cwV 3 hts gwRX7_128 rfl rfl rfl hdX7_its ⟨Nat.le_of_ble_eq_true rfl, Nat.le_of_ble_eq_true rfl⟩) hN hK hP hD hS hA (va_recv hK hP (ci := 7) (q0 := 0) rfl (eM_0 A B _)) rfl hl.1 rfl (Nat.le_of_ble_eq_true rfl) dX7_cross_14 (st1 := [.int r14, .long r5.toInt64]) rfl ⟨Nat.zero_le _, Nat.zero_le _⟩ (fun H locs hP hD hS => ?_)
  refine lv_i2l (pc := 17) hx hb (v := r14.toInt64) dX7_cross_17 rfl ?_
  refine lv_lmul (pc := 18) hx hb dX7_cross_18 ?_
  refine lv_aload_n (pc := 19) hx hb dX7_cross_19 rfl (lv_at hl 0 rfl) ?_
  refine lv_iload_n (pc := 20) hx hb dX7_cross_20 rfl (lv_at hl 1 rfl) ?_
  refine lv_iload_n (pc := 21) hx hb dX7_cross_21 rfl (lv_at hl 2 rfl) ?_
  refine lv_iload (pc := 22) hx hb dX7_cross_22 (lv_at hl 5 rfl) ?_
  obtain ⟨r24, hc24, hf⟩ := hf_b hf
  refine cl_V (pc := 24) (As := [.int a1, .int a2, .int a5]) (rest := [.long (r5.toInt64 * r14.toInt64)]) hx hb hml hown hts (kX7_its l D A B _ S a1 a2 a5 r24 hc24) (cwV 3 hts gwRX7_128 rfl rfl rfl hdX7_its ⟨Nat.le_of_ble_eq_true rfl, Nat.le_of_ble_eq_true rfl⟩) hN hK hP hD hS hA (va_recv hK hP (ci := 7) (q0 := 0) rfl (eM_0 A B _)) rfl hl.1 rfl (Nat.le_of_ble_eq_true rfl) dX7_cross_24 (st1 := [.int r24, .long (r5.toInt64 * r14.toInt64)]) rfl ⟨Nat.zero_le _, Nat.zero_le _⟩ (fun H locs hP hD hS => ?_)
  refine lv_i2l (pc := 27) hx hb (v := r24.toInt64) dX7_cross_27 rfl ?_
  refine lv_aload_n (pc := 28) hx hb dX7_cross_28 rfl (lv_at hl 0 rfl) ?_
  refine lv_iload_n (pc := 29) hx hb dX7_cross_29 rfl (lv_at hl 1 rfl) ?_
  refine lv_iload_n (pc := 30) hx hb dX7_cross_30 rfl (lv_at hl 3 rfl) ?_
  refine lv_iload (pc := 31) hx hb dX7_cross_31 (lv_at hl 4 rfl) ?_
  obtain ⟨r33, hc33, hf⟩ := hf_b hf
  refine cl_V (pc := 33) (As := [.int a1, .int a3, .int a4]) (rest := [.long r24.toInt64, .long (r5.toInt64 * r14.toInt64)]) hx hb hml hown hts (kX7_its l D A B _ S a1 a3 a4 r33 hc33) (cwV 3 hts gwRX7_128 rfl rfl rfl hdX7_its ⟨Nat.le_of_ble_eq_true rfl, Nat.le_of_ble_eq_true rfl⟩) hN hK hP hD hS hA (va_recv hK hP (ci := 7) (q0 := 0) rfl (eM_0 A B _)) rfl hl.1 rfl (Nat.le_of_ble_eq_true rfl) dX7_cross_33 (st1 := [.int r33, .long r24.toInt64, .long (r5.toInt64 * r14.toInt64)]) rfl ⟨Nat.zero_le _, Nat.zero_le _⟩ (fun H locs hP hD hS => ?_)
  refine lv_i2l (pc := 36) hx hb (v := r33.toInt64) dX7_cross_36 rfl ?_
  refine lv_lmul (pc := 37) hx hb dX7_cross_37 ?_
  refine lv_lsub (pc := 38) hx hb dX7_cross_38 ?_
  obtain rfl := Option.some.inj hf
  exact hR H locs 39 ls hP hD hS dX7_cross_39
set_option maxHeartbeats 4000000 in
set_option maxRecDepth 100000 in
theorem kX7_detOf (l : Launch) (D : va_G) (A : Nat → Nat) (B : Nat → ClassId) (sz : Nat) (S : w_S) (a1 : Int32) (z : Int64) (hf : fX7_detOf S a1 = some z) : MetW l yX7_detOf (wsO yX7_detOf cX7_detOf 3 (some .long)) rm_X7_detOf [.ref (A 0), .int a1] D (tyB B) (wM A B S) (wM A B S) sz (some (.long z)) := by
  refine MetW.mkL (cc := cX7_detOf) (maxL := 3) (by decide) (Nat.le_of_ble_eq_true rfl) ?_
  intro p e s m args below meth c Ad Q hx hb hts hown hml hN hK hA hR H locs ls hP hD hS hl
  have hl : lv_has ls 3 [(0, .ref (A 0)), (1, .int a1)] := hl
  rw [fX7_detOf] at hf
  refine lv_aload_n (pc := 0) hx hb dX7_detOf_0 rfl (lv_at hl 0 rfl) ?_
  refine lv_iload_n (pc := 1) hx hb dX7_detOf_1 rfl (lv_at hl 1 rfl) ?_
  obtain ⟨r2, hc2, hf⟩ := hf_b hf
  refine cl_V (pc := 2) (As := [.int a1]) (rest := []) hx hb hml hown hts (kX7_rowsOf l D A B _ S a1 r2 hc2) (cwV 1 hts gwRX7_103 rfl rfl rfl hdX7_rowsOf ⟨Nat.le_of_ble_eq_true rfl, Nat.le_of_ble_eq_true rfl⟩) hN hK hP hD hS hA (va_recv hK hP (ci := 7) (q0 := 0) rfl (eM_0 A B _)) rfl hl.1 rfl (Nat.le_of_ble_eq_true rfl) dX7_detOf_2 (st1 := [.int r2]) rfl ⟨Nat.zero_le _, Nat.zero_le _⟩ (fun H locs hP hD hS => ?_)
  refine lv_istore_n (pc := 5) hx hb (lv' := [(2, .int r2), (0, .ref (A 0)), (1, .int a1)]) dX7_detOf_5 rfl hl (by decide) rfl (fun ls hl => ?_)
  refine lv_iload_n (pc := 6) hx hb dX7_detOf_6 rfl (lv_at hl 0 rfl) ?_
  refine lv_iconst (pc := 7) hx hb (v := 1) dX7_detOf_7 (by decide) ?_
  refine lv_icmp_ne (pc := 8) hx hb (tgt := 20) dX7_detOf_8 (by decide) (fun c_8 => ?_) (fun c_8 => ?_)
  · have hf := hf_f c_8 hf
    refine lv_iload_n (pc := 20) hx hb dX7_detOf_20 rfl (lv_at hl 0 rfl) ?_
    refine lv_iconst (pc := 21) hx hb (v := 2) dX7_detOf_21 (by decide) ?_
    refine lv_icmp_ne (pc := 22) hx hb (tgt := 35) dX7_detOf_22 (by decide) (fun c_22 => ?_) (fun c_22 => ?_)
    · have hf := hf_f c_22 hf
      refine lv_aload_n (pc := 35) hx hb dX7_detOf_35 rfl (lv_at hl 1 rfl) ?_
      refine lv_iload_n (pc := 36) hx hb dX7_detOf_36 rfl (lv_at hl 2 rfl) ?_
      refine lv_iconst (pc := 37) hx hb (v := 0) dX7_detOf_37 (by decide) ?_
      refine lv_iconst (pc := 38) hx hb (v := 0) dX7_detOf_38 (by decide) ?_
      obtain ⟨r39, hc39, hf⟩ := hf_b hf
      refine cl_V (pc := 39) (As := [.int a1, .int 0, .int 0]) (rest := []) hx hb hml hown hts (kX7_its l D A B _ S a1 0 0 r39 hc39) (cwV 3 hts gwRX7_128 rfl rfl rfl hdX7_its ⟨Nat.le_of_ble_eq_true rfl, Nat.le_of_ble_eq_true rfl⟩) hN hK hP hD hS hA (va_recv hK hP (ci := 7) (q0 := 0) rfl (eM_0 A B _)) rfl hl.1 rfl (Nat.le_of_ble_eq_true rfl) dX7_detOf_39 (st1 := [.int r39]) rfl ⟨Nat.zero_le _, Nat.zero_le _⟩ (fun H locs hP hD hS => ?_)
      refine lv_i2l (pc := 42) hx hb (v := r39.toInt64) dX7_detOf_42 rfl ?_
      refine lv_aload_n (pc := 43) hx hb dX7_detOf_43 rfl (lv_at hl 1 rfl) ?_
      refine lv_iload_n (pc := 44) hx hb dX7_detOf_44 rfl (lv_at hl 2 rfl) ?_
      refine lv_iconst (pc := 45) hx hb (v := 1) dX7_detOf_45 (by decide) ?_
      refine lv_iconst (pc := 46) hx hb (v := 2) dX7_detOf_46 (by decide) ?_
      refine lv_iconst (pc := 47) hx hb (v := 1) dX7_detOf_47 (by decide) ?_
      refine lv_iconst (pc := 48) hx hb (v := 2) dX7_detOf_48 (by decide) ?_
      obtain ⟨r49, hc49, hf⟩ := hf_b hf
      refine cl_V (pc := 49) (As := [.int a1, .int 1, .int 2, .int 1, .int 2]) (rest := [.long r39.toInt64]) hx hb hml hown hts (kX7_cross l D A B _ S a1 1 2 1 2 r49 hc49) (cwV 5 hts gwRX7_132 rfl rfl rfl hdX7_cross ⟨Nat.le_of_ble_eq_true rfl, Nat.le_of_ble_eq_true rfl⟩) hN hK hP hD hS hA (va_recv hK hP (ci := 7) (q0 := 0) rfl (eM_0 A B _)) rfl hl.1 rfl (Nat.le_of_ble_eq_true rfl) dX7_detOf_49 (st1 := [.long r49, .long r39.toInt64]) rfl ⟨Nat.zero_le _, Nat.zero_le _⟩ (fun H locs hP hD hS => ?_)
      refine lv_lmul (pc := 52) hx hb dX7_detOf_52 ?_
      refine lv_aload_n (pc := 53) hx hb dX7_detOf_53 rfl (lv_at hl 1 rfl) ?_
      refine lv_iload_n (pc := 54) hx hb dX7_detOf_54 rfl (lv_at hl 2 rfl) ?_
      refine lv_iconst (pc := 55) hx hb (v := 0) dX7_detOf_55 (by decide) ?_
      refine lv_iconst (pc := 56) hx hb (v := 1) dX7_detOf_56 (by decide) ?_
      obtain ⟨r57, hc57, hf⟩ := hf_b hf
      refine cl_V (pc := 57) (As := [.int a1, .int 0, .int 1]) (rest := [.long (r39.toInt64 * r49)]) hx hb hml hown hts (kX7_its l D A B _ S a1 0 1 r57 hc57) (cwV 3 hts gwRX7_128 rfl rfl rfl hdX7_its ⟨Nat.le_of_ble_eq_true rfl, Nat.le_of_ble_eq_true rfl⟩) hN hK hP hD hS hA (va_recv hK hP (ci := 7) (q0 := 0) rfl (eM_0 A B _)) rfl hl.1 rfl (Nat.le_of_ble_eq_true rfl) dX7_detOf_57 (st1 := [.int r57, .long (r39.toInt64 * r49)]) rfl ⟨Nat.zero_le _, Nat.zero_le _⟩ (fun H locs hP hD hS => ?_)
      refine lv_i2l (pc := 60) hx hb (v := r57.toInt64) dX7_detOf_60 rfl ?_
      refine lv_aload_n (pc := 61) hx hb dX7_detOf_61 rfl (lv_at hl 1 rfl) ?_
      refine lv_iload_n (pc := 62) hx hb dX7_detOf_62 rfl (lv_at hl 2 rfl) ?_
      refine lv_iconst (pc := 63) hx hb (v := 1) dX7_detOf_63 (by decide) ?_
      refine lv_iconst (pc := 64) hx hb (v := 2) dX7_detOf_64 (by decide) ?_
      refine lv_iconst (pc := 65) hx hb (v := 0) dX7_detOf_65 (by decide) ?_
      refine lv_iconst (pc := 66) hx hb (v := 2) dX7_detOf_66 (by decide) ?_
      obtain ⟨r67, hc67, hf⟩ := hf_b hf
      refine cl_V (pc := 67) (As := [.int a1, .int 1, .int 2, .int 0, .int 2]) (rest := [.long r57.toInt64, .long (r39.toInt64 * r49)]) hx hb hml hown hts (kX7_cross l D A B _ S a1 1 2 0 2 r67 hc67) (cwV 5 hts gwRX7_132 rfl rfl rfl hdX7_cross ⟨Nat.le_of_ble_eq_true rfl, Nat.le_of_ble_eq_true rfl⟩) hN hK hP hD hS hA (va_recv hK hP (ci := 7) (q0 := 0) rfl (eM_0 A B _)) rfl hl.1 rfl (Nat.le_of_ble_eq_true rfl) dX7_detOf_67 (st1 := [.long r67, .long r57.toInt64, .long (r39.toInt64 * r49)]) rfl ⟨Nat.zero_le _, Nat.zero_le _⟩ (fun H locs hP hD hS => ?_)
      refine lv_lmul (pc := 70) hx hb dX7_detOf_70 ?_
      refine lv_lsub (pc := 71) hx hb dX7_detOf_71 ?_
      refine lv_aload_n (pc := 72) hx hb dX7_detOf_72 rfl (lv_at hl 1 rfl) ?_
      refine lv_iload_n (pc := 73) hx hb dX7_detOf_73 rfl (lv_at hl 2 rfl) ?_
      refine lv_iconst (pc := 74) hx hb (v := 0) dX7_detOf_74 (by decide) ?_
      refine lv_iconst (pc := 75) hx hb (v := 2) dX7_detOf_75 (by decide) ?_
      obtain ⟨r76, hc76, hf⟩ := hf_b hf
      refine cl_V (pc := 76) (As := [.int a1, .int 0, .int 2]) (rest := [.long ((r39.toInt64 * r49) - (r57.toInt64 * r67))]) hx hb hml hown hts (kX7_its l D A B _ S a1 0 2 r76 hc76) (cwV 3 hts gwRX7_128 rfl rfl rfl hdX7_its ⟨Nat.le_of_ble_eq_true rfl, Nat.le_of_ble_eq_true rfl⟩) hN hK hP hD hS hA (va_recv hK hP (ci := 7) (q0 := 0) rfl (eM_0 A B _)) rfl hl.1 rfl (Nat.le_of_ble_eq_true rfl) dX7_detOf_76 (st1 := [.int r76, .long ((r39.toInt64 * r49) - (r57.toInt64 * r67))]) rfl ⟨Nat.zero_le _, Nat.zero_le _⟩ (fun H locs hP hD hS => ?_)
      refine lv_i2l (pc := 79) hx hb (v := r76.toInt64) dX7_detOf_79 rfl ?_
      refine lv_aload_n (pc := 80) hx hb dX7_detOf_80 rfl (lv_at hl 1 rfl) ?_
      refine lv_iload_n (pc := 81) hx hb dX7_detOf_81 rfl (lv_at hl 2 rfl) ?_
      refine lv_iconst (pc := 82) hx hb (v := 1) dX7_detOf_82 (by decide) ?_
      refine lv_iconst (pc := 83) hx hb (v := 2) dX7_detOf_83 (by decide) ?_
      refine lv_iconst (pc := 84) hx hb (v := 0) dX7_detOf_84 (by decide) ?_
      refine lv_iconst (pc := 85) hx hb (v := 1) dX7_detOf_85 (by decide) ?_
      obtain ⟨r86, hc86, hf⟩ := hf_b hf
      refine cl_V (pc := 86) (As := [.int a1, .int 1, .int 2, .int 0, .int 1]) (rest := [.long r76.toInt64, .long ((r39.toInt64 * r49) - (r57.toInt64 * r67))]) hx hb hml hown hts (kX7_cross l D A B _ S a1 1 2 0 1 r86 hc86) (cwV 5 hts gwRX7_132 rfl rfl rfl hdX7_cross ⟨Nat.le_of_ble_eq_true rfl, Nat.le_of_ble_eq_true rfl⟩) hN hK hP hD hS hA (va_recv hK hP (ci := 7) (q0 := 0) rfl (eM_0 A B _)) rfl hl.1 rfl (Nat.le_of_ble_eq_true rfl) dX7_detOf_86 (st1 := [.long r86, .long r76.toInt64, .long ((r39.toInt64 * r49) - (r57.toInt64 * r67))]) rfl ⟨Nat.zero_le _, Nat.zero_le _⟩ (fun H locs hP hD hS => ?_)
      refine lv_lmul (pc := 89) hx hb dX7_detOf_89 ?_
      refine lv_ladd (pc := 90) hx hb dX7_detOf_90 ?_
      obtain rfl := Option.some.inj hf
      exact hR H locs 91 ls hP hD hS dX7_detOf_91
    · have hf := hf_t c_22 hf
      refine lv_aload_n (pc := 25) hx hb dX7_detOf_25 rfl (lv_at hl 1 rfl) ?_
      refine lv_iload_n (pc := 26) hx hb dX7_detOf_26 rfl (lv_at hl 2 rfl) ?_
      refine lv_iconst (pc := 27) hx hb (v := 0) dX7_detOf_27 (by decide) ?_
      refine lv_iconst (pc := 28) hx hb (v := 1) dX7_detOf_28 (by decide) ?_
      refine lv_iconst (pc := 29) hx hb (v := 0) dX7_detOf_29 (by decide) ?_
      refine lv_iconst (pc := 30) hx hb (v := 1) dX7_detOf_30 (by decide) ?_
      obtain ⟨r31, hc31, hf⟩ := hf_b hf
      refine cl_V (pc := 31) (As := [.int a1, .int 0, .int 1, .int 0, .int 1]) (rest := []) hx hb hml hown hts (kX7_cross l D A B _ S a1 0 1 0 1 r31 hc31) (cwV 5 hts gwRX7_132 rfl rfl rfl hdX7_cross ⟨Nat.le_of_ble_eq_true rfl, Nat.le_of_ble_eq_true rfl⟩) hN hK hP hD hS hA (va_recv hK hP (ci := 7) (q0 := 0) rfl (eM_0 A B _)) rfl hl.1 rfl (Nat.le_of_ble_eq_true rfl) dX7_detOf_31 (st1 := [.long r31]) rfl ⟨Nat.zero_le _, Nat.zero_le _⟩ (fun H locs hP hD hS => ?_)
      obtain rfl := Option.some.inj hf
      exact hR H locs 34 ls hP hD hS dX7_detOf_34
  · have hf := hf_t c_8 hf
    refine lv_aload_n (pc := 11) hx hb dX7_detOf_11 rfl (lv_at hl 1 rfl) ?_
    refine lv_iload_n (pc := 12) hx hb dX7_detOf_12 rfl (lv_at hl 2 rfl) ?_
    refine lv_iconst (pc := 13) hx hb (v := 0) dX7_detOf_13 (by decide) ?_
    refine lv_iconst (pc := 14) hx hb (v := 0) dX7_detOf_14 (by decide) ?_
    obtain ⟨r15, hc15, hf⟩ := hf_b hf
    refine cl_V (pc := 15) (As := [.int a1, .int 0, .int 0]) (rest := []) hx hb hml hown hts (kX7_its l D A B _ S a1 0 0 r15 hc15) (cwV 3 hts gwRX7_128 rfl rfl rfl hdX7_its ⟨Nat.le_of_ble_eq_true rfl, Nat.le_of_ble_eq_true rfl⟩) hN hK hP hD hS hA (va_recv hK hP (ci := 7) (q0 := 0) rfl (eM_0 A B _)) rfl hl.1 rfl (Nat.le_of_ble_eq_true rfl) dX7_detOf_15 (st1 := [.int r15]) rfl ⟨Nat.zero_le _, Nat.zero_le _⟩ (fun H locs hP hD hS => ?_)
    refine lv_i2l (pc := 18) hx hb (v := r15.toInt64) dX7_detOf_18 rfl ?_
    obtain rfl := Option.some.inj hf
    exact hR H locs 19 ls hP hD hS dX7_detOf_19
set_option maxHeartbeats 4000000 in
set_option maxRecDepth 100000 in
theorem kX7_told (l : Launch) (D : va_G) (A : Nat → Nat) (B : Nat → ClassId) (sz : Nat) (S : w_S) (a0 : Int32) (z : Int64) (hf : fX7_told a0 = some z) : MetW l yX7_told (wsO yX7_told cX7_told 1 (some .long)) rm_X7_told [.int a0] D (tyB B) (wM A B S) (wM A B S) sz (some (.long z)) := by
  refine MetW.mkL (cc := cX7_told) (maxL := 1) (by decide) (Nat.le_of_ble_eq_true rfl) ?_
  intro p e s m args below meth c Ad Q hx hb hts hown hml hN hK hA hR H locs ls hP hD hS hl
  have hl : lv_has ls 1 [(0, .int a0)] := hl
  rw [fX7_told] at hf
  refine lv_iload_n (pc := 0) hx hb dX7_told_0 rfl (lv_at hl 0 rfl) ?_
  refine lv_i2l (pc := 1) hx hb (v := a0.toInt64) dX7_told_1 rfl ?_
  refine lv_ldc2 (pc := 2) hx hb (v := 4000000000000000000) hown (hts (.constantLong RX7 91 (4000000000000000000)) mU_232) dX7_told_2 ?_
  refine lv_lsub (pc := 5) hx hb dX7_told_5 ?_
  obtain rfl := Option.some.inj hf
  exact hR H locs 6 ls hP hD hS dX7_told_6
set_option maxHeartbeats 4000000 in
set_option maxRecDepth 100000 in
theorem kX7_det (l : Launch) (D : va_G) (A : Nat → Nat) (B : Nat → ClassId) (sz : Nat) (S : w_S) (a1 : Int32) (z : Int64) (hf : fX7_det S a1 = some z) : MetW l yX7_det (wsO yX7_det cX7_det 2 (some .long)) rm_X7_det [.ref (A 0), .int a1] D (tyB B) (wM A B S) (wM A B S) sz (some (.long z)) := by
  refine MetW.mkL (cc := cX7_det) (maxL := 2) (by decide) (Nat.le_of_ble_eq_true rfl) ?_
  intro p e s m args below meth c Ad Q hx hb hts hown hml hN hK hA hR H locs ls hP hD hS hl
  have hl : lv_has ls 2 [(0, .ref (A 0)), (1, .int a1)] := hl
  rw [fX7_det] at hf
  refine lv_iload_n (pc := 0) hx hb dX7_det_0 rfl (lv_at hl 1 rfl) ?_
  refine lv_i2l (pc := 1) hx hb (v := a1.toInt64) dX7_det_1 rfl ?_
  refine lv_lconst (pc := 2) hx hb (v := 0) dX7_det_2 (by decide) ?_
  refine lv_lconst (pc := 3) hx hb (v := 1) dX7_det_3 (by decide) ?_
  obtain ⟨r4, hc4, hf⟩ := hf_b hf
  refine cl_S (pc := 4) (As := [.long a1.toInt64, .long 0, .long 1]) (rest := []) hx hb hml hown hts (kX7_in l D A B _ S a1.toInt64 0 1 r4 hc4) (va_cwS 3 hts gwRX7_99 rfl rfl rfl hdX7_in ⟨Nat.le_of_ble_eq_true rfl, Nat.le_of_ble_eq_true rfl⟩) hN hK hP hD hS hA rfl hl.1 rfl (Nat.le_of_ble_eq_true rfl) dX7_det_4 (st1 := [.int r4]) rfl ⟨Nat.zero_le _, Nat.zero_le _⟩ (fun H locs hP hD hS => ?_)
  refine lv_if_eq (pc := 7) hx hb (tgt := 18) dX7_det_7 (by decide) (fun c_7 => ?_) (fun c_7 => ?_)
  · have hf := hf_t c_7 hf
    refine lv_iconst (pc := 18) hx hb (v := (-1)) dX7_det_18 (by decide) ?_
    obtain ⟨r19, hc19, hf⟩ := hf_b hf
    refine cl_S (pc := 19) (As := [.int (-1)]) (rest := []) hx hb hml hown hts (kX7_told l D A B _ S (-1) r19 hc19) (va_cwS 1 hts gwRX7_140 rfl rfl rfl hdX7_told ⟨Nat.le_of_ble_eq_true rfl, Nat.le_of_ble_eq_true rfl⟩) hN hK hP hD hS hA rfl hl.1 rfl (Nat.le_of_ble_eq_true rfl) dX7_det_19 (st1 := [.long r19]) rfl ⟨Nat.zero_le _, Nat.zero_le _⟩ (fun H locs hP hD hS => ?_)
    obtain rfl := Option.some.inj hf
    exact hR H locs 22 ls hP hD hS dX7_det_22
  · have hf := hf_f c_7 hf
    refine lv_aload_n (pc := 10) hx hb dX7_det_10 rfl (lv_at hl 0 rfl) ?_
    refine lv_iload_n (pc := 11) hx hb dX7_det_11 rfl (lv_at hl 1 rfl) ?_
    obtain ⟨r12, hc12, hf⟩ := hf_b hf
    refine cl_V (pc := 12) (As := [.int a1]) (rest := []) hx hb hml hown hts (kX7_detOf l D A B _ S a1 r12 hc12) (cwV 1 hts gwRX7_136 rfl rfl rfl hdX7_detOf ⟨Nat.le_of_ble_eq_true rfl, Nat.le_of_ble_eq_true rfl⟩) hN hK hP hD hS hA (va_recv hK hP (ci := 7) (q0 := 0) rfl (eM_0 A B _)) rfl hl.1 rfl (Nat.le_of_ble_eq_true rfl) dX7_det_12 (st1 := [.long r12]) rfl ⟨Nat.zero_le _, Nat.zero_le _⟩ (fun H locs hP hD hS => ?_)
    refine lv_goto (pc := 15) hx hb (tgt := 22) dX7_det_15 (by decide) ?_
    obtain rfl := Option.some.inj hf
    exact hR H locs 22 ls hP hD hS dX7_det_22
set_option maxHeartbeats 4000000 in
set_option maxRecDepth 100000 in
theorem kX7_sumDown (l : Launch) (D : va_G) (A : Nat → Nat) (B : Nat → ClassId) (sz : Nat) (S : w_S) (a1 : Int32) (z : Int64) (hf : fX7_sumDown S a1 = some z) : MetW l yX7_sumDown (wsO yX7_sumDown cX7_sumDown 5 (some .long)) rm_X7_sumDown [.ref (A 0), .int a1] D (tyB B) (wM A B S) (wM A B S) sz (some (.long z)) := by
  refine MetW.mkL (cc := cX7_sumDown) (maxL := 5) (by decide) (Nat.le_of_ble_eq_true rfl) ?_
  intro p e s m args below meth c Ad Q hx hb hts hown hml hN hK hA hR H locs ls hP hD hS hl
  have hl : lv_has ls 5 [(0, .ref (A 0)), (1, .int a1)] := hl
  rw [fX7_sumDown] at hf
  refine lv_lconst (pc := 0) hx hb (v := 0) dX7_sumDown_0 (by decide) ?_
  refine lv_lstore_n (pc := 1) hx hb (lv' := [(2, .long 0), (0, .ref (A 0)), (1, .int a1)]) dX7_sumDown_1 rfl hl (by decide) rfl (fun ls hl => ?_)
  refine lv_iconst (pc := 2) hx hb (v := 0) dX7_sumDown_2 (by decide) ?_
  refine lv_istore (pc := 3) hx hb (lv' := [(4, .int 0), (2, .long 0), (0, .ref (A 0)), (1, .int a1)]) dX7_sumDown_3 hl (by decide) rfl (fun ls hl => ?_)
  obtain ⟨q5, hq5, hf⟩ := hf_b hf
  have hk5 : ∀ (H : Heap) (locs : List Loc) (ls : Array Slot), va_P D vwCl (wM A B S) H → va_D Ad (wM A B S) → va_S Ad s.heap H locs → lv_has ls 5 [(2, .long q5)] → W p l e rm_X7_sumDown s m args below meth c H locs 0 0 Q (F0 m 34 ls []) := by
    intro H locs ls hP hD hS hl
    refine lv_lload_n (pc := 34) hx hb dX7_sumDown_34 rfl (lv_at hl 0 rfl) ?_
    obtain rfl := Option.some.inj hf
    exact hR H locs 35 ls hP hD hS dX7_sumDown_35
  have lp5 : ∀ (n : Nat) (u2_5 : Int64) (u4_5 : Int32) (H : Heap) (locs : List Loc) (ls : Array Slot), fX7_sumDown_L5 S a1 n u2_5 u4_5 = some q5 → va_P D vwCl (wM A B S) H → va_D Ad (wM A B S) → va_S Ad s.heap H locs → lv_has ls 5 [(0, .ref (A 0)), (1, .int a1), (2, .long u2_5), (4, .int u4_5)] → W p l e rm_X7_sumDown s m args below meth c H locs 0 0 Q (F0 m 5 ls []) := by
    intro n5
    induction n5 with
    | zero => intro u2_5 u4_5 H locs ls hq5; exact hf_0 hq5
    | succ n5 ih5 =>
      intro u2_5 u4_5 H locs ls hq5 hP hD hS hl
      rw [fX7_sumDown_L5] at hq5
      refine lv_iload (pc := 5) hx hb dX7_sumDown_5 (lv_at hl 3 rfl) ?_
      refine lv_aload_n (pc := 7) hx hb dX7_sumDown_7 rfl (lv_at hl 0 rfl) ?_
      refine lv_iload_n (pc := 8) hx hb dX7_sumDown_8 rfl (lv_at hl 1 rfl) ?_
      obtain ⟨r9, hc9, hq5⟩ := hf_b hq5
      refine cl_V (pc := 9) (As := [.int a1]) (rest := [.int u4_5]) hx hb hml hown hts (kX7_rowsOf l D A B _ S a1 r9 hc9) (cwV 1 hts gwRX7_103 rfl rfl rfl hdX7_rowsOf ⟨Nat.le_of_ble_eq_true rfl, Nat.le_of_ble_eq_true rfl⟩) hN hK hP hD hS hA (va_recv hK hP (ci := 7) (q0 := 0) rfl (eM_0 A B _)) rfl hl.1 rfl (Nat.le_of_ble_eq_true rfl) dX7_sumDown_9 (st1 := [.int r9, .int u4_5]) rfl ⟨Nat.zero_le _, Nat.zero_le _⟩ (fun H locs hP hD hS => ?_)
      refine lv_icmp_ge (pc := 12) hx hb (tgt := 34) dX7_sumDown_12 (by decide) (fun c_12 => ?_) (fun c_12 => ?_)
      · have hq5 := hf_t c_12 hq5
        obtain rfl := Option.some.inj hq5
        exact hk5 H locs ls hP hD hS (lv_sub hl [2] rfl)
      · have hq5 := hf_f c_12 hq5
        refine lv_lload_n (pc := 15) hx hb dX7_sumDown_15 rfl (lv_at hl 2 rfl) ?_
        refine lv_aload_n (pc := 16) hx hb dX7_sumDown_16 rfl (lv_at hl 0 rfl) ?_
        refine lv_iload_n (pc := 17) hx hb dX7_sumDown_17 rfl (lv_at hl 1 rfl) ?_
        refine lv_iload (pc := 18) hx hb dX7_sumDown_18 (lv_at hl 3 rfl) ?_
        refine lv_iload (pc := 20) hx hb dX7_sumDown_20 (lv_at hl 3 rfl) ?_
        obtain ⟨r22, hc22, hq5⟩ := hf_b hq5
        refine cl_V (pc := 22) (As := [.int a1, .int u4_5, .int u4_5]) (rest := [.long u2_5]) hx hb hml hown hts (kX7_its l D A B _ S a1 u4_5 u4_5 r22 hc22) (cwV 3 hts gwRX7_128 rfl rfl rfl hdX7_its ⟨Nat.le_of_ble_eq_true rfl, Nat.le_of_ble_eq_true rfl⟩) hN hK hP hD hS hA (va_recv hK hP (ci := 7) (q0 := 0) rfl (eM_0 A B _)) rfl hl.1 rfl (Nat.le_of_ble_eq_true rfl) dX7_sumDown_22 (st1 := [.int r22, .long u2_5]) rfl ⟨Nat.zero_le _, Nat.zero_le _⟩ (fun H locs hP hD hS => ?_)
        refine lv_i2l (pc := 25) hx hb (v := r22.toInt64) dX7_sumDown_25 rfl ?_
        refine lv_ladd (pc := 26) hx hb dX7_sumDown_26 ?_
        refine lv_lstore_n (pc := 27) hx hb (lv' := [(2, .long (u2_5 + r22.toInt64)), (0, .ref (A 0)), (1, .int a1), (4, .int u4_5)]) dX7_sumDown_27 rfl hl (by decide) rfl (fun ls hl => ?_)
        refine lv_iinc (pc := 28) hx hb (v := u4_5 + 1) (lv' := [(4, .int (u4_5 + 1)), (2, .long (u2_5 + r22.toInt64)), (0, .ref (A 0)), (1, .int a1)]) dX7_sumDown_28 hl (k := 3) rfl rfl (by decide) rfl (fun ls hl => ?_)
        refine lv_goto (pc := 31) hx hb (tgt := 5) dX7_sumDown_31 (by decide) ?_
        exact ih5 (u2_5 + r22.toInt64) (u4_5 + 1) H locs ls hq5 hP hD hS (lv_sub hl [2, 3, 1, 0] rfl)
  exact lp5 256 0 0 H locs ls hq5 hP hD hS (lv_sub hl [2, 3, 1, 0] rfl)
set_option maxHeartbeats 4000000 in
set_option maxRecDepth 100000 in
theorem kX7_diagonal (l : Launch) (D : va_G) (A : Nat → Nat) (B : Nat → ClassId) (sz : Nat) (S : w_S) (a1 : Int32) (z : Int64) (hf : fX7_diagonal S a1 = some z) : MetW l yX7_diagonal (wsO yX7_diagonal cX7_diagonal 2 (some .long)) rm_X7_diagonal [.ref (A 0), .int a1] D (tyB B) (wM A B S) (wM A B S) sz (some (.long z)) := by
  refine MetW.mkL (cc := cX7_diagonal) (maxL := 2) (by decide) (Nat.le_of_ble_eq_true rfl) ?_
  intro p e s m args below meth c Ad Q hx hb hts hown hml hN hK hA hR H locs ls hP hD hS hl
  have hl : lv_has ls 2 [(0, .ref (A 0)), (1, .int a1)] := hl
  rw [fX7_diagonal] at hf
  refine lv_iload_n (pc := 0) hx hb dX7_diagonal_0 rfl (lv_at hl 1 rfl) ?_
  refine lv_i2l (pc := 1) hx hb (v := a1.toInt64) dX7_diagonal_1 rfl ?_
  refine lv_lconst (pc := 2) hx hb (v := 0) dX7_diagonal_2 (by decide) ?_
  refine lv_ldc2 (pc := 3) hx hb (v := 2) hown (hts (.constantLong RX7 97 (2)) mU_167) dX7_diagonal_3 ?_
  obtain ⟨r6, hc6, hf⟩ := hf_b hf
  refine cl_S (pc := 6) (As := [.long a1.toInt64, .long 0, .long 2]) (rest := []) hx hb hml hown hts (kX7_in l D A B _ S a1.toInt64 0 2 r6 hc6) (va_cwS 3 hts gwRX7_99 rfl rfl rfl hdX7_in ⟨Nat.le_of_ble_eq_true rfl, Nat.le_of_ble_eq_true rfl⟩) hN hK hP hD hS hA rfl hl.1 rfl (Nat.le_of_ble_eq_true rfl) dX7_diagonal_6 (st1 := [.int r6]) rfl ⟨Nat.zero_le _, Nat.zero_le _⟩ (fun H locs hP hD hS => ?_)
  refine lv_if_ne (pc := 9) hx hb (tgt := 17) dX7_diagonal_9 (by decide) (fun c_9 => ?_) (fun c_9 => ?_)
  · have hf := hf_f c_9 hf
    refine lv_iload_n (pc := 17) hx hb dX7_diagonal_17 rfl (lv_at hl 1 rfl) ?_
    refine lv_iconst (pc := 18) hx hb (v := 2) dX7_diagonal_18 (by decide) ?_
    refine lv_icmp_ne (pc := 19) hx hb (tgt := 41) dX7_diagonal_19 (by decide) (fun c_19 => ?_) (fun c_19 => ?_)
    · have hf := hf_f c_19 hf
      refine lv_aload_n (pc := 41) hx hb dX7_diagonal_41 rfl (lv_at hl 0 rfl) ?_
      refine lv_iload_n (pc := 42) hx hb dX7_diagonal_42 rfl (lv_at hl 1 rfl) ?_
      obtain ⟨r43, hc43, hf⟩ := hf_b hf
      refine cl_V (pc := 43) (As := [.int a1]) (rest := []) hx hb hml hown hts (kX7_sumDown l D A B _ S a1 r43 hc43) (cwV 1 hts gwRX7_143 rfl rfl rfl hdX7_sumDown ⟨Nat.le_of_ble_eq_true rfl, Nat.le_of_ble_eq_true rfl⟩) hN hK hP hD hS hA (va_recv hK hP (ci := 7) (q0 := 0) rfl (eM_0 A B _)) rfl hl.1 rfl (Nat.le_of_ble_eq_true rfl) dX7_diagonal_43 (st1 := [.long r43]) rfl ⟨Nat.zero_le _, Nat.zero_le _⟩ (fun H locs hP hD hS => ?_)
      obtain rfl := Option.some.inj hf
      exact hR H locs 46 ls hP hD hS dX7_diagonal_46
    · have hf := hf_t c_19 hf
      refine lv_aload_n (pc := 22) hx hb dX7_diagonal_22 rfl (lv_at hl 0 rfl) ?_
      refine vMgRX7_19_0 (pc := 23) hx hb hts mU_84 inU7 hown hK hP (x := (gI S 0)) rfl dX7_diagonal_23 ?_
      refine lv_aload_n (pc := 26) hx hb dX7_diagonal_26 rfl (lv_at hl 0 rfl) ?_
      refine vMgRX7_23_0 (pc := 27) hx hb hts mU_85 inU7 hown hK hP (x := (gI S 1)) rfl dX7_diagonal_27 ?_
      refine lv_icmp_eq (pc := 30) hx hb (tgt := 41) dX7_diagonal_30 (by decide) (fun c_30 => ?_) (fun c_30 => ?_)
      · have hf := hf_t c_30 hf
        refine lv_aload_n (pc := 41) hx hb dX7_diagonal_41 rfl (lv_at hl 0 rfl) ?_
        refine lv_iload_n (pc := 42) hx hb dX7_diagonal_42 rfl (lv_at hl 1 rfl) ?_
        obtain ⟨r43, hc43, hf⟩ := hf_b hf
        refine cl_V (pc := 43) (As := [.int a1]) (rest := []) hx hb hml hown hts (kX7_sumDown l D A B _ S a1 r43 hc43) (cwV 1 hts gwRX7_143 rfl rfl rfl hdX7_sumDown ⟨Nat.le_of_ble_eq_true rfl, Nat.le_of_ble_eq_true rfl⟩) hN hK hP hD hS hA (va_recv hK hP (ci := 7) (q0 := 0) rfl (eM_0 A B _)) rfl hl.1 rfl (Nat.le_of_ble_eq_true rfl) dX7_diagonal_43 (st1 := [.long r43]) rfl ⟨Nat.zero_le _, Nat.zero_le _⟩ (fun H locs hP hD hS => ?_)
        obtain rfl := Option.some.inj hf
        exact hR H locs 46 ls hP hD hS dX7_diagonal_46
      · have hf := hf_f c_30 hf
        refine lv_bipush (pc := 33) hx hb (v := (-4)) dX7_diagonal_33 (by decide) ?_
        obtain ⟨r35, hc35, hf⟩ := hf_b hf
        refine cl_S (pc := 35) (As := [.int (-4)]) (rest := []) hx hb hml hown hts (kX7_told l D A B _ S (-4) r35 hc35) (va_cwS 1 hts gwRX7_140 rfl rfl rfl hdX7_told ⟨Nat.le_of_ble_eq_true rfl, Nat.le_of_ble_eq_true rfl⟩) hN hK hP hD hS hA rfl hl.1 rfl (Nat.le_of_ble_eq_true rfl) dX7_diagonal_35 (st1 := [.long r35]) rfl ⟨Nat.zero_le _, Nat.zero_le _⟩ (fun H locs hP hD hS => ?_)
        refine lv_goto (pc := 38) hx hb (tgt := 46) dX7_diagonal_38 (by decide) ?_
        obtain rfl := Option.some.inj hf
        exact hR H locs 46 ls hP hD hS dX7_diagonal_46
  · have hf := hf_t c_9 hf
    refine lv_iconst (pc := 12) hx hb (v := (-1)) dX7_diagonal_12 (by decide) ?_
    obtain ⟨r13, hc13, hf⟩ := hf_b hf
    refine cl_S (pc := 13) (As := [.int (-1)]) (rest := []) hx hb hml hown hts (kX7_told l D A B _ S (-1) r13 hc13) (va_cwS 1 hts gwRX7_140 rfl rfl rfl hdX7_told ⟨Nat.le_of_ble_eq_true rfl, Nat.le_of_ble_eq_true rfl⟩) hN hK hP hD hS hA rfl hl.1 rfl (Nat.le_of_ble_eq_true rfl) dX7_diagonal_13 (st1 := [.long r13]) rfl ⟨Nat.zero_le _, Nat.zero_le _⟩ (fun H locs hP hD hS => ?_)
    obtain rfl := Option.some.inj hf
    exact hR H locs 16 ls hP hD hS dX7_diagonal_16
set_option maxHeartbeats 4000000 in
set_option maxRecDepth 100000 in
theorem kX7_pairs (l : Launch) (D : va_G) (A : Nat → Nat) (B : Nat → ClassId) (sz : Nat) (S : w_S) (a1 : Int32) (z : Int64) (hf : fX7_pairs S a1 = some z) : MetW l yX7_pairs (wsO yX7_pairs cX7_pairs 6 (some .long)) rm_X7_pairs [.ref (A 0), .int a1] D (tyB B) (wM A B S) (wM A B S) sz (some (.long z)) := by
  refine MetW.mkL (cc := cX7_pairs) (maxL := 6) (by decide) (Nat.le_of_ble_eq_true rfl) ?_
  intro p e s m args below meth c Ad Q hx hb hts hown hml hN hK hA hR H locs ls hP hD hS hl
  have hl : lv_has ls 6 [(0, .ref (A 0)), (1, .int a1)] := hl
  rw [fX7_pairs] at hf
  refine lv_lconst (pc := 0) hx hb (v := 0) dX7_pairs_0 (by decide) ?_
  refine lv_lstore_n (pc := 1) hx hb (lv' := [(2, .long 0), (0, .ref (A 0)), (1, .int a1)]) dX7_pairs_1 rfl hl (by decide) rfl (fun ls hl => ?_)
  refine lv_iconst (pc := 2) hx hb (v := 0) dX7_pairs_2 (by decide) ?_
  refine lv_istore (pc := 3) hx hb (lv' := [(4, .int 0), (2, .long 0), (0, .ref (A 0)), (1, .int a1)]) dX7_pairs_3 hl (by decide) rfl (fun ls hl => ?_)
  obtain ⟨q5, hq5, hf⟩ := hf_b hf
  have hk5 : ∀ (H : Heap) (locs : List Loc) (ls : Array Slot), va_P D vwCl (wM A B S) H → va_D Ad (wM A B S) → va_S Ad s.heap H locs → lv_has ls 6 [(2, .long q5)] → W p l e rm_X7_pairs s m args below meth c H locs 0 0 Q (F0 m 59 ls []) := by
    intro H locs ls hP hD hS hl
    refine lv_lload_n (pc := 59) hx hb dX7_pairs_59 rfl (lv_at hl 0 rfl) ?_
    obtain rfl := Option.some.inj hf
    exact hR H locs 60 ls hP hD hS dX7_pairs_60
  have lp5 : ∀ (n : Nat) (u2_5 : Int64) (u4_5 : Int32) (H : Heap) (locs : List Loc) (ls : Array Slot), fX7_pairs_L5 S a1 n u2_5 u4_5 = some q5 → va_P D vwCl (wM A B S) H → va_D Ad (wM A B S) → va_S Ad s.heap H locs → lv_has ls 6 [(0, .ref (A 0)), (1, .int a1), (2, .long u2_5), (4, .int u4_5)] → W p l e rm_X7_pairs s m args below meth c H locs 0 0 Q (F0 m 5 ls []) := by
    intro n5
    induction n5 with
    | zero => intro u2_5 u4_5 H locs ls hq5; exact hf_0 hq5
    | succ n5 ih5 =>
      intro u2_5 u4_5 H locs ls hq5 hP hD hS hl
      rw [fX7_pairs_L5] at hq5
      refine lv_iload (pc := 5) hx hb dX7_pairs_5 (lv_at hl 3 rfl) ?_
      refine lv_aload_n (pc := 7) hx hb dX7_pairs_7 rfl (lv_at hl 0 rfl) ?_
      refine lv_iload_n (pc := 8) hx hb dX7_pairs_8 rfl (lv_at hl 1 rfl) ?_
      obtain ⟨r9, hc9, hq5⟩ := hf_b hq5
      refine cl_V (pc := 9) (As := [.int a1]) (rest := [.int u4_5]) hx hb hml hown hts (kX7_rowsOf l D A B _ S a1 r9 hc9) (cwV 1 hts gwRX7_103 rfl rfl rfl hdX7_rowsOf ⟨Nat.le_of_ble_eq_true rfl, Nat.le_of_ble_eq_true rfl⟩) hN hK hP hD hS hA (va_recv hK hP (ci := 7) (q0 := 0) rfl (eM_0 A B _)) rfl hl.1 rfl (Nat.le_of_ble_eq_true rfl) dX7_pairs_9 (st1 := [.int r9, .int u4_5]) rfl ⟨Nat.zero_le _, Nat.zero_le _⟩ (fun H locs hP hD hS => ?_)
      refine lv_icmp_ge (pc := 12) hx hb (tgt := 59) dX7_pairs_12 (by decide) (fun c_12 => ?_) (fun c_12 => ?_)
      · have hq5 := hf_t c_12 hq5
        obtain rfl := Option.some.inj hq5
        exact hk5 H locs ls hP hD hS (lv_sub hl [2] rfl)
      · have hq5 := hf_f c_12 hq5
        refine lv_iload (pc := 15) hx hb dX7_pairs_15 (lv_at hl 3 rfl) ?_
        refine lv_iconst (pc := 17) hx hb (v := 1) dX7_pairs_17 (by decide) ?_
        refine lv_iadd (pc := 18) hx hb dX7_pairs_18 ?_
        refine lv_istore (pc := 19) hx hb (lv' := [(5, .int (u4_5 + 1)), (0, .ref (A 0)), (1, .int a1), (2, .long u2_5), (4, .int u4_5)]) dX7_pairs_19 hl (by decide) rfl (fun ls hl => ?_)
        obtain ⟨q21, hq21, hq5⟩ := hf_b hq5
        have hk21 : ∀ (H : Heap) (locs : List Loc) (ls : Array Slot), va_P D vwCl (wM A B S) H → va_D Ad (wM A B S) → va_S Ad s.heap H locs → lv_has ls 6 [(0, .ref (A 0)), (1, .int a1), (2, .long q21), (4, .int u4_5)] → W p l e rm_X7_pairs s m args below meth c H locs 0 0 Q (F0 m 53 ls []) := by
          intro H locs ls hP hD hS hl
          refine lv_iinc (pc := 53) hx hb (v := u4_5 + 1) (lv' := [(4, .int (u4_5 + 1)), (0, .ref (A 0)), (1, .int a1), (2, .long q21)]) dX7_pairs_53 hl (k := 3) rfl rfl (by decide) rfl (fun ls hl => ?_)
          refine lv_goto (pc := 56) hx hb (tgt := 5) dX7_pairs_56 (by decide) ?_
          exact ih5 q21 (u4_5 + 1) H locs ls hq5 hP hD hS (lv_sub hl [1, 2, 3, 0] rfl)
        have lp21 : ∀ (n : Nat) (u2_21 : Int64) (u5_21 : Int32) (H : Heap) (locs : List Loc) (ls : Array Slot), fX7_pairs_L21 S a1 u4_5 n u2_21 u5_21 = some q21 → va_P D vwCl (wM A B S) H → va_D Ad (wM A B S) → va_S Ad s.heap H locs → lv_has ls 6 [(0, .ref (A 0)), (1, .int a1), (2, .long u2_21), (4, .int u4_5), (5, .int u5_21)] → W p l e rm_X7_pairs s m args below meth c H locs 0 0 Q (F0 m 21 ls []) := by
          intro n21
          induction n21 with
          | zero => intro u2_21 u5_21 H locs ls hq21; exact hf_0 hq21
          | succ n21 ih21 =>
            intro u2_21 u5_21 H locs ls hq21 hP hD hS hl
            rw [fX7_pairs_L21] at hq21
            refine lv_iload (pc := 21) hx hb dX7_pairs_21 (lv_at hl 4 rfl) ?_
            refine lv_aload_n (pc := 23) hx hb dX7_pairs_23 rfl (lv_at hl 0 rfl) ?_
            refine lv_iload_n (pc := 24) hx hb dX7_pairs_24 rfl (lv_at hl 1 rfl) ?_
            obtain ⟨r25, hc25, hq21⟩ := hf_b hq21
            refine cl_V (pc := 25) (As := [.int a1]) (rest := [.int u5_21]) hx hb hml hown hts (kX7_rowsOf l D A B _ S a1 r25 hc25) (cwV 1 hts gwRX7_103 rfl rfl rfl hdX7_rowsOf ⟨Nat.le_of_ble_eq_true rfl, Nat.le_of_ble_eq_true rfl⟩) hN hK hP hD hS hA (va_recv hK hP (ci := 7) (q0 := 0) rfl (eM_0 A B _)) rfl hl.1 rfl (Nat.le_of_ble_eq_true rfl) dX7_pairs_25 (st1 := [.int r25, .int u5_21]) rfl ⟨Nat.zero_le _, Nat.zero_le _⟩ (fun H locs hP hD hS => ?_)
            refine lv_icmp_ge (pc := 28) hx hb (tgt := 53) dX7_pairs_28 (by decide) (fun c_28 => ?_) (fun c_28 => ?_)
            · have hq21 := hf_t c_28 hq21
              obtain rfl := Option.some.inj hq21
              exact hk21 H locs ls hP hD hS (lv_sub hl [0, 1, 2, 3] rfl)
            · have hq21 := hf_f c_28 hq21
              refine lv_lload_n (pc := 31) hx hb dX7_pairs_31 rfl (lv_at hl 2 rfl) ?_
              refine lv_aload_n (pc := 32) hx hb dX7_pairs_32 rfl (lv_at hl 0 rfl) ?_
              refine lv_iload_n (pc := 33) hx hb dX7_pairs_33 rfl (lv_at hl 1 rfl) ?_
              refine lv_iload (pc := 34) hx hb dX7_pairs_34 (lv_at hl 3 rfl) ?_
              refine lv_iload (pc := 36) hx hb dX7_pairs_36 (lv_at hl 4 rfl) ?_
              refine lv_iload (pc := 38) hx hb dX7_pairs_38 (lv_at hl 3 rfl) ?_
              refine lv_iload (pc := 40) hx hb dX7_pairs_40 (lv_at hl 4 rfl) ?_
              obtain ⟨r42, hc42, hq21⟩ := hf_b hq21
              refine cl_V (pc := 42) (As := [.int a1, .int u4_5, .int u5_21, .int u4_5, .int u5_21]) (rest := [.long u2_21]) hx hb hml hown hts (kX7_cross l D A B _ S a1 u4_5 u5_21 u4_5 u5_21 r42 hc42) (cwV 5 hts gwRX7_132 rfl rfl rfl hdX7_cross ⟨Nat.le_of_ble_eq_true rfl, Nat.le_of_ble_eq_true rfl⟩) hN hK hP hD hS hA (va_recv hK hP (ci := 7) (q0 := 0) rfl (eM_0 A B _)) rfl hl.1 rfl (Nat.le_of_ble_eq_true rfl) dX7_pairs_42 (st1 := [.long r42, .long u2_21]) rfl ⟨Nat.zero_le _, Nat.zero_le _⟩ (fun H locs hP hD hS => ?_)
              refine lv_ladd (pc := 45) hx hb dX7_pairs_45 ?_
              refine lv_lstore_n (pc := 46) hx hb (lv' := [(2, .long (u2_21 + r42)), (0, .ref (A 0)), (1, .int a1), (4, .int u4_5), (5, .int u5_21)]) dX7_pairs_46 rfl hl (by decide) rfl (fun ls hl => ?_)
              refine lv_iinc (pc := 47) hx hb (v := u5_21 + 1) (lv' := [(5, .int (u5_21 + 1)), (2, .long (u2_21 + r42)), (0, .ref (A 0)), (1, .int a1), (4, .int u4_5)]) dX7_pairs_47 hl (k := 4) rfl rfl (by decide) rfl (fun ls hl => ?_)
              refine lv_goto (pc := 50) hx hb (tgt := 21) dX7_pairs_50 (by decide) ?_
              exact ih21 (u2_21 + r42) (u5_21 + 1) H locs ls hq21 hP hD hS (lv_sub hl [2, 3, 1, 4, 0] rfl)
        exact lp21 256 u2_5 (u4_5 + 1) H locs ls hq21 hP hD hS (lv_sub hl [1, 2, 3, 4, 0] rfl)
  exact lp5 256 0 0 H locs ls hq5 hP hD hS (lv_sub hl [2, 3, 1, 0] rfl)
set_option maxHeartbeats 4000000 in
set_option maxRecDepth 100000 in
theorem kX7_character (l : Launch) (D : va_G) (A : Nat → Nat) (B : Nat → ClassId) (sz : Nat) (S : w_S) (a1 : Int32) (a2 : Int32) (z : Int64) (hf : fX7_character S a1 a2 = some z) : MetW l yX7_character (wsO yX7_character cX7_character 4 (some .long)) rm_X7_character [.ref (A 0), .int a1, .int a2] D (tyB B) (wM A B S) (wM A B S) sz (some (.long z)) := by
  refine MetW.mkL (cc := cX7_character) (maxL := 4) (by decide) (Nat.le_of_ble_eq_true rfl) ?_
  intro p e s m args below meth c Ad Q hx hb hts hown hml hN hK hA hR H locs ls hP hD hS hl
  have hl : lv_has ls 4 [(0, .ref (A 0)), (1, .int a1), (2, .int a2)] := hl
  rw [fX7_character] at hf
  refine lv_iload_n (pc := 0) hx hb dX7_character_0 rfl (lv_at hl 1 rfl) ?_
  refine lv_i2l (pc := 1) hx hb (v := a1.toInt64) dX7_character_1 rfl ?_
  refine lv_lconst (pc := 2) hx hb (v := 0) dX7_character_2 (by decide) ?_
  refine lv_lconst (pc := 3) hx hb (v := 1) dX7_character_3 (by decide) ?_
  obtain ⟨r4, hc4, hf⟩ := hf_b hf
  refine cl_S (pc := 4) (As := [.long a1.toInt64, .long 0, .long 1]) (rest := []) hx hb hml hown hts (kX7_in l D A B _ S a1.toInt64 0 1 r4 hc4) (va_cwS 3 hts gwRX7_99 rfl rfl rfl hdX7_in ⟨Nat.le_of_ble_eq_true rfl, Nat.le_of_ble_eq_true rfl⟩) hN hK hP hD hS hA rfl hl.1 rfl (Nat.le_of_ble_eq_true rfl) dX7_character_4 (st1 := [.int r4]) rfl ⟨Nat.zero_le _, Nat.zero_le _⟩ (fun H locs hP hD hS => ?_)
  refine lv_if_eq (pc := 7) hx hb (tgt := 25) dX7_character_7 (by decide) (fun c_7 => ?_) (fun c_7 => ?_)
  · have hf := hf_t c_7 hf
    refine lv_iconst (pc := 25) hx hb (v := (-1)) dX7_character_25 (by decide) ?_
    obtain ⟨r26, hc26, hf⟩ := hf_b hf
    refine cl_S (pc := 26) (As := [.int (-1)]) (rest := []) hx hb hml hown hts (kX7_told l D A B _ S (-1) r26 hc26) (va_cwS 1 hts gwRX7_140 rfl rfl rfl hdX7_told ⟨Nat.le_of_ble_eq_true rfl, Nat.le_of_ble_eq_true rfl⟩) hN hK hP hD hS hA rfl hl.1 rfl (Nat.le_of_ble_eq_true rfl) dX7_character_26 (st1 := [.long r26]) rfl ⟨Nat.zero_le _, Nat.zero_le _⟩ (fun H locs hP hD hS => ?_)
    obtain rfl := Option.some.inj hf
    exact hR H locs 29 ls hP hD hS dX7_character_29
  · have hf := hf_f c_7 hf
    refine lv_iload_n (pc := 10) hx hb dX7_character_10 rfl (lv_at hl 2 rfl) ?_
    refine lv_i2l (pc := 11) hx hb (v := a2.toInt64) dX7_character_11 rfl ?_
    refine lv_lconst (pc := 12) hx hb (v := 0) dX7_character_12 (by decide) ?_
    refine lv_aload_n (pc := 13) hx hb dX7_character_13 rfl (lv_at hl 0 rfl) ?_
    refine lv_iload_n (pc := 14) hx hb dX7_character_14 rfl (lv_at hl 1 rfl) ?_
    obtain ⟨r15, hc15, hf⟩ := hf_b hf
    refine cl_V (pc := 15) (As := [.int a1]) (rest := [.long 0, .long a2.toInt64]) hx hb hml hown hts (kX7_rowsOf l D A B _ S a1 r15 hc15) (cwV 1 hts gwRX7_103 rfl rfl rfl hdX7_rowsOf ⟨Nat.le_of_ble_eq_true rfl, Nat.le_of_ble_eq_true rfl⟩) hN hK hP hD hS hA (va_recv hK hP (ci := 7) (q0 := 0) rfl (eM_0 A B _)) rfl hl.1 rfl (Nat.le_of_ble_eq_true rfl) dX7_character_15 (st1 := [.int r15, .long 0, .long a2.toInt64]) rfl ⟨Nat.zero_le _, Nat.zero_le _⟩ (fun H locs hP hD hS => ?_)
    refine lv_i2l (pc := 18) hx hb (v := r15.toInt64) dX7_character_18 rfl ?_
    obtain ⟨r19, hc19, hf⟩ := hf_b hf
    refine cl_S (pc := 19) (As := [.long a2.toInt64, .long 0, .long r15.toInt64]) (rest := []) hx hb hml hown hts (kX7_in l D A B _ S a2.toInt64 0 r15.toInt64 r19 hc19) (va_cwS 3 hts gwRX7_99 rfl rfl rfl hdX7_in ⟨Nat.le_of_ble_eq_true rfl, Nat.le_of_ble_eq_true rfl⟩) hN hK hP hD hS hA rfl hl.1 rfl (Nat.le_of_ble_eq_true rfl) dX7_character_19 (st1 := [.int r19]) rfl ⟨Nat.zero_le _, Nat.zero_le _⟩ (fun H locs hP hD hS => ?_)
    refine lv_if_ne (pc := 22) hx hb (tgt := 30) dX7_character_22 (by decide) (fun c_22 => ?_) (fun c_22 => ?_)
    · have hf := hf_f c_22 hf
      refine lv_aload_n (pc := 30) hx hb dX7_character_30 rfl (lv_at hl 0 rfl) ?_
      refine lv_iload_n (pc := 31) hx hb dX7_character_31 rfl (lv_at hl 1 rfl) ?_
      obtain ⟨r32, hc32, hf⟩ := hf_b hf
      refine cl_V (pc := 32) (As := [.int a1]) (rest := []) hx hb hml hown hts (kX7_rowsOf l D A B _ S a1 r32 hc32) (cwV 1 hts gwRX7_103 rfl rfl rfl hdX7_rowsOf ⟨Nat.le_of_ble_eq_true rfl, Nat.le_of_ble_eq_true rfl⟩) hN hK hP hD hS hA (va_recv hK hP (ci := 7) (q0 := 0) rfl (eM_0 A B _)) rfl hl.1 rfl (Nat.le_of_ble_eq_true rfl) dX7_character_32 (st1 := [.int r32]) rfl ⟨Nat.zero_le _, Nat.zero_le _⟩ (fun H locs hP hD hS => ?_)
      refine lv_iload_n (pc := 35) hx hb dX7_character_35 rfl (lv_at hl 2 rfl) ?_
      refine lv_isub (pc := 36) hx hb dX7_character_36 ?_
      refine lv_istore_n (pc := 37) hx hb (lv' := [(3, .int (r32 - a2)), (0, .ref (A 0)), (1, .int a1), (2, .int a2)]) dX7_character_37 rfl hl (by decide) rfl (fun ls hl => ?_)
      refine lv_iload_n (pc := 38) hx hb dX7_character_38 rfl (lv_at hl 3 rfl) ?_
      refine lv_if_ne (pc := 39) hx hb (tgt := 63) dX7_character_39 (by decide) (fun c_39 => ?_) (fun c_39 => ?_)
      · have hf := hf_f c_39 hf
        refine lv_iload_n (pc := 63) hx hb dX7_character_63 rfl (lv_at hl 0 rfl) ?_
        refine lv_if_ne (pc := 64) hx hb (tgt := 71) dX7_character_64 (by decide) (fun c_64 => ?_) (fun c_64 => ?_)
        · have hf := hf_f c_64 hf
          refine lv_iload_n (pc := 71) hx hb dX7_character_71 rfl (lv_at hl 0 rfl) ?_
          refine lv_iconst (pc := 72) hx hb (v := 1) dX7_character_72 (by decide) ?_
          refine lv_icmp_ne (pc := 73) hx hb (tgt := 85) dX7_character_73 (by decide) (fun c_73 => ?_) (fun c_73 => ?_)
          · have hf := hf_f c_73 hf
            refine lv_aload_n (pc := 85) hx hb dX7_character_85 rfl (lv_at hl 1 rfl) ?_
            refine lv_iload_n (pc := 86) hx hb dX7_character_86 rfl (lv_at hl 2 rfl) ?_
            obtain ⟨r87, hc87, hf⟩ := hf_b hf
            refine cl_V (pc := 87) (As := [.int a1]) (rest := []) hx hb hml hown hts (kX7_pairs l D A B _ S a1 r87 hc87) (cwV 1 hts gwRX7_146 rfl rfl rfl hdX7_pairs ⟨Nat.le_of_ble_eq_true rfl, Nat.le_of_ble_eq_true rfl⟩) hN hK hP hD hS hA (va_recv hK hP (ci := 7) (q0 := 0) rfl (eM_0 A B _)) rfl hl.1 rfl (Nat.le_of_ble_eq_true rfl) dX7_character_87 (st1 := [.long r87]) rfl ⟨Nat.zero_le _, Nat.zero_le _⟩ (fun H locs hP hD hS => ?_)
            obtain rfl := Option.some.inj hf
            exact hR H locs 90 ls hP hD hS dX7_character_90
          · have hf := hf_t c_73 hf
            refine lv_aload_n (pc := 76) hx hb dX7_character_76 rfl (lv_at hl 1 rfl) ?_
            refine lv_iload_n (pc := 77) hx hb dX7_character_77 rfl (lv_at hl 2 rfl) ?_
            obtain ⟨r78, hc78, hf⟩ := hf_b hf
            refine cl_V (pc := 78) (As := [.int a1]) (rest := []) hx hb hml hown hts (kX7_sumDown l D A B _ S a1 r78 hc78) (cwV 1 hts gwRX7_143 rfl rfl rfl hdX7_sumDown ⟨Nat.le_of_ble_eq_true rfl, Nat.le_of_ble_eq_true rfl⟩) hN hK hP hD hS hA (va_recv hK hP (ci := 7) (q0 := 0) rfl (eM_0 A B _)) rfl hl.1 rfl (Nat.le_of_ble_eq_true rfl) dX7_character_78 (st1 := [.long r78]) rfl ⟨Nat.zero_le _, Nat.zero_le _⟩ (fun H locs hP hD hS => ?_)
            refine lv_lneg (pc := 81) hx hb dX7_character_81 ?_
            refine lv_goto (pc := 82) hx hb (tgt := 90) dX7_character_82 (by decide) ?_
            obtain rfl := Option.some.inj hf
            exact hR H locs 90 ls hP hD hS dX7_character_90
        · have hf := hf_t c_64 hf
          refine lv_lconst (pc := 67) hx hb (v := 1) dX7_character_67 (by decide) ?_
          refine lv_goto (pc := 68) hx hb (tgt := 90) dX7_character_68 (by decide) ?_
          obtain rfl := Option.some.inj hf
          exact hR H locs 90 ls hP hD hS dX7_character_90
      · have hf := hf_t c_39 hf
        refine lv_iload_n (pc := 42) hx hb dX7_character_42 rfl (lv_at hl 0 rfl) ?_
        refine lv_iconst (pc := 43) hx hb (v := 2) dX7_character_43 (by decide) ?_
        refine lv_irem (pc := 44) hx hb dX7_character_44 (by decide) ?_
        refine lv_if_ne (pc := 45) hx hb (tgt := 56) dX7_character_45 (by decide) (fun c_45 => ?_) (fun c_45 => ?_)
        · have hf := hf_f c_45 hf
          refine lv_aload_n (pc := 56) hx hb dX7_character_56 rfl (lv_at hl 1 rfl) ?_
          refine lv_iload_n (pc := 57) hx hb dX7_character_57 rfl (lv_at hl 2 rfl) ?_
          obtain ⟨r58, hc58, hf⟩ := hf_b hf
          refine cl_V (pc := 58) (As := [.int a1]) (rest := []) hx hb hml hown hts (kX7_detOf l D A B _ S a1 r58 hc58) (cwV 1 hts gwRX7_136 rfl rfl rfl hdX7_detOf ⟨Nat.le_of_ble_eq_true rfl, Nat.le_of_ble_eq_true rfl⟩) hN hK hP hD hS hA (va_recv hK hP (ci := 7) (q0 := 0) rfl (eM_0 A B _)) rfl hl.1 rfl (Nat.le_of_ble_eq_true rfl) dX7_character_58 (st1 := [.long r58]) rfl ⟨Nat.zero_le _, Nat.zero_le _⟩ (fun H locs hP hD hS => ?_)
          refine lv_lneg (pc := 61) hx hb dX7_character_61 ?_
          obtain rfl := Option.some.inj hf
          exact hR H locs 62 ls hP hD hS dX7_character_62
        · have hf := hf_t c_45 hf
          refine lv_aload_n (pc := 48) hx hb dX7_character_48 rfl (lv_at hl 1 rfl) ?_
          refine lv_iload_n (pc := 49) hx hb dX7_character_49 rfl (lv_at hl 2 rfl) ?_
          obtain ⟨r50, hc50, hf⟩ := hf_b hf
          refine cl_V (pc := 50) (As := [.int a1]) (rest := []) hx hb hml hown hts (kX7_detOf l D A B _ S a1 r50 hc50) (cwV 1 hts gwRX7_136 rfl rfl rfl hdX7_detOf ⟨Nat.le_of_ble_eq_true rfl, Nat.le_of_ble_eq_true rfl⟩) hN hK hP hD hS hA (va_recv hK hP (ci := 7) (q0 := 0) rfl (eM_0 A B _)) rfl hl.1 rfl (Nat.le_of_ble_eq_true rfl) dX7_character_50 (st1 := [.long r50]) rfl ⟨Nat.zero_le _, Nat.zero_le _⟩ (fun H locs hP hD hS => ?_)
          refine lv_goto (pc := 53) hx hb (tgt := 62) dX7_character_53 (by decide) ?_
          obtain rfl := Option.some.inj hf
          exact hR H locs 62 ls hP hD hS dX7_character_62
    · have hf := hf_t c_22 hf
      refine lv_iconst (pc := 25) hx hb (v := (-1)) dX7_character_25 (by decide) ?_
      obtain ⟨r26, hc26, hf⟩ := hf_b hf
      refine cl_S (pc := 26) (As := [.int (-1)]) (rest := []) hx hb hml hown hts (kX7_told l D A B _ S (-1) r26 hc26) (va_cwS 1 hts gwRX7_140 rfl rfl rfl hdX7_told ⟨Nat.le_of_ble_eq_true rfl, Nat.le_of_ble_eq_true rfl⟩) hN hK hP hD hS hA rfl hl.1 rfl (Nat.le_of_ble_eq_true rfl) dX7_character_26 (st1 := [.long r26]) rfl ⟨Nat.zero_le _, Nat.zero_le _⟩ (fun H locs hP hD hS => ?_)
      obtain rfl := Option.some.inj hf
      exact hR H locs 29 ls hP hD hS dX7_character_29
set_option maxHeartbeats 4000000 in
set_option maxRecDepth 100000 in
theorem kX7_feed (l : Launch) (D : va_G) (A : Nat → Nat) (B : Nat → ClassId) (sz : Nat) (S : w_S) (a1 : Int64) (a3 : Int32) (z : Int32 × w_S) (hf : fX7_feed S a1 a3 = some z) : MetW l yX7_feed (wsO yX7_feed cX7_feed 5 (some .int)) rm_X7_feed [.ref (A 0), .long a1, .int a3] D (tyB B) (wM A B S) (wM A B z.2) sz (some (.int z.1)) := by
  refine MetW.mkI (cc := cX7_feed) (maxL := 5) (by decide) (Nat.le_of_ble_eq_true rfl) ?_
  intro p e s m args below meth c Ad Q hx hb hts hown hml hN hK hA hR H locs ls hP hD hS hl
  have hl : lv_has ls 5 [(0, .ref (A 0)), (1, .long a1), (3, .int a3)] := hl
  rw [fX7_feed] at hf
  refine lv_iload_n (pc := 0) hx hb dX7_feed_0 rfl (lv_at hl 2 rfl) ?_
  refine lv_i2l (pc := 1) hx hb (v := a3.toInt64) dX7_feed_1 rfl ?_
  refine lv_lconst (pc := 2) hx hb (v := 1) dX7_feed_2 (by decide) ?_
  refine lv_ldc2 (pc := 3) hx hb (v := 8) hown (hts (.constantLong RX7 149 (8)) mU_271) dX7_feed_3 ?_
  obtain ⟨r6, hc6, hf⟩ := hf_b hf
  refine cl_S (pc := 6) (As := [.long a3.toInt64, .long 1, .long 8]) (rest := []) hx hb hml hown hts (kX7_in l D A B _ S a3.toInt64 1 8 r6 hc6) (va_cwS 3 hts gwRX7_99 rfl rfl rfl hdX7_in ⟨Nat.le_of_ble_eq_true rfl, Nat.le_of_ble_eq_true rfl⟩) hN hK hP hD hS hA rfl hl.1 rfl (Nat.le_of_ble_eq_true rfl) dX7_feed_6 (st1 := [.int r6]) rfl ⟨Nat.zero_le _, Nat.zero_le _⟩ (fun H locs hP hD hS => ?_)
  refine lv_if_ne (pc := 9) hx hb (tgt := 14) dX7_feed_9 (by decide) (fun c_9 => ?_) (fun c_9 => ?_)
  · have hf := hf_f c_9 hf
    refine lv_aload_n (pc := 14) hx hb dX7_feed_14 rfl (lv_at hl 0 rfl) ?_
    refine vMgRX7_151_0 (pc := 15) hx hb hts mU_272 inU7 hown hK hP (x := (gI S 9)) rfl dX7_feed_15 ?_
    refine lv_iload_n (pc := 18) hx hb dX7_feed_18 rfl (lv_at hl 2 rfl) ?_
    refine lv_iadd (pc := 19) hx hb dX7_feed_19 ?_
    refine lv_sipush (pc := 20) hx hb (v := 200) dX7_feed_20 (by decide) ?_
    refine lv_icmp_le (pc := 23) hx hb (tgt := 29) dX7_feed_23 (by decide) (fun c_23 => ?_) (fun c_23 => ?_)
    · have hf := hf_t c_23 hf
      refine lv_iconst (pc := 29) hx hb (v := 0) dX7_feed_29 (by decide) ?_
      refine lv_istore (pc := 30) hx hb (lv' := [(4, .int 0), (0, .ref (A 0)), (1, .long a1), (3, .int a3)]) dX7_feed_30 hl (by decide) rfl (fun ls hl => ?_)
      obtain ⟨q32, hq32, hf⟩ := hf_b hf
      have hk32 : ∀ (H : Heap) (locs : List Loc) (ls : Array Slot), va_P D vwCl (wM A B q32) H → va_D Ad (wM A B q32) → va_S Ad s.heap H locs → lv_has ls 5 [(0, .ref (A 0))] → W p l e rm_X7_feed s m args below meth c H locs 0 0 Q (F0 m 72 ls []) := by
        intro H locs ls hP hD hS hl
        refine lv_aload_n (pc := 72) hx hb dX7_feed_72 rfl (lv_at hl 0 rfl) ?_
        refine vMgRX7_151_0 (pc := 73) hx hb hts mU_272 inU7 hown hK hP (x := (gI q32 9)) rfl dX7_feed_73 ?_
        obtain rfl := Option.some.inj hf
        exact hR H locs 76 ls hP hD hS dX7_feed_76
      have lp32 : ∀ (n : Nat) (T32 : w_S) (u4_32 : Int32) (H : Heap) (locs : List Loc) (ls : Array Slot), fX7_feed_L32 a1 a3 n T32 u4_32 = some q32 → va_P D vwCl (wM A B T32) H → va_D Ad (wM A B T32) → va_S Ad s.heap H locs → lv_has ls 5 [(0, .ref (A 0)), (1, .long a1), (3, .int a3), (4, .int u4_32)] → W p l e rm_X7_feed s m args below meth c H locs 0 0 Q (F0 m 32 ls []) := by
        intro n32
        induction n32 with
        | zero => intro T32 u4_32 H locs ls hq32; exact hf_0 hq32
        | succ n32 ih32 =>
          intro T32 u4_32 H locs ls hq32 hP hD hS hl
          rw [fX7_feed_L32] at hq32
          refine lv_iload (pc := 32) hx hb dX7_feed_32 (lv_at hl 3 rfl) ?_
          refine lv_iload_n (pc := 34) hx hb dX7_feed_34 rfl (lv_at hl 2 rfl) ?_
          refine lv_icmp_ge (pc := 35) hx hb (tgt := 72) dX7_feed_35 (by decide) (fun c_35 => ?_) (fun c_35 => ?_)
          · have hq32 := hf_t c_35 hq32
            obtain rfl := Option.some.inj hq32
            exact hk32 H locs ls hP hD hS (lv_sub hl [0] rfl)
          · have hq32 := hf_f c_35 hq32
            refine lv_aload_n (pc := 38) hx hb dX7_feed_38 rfl (lv_at hl 0 rfl) ?_
            refine vMgRX7_41_0 (pc := 39) hx hb hts mU_91 inU7 hown hK hP dX7_feed_39 ?_
            refine lv_aload_n (pc := 42) hx hb dX7_feed_42 rfl (lv_at hl 0 rfl) ?_
            refine vMgRX7_151_0 (pc := 43) hx hb hts mU_272 inU7 hown hK hP (x := (gI T32 9)) rfl dX7_feed_43 ?_
            refine lv_lload_n (pc := 46) hx hb dX7_feed_46 rfl (lv_at hl 1 rfl) ?_
            refine lv_bipush (pc := 47) hx hb (v := 8) dX7_feed_47 (by decide) ?_
            refine lv_iload (pc := 49) hx hb dX7_feed_49 (lv_at hl 3 rfl) ?_
            refine lv_imul (pc := 51) hx hb dX7_feed_51 ?_
            refine lv_lushr (pc := 52) hx hb (v := (a1.toUInt64 >>> ((8 * u4_32).toInt64.toUInt64 &&& Int64.toUInt64 63)).toInt64) dX7_feed_52 rfl ?_
            refine lv_l2i (pc := 53) hx hb (v := ((a1.toUInt64 >>> ((8 * u4_32).toInt64.toUInt64 &&& Int64.toUInt64 63)).toInt64).toInt32) dX7_feed_53 rfl ?_
            refine lv_i2b (pc := 54) hx hb (v := (((a1.toUInt64 >>> ((8 * u4_32).toInt64.toUInt64 &&& Int64.toUInt64 63)).toInt64).toInt32).toInt8.toInt32) dX7_feed_54 rfl ?_
            obtain ⟨hg55, hq32⟩ := hf_g hq32
            refine vMwa_8 (pc := 55) hx hb hK hP hD hS (f := (gA T32 7)) rfl hg55 dX7_feed_55 (fun H locs hP hD hS => ?_)
            refine lv_aload_n (pc := 56) hx hb dX7_feed_56 rfl (lv_at hl 0 rfl) ?_
            refine lv_dup (pc := 57) hx hb dX7_feed_57 rfl ?_
            refine vMgRX7_151_0 (pc := 58) hx hb hts mU_272 inU7 hown hK hP (x := (gI T32 9)) rfl dX7_feed_58 ?_
            refine lv_iconst (pc := 61) hx hb (v := 1) dX7_feed_61 (by decide) ?_
            refine lv_iadd (pc := 62) hx hb dX7_feed_62 ?_
            refine vMpRX7_151_0 (pc := 63) hx hb hts mU_272 inU7 hown hK hP hD hS dX7_feed_63 (fun H locs hP hD hS => ?_)
            refine lv_iinc (pc := 66) hx hb (v := u4_32 + 1) (lv' := [(4, .int (u4_32 + 1)), (0, .ref (A 0)), (1, .long a1), (3, .int a3)]) dX7_feed_66 hl (k := 3) rfl rfl (by decide) rfl (fun ls hl => ?_)
            refine lv_goto (pc := 69) hx hb (tgt := 32) dX7_feed_69 (by decide) ?_
            exact ih32 (sI (sA T32 7 (upd (gA T32 7) (gI T32 9).toNatClampNeg (vp_nar .byte ((((a1.toUInt64 >>> ((8 * u4_32).toInt64.toUInt64 &&& Int64.toUInt64 63)).toInt64).toInt32).toInt8.toInt32)))) 9 ((gI T32 9) + 1)) (u4_32 + 1) H locs ls hq32 hP hD hS (lv_sub hl [1, 2, 3, 0] rfl)
      exact lp32 256 S 0 H locs ls hq32 hP hD hS (lv_sub hl [1, 2, 3, 0] rfl)
    · have hf := hf_f c_23 hf
      refine lv_bipush (pc := 26) hx hb (v := (-2)) dX7_feed_26 (by decide) ?_
      obtain rfl := Option.some.inj hf
      exact hR H locs 28 ls hP hD hS dX7_feed_28
  · have hf := hf_t c_9 hf
    refine lv_iconst (pc := 12) hx hb (v := (-1)) dX7_feed_12 (by decide) ?_
    obtain rfl := Option.some.inj hf
    exact hR H locs 13 ls hP hD hS dX7_feed_13
set_option maxHeartbeats 4000000 in
set_option maxRecDepth 100000 in
theorem kX7_isDigit (l : Launch) (D : va_G) (A : Nat → Nat) (B : Nat → ClassId) (sz : Nat) (S : w_S) (a0 : Int32) (z : Int32) (hf : fX7_isDigit a0 = some z) : MetW l yX7_isDigit (wsO yX7_isDigit cX7_isDigit 1 (some .boolean)) rm_X7_isDigit [.int a0] D (tyB B) (wM A B S) (wM A B S) sz (some (.int z)) := by
  refine MetW.mkZ (cc := cX7_isDigit) (maxL := 1) (by decide) (Nat.le_of_ble_eq_true rfl) ?_
  intro p e s m args below meth c Ad Q hx hb hts hown hml hN hK hA hR H locs ls hP hD hS hl
  have hl : lv_has ls 1 [(0, .int a0)] := hl
  rw [fX7_isDigit] at hf
  refine lv_iload_n (pc := 0) hx hb dX7_isDigit_0 rfl (lv_at hl 0 rfl) ?_
  refine lv_bipush (pc := 1) hx hb (v := 48) dX7_isDigit_1 (by decide) ?_
  refine lv_icmp_lt (pc := 3) hx hb (tgt := 16) dX7_isDigit_3 (by decide) (fun c_3 => ?_) (fun c_3 => ?_)
  · have hf := hf_t c_3 hf
    refine lv_iconst (pc := 16) hx hb (v := 0) dX7_isDigit_16 (by decide) ?_
    obtain rfl := Option.some.inj hf
    exact hR H locs 17 ls hP hD hS (nz_of (.inl rfl)) dX7_isDigit_17
  · have hf := hf_f c_3 hf
    refine lv_iload_n (pc := 6) hx hb dX7_isDigit_6 rfl (lv_at hl 0 rfl) ?_
    refine lv_bipush (pc := 7) hx hb (v := 57) dX7_isDigit_7 (by decide) ?_
    refine lv_icmp_gt (pc := 9) hx hb (tgt := 16) dX7_isDigit_9 (by decide) (fun c_9 => ?_) (fun c_9 => ?_)
    · have hf := hf_t c_9 hf
      refine lv_iconst (pc := 16) hx hb (v := 0) dX7_isDigit_16 (by decide) ?_
      obtain rfl := Option.some.inj hf
      exact hR H locs 17 ls hP hD hS (nz_of (.inl rfl)) dX7_isDigit_17
    · have hf := hf_f c_9 hf
      refine lv_iconst (pc := 12) hx hb (v := 1) dX7_isDigit_12 (by decide) ?_
      refine lv_goto (pc := 13) hx hb (tgt := 17) dX7_isDigit_13 (by decide) ?_
      obtain rfl := Option.some.inj hf
      exact hR H locs 17 ls hP hD hS (nz_of (.inr rfl)) dX7_isDigit_17
set_option maxHeartbeats 4000000 in
set_option maxRecDepth 100000 in
theorem kX7_isLetter (l : Launch) (D : va_G) (A : Nat → Nat) (B : Nat → ClassId) (sz : Nat) (S : w_S) (a0 : Int32) (z : Int32) (hf : fX7_isLetter a0 = some z) : MetW l yX7_isLetter (wsO yX7_isLetter cX7_isLetter 1 (some .boolean)) rm_X7_isLetter [.int a0] D (tyB B) (wM A B S) (wM A B S) sz (some (.int z)) := by
  refine MetW.mkZ (cc := cX7_isLetter) (maxL := 1) (by decide) (Nat.le_of_ble_eq_true rfl) ?_
  intro p e s m args below meth c Ad Q hx hb hts hown hml hN hK hA hR H locs ls hP hD hS hl
  have hl : lv_has ls 1 [(0, .int a0)] := hl
  rw [fX7_isLetter] at hf
  refine lv_iload_n (pc := 0) hx hb dX7_isLetter_0 rfl (lv_at hl 0 rfl) ?_
  refine lv_bipush (pc := 1) hx hb (v := 97) dX7_isLetter_1 (by decide) ?_
  refine lv_icmp_lt (pc := 3) hx hb (tgt := 16) dX7_isLetter_3 (by decide) (fun c_3 => ?_) (fun c_3 => ?_)
  · have hf := hf_t c_3 hf
    refine lv_iconst (pc := 16) hx hb (v := 0) dX7_isLetter_16 (by decide) ?_
    obtain rfl := Option.some.inj hf
    exact hR H locs 17 ls hP hD hS (nz_of (.inl rfl)) dX7_isLetter_17
  · have hf := hf_f c_3 hf
    refine lv_iload_n (pc := 6) hx hb dX7_isLetter_6 rfl (lv_at hl 0 rfl) ?_
    refine lv_bipush (pc := 7) hx hb (v := 122) dX7_isLetter_7 (by decide) ?_
    refine lv_icmp_gt (pc := 9) hx hb (tgt := 16) dX7_isLetter_9 (by decide) (fun c_9 => ?_) (fun c_9 => ?_)
    · have hf := hf_t c_9 hf
      refine lv_iconst (pc := 16) hx hb (v := 0) dX7_isLetter_16 (by decide) ?_
      obtain rfl := Option.some.inj hf
      exact hR H locs 17 ls hP hD hS (nz_of (.inl rfl)) dX7_isLetter_17
    · have hf := hf_f c_9 hf
      refine lv_iconst (pc := 12) hx hb (v := 1) dX7_isLetter_12 (by decide) ?_
      refine lv_goto (pc := 13) hx hb (tgt := 17) dX7_isLetter_13 (by decide) ?_
      obtain rfl := Option.some.inj hf
      exact hR H locs 17 ls hP hD hS (nz_of (.inr rfl)) dX7_isLetter_17
set_option maxHeartbeats 4000000 in
set_option maxRecDepth 100000 in
theorem kX7_next (l : Launch) (D : va_G) (A : Nat → Nat) (B : Nat → ClassId) (sz : Nat) (S : w_S) (z : w_S) (hf : fX7_next S = some z) : MetW l yX7_next (wsO yX7_next cX7_next 3 none) rm_X7_next [.ref (A 0)] D (tyB B) (wM A B S) (wM A B z) sz (none) := by
  refine MetW.mkV (cc := cX7_next) (maxL := 3) (by decide) (Nat.le_of_ble_eq_true rfl) ?_
  intro p e s m args below meth c Ad Q hx hb hts hown hml hN hK hA hR H locs ls hP hD hS hl
  have hl : lv_has ls 3 [(0, .ref (A 0))] := hl
  rw [fX7_next] at hf
  refine lv_aload_n (pc := 0) hx hb dX7_next_0 rfl (lv_at hl 0 rfl) ?_
  refine lv_aload_n (pc := 1) hx hb dX7_next_1 rfl (lv_at hl 0 rfl) ?_
  refine vMgRX7_154_0 (pc := 2) hx hb hts mU_326 inU7 hown hK hP (x := (gI S 11)) rfl dX7_next_2 ?_
  refine vMpRX7_157_0 (pc := 5) hx hb hts mU_329 inU7 hown hK hP hD hS dX7_next_5 (fun H locs hP hD hS => ?_)
  obtain ⟨q8, hq8, hf⟩ := hf_b hf
  have hk8 : ∀ (H : Heap) (locs : List Loc) (ls : Array Slot), va_P D vwCl (wM A B q8) H → va_D Ad (wM A B q8) → va_S Ad s.heap H locs → lv_has ls 3 [(0, .ref (A 0))] → W p l e rm_X7_next s m args below meth c H locs 0 0 Q (F0 m 46 ls []) := by
    intro H locs ls hP hD hS hl
    refine lv_aload_n (pc := 46) hx hb dX7_next_46 rfl (lv_at hl 0 rfl) ?_
    refine lv_aload_n (pc := 47) hx hb dX7_next_47 rfl (lv_at hl 0 rfl) ?_
    refine vMgRX7_157_0 (pc := 48) hx hb hts mU_329 inU7 hown hK hP (x := (gI q8 10)) rfl dX7_next_48 ?_
    refine vMpRX7_154_0 (pc := 51) hx hb hts mU_326 inU7 hown hK hP hD hS dX7_next_51 (fun H locs hP hD hS => ?_)
    refine lv_aload_n (pc := 54) hx hb dX7_next_54 rfl (lv_at hl 0 rfl) ?_
    refine vMgRX7_157_0 (pc := 55) hx hb hts mU_329 inU7 hown hK hP (x := (gI q8 10)) rfl dX7_next_55 ?_
    refine lv_aload_n (pc := 58) hx hb dX7_next_58 rfl (lv_at hl 0 rfl) ?_
    refine vMgRX7_151_0 (pc := 59) hx hb hts mU_272 inU7 hown hK hP (x := (gI q8 9)) rfl dX7_next_59 ?_
    refine lv_icmp_ne (pc := 62) hx hb (tgt := 66) dX7_next_62 (by decide) (fun c_62 => ?_) (fun c_62 => ?_)
    · have hf := hf_f c_62 hf
      refine lv_aload_n (pc := 66) hx hb dX7_next_66 rfl (lv_at hl 0 rfl) ?_
      refine lv_dup (pc := 67) hx hb dX7_next_67 rfl ?_
      refine vMgRX7_154_0 (pc := 68) hx hb hts mU_326 inU7 hown hK hP (x := (gI q8 10)) rfl dX7_next_68 ?_
      refine lv_iconst (pc := 71) hx hb (v := 1) dX7_next_71 (by decide) ?_
      refine lv_iadd (pc := 72) hx hb dX7_next_72 ?_
      refine vMpRX7_154_0 (pc := 73) hx hb hts mU_326 inU7 hown hK hP hD hS dX7_next_73 (fun H locs hP hD hS => ?_)
      refine lv_aload_n (pc := 76) hx hb dX7_next_76 rfl (lv_at hl 0 rfl) ?_
      refine vMgRX7_41_0 (pc := 77) hx hb hts mU_91 inU7 hown hK hP dX7_next_77 ?_
      refine lv_aload_n (pc := 80) hx hb dX7_next_80 rfl (lv_at hl 0 rfl) ?_
      refine vMgRX7_157_0 (pc := 81) hx hb hts mU_329 inU7 hown hK hP (x := (gI q8 10)) rfl dX7_next_81 ?_
      obtain ⟨hg84, hf⟩ := hf_g hf
      refine vMra_8 (pc := 84) hx hb hK hP (f := (gA q8 7)) rfl hg84 dX7_next_84 ?_
      obtain ⟨r85, hc85, hf⟩ := hf_b hf
      refine cl_S (pc := 85) (As := [.int ((gA q8 7) (gI q8 10).toNatClampNeg)]) (rest := []) hx hb hml hown hts (kX7_isLetter l D A B _ (sI (sI q8 11 (gI q8 10)) 11 ((gI q8 10) + 1)) ((gA q8 7) (gI q8 10).toNatClampNeg) r85 hc85) (va_cwS 1 hts gwRX7_160 rfl rfl rfl hdX7_isLetter ⟨Nat.le_of_ble_eq_true rfl, Nat.le_of_ble_eq_true rfl⟩) hN hK hP hD hS hA rfl hl.1 rfl (Nat.le_of_ble_eq_true rfl) dX7_next_85 (st1 := [.int r85]) rfl ⟨Nat.zero_le _, Nat.zero_le _⟩ (fun H locs hP hD hS => ?_)
      refine lv_istore_n (pc := 88) hx hb (lv' := [(1, .int r85), (0, .ref (A 0))]) dX7_next_88 rfl hl (by decide) rfl (fun ls hl => ?_)
      refine lv_aload_n (pc := 89) hx hb dX7_next_89 rfl (lv_at hl 1 rfl) ?_
      refine vMgRX7_41_0 (pc := 90) hx hb hts mU_91 inU7 hown hK hP dX7_next_90 ?_
      refine lv_aload_n (pc := 93) hx hb dX7_next_93 rfl (lv_at hl 1 rfl) ?_
      refine vMgRX7_157_0 (pc := 94) hx hb hts mU_329 inU7 hown hK hP (x := (gI q8 10)) rfl dX7_next_94 ?_
      obtain ⟨hg97, hf⟩ := hf_g hf
      refine vMra_8 (pc := 97) hx hb hK hP (f := (gA q8 7)) rfl hg97 dX7_next_97 ?_
      obtain ⟨r98, hc98, hf⟩ := hf_b hf
      refine cl_S (pc := 98) (As := [.int ((gA q8 7) (gI q8 10).toNatClampNeg)]) (rest := []) hx hb hml hown hts (kX7_isDigit l D A B _ (sI (sI q8 11 (gI q8 10)) 11 ((gI q8 10) + 1)) ((gA q8 7) (gI q8 10).toNatClampNeg) r98 hc98) (va_cwS 1 hts gwRX7_164 rfl rfl rfl hdX7_isDigit ⟨Nat.le_of_ble_eq_true rfl, Nat.le_of_ble_eq_true rfl⟩) hN hK hP hD hS hA rfl hl.1 rfl (Nat.le_of_ble_eq_true rfl) dX7_next_98 (st1 := [.int r98]) rfl ⟨Nat.zero_le _, Nat.zero_le _⟩ (fun H locs hP hD hS => ?_)
      refine lv_istore_n (pc := 101) hx hb (lv' := [(2, .int r98), (1, .int r85), (0, .ref (A 0))]) dX7_next_101 rfl hl (by decide) rfl (fun ls hl => ?_)
      obtain ⟨q102, hq102, hf⟩ := hf_b hf
      have hk102 : ∀ (H : Heap) (locs : List Loc) (ls : Array Slot), va_P D vwCl (wM A B q102) H → va_D Ad (wM A B q102) → va_S Ad s.heap H locs → lv_has ls 3 [] → W p l e rm_X7_next s m args below meth c H locs 0 0 Q (F0 m 164 ls []) := by
        intro H locs ls hP hD hS hl
        obtain rfl := Option.some.inj hf
        exact hR H locs 164 ls hP hD hS dX7_next_164
      have lp102 : ∀ (n : Nat) (T102 : w_S) (H : Heap) (locs : List Loc) (ls : Array Slot), fX7_next_L102 r85 r98 n T102 = some q102 → va_P D vwCl (wM A B T102) H → va_D Ad (wM A B T102) → va_S Ad s.heap H locs → lv_has ls 3 [(0, .ref (A 0)), (1, .int r85), (2, .int r98)] → W p l e rm_X7_next s m args below meth c H locs 0 0 Q (F0 m 102 ls []) := by
        intro n102
        induction n102 with
        | zero => intro T102 H locs ls hq102; exact hf_0 hq102
        | succ n102 ih102 =>
          intro T102 H locs ls hq102 hP hD hS hl
          rw [fX7_next_L102] at hq102
          refine lv_aload_n (pc := 102) hx hb dX7_next_102 rfl (lv_at hl 0 rfl) ?_
          refine vMgRX7_154_0 (pc := 103) hx hb hts mU_326 inU7 hown hK hP (x := (gI T102 11)) rfl dX7_next_103 ?_
          refine lv_aload_n (pc := 106) hx hb dX7_next_106 rfl (lv_at hl 0 rfl) ?_
          refine vMgRX7_151_0 (pc := 107) hx hb hts mU_272 inU7 hown hK hP (x := (gI T102 9)) rfl dX7_next_107 ?_
          refine lv_icmp_ge (pc := 110) hx hb (tgt := 164) dX7_next_110 (by decide) (fun c_110 => ?_) (fun c_110 => ?_)
          · have hq102 := hf_t c_110 hq102
            obtain rfl := Option.some.inj hq102
            exact hk102 H locs ls hP hD hS (lv_sub hl [] rfl)
          · have hq102 := hf_f c_110 hq102
            refine lv_iload_n (pc := 113) hx hb dX7_next_113 rfl (lv_at hl 1 rfl) ?_
            refine lv_if_eq (pc := 114) hx hb (tgt := 132) dX7_next_114 (by decide) (fun c_114 => ?_) (fun c_114 => ?_)
            · have hq102 := hf_t c_114 hq102
              refine lv_iload_n (pc := 132) hx hb dX7_next_132 rfl (lv_at hl 2 rfl) ?_
              refine lv_if_eq (pc := 133) hx hb (tgt := 164) dX7_next_133 (by decide) (fun c_133 => ?_) (fun c_133 => ?_)
              · have hq102 := hf_t c_133 hq102
                obtain rfl := Option.some.inj hq102
                exact hk102 H locs ls hP hD hS (lv_sub hl [] rfl)
              · have hq102 := hf_f c_133 hq102
                refine lv_aload_n (pc := 136) hx hb dX7_next_136 rfl (lv_at hl 0 rfl) ?_
                refine vMgRX7_41_0 (pc := 137) hx hb hts mU_91 inU7 hown hK hP dX7_next_137 ?_
                refine lv_aload_n (pc := 140) hx hb dX7_next_140 rfl (lv_at hl 0 rfl) ?_
                refine vMgRX7_154_0 (pc := 141) hx hb hts mU_326 inU7 hown hK hP (x := (gI T102 11)) rfl dX7_next_141 ?_
                obtain ⟨hg144, hq102⟩ := hf_g hq102
                refine vMra_8 (pc := 144) hx hb hK hP (f := (gA T102 7)) rfl hg144 dX7_next_144 ?_
                obtain ⟨r145, hc145, hq102⟩ := hf_b hq102
                refine cl_S (pc := 145) (As := [.int ((gA T102 7) (gI T102 11).toNatClampNeg)]) (rest := []) hx hb hml hown hts (kX7_isDigit l D A B _ T102 ((gA T102 7) (gI T102 11).toNatClampNeg) r145 hc145) (va_cwS 1 hts gwRX7_164 rfl rfl rfl hdX7_isDigit ⟨Nat.le_of_ble_eq_true rfl, Nat.le_of_ble_eq_true rfl⟩) hN hK hP hD hS hA rfl hl.1 rfl (Nat.le_of_ble_eq_true rfl) dX7_next_145 (st1 := [.int r145]) rfl ⟨Nat.zero_le _, Nat.zero_le _⟩ (fun H locs hP hD hS => ?_)
                refine lv_if_eq (pc := 148) hx hb (tgt := 164) dX7_next_148 (by decide) (fun c_148 => ?_) (fun c_148 => ?_)
                · have hq102 := hf_t c_148 hq102
                  obtain rfl := Option.some.inj hq102
                  exact hk102 H locs ls hP hD hS (lv_sub hl [] rfl)
                · have hq102 := hf_f c_148 hq102
                  refine lv_aload_n (pc := 151) hx hb dX7_next_151 rfl (lv_at hl 0 rfl) ?_
                  refine lv_dup (pc := 152) hx hb dX7_next_152 rfl ?_
                  refine vMgRX7_154_0 (pc := 153) hx hb hts mU_326 inU7 hown hK hP (x := (gI T102 11)) rfl dX7_next_153 ?_
                  refine lv_iconst (pc := 156) hx hb (v := 1) dX7_next_156 (by decide) ?_
                  refine lv_iadd (pc := 157) hx hb dX7_next_157 ?_
                  refine vMpRX7_154_0 (pc := 158) hx hb hts mU_326 inU7 hown hK hP hD hS dX7_next_158 (fun H locs hP hD hS => ?_)
                  refine lv_goto (pc := 161) hx hb (tgt := 102) dX7_next_161 (by decide) ?_
                  exact ih102 (sI T102 11 ((gI T102 11) + 1)) H locs ls hq102 hP hD hS (lv_sub hl [0, 1, 2] rfl)
            · have hq102 := hf_f c_114 hq102
              refine lv_aload_n (pc := 117) hx hb dX7_next_117 rfl (lv_at hl 0 rfl) ?_
              refine vMgRX7_41_0 (pc := 118) hx hb hts mU_91 inU7 hown hK hP dX7_next_118 ?_
              refine lv_aload_n (pc := 121) hx hb dX7_next_121 rfl (lv_at hl 0 rfl) ?_
              refine vMgRX7_154_0 (pc := 122) hx hb hts mU_326 inU7 hown hK hP (x := (gI T102 11)) rfl dX7_next_122 ?_
              obtain ⟨hg125, hq102⟩ := hf_g hq102
              refine vMra_8 (pc := 125) hx hb hK hP (f := (gA T102 7)) rfl hg125 dX7_next_125 ?_
              obtain ⟨r126, hc126, hq102⟩ := hf_b hq102
              refine cl_S (pc := 126) (As := [.int ((gA T102 7) (gI T102 11).toNatClampNeg)]) (rest := []) hx hb hml hown hts (kX7_isLetter l D A B _ T102 ((gA T102 7) (gI T102 11).toNatClampNeg) r126 hc126) (va_cwS 1 hts gwRX7_160 rfl rfl rfl hdX7_isLetter ⟨Nat.le_of_ble_eq_true rfl, Nat.le_of_ble_eq_true rfl⟩) hN hK hP hD hS hA rfl hl.1 rfl (Nat.le_of_ble_eq_true rfl) dX7_next_126 (st1 := [.int r126]) rfl ⟨Nat.zero_le _, Nat.zero_le _⟩ (fun H locs hP hD hS => ?_)
              refine lv_if_ne (pc := 129) hx hb (tgt := 151) dX7_next_129 (by decide) (fun c_129 => ?_) (fun c_129 => ?_)
              · have hq102 := hf_f c_129 hq102
                refine lv_aload_n (pc := 151) hx hb dX7_next_151 rfl (lv_at hl 0 rfl) ?_
                refine lv_dup (pc := 152) hx hb dX7_next_152 rfl ?_
                refine vMgRX7_154_0 (pc := 153) hx hb hts mU_326 inU7 hown hK hP (x := (gI T102 11)) rfl dX7_next_153 ?_
                refine lv_iconst (pc := 156) hx hb (v := 1) dX7_next_156 (by decide) ?_
                refine lv_iadd (pc := 157) hx hb dX7_next_157 ?_
                refine vMpRX7_154_0 (pc := 158) hx hb hts mU_326 inU7 hown hK hP hD hS dX7_next_158 (fun H locs hP hD hS => ?_)
                refine lv_goto (pc := 161) hx hb (tgt := 102) dX7_next_161 (by decide) ?_
                exact ih102 (sI T102 11 ((gI T102 11) + 1)) H locs ls hq102 hP hD hS (lv_sub hl [0, 1, 2] rfl)
              · have hq102 := hf_t c_129 hq102
                refine lv_iload_n (pc := 132) hx hb dX7_next_132 rfl (lv_at hl 2 rfl) ?_
                refine lv_if_eq (pc := 133) hx hb (tgt := 164) dX7_next_133 (by decide) (fun c_133 => ?_) (fun c_133 => ?_)
                · have hq102 := hf_t c_133 hq102
                  obtain rfl := Option.some.inj hq102
                  exact hk102 H locs ls hP hD hS (lv_sub hl [] rfl)
                · have hq102 := hf_f c_133 hq102
                  refine lv_aload_n (pc := 136) hx hb dX7_next_136 rfl (lv_at hl 0 rfl) ?_
                  refine vMgRX7_41_0 (pc := 137) hx hb hts mU_91 inU7 hown hK hP dX7_next_137 ?_
                  refine lv_aload_n (pc := 140) hx hb dX7_next_140 rfl (lv_at hl 0 rfl) ?_
                  refine vMgRX7_154_0 (pc := 141) hx hb hts mU_326 inU7 hown hK hP (x := (gI T102 11)) rfl dX7_next_141 ?_
                  obtain ⟨hg144, hq102⟩ := hf_g hq102
                  refine vMra_8 (pc := 144) hx hb hK hP (f := (gA T102 7)) rfl hg144 dX7_next_144 ?_
                  obtain ⟨r145, hc145, hq102⟩ := hf_b hq102
                  refine cl_S (pc := 145) (As := [.int ((gA T102 7) (gI T102 11).toNatClampNeg)]) (rest := []) hx hb hml hown hts (kX7_isDigit l D A B _ T102 ((gA T102 7) (gI T102 11).toNatClampNeg) r145 hc145) (va_cwS 1 hts gwRX7_164 rfl rfl rfl hdX7_isDigit ⟨Nat.le_of_ble_eq_true rfl, Nat.le_of_ble_eq_true rfl⟩) hN hK hP hD hS hA rfl hl.1 rfl (Nat.le_of_ble_eq_true rfl) dX7_next_145 (st1 := [.int r145]) rfl ⟨Nat.zero_le _, Nat.zero_le _⟩ (fun H locs hP hD hS => ?_)
                  refine lv_if_eq (pc := 148) hx hb (tgt := 164) dX7_next_148 (by decide) (fun c_148 => ?_) (fun c_148 => ?_)
                  · have hq102 := hf_t c_148 hq102
                    obtain rfl := Option.some.inj hq102
                    exact hk102 H locs ls hP hD hS (lv_sub hl [] rfl)
                  · have hq102 := hf_f c_148 hq102
                    refine lv_aload_n (pc := 151) hx hb dX7_next_151 rfl (lv_at hl 0 rfl) ?_
                    refine lv_dup (pc := 152) hx hb dX7_next_152 rfl ?_
                    refine vMgRX7_154_0 (pc := 153) hx hb hts mU_326 inU7 hown hK hP (x := (gI T102 11)) rfl dX7_next_153 ?_
                    refine lv_iconst (pc := 156) hx hb (v := 1) dX7_next_156 (by decide) ?_
                    refine lv_iadd (pc := 157) hx hb dX7_next_157 ?_
                    refine vMpRX7_154_0 (pc := 158) hx hb hts mU_326 inU7 hown hK hP hD hS dX7_next_158 (fun H locs hP hD hS => ?_)
                    refine lv_goto (pc := 161) hx hb (tgt := 102) dX7_next_161 (by decide) ?_
                    exact ih102 (sI T102 11 ((gI T102 11) + 1)) H locs ls hq102 hP hD hS (lv_sub hl [0, 1, 2] rfl)
      exact lp102 256 (sI (sI q8 11 (gI q8 10)) 11 ((gI q8 10) + 1)) H locs ls hq102 hP hD hS (lv_sub hl [2, 1, 0] rfl)
    · have hf := hf_t c_62 hf
      obtain rfl := Option.some.inj hf
      exact hR H locs 65 ls hP hD hS dX7_next_65
  have lp8 : ∀ (n : Nat) (T8 : w_S) (H : Heap) (locs : List Loc) (ls : Array Slot), fX7_next_L8  n T8 = some q8 → va_P D vwCl (wM A B T8) H → va_D Ad (wM A B T8) → va_S Ad s.heap H locs → lv_has ls 3 [(0, .ref (A 0))] → W p l e rm_X7_next s m args below meth c H locs 0 0 Q (F0 m 8 ls []) := by
    intro n8
    induction n8 with
    | zero => intro T8 H locs ls hq8; exact hf_0 hq8
    | succ n8 ih8 =>
      intro T8 H locs ls hq8 hP hD hS hl
      rw [fX7_next_L8] at hq8
      refine lv_aload_n (pc := 8) hx hb dX7_next_8 rfl (lv_at hl 0 rfl) ?_
      refine vMgRX7_157_0 (pc := 9) hx hb hts mU_329 inU7 hown hK hP (x := (gI T8 10)) rfl dX7_next_9 ?_
      refine lv_aload_n (pc := 12) hx hb dX7_next_12 rfl (lv_at hl 0 rfl) ?_
      refine vMgRX7_151_0 (pc := 13) hx hb hts mU_272 inU7 hown hK hP (x := (gI T8 9)) rfl dX7_next_13 ?_
      refine lv_icmp_ge (pc := 16) hx hb (tgt := 46) dX7_next_16 (by decide) (fun c_16 => ?_) (fun c_16 => ?_)
      · have hq8 := hf_t c_16 hq8
        obtain rfl := Option.some.inj hq8
        exact hk8 H locs ls hP hD hS (lv_sub hl [0] rfl)
      · have hq8 := hf_f c_16 hq8
        refine lv_aload_n (pc := 19) hx hb dX7_next_19 rfl (lv_at hl 0 rfl) ?_
        refine vMgRX7_41_0 (pc := 20) hx hb hts mU_91 inU7 hown hK hP dX7_next_20 ?_
        refine lv_aload_n (pc := 23) hx hb dX7_next_23 rfl (lv_at hl 0 rfl) ?_
        refine vMgRX7_157_0 (pc := 24) hx hb hts mU_329 inU7 hown hK hP (x := (gI T8 10)) rfl dX7_next_24 ?_
        obtain ⟨hg27, hq8⟩ := hf_g hq8
        refine vMra_8 (pc := 27) hx hb hK hP (f := (gA T8 7)) rfl hg27 dX7_next_27 ?_
        refine lv_bipush (pc := 28) hx hb (v := 32) dX7_next_28 (by decide) ?_
        refine lv_icmp_ne (pc := 30) hx hb (tgt := 46) dX7_next_30 (by decide) (fun c_30 => ?_) (fun c_30 => ?_)
        · have hq8 := hf_f c_30 hq8
          obtain rfl := Option.some.inj hq8
          exact hk8 H locs ls hP hD hS (lv_sub hl [0] rfl)
        · have hq8 := hf_t c_30 hq8
          refine lv_aload_n (pc := 33) hx hb dX7_next_33 rfl (lv_at hl 0 rfl) ?_
          refine lv_dup (pc := 34) hx hb dX7_next_34 rfl ?_
          refine vMgRX7_157_0 (pc := 35) hx hb hts mU_329 inU7 hown hK hP (x := (gI T8 10)) rfl dX7_next_35 ?_
          refine lv_iconst (pc := 38) hx hb (v := 1) dX7_next_38 (by decide) ?_
          refine lv_iadd (pc := 39) hx hb dX7_next_39 ?_
          refine vMpRX7_157_0 (pc := 40) hx hb hts mU_329 inU7 hown hK hP hD hS dX7_next_40 (fun H locs hP hD hS => ?_)
          refine lv_goto (pc := 43) hx hb (tgt := 8) dX7_next_43 (by decide) ?_
          exact ih8 (sI T8 10 ((gI T8 10) + 1)) H locs ls hq8 hP hD hS (lv_sub hl [0] rfl)
  exact lp8 256 (sI S 10 (gI S 11)) H locs ls hq8 hP hD hS (lv_sub hl [0] rfl)
set_option maxHeartbeats 4000000 in
set_option maxRecDepth 100000 in
theorem kX7_saves_1_3 (l : Launch) (D : va_G) (A : Nat → Nat) (B : Nat → ClassId) (sz : Nat) (S : w_S) (z : w_S) (hf : fX7_saves_1_3 S = some z) : MetW l yX7_saves (wsO yX7_saves cX7_saves 4 none) rm_X7_saves [.ref (A 0), .ref (A 1), .ref (A 3)] D (tyB B) (wM A B S) (wM A B z) sz (none) := by
  refine MetW.mkV (cc := cX7_saves) (maxL := 4) (by decide) (Nat.le_of_ble_eq_true rfl) ?_
  intro p e s m args below meth c Ad Q hx hb hts hown hml hN hK hA hR H locs ls hP hD hS hl
  have hl : lv_has ls 4 [(0, .ref (A 0)), (1, .ref (A 1)), (2, .ref (A 3))] := hl
  rw [fX7_saves_1_3] at hf
  refine lv_iconst (pc := 0) hx hb (v := 0) dX7_saves_0 (by decide) ?_
  refine lv_istore_n (pc := 1) hx hb (lv' := [(3, .int 0), (0, .ref (A 0)), (1, .ref (A 1)), (2, .ref (A 3))]) dX7_saves_1 rfl hl (by decide) rfl (fun ls hl => ?_)
  obtain ⟨q2, hq2, hf⟩ := hf_b hf
  have hk2 : ∀ (H : Heap) (locs : List Loc) (ls : Array Slot), va_P D vwCl (wM A B q2) H → va_D Ad (wM A B q2) → va_S Ad s.heap H locs → lv_has ls 4 [] → W p l e rm_X7_saves s m args below meth c H locs 0 0 Q (F0 m 20 ls []) := by
    intro H locs ls hP hD hS hl
    obtain rfl := Option.some.inj hf
    exact hR H locs 20 ls hP hD hS dX7_saves_20
  have lp2 : ∀ (n : Nat) (T2 : w_S) (u3_2 : Int32) (H : Heap) (locs : List Loc) (ls : Array Slot), fX7_saves_1_3_L2  n T2 u3_2 = some q2 → va_P D vwCl (wM A B T2) H → va_D Ad (wM A B T2) → va_S Ad s.heap H locs → lv_has ls 4 [(1, .ref (A 1)), (2, .ref (A 3)), (3, .int u3_2)] → W p l e rm_X7_saves s m args below meth c H locs 0 0 Q (F0 m 2 ls []) := by
    intro n2
    induction n2 with
    | zero => intro T2 u3_2 H locs ls hq2; exact hf_0 hq2
    | succ n2 ih2 =>
      intro T2 u3_2 H locs ls hq2 hP hD hS hl
      rw [fX7_saves_1_3_L2] at hq2
      refine lv_iload_n (pc := 2) hx hb dX7_saves_2 rfl (lv_at hl 2 rfl) ?_
      refine lv_bipush (pc := 3) hx hb (v := 27) dX7_saves_3 (by decide) ?_
      refine lv_icmp_ge (pc := 5) hx hb (tgt := 20) dX7_saves_5 (by decide) (fun c_5 => ?_) (fun c_5 => ?_)
      · have hq2 := hf_t c_5 hq2
        obtain rfl := Option.some.inj hq2
        exact hk2 H locs ls hP hD hS (lv_sub hl [] rfl)
      · have hq2 := hf_f c_5 hq2
        refine lv_aload_n (pc := 8) hx hb dX7_saves_8 rfl (lv_at hl 1 rfl) ?_
        refine lv_iload_n (pc := 9) hx hb dX7_saves_9 rfl (lv_at hl 2 rfl) ?_
        refine lv_aload_n (pc := 10) hx hb dX7_saves_10 rfl (lv_at hl 0 rfl) ?_
        refine lv_iload_n (pc := 11) hx hb dX7_saves_11 rfl (lv_at hl 2 rfl) ?_
        obtain ⟨hg12, hq2⟩ := hf_g hq2
        refine vMra_1 (pc := 12) hx hb hK hP (f := (gA T2 0)) rfl hg12 dX7_saves_12 ?_
        obtain ⟨hg13, hq2⟩ := hf_g hq2
        refine vMwa_3 (pc := 13) hx hb hK hP hD hS (f := (gA T2 2)) rfl hg13 dX7_saves_13 (fun H locs hP hD hS => ?_)
        refine lv_iinc (pc := 14) hx hb (v := u3_2 + 1) (lv' := [(3, .int (u3_2 + 1)), (1, .ref (A 1)), (2, .ref (A 3))]) dX7_saves_14 hl (k := 2) rfl rfl (by decide) rfl (fun ls hl => ?_)
        refine lv_goto (pc := 17) hx hb (tgt := 2) dX7_saves_17 (by decide) ?_
        exact ih2 (sA T2 2 (upd (gA T2 2) u3_2.toNatClampNeg ((gA T2 0) u3_2.toNatClampNeg))) (u3_2 + 1) H locs ls hq2 hP hD hS (lv_sub hl [1, 2, 0] rfl)
  exact lp2 256 S 0 H locs ls hq2 hP hD hS (lv_sub hl [2, 3, 0] rfl)
set_option maxHeartbeats 4000000 in
set_option maxRecDepth 100000 in
theorem kX7_saves_3_1 (l : Launch) (D : va_G) (A : Nat → Nat) (B : Nat → ClassId) (sz : Nat) (S : w_S) (z : w_S) (hf : fX7_saves_3_1 S = some z) : MetW l yX7_saves (wsO yX7_saves cX7_saves 4 none) rm_X7_saves [.ref (A 0), .ref (A 3), .ref (A 1)] D (tyB B) (wM A B S) (wM A B z) sz (none) := by
  refine MetW.mkV (cc := cX7_saves) (maxL := 4) (by decide) (Nat.le_of_ble_eq_true rfl) ?_
  intro p e s m args below meth c Ad Q hx hb hts hown hml hN hK hA hR H locs ls hP hD hS hl
  have hl : lv_has ls 4 [(0, .ref (A 0)), (1, .ref (A 3)), (2, .ref (A 1))] := hl
  rw [fX7_saves_3_1] at hf
  refine lv_iconst (pc := 0) hx hb (v := 0) dX7_saves_0 (by decide) ?_
  refine lv_istore_n (pc := 1) hx hb (lv' := [(3, .int 0), (0, .ref (A 0)), (1, .ref (A 3)), (2, .ref (A 1))]) dX7_saves_1 rfl hl (by decide) rfl (fun ls hl => ?_)
  obtain ⟨q2, hq2, hf⟩ := hf_b hf
  have hk2 : ∀ (H : Heap) (locs : List Loc) (ls : Array Slot), va_P D vwCl (wM A B q2) H → va_D Ad (wM A B q2) → va_S Ad s.heap H locs → lv_has ls 4 [] → W p l e rm_X7_saves s m args below meth c H locs 0 0 Q (F0 m 20 ls []) := by
    intro H locs ls hP hD hS hl
    obtain rfl := Option.some.inj hf
    exact hR H locs 20 ls hP hD hS dX7_saves_20
  have lp2 : ∀ (n : Nat) (T2 : w_S) (u3_2 : Int32) (H : Heap) (locs : List Loc) (ls : Array Slot), fX7_saves_3_1_L2  n T2 u3_2 = some q2 → va_P D vwCl (wM A B T2) H → va_D Ad (wM A B T2) → va_S Ad s.heap H locs → lv_has ls 4 [(1, .ref (A 3)), (2, .ref (A 1)), (3, .int u3_2)] → W p l e rm_X7_saves s m args below meth c H locs 0 0 Q (F0 m 2 ls []) := by
    intro n2
    induction n2 with
    | zero => intro T2 u3_2 H locs ls hq2; exact hf_0 hq2
    | succ n2 ih2 =>
      intro T2 u3_2 H locs ls hq2 hP hD hS hl
      rw [fX7_saves_3_1_L2] at hq2
      refine lv_iload_n (pc := 2) hx hb dX7_saves_2 rfl (lv_at hl 2 rfl) ?_
      refine lv_bipush (pc := 3) hx hb (v := 27) dX7_saves_3 (by decide) ?_
      refine lv_icmp_ge (pc := 5) hx hb (tgt := 20) dX7_saves_5 (by decide) (fun c_5 => ?_) (fun c_5 => ?_)
      · have hq2 := hf_t c_5 hq2
        obtain rfl := Option.some.inj hq2
        exact hk2 H locs ls hP hD hS (lv_sub hl [] rfl)
      · have hq2 := hf_f c_5 hq2
        refine lv_aload_n (pc := 8) hx hb dX7_saves_8 rfl (lv_at hl 1 rfl) ?_
        refine lv_iload_n (pc := 9) hx hb dX7_saves_9 rfl (lv_at hl 2 rfl) ?_
        refine lv_aload_n (pc := 10) hx hb dX7_saves_10 rfl (lv_at hl 0 rfl) ?_
        refine lv_iload_n (pc := 11) hx hb dX7_saves_11 rfl (lv_at hl 2 rfl) ?_
        obtain ⟨hg12, hq2⟩ := hf_g hq2
        refine vMra_3 (pc := 12) hx hb hK hP (f := (gA T2 2)) rfl hg12 dX7_saves_12 ?_
        obtain ⟨hg13, hq2⟩ := hf_g hq2
        refine vMwa_1 (pc := 13) hx hb hK hP hD hS (f := (gA T2 0)) rfl hg13 dX7_saves_13 (fun H locs hP hD hS => ?_)
        refine lv_iinc (pc := 14) hx hb (v := u3_2 + 1) (lv' := [(3, .int (u3_2 + 1)), (1, .ref (A 3)), (2, .ref (A 1))]) dX7_saves_14 hl (k := 2) rfl rfl (by decide) rfl (fun ls hl => ?_)
        refine lv_goto (pc := 17) hx hb (tgt := 2) dX7_saves_17 (by decide) ?_
        exact ih2 (sA T2 0 (upd (gA T2 0) u3_2.toNatClampNeg ((gA T2 2) u3_2.toNatClampNeg))) (u3_2 + 1) H locs ls hq2 hP hD hS (lv_sub hl [1, 2, 0] rfl)
  exact lp2 256 S 0 H locs ls hq2 hP hD hS (lv_sub hl [2, 3, 0] rfl)
set_option maxHeartbeats 4000000 in
set_option maxRecDepth 100000 in
theorem kX7_fails (l : Launch) (D : va_G) (A : Nat → Nat) (B : Nat → ClassId) (sz : Nat) (S : w_S) (z : w_S) (hf : fX7_fails S = some z) : MetW l yX7_fails (wsO yX7_fails cX7_fails 1 none) rm_X7_fails [.ref (A 0)] D (tyB B) (wM A B S) (wM A B z) sz (none) := by
  refine MetW.mkV (cc := cX7_fails) (maxL := 1) (by decide) (Nat.le_of_ble_eq_true rfl) ?_
  intro p e s m args below meth c Ad Q hx hb hts hown hml hN hK hA hR H locs ls hP hD hS hl
  have hl : lv_has ls 1 [(0, .ref (A 0))] := hl
  rw [fX7_fails] at hf
  refine lv_aload_n (pc := 0) hx hb dX7_fails_0 rfl (lv_at hl 0 rfl) ?_
  refine lv_aload_n (pc := 1) hx hb dX7_fails_1 rfl (lv_at hl 0 rfl) ?_
  refine vMgRX7_167_0 (pc := 2) hx hb hts mU_327 inU7 hown hK hP (x := (gI S 12)) rfl dX7_fails_2 ?_
  refine lv_if_ge (pc := 5) hx hb (tgt := 15) dX7_fails_5 (by decide) (fun c_5 => ?_) (fun c_5 => ?_)
  · have hf := hf_t c_5 hf
    refine lv_aload_n (pc := 15) hx hb dX7_fails_15 rfl (lv_at hl 0 rfl) ?_
    refine vMgRX7_167_0 (pc := 16) hx hb hts mU_327 inU7 hown hK hP (x := (gI S 12)) rfl dX7_fails_16 ?_
    refine vMpRX7_167_0 (pc := 19) hx hb hts mU_327 inU7 hown hK hP hD hS dX7_fails_19 (fun H locs hP hD hS => ?_)
    obtain rfl := Option.some.inj hf
    exact hR H locs 22 ls hP hD hS dX7_fails_22
  · have hf := hf_f c_5 hf
    refine lv_aload_n (pc := 8) hx hb dX7_fails_8 rfl (lv_at hl 0 rfl) ?_
    refine vMgRX7_157_0 (pc := 9) hx hb hts mU_329 inU7 hown hK hP (x := (gI S 10)) rfl dX7_fails_9 ?_
    refine lv_goto (pc := 12) hx hb (tgt := 19) dX7_fails_12 (by decide) ?_
    refine vMpRX7_167_0 (pc := 19) hx hb hts mU_327 inU7 hown hK hP hD hS dX7_fails_19 (fun H locs hP hD hS => ?_)
    obtain rfl := Option.some.inj hf
    exact hR H locs 22 ls hP hD hS dX7_fails_22
set_option maxHeartbeats 4000000 in
set_option maxRecDepth 100000 in
theorem kX7_is (l : Launch) (D : va_G) (A : Nat → Nat) (B : Nat → ClassId) (sz : Nat) (S : w_S) (a1 : Int32) (z : Int32) (hf : fX7_is S a1 = some z) : MetW l yX7_is (wsO yX7_is cX7_is 2 (some .boolean)) rm_X7_is [.ref (A 0), .int a1] D (tyB B) (wM A B S) (wM A B S) sz (some (.int z)) := by
  refine MetW.mkZ (cc := cX7_is) (maxL := 2) (by decide) (Nat.le_of_ble_eq_true rfl) ?_
  intro p e s m args below meth c Ad Q hx hb hts hown hml hN hK hA hR H locs ls hP hD hS hl
  have hl : lv_has ls 2 [(0, .ref (A 0)), (1, .int a1)] := hl
  rw [fX7_is] at hf
  refine lv_aload_n (pc := 0) hx hb dX7_is_0 rfl (lv_at hl 0 rfl) ?_
  refine vMgRX7_154_0 (pc := 1) hx hb hts mU_326 inU7 hown hK hP (x := (gI S 11)) rfl dX7_is_1 ?_
  refine lv_aload_n (pc := 4) hx hb dX7_is_4 rfl (lv_at hl 0 rfl) ?_
  refine vMgRX7_157_0 (pc := 5) hx hb hts mU_329 inU7 hown hK hP (x := (gI S 10)) rfl dX7_is_5 ?_
  refine lv_isub (pc := 8) hx hb dX7_is_8 ?_
  refine lv_iconst (pc := 9) hx hb (v := 1) dX7_is_9 (by decide) ?_
  refine lv_icmp_ne (pc := 10) hx hb (tgt := 30) dX7_is_10 (by decide) (fun c_10 => ?_) (fun c_10 => ?_)
  · have hf := hf_f c_10 hf
    refine lv_iconst (pc := 30) hx hb (v := 0) dX7_is_30 (by decide) ?_
    obtain rfl := Option.some.inj hf
    exact hR H locs 31 ls hP hD hS (nz_of (.inl rfl)) dX7_is_31
  · have hf := hf_t c_10 hf
    refine lv_aload_n (pc := 13) hx hb dX7_is_13 rfl (lv_at hl 0 rfl) ?_
    refine vMgRX7_41_0 (pc := 14) hx hb hts mU_91 inU7 hown hK hP dX7_is_14 ?_
    refine lv_aload_n (pc := 17) hx hb dX7_is_17 rfl (lv_at hl 0 rfl) ?_
    refine vMgRX7_157_0 (pc := 18) hx hb hts mU_329 inU7 hown hK hP (x := (gI S 10)) rfl dX7_is_18 ?_
    obtain ⟨hg21, hf⟩ := hf_g hf
    refine vMra_8 (pc := 21) hx hb hK hP (f := (gA S 7)) rfl hg21 dX7_is_21 ?_
    refine lv_iload_n (pc := 22) hx hb dX7_is_22 rfl (lv_at hl 1 rfl) ?_
    refine lv_icmp_ne (pc := 23) hx hb (tgt := 30) dX7_is_23 (by decide) (fun c_23 => ?_) (fun c_23 => ?_)
    · have hf := hf_f c_23 hf
      refine lv_iconst (pc := 30) hx hb (v := 0) dX7_is_30 (by decide) ?_
      obtain rfl := Option.some.inj hf
      exact hR H locs 31 ls hP hD hS (nz_of (.inl rfl)) dX7_is_31
    · have hf := hf_t c_23 hf
      refine lv_iconst (pc := 26) hx hb (v := 1) dX7_is_26 (by decide) ?_
      refine lv_goto (pc := 27) hx hb (tgt := 31) dX7_is_27 (by decide) ?_
      obtain rfl := Option.some.inj hf
      exact hR H locs 31 ls hP hD hS (nz_of (.inr rfl)) dX7_is_31
set_option maxHeartbeats 4000000 in
set_option maxRecDepth 100000 in
theorem kX7_entryOf (l : Launch) (D : va_G) (A : Nat → Nat) (B : Nat → ClassId) (sz : Nat) (S : w_S) (a1 : Int32) (a2 : Int32) (a3 : Int32) (z : w_S) (hf : fX7_entryOf S a1 a2 a3 = some z) : MetW l yX7_entryOf (wsO yX7_entryOf cX7_entryOf 7 none) rm_X7_entryOf [.ref (A 0), .int a1, .int a2, .int a3] D (tyB B) (wM A B S) (wM A B z) sz (none) := by
  refine MetW.mkV (cc := cX7_entryOf) (maxL := 7) (by decide) (Nat.le_of_ble_eq_true rfl) ?_
  intro p e s m args below meth c Ad Q hx hb hts hown hml hN hK hA hR H locs ls hP hD hS hl
  have hl : lv_has ls 7 [(0, .ref (A 0)), (1, .int a1), (2, .int a2), (3, .int a3)] := hl
  rw [fX7_entryOf] at hf
  refine lv_aload_n (pc := 0) hx hb dX7_entryOf_0 rfl (lv_at hl 0 rfl) ?_
  refine lv_bipush (pc := 1) hx hb (v := 45) dX7_entryOf_1 (by decide) ?_
  obtain ⟨r3, hc3, hf⟩ := hf_b hf
  refine cl_V (pc := 3) (As := [.int 45]) (rest := []) hx hb hml hown hts (kX7_is l D A B _ S 45 r3 hc3) (cwV 1 hts gwRX7_170 rfl rfl rfl hdX7_is ⟨Nat.le_of_ble_eq_true rfl, Nat.le_of_ble_eq_true rfl⟩) hN hK hP hD hS hA (va_recv hK hP (ci := 7) (q0 := 0) rfl (eM_0 A B _)) rfl hl.1 rfl (Nat.le_of_ble_eq_true rfl) dX7_entryOf_3 (st1 := [.int r3]) rfl ⟨Nat.zero_le _, Nat.zero_le _⟩ (fun H locs hP hD hS => ?_)
  refine lv_istore (pc := 6) hx hb (lv' := [(4, .int r3), (0, .ref (A 0)), (1, .int a1), (2, .int a2), (3, .int a3)]) dX7_entryOf_6 hl (by decide) rfl (fun ls hl => ?_)
  refine lv_iload (pc := 8) hx hb dX7_entryOf_8 (lv_at hl 0 rfl) ?_
  obtain ⟨q17, hv17, hf⟩ := hf_b hf
  have hj17 : ∀ (H : Heap) (locs : List Loc) (ls : Array Slot), va_P D vwCl (wM A B q17) H → va_D Ad (wM A B q17) → va_S Ad s.heap H locs → lv_has ls 7 [(0, .ref (A 0)), (1, .int a1), (2, .int a2), (3, .int a3), (4, .int r3)] → W p l e rm_X7_entryOf s m args below meth c H locs 0 0 Q (F0 m 17 ls []) := by
    intro H locs ls hP hD hS hl
    refine lv_aload_n (pc := 17) hx hb dX7_entryOf_17 rfl (lv_at hl 0 rfl) ?_
    refine vMgRX7_157_0 (pc := 18) hx hb hts mU_329 inU7 hown hK hP (x := (gI q17 10)) rfl dX7_entryOf_18 ?_
    refine lv_aload_n (pc := 21) hx hb dX7_entryOf_21 rfl (lv_at hl 0 rfl) ?_
    refine vMgRX7_151_0 (pc := 22) hx hb hts mU_272 inU7 hown hK hP (x := (gI q17 9)) rfl dX7_entryOf_22 ?_
    refine lv_icmp_eq (pc := 25) hx hb (tgt := 56) dX7_entryOf_25 (by decide) (fun c_25 => ?_) (fun c_25 => ?_)
    · have hf := hf_t c_25 hf
      refine lv_aload_n (pc := 56) hx hb dX7_entryOf_56 rfl (lv_at hl 0 rfl) ?_
      obtain ⟨r57, hc57, hf⟩ := hf_b hf
      refine cl_V (pc := 57) (As := []) (rest := []) hx hb hml hown hts (kX7_fails l D A B _ q17 r57 hc57) (cwV 0 hts gwRX7_176 rfl rfl rfl hdX7_fails ⟨Nat.le_of_ble_eq_true rfl, Nat.le_of_ble_eq_true rfl⟩) hN hK hP hD hS hA (va_recv hK hP (ci := 7) (q0 := 0) rfl (eM_0 A B _)) rfl hl.1 rfl (Nat.le_of_ble_eq_true rfl) dX7_entryOf_57 (st1 := []) rfl ⟨Nat.zero_le _, Nat.zero_le _⟩ (fun H locs hP hD hS => ?_)
      obtain rfl := Option.some.inj hf
      exact hR H locs 60 ls hP hD hS dX7_entryOf_60
    · have hf := hf_f c_25 hf
      refine lv_aload_n (pc := 28) hx hb dX7_entryOf_28 rfl (lv_at hl 0 rfl) ?_
      refine vMgRX7_41_0 (pc := 29) hx hb hts mU_91 inU7 hown hK hP dX7_entryOf_29 ?_
      refine lv_aload_n (pc := 32) hx hb dX7_entryOf_32 rfl (lv_at hl 0 rfl) ?_
      refine vMgRX7_157_0 (pc := 33) hx hb hts mU_329 inU7 hown hK hP (x := (gI q17 10)) rfl dX7_entryOf_33 ?_
      obtain ⟨hg36, hf⟩ := hf_g hf
      refine vMra_8 (pc := 36) hx hb hK hP (f := (gA q17 7)) rfl hg36 dX7_entryOf_36 ?_
      obtain ⟨r37, hc37, hf⟩ := hf_b hf
      refine cl_S (pc := 37) (As := [.int ((gA q17 7) (gI q17 10).toNatClampNeg)]) (rest := []) hx hb hml hown hts (kX7_isDigit l D A B _ q17 ((gA q17 7) (gI q17 10).toNatClampNeg) r37 hc37) (va_cwS 1 hts gwRX7_164 rfl rfl rfl hdX7_isDigit ⟨Nat.le_of_ble_eq_true rfl, Nat.le_of_ble_eq_true rfl⟩) hN hK hP hD hS hA rfl hl.1 rfl (Nat.le_of_ble_eq_true rfl) dX7_entryOf_37 (st1 := [.int r37]) rfl ⟨Nat.zero_le _, Nat.zero_le _⟩ (fun H locs hP hD hS => ?_)
      refine lv_if_eq (pc := 40) hx hb (tgt := 56) dX7_entryOf_40 (by decide) (fun c_40 => ?_) (fun c_40 => ?_)
      · have hf := hf_t c_40 hf
        refine lv_aload_n (pc := 56) hx hb dX7_entryOf_56 rfl (lv_at hl 0 rfl) ?_
        obtain ⟨r57, hc57, hf⟩ := hf_b hf
        refine cl_V (pc := 57) (As := []) (rest := []) hx hb hml hown hts (kX7_fails l D A B _ q17 r57 hc57) (cwV 0 hts gwRX7_176 rfl rfl rfl hdX7_fails ⟨Nat.le_of_ble_eq_true rfl, Nat.le_of_ble_eq_true rfl⟩) hN hK hP hD hS hA (va_recv hK hP (ci := 7) (q0 := 0) rfl (eM_0 A B _)) rfl hl.1 rfl (Nat.le_of_ble_eq_true rfl) dX7_entryOf_57 (st1 := []) rfl ⟨Nat.zero_le _, Nat.zero_le _⟩ (fun H locs hP hD hS => ?_)
        obtain rfl := Option.some.inj hf
        exact hR H locs 60 ls hP hD hS dX7_entryOf_60
      · have hf := hf_f c_40 hf
        refine lv_aload_n (pc := 43) hx hb dX7_entryOf_43 rfl (lv_at hl 0 rfl) ?_
        refine vMgRX7_154_0 (pc := 44) hx hb hts mU_326 inU7 hown hK hP (x := (gI q17 11)) rfl dX7_entryOf_44 ?_
        refine lv_aload_n (pc := 47) hx hb dX7_entryOf_47 rfl (lv_at hl 0 rfl) ?_
        refine vMgRX7_157_0 (pc := 48) hx hb hts mU_329 inU7 hown hK hP (x := (gI q17 10)) rfl dX7_entryOf_48 ?_
        refine lv_isub (pc := 51) hx hb dX7_entryOf_51 ?_
        refine lv_iconst (pc := 52) hx hb (v := 2) dX7_entryOf_52 (by decide) ?_
        refine lv_icmp_le (pc := 53) hx hb (tgt := 61) dX7_entryOf_53 (by decide) (fun c_53 => ?_) (fun c_53 => ?_)
        · have hf := hf_t c_53 hf
          refine lv_iconst (pc := 61) hx hb (v := 0) dX7_entryOf_61 (by decide) ?_
          refine lv_istore (pc := 62) hx hb (lv' := [(5, .int 0), (0, .ref (A 0)), (1, .int a1), (2, .int a2), (3, .int a3), (4, .int r3)]) dX7_entryOf_62 hl (by decide) rfl (fun ls hl => ?_)
          refine lv_aload_n (pc := 64) hx hb dX7_entryOf_64 rfl (lv_at hl 1 rfl) ?_
          refine vMgRX7_157_0 (pc := 65) hx hb hts mU_329 inU7 hown hK hP (x := (gI q17 10)) rfl dX7_entryOf_65 ?_
          refine lv_istore (pc := 68) hx hb (lv' := [(6, .int (gI q17 10)), (5, .int 0), (0, .ref (A 0)), (1, .int a1), (2, .int a2), (3, .int a3), (4, .int r3)]) dX7_entryOf_68 hl (by decide) rfl (fun ls hl => ?_)
          obtain ⟨q70, hq70, hf⟩ := hf_b hf
          have hk70 : ∀ (H : Heap) (locs : List Loc) (ls : Array Slot), va_P D vwCl (wM A B q17) H → va_D Ad (wM A B q17) → va_S Ad s.heap H locs → lv_has ls 7 [(0, .ref (A 0)), (1, .int a1), (2, .int a2), (3, .int a3), (4, .int r3), (5, .int q70)] → W p l e rm_X7_entryOf s m args below meth c H locs 0 0 Q (F0 m 103 ls []) := by
            intro H locs ls hP hD hS hl
            refine lv_iload (pc := 103) hx hb dX7_entryOf_103 (lv_at hl 4 rfl) ?_
            obtain ⟨q117, hv117, hf⟩ := hf_b hf
            have hj117 : ∀ (H : Heap) (locs : List Loc) (ls : Array Slot), va_P D vwCl (wM A B q17) H → va_D Ad (wM A B q17) → va_S Ad s.heap H locs → lv_has ls 7 [(0, .ref (A 0)), (1, .int a1), (2, .int a2), (3, .int a3)] → W p l e rm_X7_entryOf s m args below meth c H locs 0 0 Q (F0 m 117 ls [.int q117]) := by
              intro H locs ls hP hD hS hl
              refine lv_istore (pc := 117) hx hb (lv' := [(5, .int q117), (0, .ref (A 0)), (1, .int a1), (2, .int a2), (3, .int a3)]) dX7_entryOf_117 hl (by decide) rfl (fun ls hl => ?_)
              refine lv_iload_n (pc := 119) hx hb dX7_entryOf_119 rfl (lv_at hl 2 rfl) ?_
              refine lv_iload (pc := 120) hx hb dX7_entryOf_120 (lv_at hl 0 rfl) ?_
              obtain ⟨r122, hc122, hf⟩ := hf_b hf
              refine cl_S (pc := 122) (As := [.int a1, .int q117]) (rest := []) hx hb hml hown hts (kX7_isEntry l D A B _ q17 a1 q117 r122 hc122) (va_cwS 2 hts gwRX7_124 rfl rfl rfl hdX7_isEntry ⟨Nat.le_of_ble_eq_true rfl, Nat.le_of_ble_eq_true rfl⟩) hN hK hP hD hS hA rfl hl.1 rfl (Nat.le_of_ble_eq_true rfl) dX7_entryOf_122 (st1 := [.int r122]) rfl ⟨Nat.zero_le _, Nat.zero_le _⟩ (fun H locs hP hD hS => ?_)
              refine lv_if_ne (pc := 125) hx hb (tgt := 133) dX7_entryOf_125 (by decide) (fun c_125 => ?_) (fun c_125 => ?_)
              · have hf := hf_f c_125 hf
                refine lv_aload_n (pc := 133) hx hb dX7_entryOf_133 rfl (lv_at hl 1 rfl) ?_
                refine vMgRX7_7_0 (pc := 134) hx hb hts mU_81 inU7 hown hK hP dX7_entryOf_134 ?_
                refine lv_bipush (pc := 137) hx hb (v := 9) dX7_entryOf_137 (by decide) ?_
                refine lv_iload_n (pc := 139) hx hb dX7_entryOf_139 rfl (lv_at hl 2 rfl) ?_
                refine lv_imul (pc := 140) hx hb dX7_entryOf_140 ?_
                refine lv_iconst (pc := 141) hx hb (v := 3) dX7_entryOf_141 (by decide) ?_
                refine lv_iload_n (pc := 142) hx hb dX7_entryOf_142 rfl (lv_at hl 3 rfl) ?_
                refine lv_imul (pc := 143) hx hb dX7_entryOf_143 ?_
                refine lv_iadd (pc := 144) hx hb dX7_entryOf_144 ?_
                refine lv_iload_n (pc := 145) hx hb dX7_entryOf_145 rfl (lv_at hl 4 rfl) ?_
                refine lv_iadd (pc := 146) hx hb dX7_entryOf_146 ?_
                refine lv_iload (pc := 147) hx hb dX7_entryOf_147 (lv_at hl 0 rfl) ?_
                obtain ⟨hg149, hf⟩ := hf_g hf
                refine vMwa_1 (pc := 149) hx hb hK hP hD hS (f := (gA q17 0)) rfl hg149 dX7_entryOf_149 (fun H locs hP hD hS => ?_)
                refine lv_aload_n (pc := 150) hx hb dX7_entryOf_150 rfl (lv_at hl 1 rfl) ?_
                obtain ⟨r151, hc151, hf⟩ := hf_b hf
                refine cl_V (pc := 151) (As := []) (rest := []) hx hb hml hown hts (kX7_next l D A B _ (sA q17 0 (upd (gA q17 0) (((9 * a1) + (3 * a2)) + a3).toNatClampNeg q117)) r151 hc151) (cwV 0 hts gwRX7_173 rfl rfl rfl hdX7_next ⟨Nat.le_of_ble_eq_true rfl, Nat.le_of_ble_eq_true rfl⟩) hN hK hP hD hS hA (va_recv hK hP (ci := 7) (q0 := 0) rfl (eM_0 A B _)) rfl hl.1 rfl (Nat.le_of_ble_eq_true rfl) dX7_entryOf_151 (st1 := []) rfl ⟨Nat.zero_le _, Nat.zero_le _⟩ (fun H locs hP hD hS => ?_)
                obtain rfl := Option.some.inj hf
                exact hR H locs 154 ls hP hD hS dX7_entryOf_154
              · have hf := hf_t c_125 hf
                refine lv_aload_n (pc := 128) hx hb dX7_entryOf_128 rfl (lv_at hl 1 rfl) ?_
                obtain ⟨r129, hc129, hf⟩ := hf_b hf
                refine cl_V (pc := 129) (As := []) (rest := []) hx hb hml hown hts (kX7_fails l D A B _ q17 r129 hc129) (cwV 0 hts gwRX7_176 rfl rfl rfl hdX7_fails ⟨Nat.le_of_ble_eq_true rfl, Nat.le_of_ble_eq_true rfl⟩) hN hK hP hD hS hA (va_recv hK hP (ci := 7) (q0 := 0) rfl (eM_0 A B _)) rfl hl.1 rfl (Nat.le_of_ble_eq_true rfl) dX7_entryOf_129 (st1 := []) rfl ⟨Nat.zero_le _, Nat.zero_le _⟩ (fun H locs hP hD hS => ?_)
                obtain rfl := Option.some.inj hf
                exact hR H locs 132 ls hP hD hS dX7_entryOf_132
            refine lv_if_eq (pc := 105) hx hb (tgt := 115) dX7_entryOf_105 (by decide) (fun c_105 => ?_) (fun c_105 => ?_)
            · have hv117 := hf_t c_105 hv117
              refine lv_iload (pc := 115) hx hb dX7_entryOf_115 (lv_at hl 5 rfl) ?_
              obtain rfl := Option.some.inj hv117
              exact hj117 H locs ls hP hD hS (lv_sub hl [0, 1, 2, 3] rfl)
            · have hv117 := hf_f c_105 hv117
              refine lv_iconst (pc := 108) hx hb (v := 0) dX7_entryOf_108 (by decide) ?_
              refine lv_iload (pc := 109) hx hb dX7_entryOf_109 (lv_at hl 5 rfl) ?_
              refine lv_isub (pc := 111) hx hb dX7_entryOf_111 ?_
              refine lv_goto (pc := 112) hx hb (tgt := 117) dX7_entryOf_112 (by decide) ?_
              obtain rfl := Option.some.inj hv117
              exact hj117 H locs ls hP hD hS (lv_sub hl [0, 1, 2, 3] rfl)
          have lp70 : ∀ (n : Nat) (u5_70 : Int32) (u6_70 : Int32) (H : Heap) (locs : List Loc) (ls : Array Slot), fX7_entryOf_L70 q17 a1 a2 a3 r3 n u5_70 u6_70 = some q70 → va_P D vwCl (wM A B q17) H → va_D Ad (wM A B q17) → va_S Ad s.heap H locs → lv_has ls 7 [(0, .ref (A 0)), (1, .int a1), (2, .int a2), (3, .int a3), (4, .int r3), (5, .int u5_70), (6, .int u6_70)] → W p l e rm_X7_entryOf s m args below meth c H locs 0 0 Q (F0 m 70 ls []) := by
            intro n70
            induction n70 with
            | zero => intro u5_70 u6_70 H locs ls hq70; exact hf_0 hq70
            | succ n70 ih70 =>
              intro u5_70 u6_70 H locs ls hq70 hP hD hS hl
              rw [fX7_entryOf_L70] at hq70
              refine lv_iload (pc := 70) hx hb dX7_entryOf_70 (lv_at hl 6 rfl) ?_
              refine lv_aload_n (pc := 72) hx hb dX7_entryOf_72 rfl (lv_at hl 0 rfl) ?_
              refine vMgRX7_154_0 (pc := 73) hx hb hts mU_326 inU7 hown hK hP (x := (gI q17 11)) rfl dX7_entryOf_73 ?_
              refine lv_icmp_ge (pc := 76) hx hb (tgt := 103) dX7_entryOf_76 (by decide) (fun c_76 => ?_) (fun c_76 => ?_)
              · have hq70 := hf_t c_76 hq70
                obtain rfl := Option.some.inj hq70
                exact hk70 H locs ls hP hD hS (lv_sub hl [0, 1, 2, 3, 4, 5] rfl)
              · have hq70 := hf_f c_76 hq70
                refine lv_bipush (pc := 79) hx hb (v := 10) dX7_entryOf_79 (by decide) ?_
                refine lv_iload (pc := 81) hx hb dX7_entryOf_81 (lv_at hl 5 rfl) ?_
                refine lv_imul (pc := 83) hx hb dX7_entryOf_83 ?_
                refine lv_aload_n (pc := 84) hx hb dX7_entryOf_84 rfl (lv_at hl 0 rfl) ?_
                refine vMgRX7_41_0 (pc := 85) hx hb hts mU_91 inU7 hown hK hP dX7_entryOf_85 ?_
                refine lv_iload (pc := 88) hx hb dX7_entryOf_88 (lv_at hl 6 rfl) ?_
                obtain ⟨hg90, hq70⟩ := hf_g hq70
                refine vMra_8 (pc := 90) hx hb hK hP (f := (gA q17 7)) rfl hg90 dX7_entryOf_90 ?_
                refine lv_iadd (pc := 91) hx hb dX7_entryOf_91 ?_
                refine lv_bipush (pc := 92) hx hb (v := 48) dX7_entryOf_92 (by decide) ?_
                refine lv_isub (pc := 94) hx hb dX7_entryOf_94 ?_
                refine lv_istore (pc := 95) hx hb (lv' := [(5, .int (((10 * u5_70) + ((gA q17 7) u6_70.toNatClampNeg)) - 48)), (0, .ref (A 0)), (1, .int a1), (2, .int a2), (3, .int a3), (4, .int r3), (6, .int u6_70)]) dX7_entryOf_95 hl (by decide) rfl (fun ls hl => ?_)
                refine lv_iinc (pc := 97) hx hb (v := u6_70 + 1) (lv' := [(6, .int (u6_70 + 1)), (5, .int (((10 * u5_70) + ((gA q17 7) u6_70.toNatClampNeg)) - 48)), (0, .ref (A 0)), (1, .int a1), (2, .int a2), (3, .int a3), (4, .int r3)]) dX7_entryOf_97 hl (k := 6) rfl rfl (by decide) rfl (fun ls hl => ?_)
                refine lv_goto (pc := 100) hx hb (tgt := 70) dX7_entryOf_100 (by decide) ?_
                exact ih70 (((10 * u5_70) + ((gA q17 7) u6_70.toNatClampNeg)) - 48) (u6_70 + 1) H locs ls hq70 hP hD hS (lv_sub hl [2, 3, 4, 5, 6, 1, 0] rfl)
          exact lp70 256 0 (gI q17 10) H locs ls hq70 hP hD hS (lv_sub hl [2, 3, 4, 5, 6, 1, 0] rfl)
        · have hf := hf_f c_53 hf
          refine lv_aload_n (pc := 56) hx hb dX7_entryOf_56 rfl (lv_at hl 0 rfl) ?_
          obtain ⟨r57, hc57, hf⟩ := hf_b hf
          refine cl_V (pc := 57) (As := []) (rest := []) hx hb hml hown hts (kX7_fails l D A B _ q17 r57 hc57) (cwV 0 hts gwRX7_176 rfl rfl rfl hdX7_fails ⟨Nat.le_of_ble_eq_true rfl, Nat.le_of_ble_eq_true rfl⟩) hN hK hP hD hS hA (va_recv hK hP (ci := 7) (q0 := 0) rfl (eM_0 A B _)) rfl hl.1 rfl (Nat.le_of_ble_eq_true rfl) dX7_entryOf_57 (st1 := []) rfl ⟨Nat.zero_le _, Nat.zero_le _⟩ (fun H locs hP hD hS => ?_)
          obtain rfl := Option.some.inj hf
          exact hR H locs 60 ls hP hD hS dX7_entryOf_60
  refine lv_if_eq (pc := 10) hx hb (tgt := 17) dX7_entryOf_10 (by decide) (fun c_10 => ?_) (fun c_10 => ?_)
  · have hv17 := hf_t c_10 hv17
    obtain rfl := Option.some.inj hv17
    exact hj17 H locs ls hP hD hS (lv_sub hl [1, 2, 3, 4, 0] rfl)
  · have hv17 := hf_f c_10 hv17
    refine lv_aload_n (pc := 13) hx hb dX7_entryOf_13 rfl (lv_at hl 1 rfl) ?_
    obtain ⟨r14, hc14, hv17⟩ := hf_b hv17
    refine cl_V (pc := 14) (As := []) (rest := []) hx hb hml hown hts (kX7_next l D A B _ S r14 hc14) (cwV 0 hts gwRX7_173 rfl rfl rfl hdX7_next ⟨Nat.le_of_ble_eq_true rfl, Nat.le_of_ble_eq_true rfl⟩) hN hK hP hD hS hA (va_recv hK hP (ci := 7) (q0 := 0) rfl (eM_0 A B _)) rfl hl.1 rfl (Nat.le_of_ble_eq_true rfl) dX7_entryOf_14 (st1 := []) rfl ⟨Nat.zero_le _, Nat.zero_le _⟩ (fun H locs hP hD hS => ?_)
    obtain rfl := Option.some.inj hv17
    exact hj17 H locs ls hP hD hS (lv_sub hl [1, 2, 3, 4, 0] rfl)
