set_option maxHeartbeats 4000000 in
set_option maxRecDepth 100000 in
theorem kX7_narrowed (l : Launch) (D : va_G) (A : Nat → Nat) (B : Nat → ClassId) (sz : Nat) (S : w_S) (a0 : Int32) (a1 : Int64) (z : Int64) (hf : fX7_narrowed a0 a1 = some z) : MetW l yX7_narrowed (wsO yX7_narrowed cX7_narrowed 3 (some .long)) rm_X7_narrowed [.int a0, .long a1] D (tyB B) (wM A B S) (wM A B S) sz (some (.long z)) := by
  refine MetW.mkL (cc := cX7_narrowed) (maxL := 3) (by decide) (Nat.le_of_ble_eq_true rfl) ?_
  intro p e s m args below meth c Ad Q hx hb hts hown hml hN hK hA hR H locs ls hP hD hS hl
  have hl : lv_has ls 3 [(0, .int a0), (1, .long a1)] := hl
  rw [fX7_narrowed] at hf
  refine lv_iload_n (pc := 0) hx hb dX7_narrowed_0 rfl (lv_at hl 0 rfl) ?_
  refine lv_if_ne (pc := 1) hx hb (tgt := 11) dX7_narrowed_1 (by decide) (fun c_1 => ?_) (fun c_1 => ?_)
  · have hf := hf_f c_1 hf
    refine lv_iload_n (pc := 11) hx hb dX7_narrowed_11 rfl (lv_at hl 0 rfl) ?_
    refine lv_iconst (pc := 12) hx hb (v := 1) dX7_narrowed_12 (by decide) ?_
    refine lv_icmp_ne (pc := 13) hx hb (tgt := 23) dX7_narrowed_13 (by decide) (fun c_13 => ?_) (fun c_13 => ?_)
    · have hf := hf_f c_13 hf
      refine lv_iload_n (pc := 23) hx hb dX7_narrowed_23 rfl (lv_at hl 0 rfl) ?_
      refine lv_iconst (pc := 24) hx hb (v := 2) dX7_narrowed_24 (by decide) ?_
      refine lv_icmp_ne (pc := 25) hx hb (tgt := 34) dX7_narrowed_25 (by decide) (fun c_25 => ?_) (fun c_25 => ?_)
      · have hf := hf_f c_25 hf
        refine lv_lload_n (pc := 34) hx hb dX7_narrowed_34 rfl (lv_at hl 1 rfl) ?_
        obtain rfl := Option.some.inj hf
        exact hR H locs 35 ls hP hD hS dX7_narrowed_35
      · have hf := hf_t c_25 hf
        refine lv_lload_n (pc := 28) hx hb dX7_narrowed_28 rfl (lv_at hl 1 rfl) ?_
        refine lv_l2i (pc := 29) hx hb (v := a1.toInt32) dX7_narrowed_29 rfl ?_
        refine lv_i2l (pc := 30) hx hb (v := a1.toInt32.toInt64) dX7_narrowed_30 rfl ?_
        refine lv_goto (pc := 31) hx hb (tgt := 35) dX7_narrowed_31 (by decide) ?_
        obtain rfl := Option.some.inj hf
        exact hR H locs 35 ls hP hD hS dX7_narrowed_35
    · have hf := hf_t c_13 hf
      refine lv_lload_n (pc := 16) hx hb dX7_narrowed_16 rfl (lv_at hl 1 rfl) ?_
      refine lv_l2i (pc := 17) hx hb (v := a1.toInt32) dX7_narrowed_17 rfl ?_
      refine lv_i2s (pc := 18) hx hb (v := a1.toInt32.toInt16.toInt32) dX7_narrowed_18 rfl ?_
      refine lv_i2l (pc := 19) hx hb (v := a1.toInt32.toInt16.toInt32.toInt64) dX7_narrowed_19 rfl ?_
      refine lv_goto (pc := 20) hx hb (tgt := 35) dX7_narrowed_20 (by decide) ?_
      obtain rfl := Option.some.inj hf
      exact hR H locs 35 ls hP hD hS dX7_narrowed_35
  · have hf := hf_t c_1 hf
    refine lv_lload_n (pc := 4) hx hb dX7_narrowed_4 rfl (lv_at hl 1 rfl) ?_
    refine lv_l2i (pc := 5) hx hb (v := a1.toInt32) dX7_narrowed_5 rfl ?_
    refine lv_i2b (pc := 6) hx hb (v := a1.toInt32.toInt8.toInt32) dX7_narrowed_6 rfl ?_
    refine lv_i2l (pc := 7) hx hb (v := a1.toInt32.toInt8.toInt32.toInt64) dX7_narrowed_7 rfl ?_
    refine lv_goto (pc := 8) hx hb (tgt := 35) dX7_narrowed_8 (by decide) ?_
    obtain rfl := Option.some.inj hf
    exact hR H locs 35 ls hP hD hS dX7_narrowed_35
set_option maxHeartbeats 4000000 in
set_option maxRecDepth 100000 in
theorem kX7_put (l : Launch) (D : va_G) (A : Nat → Nat) (B : Nat → ClassId) (sz : Nat) (S : w_S) (a1 : Int32) (a2 : Int32) (a3 : Int64) (z : Int32 × w_S) (hf : fX7_put S a1 a2 a3 = some z) : MetW l yX7_put (wsO yX7_put cX7_put 5 (some .int)) rm_X7_put [.ref (A 0), .int a1, .int a2, .long a3] D (tyB B) (wM A B S) (wM A B z.2) sz (some (.int z.1)) := by
  refine MetW.mkI (cc := cX7_put) (maxL := 5) (by decide) (Nat.le_of_ble_eq_true rfl) ?_
  intro p e s m args below meth c Ad Q hx hb hts hown hml hN hK hA hR H locs ls hP hD hS hl
  have hl : lv_has ls 5 [(0, .ref (A 0)), (1, .int a1), (2, .int a2), (3, .long a3)] := hl
  rw [fX7_put] at hf
  refine lv_iload_n (pc := 0) hx hb dX7_put_0 rfl (lv_at hl 1 rfl) ?_
  obtain ⟨r1, hc1, hf⟩ := hf_b hf
  refine cl_S (pc := 1) (As := [.int a1]) (rest := []) hx hb hml hown hts (kX7_isSheet l D A B _ S a1 r1 hc1) (va_cwS 1 hts gwRX7_303 rfl rfl rfl hdX7_isSheet ⟨Nat.le_of_ble_eq_true rfl, Nat.le_of_ble_eq_true rfl⟩) hN hK hP hD hS hA rfl hl.1 rfl (Nat.le_of_ble_eq_true rfl) dX7_put_1 (st1 := [.int r1]) rfl ⟨Nat.zero_le _, Nat.zero_le _⟩ (fun H locs hP hD hS => ?_)
  refine lv_if_ne (pc := 4) hx hb (tgt := 9) dX7_put_4 (by decide) (fun c_4 => ?_) (fun c_4 => ?_)
  · have hf := hf_f c_4 hf
    refine lv_aload_n (pc := 9) hx hb dX7_put_9 rfl (lv_at hl 0 rfl) ?_
    refine vMgRX7_67_0 (pc := 10) hx hb hts mU_99 inU7 hown hK hP dX7_put_10 ?_
    refine lv_iload_n (pc := 13) hx hb dX7_put_13 rfl (lv_at hl 1 rfl) ?_
    obtain ⟨hg14, hf⟩ := hf_g hf
    refine vMra_16 (pc := 14) hx hb hK hP (f := (gA S 12)) rfl hg14 dX7_put_14 ?_
    refine lv_if_ge (pc := 15) hx hb (tgt := 21) dX7_put_15 (by decide) (fun c_15 => ?_) (fun c_15 => ?_)
    · have hf := hf_t c_15 hf
      refine lv_iload_n (pc := 21) hx hb dX7_put_21 rfl (lv_at hl 2 rfl) ?_
      refine lv_i2l (pc := 22) hx hb (v := a2.toInt64) dX7_put_22 rfl ?_
      refine lv_lconst (pc := 23) hx hb (v := 0) dX7_put_23 (by decide) ?_
      refine lv_aload_n (pc := 24) hx hb dX7_put_24 rfl (lv_at hl 0 rfl) ?_
      refine vMgRX7_70_0 (pc := 25) hx hb hts mU_100 inU7 hown hK hP dX7_put_25 ?_
      refine lv_iload_n (pc := 28) hx hb dX7_put_28 rfl (lv_at hl 1 rfl) ?_
      obtain ⟨hg29, hf⟩ := hf_g hf
      refine vMra_17 (pc := 29) hx hb hK hP (f := (gA S 13)) rfl hg29 dX7_put_29 ?_
      refine lv_iconst (pc := 30) hx hb (v := 1) dX7_put_30 (by decide) ?_
      refine lv_isub (pc := 31) hx hb dX7_put_31 ?_
      refine lv_i2l (pc := 32) hx hb (v := (((gA S 13) a1.toNatClampNeg) - 1).toInt64) dX7_put_32 rfl ?_
      obtain ⟨r33, hc33, hf⟩ := hf_b hf
      refine cl_S (pc := 33) (As := [.long a2.toInt64, .long 0, .long ((((gA S 13) a1.toNatClampNeg) - 1).toInt64)]) (rest := []) hx hb hml hown hts (kX7_in l D A B _ S a2.toInt64 0 ((((gA S 13) a1.toNatClampNeg) - 1).toInt64) r33 hc33) (va_cwS 3 hts gwRX7_99 rfl rfl rfl hdX7_in ⟨Nat.le_of_ble_eq_true rfl, Nat.le_of_ble_eq_true rfl⟩) hN hK hP hD hS hA rfl hl.1 rfl (Nat.le_of_ble_eq_true rfl) dX7_put_33 (st1 := [.int r33]) rfl ⟨Nat.zero_le _, Nat.zero_le _⟩ (fun H locs hP hD hS => ?_)
      refine lv_if_ne (pc := 36) hx hb (tgt := 42) dX7_put_36 (by decide) (fun c_36 => ?_) (fun c_36 => ?_)
      · have hf := hf_f c_36 hf
        refine lv_aload_n (pc := 42) hx hb dX7_put_42 rfl (lv_at hl 0 rfl) ?_
        refine vMgRX7_73_0 (pc := 43) hx hb hts mU_101 inU7 hown hK hP dX7_put_43 ?_
        refine lv_bipush (pc := 46) hx hb (v := 40) dX7_put_46 (by decide) ?_
        refine lv_iload_n (pc := 48) hx hb dX7_put_48 rfl (lv_at hl 1 rfl) ?_
        refine lv_imul (pc := 49) hx hb dX7_put_49 ?_
        refine lv_iload_n (pc := 50) hx hb dX7_put_50 rfl (lv_at hl 2 rfl) ?_
        refine lv_iadd (pc := 51) hx hb dX7_put_51 ?_
        refine lv_aload_n (pc := 52) hx hb dX7_put_52 rfl (lv_at hl 0 rfl) ?_
        refine vMgRX7_67_0 (pc := 53) hx hb hts mU_99 inU7 hown hK hP dX7_put_53 ?_
        refine lv_iload_n (pc := 56) hx hb dX7_put_56 rfl (lv_at hl 1 rfl) ?_
        obtain ⟨hg57, hf⟩ := hf_g hf
        refine vMra_16 (pc := 57) hx hb hK hP (f := (gA S 12)) rfl hg57 dX7_put_57 ?_
        refine lv_lload_n (pc := 58) hx hb dX7_put_58 rfl (lv_at hl 3 rfl) ?_
        obtain ⟨r59, hc59, hf⟩ := hf_b hf
        refine cl_S (pc := 59) (As := [.int ((gA S 12) a1.toNatClampNeg), .long a3]) (rest := [.int ((40 * a1) + a2), .ref (A 18)]) hx hb hml hown hts (kX7_narrowed l D A B _ S ((gA S 12) a1.toNatClampNeg) a3 r59 hc59) (va_cwS 2 hts gwRX7_331 rfl rfl rfl hdX7_narrowed ⟨Nat.le_of_ble_eq_true rfl, Nat.le_of_ble_eq_true rfl⟩) hN hK hP hD hS hA rfl hl.1 rfl (Nat.le_of_ble_eq_true rfl) dX7_put_59 (st1 := [.long r59, .int ((40 * a1) + a2), .ref (A 18)]) rfl ⟨Nat.zero_le _, Nat.zero_le _⟩ (fun H locs hP hD hS => ?_)
        obtain ⟨hg62, hf⟩ := hf_g hf
        refine vMwa_18 (pc := 62) hx hb hK hP hD hS (f := (gB S 3)) rfl hg62 dX7_put_62 (fun H locs hP hD hS => ?_)
        refine lv_iconst (pc := 63) hx hb (v := 1) dX7_put_63 (by decide) ?_
        obtain rfl := Option.some.inj hf
        exact hR H locs 64 ls hP hD hS dX7_put_64
      · have hf := hf_t c_36 hf
        refine lv_bipush (pc := 39) hx hb (v := (-12)) dX7_put_39 (by decide) ?_
        obtain rfl := Option.some.inj hf
        exact hR H locs 41 ls hP hD hS dX7_put_41
    · have hf := hf_f c_15 hf
      refine lv_bipush (pc := 18) hx hb (v := (-11)) dX7_put_18 (by decide) ?_
      obtain rfl := Option.some.inj hf
      exact hR H locs 20 ls hP hD hS dX7_put_20
  · have hf := hf_t c_4 hf
    refine lv_iconst (pc := 7) hx hb (v := (-1)) dX7_put_7 (by decide) ?_
    obtain rfl := Option.some.inj hf
    exact hR H locs 8 ls hP hD hS dX7_put_8
set_option maxHeartbeats 4000000 in
set_option maxRecDepth 100000 in
theorem kX7_item (l : Launch) (D : va_G) (A : Nat → Nat) (B : Nat → ClassId) (sz : Nat) (S : w_S) (a1 : Int32) (a2 : Int32) (a3 : Int32) (z : Int32) (hf : fX7_item S a1 a2 a3 = some z) : MetW l yX7_item (wsO yX7_item cX7_item 4 (some .int)) rm_X7_item [.ref (A 0), .int a1, .int a2, .int a3] D (tyB B) (wM A B S) (wM A B S) sz (some (.int z)) := by
  refine MetW.mkI (cc := cX7_item) (maxL := 4) (by decide) (Nat.le_of_ble_eq_true rfl) ?_
  intro p e s m args below meth c Ad Q hx hb hts hown hml hN hK hA hR H locs ls hP hD hS hl
  have hl : lv_has ls 4 [(0, .ref (A 0)), (1, .int a1), (2, .int a2), (3, .int a3)] := hl
  rw [fX7_item] at hf
  refine lv_iload_n (pc := 0) hx hb dX7_item_0 rfl (lv_at hl 1 rfl) ?_
  obtain ⟨r1, hc1, hf⟩ := hf_b hf
  refine cl_S (pc := 1) (As := [.int a1]) (rest := []) hx hb hml hown hts (kX7_isSheet l D A B _ S a1 r1 hc1) (va_cwS 1 hts gwRX7_303 rfl rfl rfl hdX7_isSheet ⟨Nat.le_of_ble_eq_true rfl, Nat.le_of_ble_eq_true rfl⟩) hN hK hP hD hS hA rfl hl.1 rfl (Nat.le_of_ble_eq_true rfl) dX7_item_1 (st1 := [.int r1]) rfl ⟨Nat.zero_le _, Nat.zero_le _⟩ (fun H locs hP hD hS => ?_)
  refine lv_if_eq (pc := 4) hx hb (tgt := 19) dX7_item_4 (by decide) (fun c_4 => ?_) (fun c_4 => ?_)
  · have hf := hf_t c_4 hf
    refine lv_iconst (pc := 19) hx hb (v := (-1)) dX7_item_19 (by decide) ?_
    obtain rfl := Option.some.inj hf
    exact hR H locs 20 ls hP hD hS dX7_item_20
  · have hf := hf_f c_4 hf
    refine lv_iload_n (pc := 7) hx hb dX7_item_7 rfl (lv_at hl 2 rfl) ?_
    refine lv_i2l (pc := 8) hx hb (v := a2.toInt64) dX7_item_8 rfl ?_
    refine lv_lconst (pc := 9) hx hb (v := 0) dX7_item_9 (by decide) ?_
    refine lv_ldc2 (pc := 10) hx hb (v := 3) hown (hts (.constantLong RX7 118 (3)) mU_125) dX7_item_10 ?_
    obtain ⟨r13, hc13, hf⟩ := hf_b hf
    refine cl_S (pc := 13) (As := [.long a2.toInt64, .long 0, .long 3]) (rest := []) hx hb hml hown hts (kX7_in l D A B _ S a2.toInt64 0 3 r13 hc13) (va_cwS 3 hts gwRX7_99 rfl rfl rfl hdX7_in ⟨Nat.le_of_ble_eq_true rfl, Nat.le_of_ble_eq_true rfl⟩) hN hK hP hD hS hA rfl hl.1 rfl (Nat.le_of_ble_eq_true rfl) dX7_item_13 (st1 := [.int r13]) rfl ⟨Nat.zero_le _, Nat.zero_le _⟩ (fun H locs hP hD hS => ?_)
    refine lv_if_ne (pc := 16) hx hb (tgt := 21) dX7_item_16 (by decide) (fun c_16 => ?_) (fun c_16 => ?_)
    · have hf := hf_f c_16 hf
      refine lv_aload_n (pc := 21) hx hb dX7_item_21 rfl (lv_at hl 0 rfl) ?_
      refine vMgRX7_67_0 (pc := 22) hx hb hts mU_99 inU7 hown hK hP dX7_item_22 ?_
      refine lv_iload_n (pc := 25) hx hb dX7_item_25 rfl (lv_at hl 1 rfl) ?_
      obtain ⟨hg26, hf⟩ := hf_g hf
      refine vMra_16 (pc := 26) hx hb hK hP (f := (gA S 12)) rfl hg26 dX7_item_26 ?_
      refine lv_iload_n (pc := 27) hx hb dX7_item_27 rfl (lv_at hl 2 rfl) ?_
      refine lv_icmp_eq (pc := 28) hx hb (tgt := 48) dX7_item_28 (by decide) (fun c_28 => ?_) (fun c_28 => ?_)
      · have hf := hf_t c_28 hf
        refine lv_iload_n (pc := 48) hx hb dX7_item_48 rfl (lv_at hl 3 rfl) ?_
        refine lv_i2l (pc := 49) hx hb (v := a3.toInt64) dX7_item_49 rfl ?_
        refine lv_lconst (pc := 50) hx hb (v := 0) dX7_item_50 (by decide) ?_
        refine lv_aload_n (pc := 51) hx hb dX7_item_51 rfl (lv_at hl 0 rfl) ?_
        refine vMgRX7_70_0 (pc := 52) hx hb hts mU_100 inU7 hown hK hP dX7_item_52 ?_
        refine lv_iload_n (pc := 55) hx hb dX7_item_55 rfl (lv_at hl 1 rfl) ?_
        obtain ⟨hg56, hf⟩ := hf_g hf
        refine vMra_17 (pc := 56) hx hb hK hP (f := (gA S 13)) rfl hg56 dX7_item_56 ?_
        refine lv_iconst (pc := 57) hx hb (v := 1) dX7_item_57 (by decide) ?_
        refine lv_isub (pc := 58) hx hb dX7_item_58 ?_
        refine lv_i2l (pc := 59) hx hb (v := (((gA S 13) a1.toNatClampNeg) - 1).toInt64) dX7_item_59 rfl ?_
        obtain ⟨r60, hc60, hf⟩ := hf_b hf
        refine cl_S (pc := 60) (As := [.long a3.toInt64, .long 0, .long ((((gA S 13) a1.toNatClampNeg) - 1).toInt64)]) (rest := []) hx hb hml hown hts (kX7_in l D A B _ S a3.toInt64 0 ((((gA S 13) a1.toNatClampNeg) - 1).toInt64) r60 hc60) (va_cwS 3 hts gwRX7_99 rfl rfl rfl hdX7_in ⟨Nat.le_of_ble_eq_true rfl, Nat.le_of_ble_eq_true rfl⟩) hN hK hP hD hS hA rfl hl.1 rfl (Nat.le_of_ble_eq_true rfl) dX7_item_60 (st1 := [.int r60]) rfl ⟨Nat.zero_le _, Nat.zero_le _⟩ (fun H locs hP hD hS => ?_)
        refine lv_if_eq (pc := 63) hx hb (tgt := 81) dX7_item_63 (by decide) (fun c_63 => ?_) (fun c_63 => ?_)
        · have hf := hf_t c_63 hf
          refine lv_bipush (pc := 81) hx hb (v := (-12)) dX7_item_81 (by decide) ?_
          obtain rfl := Option.some.inj hf
          exact hR H locs 83 ls hP hD hS dX7_item_83
        · have hf := hf_f c_63 hf
          refine lv_aload_n (pc := 66) hx hb dX7_item_66 rfl (lv_at hl 0 rfl) ?_
          refine vMgRX7_73_0 (pc := 67) hx hb hts mU_101 inU7 hown hK hP dX7_item_67 ?_
          refine lv_bipush (pc := 70) hx hb (v := 40) dX7_item_70 (by decide) ?_
          refine lv_iload_n (pc := 72) hx hb dX7_item_72 rfl (lv_at hl 1 rfl) ?_
          refine lv_imul (pc := 73) hx hb dX7_item_73 ?_
          refine lv_iload_n (pc := 74) hx hb dX7_item_74 rfl (lv_at hl 3 rfl) ?_
          refine lv_iadd (pc := 75) hx hb dX7_item_75 ?_
          obtain ⟨hg76, hf⟩ := hf_g hf
          refine vMra_18 (pc := 76) hx hb hK hP (f := (gB S 3)) rfl hg76 dX7_item_76 ?_
          refine lv_l2i (pc := 77) hx hb (v := ((gB S 3) ((40 * a1) + a3).toNatClampNeg).toInt32) dX7_item_77 rfl ?_
          refine lv_goto (pc := 78) hx hb (tgt := 83) dX7_item_78 (by decide) ?_
          obtain rfl := Option.some.inj hf
          exact hR H locs 83 ls hP hD hS dX7_item_83
      · have hf := hf_f c_28 hf
        refine lv_aload_n (pc := 31) hx hb dX7_item_31 rfl (lv_at hl 0 rfl) ?_
        refine vMgRX7_67_0 (pc := 32) hx hb hts mU_99 inU7 hown hK hP dX7_item_32 ?_
        refine lv_iload_n (pc := 35) hx hb dX7_item_35 rfl (lv_at hl 1 rfl) ?_
        obtain ⟨hg36, hf⟩ := hf_g hf
        refine vMra_16 (pc := 36) hx hb hK hP (f := (gA S 12)) rfl hg36 dX7_item_36 ?_
        refine lv_if_ge (pc := 37) hx hb (tgt := 45) dX7_item_37 (by decide) (fun c_37 => ?_) (fun c_37 => ?_)
        · have hf := hf_t c_37 hf
          refine lv_bipush (pc := 45) hx hb (v := (-13)) dX7_item_45 (by decide) ?_
          obtain rfl := Option.some.inj hf
          exact hR H locs 47 ls hP hD hS dX7_item_47
        · have hf := hf_f c_37 hf
          refine lv_bipush (pc := 40) hx hb (v := (-11)) dX7_item_40 (by decide) ?_
          refine lv_goto (pc := 42) hx hb (tgt := 47) dX7_item_42 (by decide) ?_
          obtain rfl := Option.some.inj hf
          exact hR H locs 47 ls hP hD hS dX7_item_47
    · have hf := hf_t c_16 hf
      refine lv_iconst (pc := 19) hx hb (v := (-1)) dX7_item_19 (by decide) ?_
      obtain rfl := Option.some.inj hf
      exact hR H locs 20 ls hP hD hS dX7_item_20
set_option maxHeartbeats 4000000 in
set_option maxRecDepth 100000 in
theorem kX7_move (l : Launch) (D : va_G) (A : Nat → Nat) (B : Nat → ClassId) (sz : Nat) (S : w_S) (a1 : Int32) (a2 : Int32) (a3 : Int32) (a4 : Int32) (a5 : Int32) (z : Int32 × w_S) (hf : fX7_move S a1 a2 a3 a4 a5 = some z) : MetW l yX7_move (wsO yX7_move cX7_move 7 (some .int)) rm_X7_move [.ref (A 0), .int a1, .int a2, .int a3, .int a4, .int a5] D (tyB B) (wM A B S) (wM A B z.2) sz (some (.int z.1)) := by
  refine MetW.mkI (cc := cX7_move) (maxL := 7) (by decide) (Nat.le_of_ble_eq_true rfl) ?_
  intro p e s m args below meth c Ad Q hx hb hts hown hml hN hK hA hR H locs ls hP hD hS hl
  have hl : lv_has ls 7 [(0, .ref (A 0)), (1, .int a1), (2, .int a2), (3, .int a3), (4, .int a4), (5, .int a5)] := hl
  rw [fX7_move] at hf
  refine lv_iload_n (pc := 0) hx hb dX7_move_0 rfl (lv_at hl 1 rfl) ?_
  obtain ⟨r1, hc1, hf⟩ := hf_b hf
  refine cl_S (pc := 1) (As := [.int a1]) (rest := []) hx hb hml hown hts (kX7_isSheet l D A B _ S a1 r1 hc1) (va_cwS 1 hts gwRX7_303 rfl rfl rfl hdX7_isSheet ⟨Nat.le_of_ble_eq_true rfl, Nat.le_of_ble_eq_true rfl⟩) hN hK hP hD hS hA rfl hl.1 rfl (Nat.le_of_ble_eq_true rfl) dX7_move_1 (st1 := [.int r1]) rfl ⟨Nat.zero_le _, Nat.zero_le _⟩ (fun H locs hP hD hS => ?_)
  refine lv_if_eq (pc := 4) hx hb (tgt := 14) dX7_move_4 (by decide) (fun c_4 => ?_) (fun c_4 => ?_)
  · have hf := hf_t c_4 hf
    refine lv_iconst (pc := 14) hx hb (v := (-1)) dX7_move_14 (by decide) ?_
    obtain rfl := Option.some.inj hf
    exact hR H locs 15 ls hP hD hS dX7_move_15
  · have hf := hf_f c_4 hf
    refine lv_iload_n (pc := 7) hx hb dX7_move_7 rfl (lv_at hl 3 rfl) ?_
    obtain ⟨r8, hc8, hf⟩ := hf_b hf
    refine cl_S (pc := 8) (As := [.int a3]) (rest := []) hx hb hml hown hts (kX7_isSheet l D A B _ S a3 r8 hc8) (va_cwS 1 hts gwRX7_303 rfl rfl rfl hdX7_isSheet ⟨Nat.le_of_ble_eq_true rfl, Nat.le_of_ble_eq_true rfl⟩) hN hK hP hD hS hA rfl hl.1 rfl (Nat.le_of_ble_eq_true rfl) dX7_move_8 (st1 := [.int r8]) rfl ⟨Nat.zero_le _, Nat.zero_le _⟩ (fun H locs hP hD hS => ?_)
    refine lv_if_ne (pc := 11) hx hb (tgt := 16) dX7_move_11 (by decide) (fun c_11 => ?_) (fun c_11 => ?_)
    · have hf := hf_f c_11 hf
      refine lv_aload_n (pc := 16) hx hb dX7_move_16 rfl (lv_at hl 0 rfl) ?_
      refine vMgRX7_67_0 (pc := 17) hx hb hts mU_99 inU7 hown hK hP dX7_move_17 ?_
      refine lv_iload_n (pc := 20) hx hb dX7_move_20 rfl (lv_at hl 1 rfl) ?_
      obtain ⟨hg21, hf⟩ := hf_g hf
      refine vMra_16 (pc := 21) hx hb hK hP (f := (gA S 12)) rfl hg21 dX7_move_21 ?_
      refine lv_if_lt (pc := 22) hx hb (tgt := 34) dX7_move_22 (by decide) (fun c_22 => ?_) (fun c_22 => ?_)
      · have hf := hf_t c_22 hf
        refine lv_bipush (pc := 34) hx hb (v := (-11)) dX7_move_34 (by decide) ?_
        obtain rfl := Option.some.inj hf
        exact hR H locs 36 ls hP hD hS dX7_move_36
      · have hf := hf_f c_22 hf
        refine lv_aload_n (pc := 25) hx hb dX7_move_25 rfl (lv_at hl 0 rfl) ?_
        refine vMgRX7_67_0 (pc := 26) hx hb hts mU_99 inU7 hown hK hP dX7_move_26 ?_
        refine lv_iload_n (pc := 29) hx hb dX7_move_29 rfl (lv_at hl 3 rfl) ?_
        obtain ⟨hg30, hf⟩ := hf_g hf
        refine vMra_16 (pc := 30) hx hb hK hP (f := (gA S 12)) rfl hg30 dX7_move_30 ?_
        refine lv_if_ge (pc := 31) hx hb (tgt := 37) dX7_move_31 (by decide) (fun c_31 => ?_) (fun c_31 => ?_)
        · have hf := hf_t c_31 hf
          refine lv_aload_n (pc := 37) hx hb dX7_move_37 rfl (lv_at hl 0 rfl) ?_
          refine vMgRX7_67_0 (pc := 38) hx hb hts mU_99 inU7 hown hK hP dX7_move_38 ?_
          refine lv_iload_n (pc := 41) hx hb dX7_move_41 rfl (lv_at hl 1 rfl) ?_
          obtain ⟨hg42, hf⟩ := hf_g hf
          refine vMra_16 (pc := 42) hx hb hK hP (f := (gA S 12)) rfl hg42 dX7_move_42 ?_
          refine lv_aload_n (pc := 43) hx hb dX7_move_43 rfl (lv_at hl 0 rfl) ?_
          refine vMgRX7_67_0 (pc := 44) hx hb hts mU_99 inU7 hown hK hP dX7_move_44 ?_
          refine lv_iload_n (pc := 47) hx hb dX7_move_47 rfl (lv_at hl 3 rfl) ?_
          obtain ⟨hg48, hf⟩ := hf_g hf
          refine vMra_16 (pc := 48) hx hb hK hP (f := (gA S 12)) rfl hg48 dX7_move_48 ?_
          refine lv_icmp_eq (pc := 49) hx hb (tgt := 55) dX7_move_49 (by decide) (fun c_49 => ?_) (fun c_49 => ?_)
          · have hf := hf_t c_49 hf
            refine lv_iload (pc := 55) hx hb dX7_move_55 (lv_at hl 5 rfl) ?_
            refine lv_if_lt (pc := 57) hx hb (tgt := 96) dX7_move_57 (by decide) (fun c_57 => ?_) (fun c_57 => ?_)
            · have hf := hf_t c_57 hf
              refine lv_bipush (pc := 96) hx hb (v := (-12)) dX7_move_96 (by decide) ?_
              obtain rfl := Option.some.inj hf
              exact hR H locs 98 ls hP hD hS dX7_move_98
            · have hf := hf_f c_57 hf
              refine lv_iload_n (pc := 60) hx hb dX7_move_60 rfl (lv_at hl 2 rfl) ?_
              refine lv_if_lt (pc := 61) hx hb (tgt := 96) dX7_move_61 (by decide) (fun c_61 => ?_) (fun c_61 => ?_)
              · have hf := hf_t c_61 hf
                refine lv_bipush (pc := 96) hx hb (v := (-12)) dX7_move_96 (by decide) ?_
                obtain rfl := Option.some.inj hf
                exact hR H locs 98 ls hP hD hS dX7_move_98
              · have hf := hf_f c_61 hf
                refine lv_iload (pc := 64) hx hb dX7_move_64 (lv_at hl 4 rfl) ?_
                refine lv_if_lt (pc := 66) hx hb (tgt := 96) dX7_move_66 (by decide) (fun c_66 => ?_) (fun c_66 => ?_)
                · have hf := hf_t c_66 hf
                  refine lv_bipush (pc := 96) hx hb (v := (-12)) dX7_move_96 (by decide) ?_
                  obtain rfl := Option.some.inj hf
                  exact hR H locs 98 ls hP hD hS dX7_move_98
                · have hf := hf_f c_66 hf
                  refine lv_iload_n (pc := 69) hx hb dX7_move_69 rfl (lv_at hl 2 rfl) ?_
                  refine lv_aload_n (pc := 70) hx hb dX7_move_70 rfl (lv_at hl 0 rfl) ?_
                  refine vMgRX7_70_0 (pc := 71) hx hb hts mU_100 inU7 hown hK hP dX7_move_71 ?_
                  refine lv_iload_n (pc := 74) hx hb dX7_move_74 rfl (lv_at hl 1 rfl) ?_
                  obtain ⟨hg75, hf⟩ := hf_g hf
                  refine vMra_17 (pc := 75) hx hb hK hP (f := (gA S 13)) rfl hg75 dX7_move_75 ?_
                  refine lv_iload (pc := 76) hx hb dX7_move_76 (lv_at hl 5 rfl) ?_
                  refine lv_isub (pc := 78) hx hb dX7_move_78 ?_
                  refine lv_icmp_gt (pc := 79) hx hb (tgt := 96) dX7_move_79 (by decide) (fun c_79 => ?_) (fun c_79 => ?_)
                  · have hf := hf_t c_79 hf
                    refine lv_bipush (pc := 96) hx hb (v := (-12)) dX7_move_96 (by decide) ?_
                    obtain rfl := Option.some.inj hf
                    exact hR H locs 98 ls hP hD hS dX7_move_98
                  · have hf := hf_f c_79 hf
                    refine lv_iload (pc := 82) hx hb dX7_move_82 (lv_at hl 4 rfl) ?_
                    refine lv_aload_n (pc := 84) hx hb dX7_move_84 rfl (lv_at hl 0 rfl) ?_
                    refine vMgRX7_70_0 (pc := 85) hx hb hts mU_100 inU7 hown hK hP dX7_move_85 ?_
                    refine lv_iload_n (pc := 88) hx hb dX7_move_88 rfl (lv_at hl 3 rfl) ?_
                    obtain ⟨hg89, hf⟩ := hf_g hf
                    refine vMra_17 (pc := 89) hx hb hK hP (f := (gA S 13)) rfl hg89 dX7_move_89 ?_
                    refine lv_iload (pc := 90) hx hb dX7_move_90 (lv_at hl 5 rfl) ?_
                    refine lv_isub (pc := 92) hx hb dX7_move_92 ?_
                    refine lv_icmp_le (pc := 93) hx hb (tgt := 99) dX7_move_93 (by decide) (fun c_93 => ?_) (fun c_93 => ?_)
                    · have hf := hf_t c_93 hf
                      refine lv_iconst (pc := 99) hx hb (v := 0) dX7_move_99 (by decide) ?_
                      refine lv_istore (pc := 100) hx hb (lv' := [(6, .int 0), (0, .ref (A 0)), (1, .int a1), (2, .int a2), (3, .int a3), (4, .int a4), (5, .int a5)]) dX7_move_100 hl (by decide) rfl (fun ls hl => ?_)
                      obtain ⟨q102, hq102, hf⟩ := hf_b hf
                      have hk102 : ∀ (H : Heap) (locs : List Loc) (ls : Array Slot), va_P D vwCl (wM A B q102) H → va_D Ad (wM A B q102) → va_S Ad s.heap H locs → lv_has ls 7 [(0, .ref (A 0)), (3, .int a3), (4, .int a4), (5, .int a5)] → W p l e rm_X7_move s m args below meth c H locs 0 0 Q (F0 m 136 ls []) := by
                        intro H locs ls hP hD hS hl
                        refine lv_iconst (pc := 136) hx hb (v := 0) dX7_move_136 (by decide) ?_
                        refine lv_istore (pc := 137) hx hb (lv' := [(6, .int 0), (0, .ref (A 0)), (3, .int a3), (4, .int a4), (5, .int a5)]) dX7_move_137 hl (by decide) rfl (fun ls hl => ?_)
                        obtain ⟨q139, hq139, hf⟩ := hf_b hf
                        have hk139 : ∀ (H : Heap) (locs : List Loc) (ls : Array Slot), va_P D vwCl (wM A B q139) H → va_D Ad (wM A B q139) → va_S Ad s.heap H locs → lv_has ls 7 [(5, .int a5)] → W p l e rm_X7_move s m args below meth c H locs 0 0 Q (F0 m 174 ls []) := by
                          intro H locs ls hP hD hS hl
                          refine lv_iload (pc := 174) hx hb dX7_move_174 (lv_at hl 0 rfl) ?_
                          obtain rfl := Option.some.inj hf
                          exact hR H locs 176 ls hP hD hS dX7_move_176
                        have lp139 : ∀ (n : Nat) (T139 : w_S) (u6_139 : Int32) (H : Heap) (locs : List Loc) (ls : Array Slot), fX7_move_L139 a3 a4 a5 n T139 u6_139 = some q139 → va_P D vwCl (wM A B T139) H → va_D Ad (wM A B T139) → va_S Ad s.heap H locs → lv_has ls 7 [(0, .ref (A 0)), (3, .int a3), (4, .int a4), (5, .int a5), (6, .int u6_139)] → W p l e rm_X7_move s m args below meth c H locs 0 0 Q (F0 m 139 ls []) := by
                          intro n139
                          induction n139 with
                          | zero => intro T139 u6_139 H locs ls hq139; exact hf_0 hq139
                          | succ n139 ih139 =>
                            intro T139 u6_139 H locs ls hq139 hP hD hS hl
                            rw [fX7_move_L139] at hq139
                            refine lv_iload (pc := 139) hx hb dX7_move_139 (lv_at hl 4 rfl) ?_
                            refine lv_iload (pc := 141) hx hb dX7_move_141 (lv_at hl 3 rfl) ?_
                            refine lv_icmp_ge (pc := 143) hx hb (tgt := 174) dX7_move_143 (by decide) (fun c_143 => ?_) (fun c_143 => ?_)
                            · have hq139 := hf_t c_143 hq139
                              obtain rfl := Option.some.inj hq139
                              exact hk139 H locs ls hP hD hS (lv_sub hl [3] rfl)
                            · have hq139 := hf_f c_143 hq139
                              refine lv_aload_n (pc := 146) hx hb dX7_move_146 rfl (lv_at hl 0 rfl) ?_
                              refine vMgRX7_73_0 (pc := 147) hx hb hts mU_101 inU7 hown hK hP dX7_move_147 ?_
                              refine lv_bipush (pc := 150) hx hb (v := 40) dX7_move_150 (by decide) ?_
                              refine lv_iload_n (pc := 152) hx hb dX7_move_152 rfl (lv_at hl 1 rfl) ?_
                              refine lv_imul (pc := 153) hx hb dX7_move_153 ?_
                              refine lv_iload (pc := 154) hx hb dX7_move_154 (lv_at hl 2 rfl) ?_
                              refine lv_iadd (pc := 156) hx hb dX7_move_156 ?_
                              refine lv_iload (pc := 157) hx hb dX7_move_157 (lv_at hl 4 rfl) ?_
                              refine lv_iadd (pc := 159) hx hb dX7_move_159 ?_
                              refine lv_aload_n (pc := 160) hx hb dX7_move_160 rfl (lv_at hl 0 rfl) ?_
                              refine vMgRX7_76_0 (pc := 161) hx hb hts mU_102 inU7 hown hK hP dX7_move_161 ?_
                              refine lv_iload (pc := 164) hx hb dX7_move_164 (lv_at hl 4 rfl) ?_
                              obtain ⟨hg166, hq139⟩ := hf_g hq139
                              refine vMra_19 (pc := 166) hx hb hK hP (f := (gB T139 4)) rfl hg166 dX7_move_166 ?_
                              obtain ⟨hg167, hq139⟩ := hf_g hq139
                              refine vMwa_18 (pc := 167) hx hb hK hP hD hS (f := (gB T139 3)) rfl hg167 dX7_move_167 (fun H locs hP hD hS => ?_)
                              refine lv_iinc (pc := 168) hx hb (v := u6_139 + 1) (lv' := [(6, .int (u6_139 + 1)), (0, .ref (A 0)), (3, .int a3), (4, .int a4), (5, .int a5)]) dX7_move_168 hl (k := 4) rfl rfl (by decide) rfl (fun ls hl => ?_)
                              refine lv_goto (pc := 171) hx hb (tgt := 139) dX7_move_171 (by decide) ?_
                              exact ih139 (sB T139 3 (vp_updL (gB T139 3) (((40 * a3) + a4) + u6_139).toNatClampNeg ((gB T139 4) u6_139.toNatClampNeg))) (u6_139 + 1) H locs ls hq139 hP hD hS (lv_sub hl [1, 2, 3, 4, 0] rfl)
                        exact lp139 256 q102 0 H locs ls hq139 hP hD hS (lv_sub hl [1, 2, 3, 4, 0] rfl)
                      have lp102 : ∀ (n : Nat) (T102 : w_S) (u6_102 : Int32) (H : Heap) (locs : List Loc) (ls : Array Slot), fX7_move_L102 a1 a2 a3 a4 a5 n T102 u6_102 = some q102 → va_P D vwCl (wM A B T102) H → va_D Ad (wM A B T102) → va_S Ad s.heap H locs → lv_has ls 7 [(0, .ref (A 0)), (1, .int a1), (2, .int a2), (3, .int a3), (4, .int a4), (5, .int a5), (6, .int u6_102)] → W p l e rm_X7_move s m args below meth c H locs 0 0 Q (F0 m 102 ls []) := by
                        intro n102
                        induction n102 with
                        | zero => intro T102 u6_102 H locs ls hq102; exact hf_0 hq102
                        | succ n102 ih102 =>
                          intro T102 u6_102 H locs ls hq102 hP hD hS hl
                          rw [fX7_move_L102] at hq102
                          refine lv_iload (pc := 102) hx hb dX7_move_102 (lv_at hl 6 rfl) ?_
                          refine lv_iload (pc := 104) hx hb dX7_move_104 (lv_at hl 5 rfl) ?_
                          refine lv_icmp_ge (pc := 106) hx hb (tgt := 136) dX7_move_106 (by decide) (fun c_106 => ?_) (fun c_106 => ?_)
                          · have hq102 := hf_t c_106 hq102
                            obtain rfl := Option.some.inj hq102
                            exact hk102 H locs ls hP hD hS (lv_sub hl [0, 3, 4, 5] rfl)
                          · have hq102 := hf_f c_106 hq102
                            refine lv_aload_n (pc := 109) hx hb dX7_move_109 rfl (lv_at hl 0 rfl) ?_
                            refine vMgRX7_76_0 (pc := 110) hx hb hts mU_102 inU7 hown hK hP dX7_move_110 ?_
                            refine lv_iload (pc := 113) hx hb dX7_move_113 (lv_at hl 6 rfl) ?_
                            refine lv_aload_n (pc := 115) hx hb dX7_move_115 rfl (lv_at hl 0 rfl) ?_
                            refine vMgRX7_73_0 (pc := 116) hx hb hts mU_101 inU7 hown hK hP dX7_move_116 ?_
                            refine lv_bipush (pc := 119) hx hb (v := 40) dX7_move_119 (by decide) ?_
                            refine lv_iload_n (pc := 121) hx hb dX7_move_121 rfl (lv_at hl 1 rfl) ?_
                            refine lv_imul (pc := 122) hx hb dX7_move_122 ?_
                            refine lv_iload_n (pc := 123) hx hb dX7_move_123 rfl (lv_at hl 2 rfl) ?_
                            refine lv_iadd (pc := 124) hx hb dX7_move_124 ?_
                            refine lv_iload (pc := 125) hx hb dX7_move_125 (lv_at hl 6 rfl) ?_
                            refine lv_iadd (pc := 127) hx hb dX7_move_127 ?_
                            obtain ⟨hg128, hq102⟩ := hf_g hq102
                            refine vMra_18 (pc := 128) hx hb hK hP (f := (gB T102 3)) rfl hg128 dX7_move_128 ?_
                            obtain ⟨hg129, hq102⟩ := hf_g hq102
                            refine vMwa_19 (pc := 129) hx hb hK hP hD hS (f := (gB T102 4)) rfl hg129 dX7_move_129 (fun H locs hP hD hS => ?_)
                            refine lv_iinc (pc := 130) hx hb (v := u6_102 + 1) (lv' := [(6, .int (u6_102 + 1)), (0, .ref (A 0)), (1, .int a1), (2, .int a2), (3, .int a3), (4, .int a4), (5, .int a5)]) dX7_move_130 hl (k := 6) rfl rfl (by decide) rfl (fun ls hl => ?_)
                            refine lv_goto (pc := 133) hx hb (tgt := 102) dX7_move_133 (by decide) ?_
                            exact ih102 (sB T102 4 (vp_updL (gB T102 4) u6_102.toNatClampNeg ((gB T102 3) (((40 * a1) + a2) + u6_102).toNatClampNeg))) (u6_102 + 1) H locs ls hq102 hP hD hS (lv_sub hl [1, 2, 3, 4, 5, 6, 0] rfl)
                      exact lp102 256 S 0 H locs ls hq102 hP hD hS (lv_sub hl [1, 2, 3, 4, 5, 6, 0] rfl)
                    · have hf := hf_f c_93 hf
                      refine lv_bipush (pc := 96) hx hb (v := (-12)) dX7_move_96 (by decide) ?_
                      obtain rfl := Option.some.inj hf
                      exact hR H locs 98 ls hP hD hS dX7_move_98
          · have hf := hf_f c_49 hf
            refine lv_bipush (pc := 52) hx hb (v := (-13)) dX7_move_52 (by decide) ?_
            obtain rfl := Option.some.inj hf
            exact hR H locs 54 ls hP hD hS dX7_move_54
        · have hf := hf_f c_31 hf
          refine lv_bipush (pc := 34) hx hb (v := (-11)) dX7_move_34 (by decide) ?_
          obtain rfl := Option.some.inj hf
          exact hR H locs 36 ls hP hD hS dX7_move_36
    · have hf := hf_t c_11 hf
      refine lv_iconst (pc := 14) hx hb (v := (-1)) dX7_move_14 (by decide) ?_
      obtain rfl := Option.some.inj hf
      exact hR H locs 15 ls hP hD hS dX7_move_15
set_option maxHeartbeats 4000000 in
set_option maxRecDepth 100000 in
theorem kX7_isShelf (l : Launch) (D : va_G) (A : Nat → Nat) (B : Nat → ClassId) (sz : Nat) (S : w_S) (a0 : Int32) (z : Int32) (hf : fX7_isShelf a0 = some z) : MetW l yX7_isShelf (wsO yX7_isShelf cX7_isShelf 1 (some .boolean)) rm_X7_isShelf [.int a0] D (tyB B) (wM A B S) (wM A B S) sz (some (.int z)) := by
  refine MetW.mkZ (cc := cX7_isShelf) (maxL := 1) (by decide) (Nat.le_of_ble_eq_true rfl) ?_
  intro p e s m args below meth c Ad Q hx hb hts hown hml hN hK hA hR H locs ls hP hD hS hl
  have hl : lv_has ls 1 [(0, .int a0)] := hl
  rw [fX7_isShelf] at hf
  refine lv_iload_n (pc := 0) hx hb dX7_isShelf_0 rfl (lv_at hl 0 rfl) ?_
  refine lv_i2l (pc := 1) hx hb (v := a0.toInt64) dX7_isShelf_1 rfl ?_
  refine lv_lconst (pc := 2) hx hb (v := 0) dX7_isShelf_2 (by decide) ?_
  refine lv_ldc2 (pc := 3) hx hb (v := 3) hown (hts (.constantLong RX7 118 (3)) mU_125) dX7_isShelf_3 ?_
  obtain ⟨r6, hc6, hf⟩ := hf_b hf
  refine cl_S (pc := 6) (As := [.long a0.toInt64, .long 0, .long 3]) (rest := []) hx hb hml hown hts (kX7_in l D A B _ S a0.toInt64 0 3 r6 hc6) (va_cwS 3 hts gwRX7_99 rfl rfl rfl hdX7_in ⟨Nat.le_of_ble_eq_true rfl, Nat.le_of_ble_eq_true rfl⟩) hN hK hP hD hS hA rfl hl.1 rfl (Nat.le_of_ble_eq_true rfl) dX7_isShelf_6 (st1 := [.int r6]) rfl ⟨Nat.zero_le _, Nat.zero_le _⟩ (fun H locs hP hD hS => ?_)
  obtain ⟨hg9, hf⟩ := hf_g hf
  obtain rfl := Option.some.inj hf
  exact hR H locs 9 ls hP hD hS (nz_of hg9) dX7_isShelf_9
set_option maxHeartbeats 4000000 in
set_option maxRecDepth 100000 in
theorem kX7_shelf (l : Launch) (D : va_G) (A : Nat → Nat) (B : Nat → ClassId) (sz : Nat) (S : w_S) (a1 : Int32) (a2 : Int32) (a3 : Int32) (z : Int32 × w_S) (hf : fX7_shelf S a1 a2 a3 = some z) : MetW l yX7_shelf (wsO yX7_shelf cX7_shelf 4 (some .int)) rm_X7_shelf [.ref (A 0), .int a1, .int a2, .int a3] D (tyB B) (wM A B S) (wM A B z.2) sz (some (.int z.1)) := by
  refine MetW.mkI (cc := cX7_shelf) (maxL := 4) (by decide) (Nat.le_of_ble_eq_true rfl) ?_
  intro p e s m args below meth c Ad Q hx hb hts hown hml hN hK hA hR H locs ls hP hD hS hl
  have hl : lv_has ls 4 [(0, .ref (A 0)), (1, .int a1), (2, .int a2), (3, .int a3)] := hl
  rw [fX7_shelf] at hf
  refine lv_iload_n (pc := 0) hx hb dX7_shelf_0 rfl (lv_at hl 1 rfl) ?_
  obtain ⟨r1, hc1, hf⟩ := hf_b hf
  refine cl_S (pc := 1) (As := [.int a1]) (rest := []) hx hb hml hown hts (kX7_isShelf l D A B _ S a1 r1 hc1) (va_cwS 1 hts gwRX7_335 rfl rfl rfl hdX7_isShelf ⟨Nat.le_of_ble_eq_true rfl, Nat.le_of_ble_eq_true rfl⟩) hN hK hP hD hS hA rfl hl.1 rfl (Nat.le_of_ble_eq_true rfl) dX7_shelf_1 (st1 := [.int r1]) rfl ⟨Nat.zero_le _, Nat.zero_le _⟩ (fun H locs hP hD hS => ?_)
  refine lv_if_eq (pc := 4) hx hb (tgt := 43) dX7_shelf_4 (by decide) (fun c_4 => ?_) (fun c_4 => ?_)
  · have hf := hf_t c_4 hf
    refine lv_iconst (pc := 43) hx hb (v := (-1)) dX7_shelf_43 (by decide) ?_
    obtain rfl := Option.some.inj hf
    exact hR H locs 44 ls hP hD hS dX7_shelf_44
  · have hf := hf_f c_4 hf
    refine lv_iload_n (pc := 7) hx hb dX7_shelf_7 rfl (lv_at hl 2 rfl) ?_
    refine lv_i2l (pc := 8) hx hb (v := a2.toInt64) dX7_shelf_8 rfl ?_
    refine lv_lconst (pc := 9) hx hb (v := 0) dX7_shelf_9 (by decide) ?_
    refine lv_ldc2 (pc := 10) hx hb (v := 2) hown (hts (.constantLong RX7 97 (2)) mU_167) dX7_shelf_10 ?_
    obtain ⟨r13, hc13, hf⟩ := hf_b hf
    refine cl_S (pc := 13) (As := [.long a2.toInt64, .long 0, .long 2]) (rest := []) hx hb hml hown hts (kX7_in l D A B _ S a2.toInt64 0 2 r13 hc13) (va_cwS 3 hts gwRX7_99 rfl rfl rfl hdX7_in ⟨Nat.le_of_ble_eq_true rfl, Nat.le_of_ble_eq_true rfl⟩) hN hK hP hD hS hA rfl hl.1 rfl (Nat.le_of_ble_eq_true rfl) dX7_shelf_13 (st1 := [.int r13]) rfl ⟨Nat.zero_le _, Nat.zero_le _⟩ (fun H locs hP hD hS => ?_)
    refine lv_if_eq (pc := 16) hx hb (tgt := 43) dX7_shelf_16 (by decide) (fun c_16 => ?_) (fun c_16 => ?_)
    · have hf := hf_t c_16 hf
      refine lv_iconst (pc := 43) hx hb (v := (-1)) dX7_shelf_43 (by decide) ?_
      obtain rfl := Option.some.inj hf
      exact hR H locs 44 ls hP hD hS dX7_shelf_44
    · have hf := hf_f c_16 hf
      refine lv_iload_n (pc := 19) hx hb dX7_shelf_19 rfl (lv_at hl 2 rfl) ?_
      refine lv_if_ne (pc := 20) hx hb (tgt := 31) dX7_shelf_20 (by decide) (fun c_20 => ?_) (fun c_20 => ?_)
      · have hf := hf_f c_20 hf
        refine lv_iload_n (pc := 31) hx hb dX7_shelf_31 rfl (lv_at hl 2 rfl) ?_
        refine lv_iconst (pc := 32) hx hb (v := 1) dX7_shelf_32 (by decide) ?_
        refine lv_icmp_ne (pc := 33) hx hb (tgt := 45) dX7_shelf_33 (by decide) (fun c_33 => ?_) (fun c_33 => ?_)
        · have hf := hf_f c_33 hf
          refine lv_aload_n (pc := 45) hx hb dX7_shelf_45 rfl (lv_at hl 0 rfl) ?_
          refine vMgRX7_79_0 (pc := 46) hx hb hts mU_103 inU7 hown hK hP dX7_shelf_46 ?_
          refine lv_iload_n (pc := 49) hx hb dX7_shelf_49 rfl (lv_at hl 1 rfl) ?_
          refine lv_iload_n (pc := 50) hx hb dX7_shelf_50 rfl (lv_at hl 2 rfl) ?_
          refine lv_iconst (pc := 51) hx hb (v := 1) dX7_shelf_51 (by decide) ?_
          obtain ⟨q69, hv69, hf⟩ := hf_b hf
          have hj69 : ∀ (H : Heap) (locs : List Loc) (ls : Array Slot), va_P D vwCl (wM A B S) H → va_D Ad (wM A B S) → va_S Ad s.heap H locs → lv_has ls 4 [(0, .ref (A 0)), (1, .int a1), (2, .int a2), (3, .int a3)] → W p l e rm_X7_shelf s m args below meth c H locs 0 0 Q (F0 m 69 ls [.int q69, .int a1, .ref (A 20)]) := by
            intro H locs ls hP hD hS hl
            obtain ⟨hg69, hf⟩ := hf_g hf
            refine vMwa_20 (pc := 69) hx hb hK hP hD hS (f := (gA S 14)) rfl hg69 dX7_shelf_69 (fun H locs hP hD hS => ?_)
            refine lv_aload_n (pc := 70) hx hb dX7_shelf_70 rfl (lv_at hl 0 rfl) ?_
            refine vMgRX7_82_0 (pc := 71) hx hb hts mU_104 inU7 hown hK hP dX7_shelf_71 ?_
            refine lv_iload_n (pc := 74) hx hb dX7_shelf_74 rfl (lv_at hl 1 rfl) ?_
            refine lv_iload_n (pc := 75) hx hb dX7_shelf_75 rfl (lv_at hl 2 rfl) ?_
            refine lv_iconst (pc := 76) hx hb (v := 1) dX7_shelf_76 (by decide) ?_
            obtain ⟨q90, hv90, hf⟩ := hf_b hf
            have hj90 : ∀ (H : Heap) (locs : List Loc) (ls : Array Slot), va_P D vwCl (wM A B (sA S 14 (upd (gA S 14) a1.toNatClampNeg q69))) H → va_D Ad (wM A B (sA S 14 (upd (gA S 14) a1.toNatClampNeg q69))) → va_S Ad s.heap H locs → lv_has ls 4 [(0, .ref (A 0)), (1, .int a1), (2, .int a2), (3, .int a3)] → W p l e rm_X7_shelf s m args below meth c H locs 0 0 Q (F0 m 90 ls [.int q90, .int a1, .ref (A 21)]) := by
              intro H locs ls hP hD hS hl
              obtain ⟨hg90, hf⟩ := hf_g hf
              refine vMwa_21 (pc := 90) hx hb hK hP hD hS (f := (gA S 15)) rfl hg90 dX7_shelf_90 (fun H locs hP hD hS => ?_)
              refine lv_aload_n (pc := 91) hx hb dX7_shelf_91 rfl (lv_at hl 0 rfl) ?_
              refine vMgRX7_85_0 (pc := 92) hx hb hts mU_105 inU7 hown hK hP dX7_shelf_92 ?_
              refine lv_iload_n (pc := 95) hx hb dX7_shelf_95 rfl (lv_at hl 1 rfl) ?_
              refine lv_iload_n (pc := 96) hx hb dX7_shelf_96 rfl (lv_at hl 2 rfl) ?_
              refine lv_iconst (pc := 97) hx hb (v := 1) dX7_shelf_97 (by decide) ?_
              refine lv_icmp_ne (pc := 98) hx hb (tgt := 110) dX7_shelf_98 (by decide) (fun c_98 => ?_) (fun c_98 => ?_)
              · have hf := hf_f c_98 hf
                refine lv_iconst (pc := 110) hx hb (v := 0) dX7_shelf_110 (by decide) ?_
                obtain ⟨hg111, hf⟩ := hf_g hf
                refine vMwa_22 (pc := 111) hx hb hK hP hD hS (f := (gA S 16)) rfl hg111 dX7_shelf_111 (fun H locs hP hD hS => ?_)
                refine lv_iconst (pc := 112) hx hb (v := 1) dX7_shelf_112 (by decide) ?_
                obtain rfl := Option.some.inj hf
                exact hR H locs 113 ls hP hD hS dX7_shelf_113
              · have hf := hf_t c_98 hf
                refine lv_aload_n (pc := 101) hx hb dX7_shelf_101 rfl (lv_at hl 0 rfl) ?_
                refine vMgRX7_70_0 (pc := 102) hx hb hts mU_100 inU7 hown hK hP dX7_shelf_102 ?_
                refine lv_iload_n (pc := 105) hx hb dX7_shelf_105 rfl (lv_at hl 3 rfl) ?_
                obtain ⟨hg106, hf⟩ := hf_g hf
                refine vMra_17 (pc := 106) hx hb hK hP (f := (gA S 13)) rfl hg106 dX7_shelf_106 ?_
                refine lv_goto (pc := 107) hx hb (tgt := 111) dX7_shelf_107 (by decide) ?_
                obtain ⟨hg111, hf⟩ := hf_g hf
                refine vMwa_22 (pc := 111) hx hb hK hP hD hS (f := (gA S 16)) rfl hg111 dX7_shelf_111 (fun H locs hP hD hS => ?_)
                refine lv_iconst (pc := 112) hx hb (v := 1) dX7_shelf_112 (by decide) ?_
                obtain rfl := Option.some.inj hf
                exact hR H locs 113 ls hP hD hS dX7_shelf_113
            refine lv_icmp_ne (pc := 77) hx hb (tgt := 89) dX7_shelf_77 (by decide) (fun c_77 => ?_) (fun c_77 => ?_)
            · have hv90 := hf_f c_77 hv90
              refine lv_iload_n (pc := 89) hx hb dX7_shelf_89 rfl (lv_at hl 3 rfl) ?_
              obtain rfl := Option.some.inj hv90
              exact hj90 H locs ls hP hD hS (lv_sub hl [0, 1, 2, 3] rfl)
            · have hv90 := hf_t c_77 hv90
              refine lv_aload_n (pc := 80) hx hb dX7_shelf_80 rfl (lv_at hl 0 rfl) ?_
              refine vMgRX7_67_0 (pc := 81) hx hb hts mU_99 inU7 hown hK hP dX7_shelf_81 ?_
              refine lv_iload_n (pc := 84) hx hb dX7_shelf_84 rfl (lv_at hl 3 rfl) ?_
              obtain ⟨hg85, hv90⟩ := hf_g hv90
              refine vMra_16 (pc := 85) hx hb hK hP (f := (gA S 12)) rfl hg85 dX7_shelf_85 ?_
              refine lv_goto (pc := 86) hx hb (tgt := 90) dX7_shelf_86 (by decide) ?_
              obtain rfl := Option.some.inj hv90
              exact hj90 H locs ls hP hD hS (lv_sub hl [0, 1, 2, 3] rfl)
          refine lv_icmp_ne (pc := 52) hx hb (tgt := 68) dX7_shelf_52 (by decide) (fun c_52 => ?_) (fun c_52 => ?_)
          · have hv69 := hf_f c_52 hv69
            refine lv_iload_n (pc := 68) hx hb dX7_shelf_68 rfl (lv_at hl 2 rfl) ?_
            obtain rfl := Option.some.inj hv69
            exact hj69 H locs ls hP hD hS (lv_sub hl [0, 1, 2, 3] rfl)
          · have hv69 := hf_t c_52 hv69
            refine lv_aload_n (pc := 55) hx hb dX7_shelf_55 rfl (lv_at hl 0 rfl) ?_
            refine vMgRX7_67_0 (pc := 56) hx hb hts mU_99 inU7 hown hK hP dX7_shelf_56 ?_
            refine lv_iload_n (pc := 59) hx hb dX7_shelf_59 rfl (lv_at hl 3 rfl) ?_
            obtain ⟨hg60, hv69⟩ := hf_g hv69
            refine vMra_16 (pc := 60) hx hb hK hP (f := (gA S 12)) rfl hg60 dX7_shelf_60 ?_
            refine lv_if_ge (pc := 61) hx hb (tgt := 68) dX7_shelf_61 (by decide) (fun c_61 => ?_) (fun c_61 => ?_)
            · have hv69 := hf_t c_61 hv69
              refine lv_iload_n (pc := 68) hx hb dX7_shelf_68 rfl (lv_at hl 2 rfl) ?_
              obtain rfl := Option.some.inj hv69
              exact hj69 H locs ls hP hD hS (lv_sub hl [0, 1, 2, 3] rfl)
            · have hv69 := hf_f c_61 hv69
              refine lv_iconst (pc := 64) hx hb (v := 2) dX7_shelf_64 (by decide) ?_
              refine lv_goto (pc := 65) hx hb (tgt := 69) dX7_shelf_65 (by decide) ?_
              obtain rfl := Option.some.inj hv69
              exact hj69 H locs ls hP hD hS (lv_sub hl [0, 1, 2, 3] rfl)
        · have hf := hf_t c_33 hf
          refine lv_iload_n (pc := 36) hx hb dX7_shelf_36 rfl (lv_at hl 3 rfl) ?_
          obtain ⟨r37, hc37, hf⟩ := hf_b hf
          refine cl_S (pc := 37) (As := [.int a3]) (rest := []) hx hb hml hown hts (kX7_isSheet l D A B _ S a3 r37 hc37) (va_cwS 1 hts gwRX7_303 rfl rfl rfl hdX7_isSheet ⟨Nat.le_of_ble_eq_true rfl, Nat.le_of_ble_eq_true rfl⟩) hN hK hP hD hS hA rfl hl.1 rfl (Nat.le_of_ble_eq_true rfl) dX7_shelf_37 (st1 := [.int r37]) rfl ⟨Nat.zero_le _, Nat.zero_le _⟩ (fun H locs hP hD hS => ?_)
          refine lv_if_ne (pc := 40) hx hb (tgt := 45) dX7_shelf_40 (by decide) (fun c_40 => ?_) (fun c_40 => ?_)
          · have hf := hf_f c_40 hf
            refine lv_aload_n (pc := 45) hx hb dX7_shelf_45 rfl (lv_at hl 0 rfl) ?_
            refine vMgRX7_79_0 (pc := 46) hx hb hts mU_103 inU7 hown hK hP dX7_shelf_46 ?_
            refine lv_iload_n (pc := 49) hx hb dX7_shelf_49 rfl (lv_at hl 1 rfl) ?_
            refine lv_iload_n (pc := 50) hx hb dX7_shelf_50 rfl (lv_at hl 2 rfl) ?_
            refine lv_iconst (pc := 51) hx hb (v := 1) dX7_shelf_51 (by decide) ?_
            obtain ⟨q69, hv69, hf⟩ := hf_b hf
            have hj69 : ∀ (H : Heap) (locs : List Loc) (ls : Array Slot), va_P D vwCl (wM A B S) H → va_D Ad (wM A B S) → va_S Ad s.heap H locs → lv_has ls 4 [(0, .ref (A 0)), (1, .int a1), (2, .int a2), (3, .int a3)] → W p l e rm_X7_shelf s m args below meth c H locs 0 0 Q (F0 m 69 ls [.int q69, .int a1, .ref (A 20)]) := by
              intro H locs ls hP hD hS hl
              obtain ⟨hg69, hf⟩ := hf_g hf
              refine vMwa_20 (pc := 69) hx hb hK hP hD hS (f := (gA S 14)) rfl hg69 dX7_shelf_69 (fun H locs hP hD hS => ?_)
              refine lv_aload_n (pc := 70) hx hb dX7_shelf_70 rfl (lv_at hl 0 rfl) ?_
              refine vMgRX7_82_0 (pc := 71) hx hb hts mU_104 inU7 hown hK hP dX7_shelf_71 ?_
              refine lv_iload_n (pc := 74) hx hb dX7_shelf_74 rfl (lv_at hl 1 rfl) ?_
              refine lv_iload_n (pc := 75) hx hb dX7_shelf_75 rfl (lv_at hl 2 rfl) ?_
              refine lv_iconst (pc := 76) hx hb (v := 1) dX7_shelf_76 (by decide) ?_
              obtain ⟨q90, hv90, hf⟩ := hf_b hf
              have hj90 : ∀ (H : Heap) (locs : List Loc) (ls : Array Slot), va_P D vwCl (wM A B (sA S 14 (upd (gA S 14) a1.toNatClampNeg q69))) H → va_D Ad (wM A B (sA S 14 (upd (gA S 14) a1.toNatClampNeg q69))) → va_S Ad s.heap H locs → lv_has ls 4 [(0, .ref (A 0)), (1, .int a1), (2, .int a2), (3, .int a3)] → W p l e rm_X7_shelf s m args below meth c H locs 0 0 Q (F0 m 90 ls [.int q90, .int a1, .ref (A 21)]) := by
                intro H locs ls hP hD hS hl
                obtain ⟨hg90, hf⟩ := hf_g hf
                refine vMwa_21 (pc := 90) hx hb hK hP hD hS (f := (gA S 15)) rfl hg90 dX7_shelf_90 (fun H locs hP hD hS => ?_)
                refine lv_aload_n (pc := 91) hx hb dX7_shelf_91 rfl (lv_at hl 0 rfl) ?_
                refine vMgRX7_85_0 (pc := 92) hx hb hts mU_105 inU7 hown hK hP dX7_shelf_92 ?_
                refine lv_iload_n (pc := 95) hx hb dX7_shelf_95 rfl (lv_at hl 1 rfl) ?_
                refine lv_iload_n (pc := 96) hx hb dX7_shelf_96 rfl (lv_at hl 2 rfl) ?_
                refine lv_iconst (pc := 97) hx hb (v := 1) dX7_shelf_97 (by decide) ?_
                refine lv_icmp_ne (pc := 98) hx hb (tgt := 110) dX7_shelf_98 (by decide) (fun c_98 => ?_) (fun c_98 => ?_)
                · have hf := hf_f c_98 hf
                  refine lv_iconst (pc := 110) hx hb (v := 0) dX7_shelf_110 (by decide) ?_
                  obtain ⟨hg111, hf⟩ := hf_g hf
                  refine vMwa_22 (pc := 111) hx hb hK hP hD hS (f := (gA S 16)) rfl hg111 dX7_shelf_111 (fun H locs hP hD hS => ?_)
                  refine lv_iconst (pc := 112) hx hb (v := 1) dX7_shelf_112 (by decide) ?_
                  obtain rfl := Option.some.inj hf
                  exact hR H locs 113 ls hP hD hS dX7_shelf_113
                · have hf := hf_t c_98 hf
                  refine lv_aload_n (pc := 101) hx hb dX7_shelf_101 rfl (lv_at hl 0 rfl) ?_
                  refine vMgRX7_70_0 (pc := 102) hx hb hts mU_100 inU7 hown hK hP dX7_shelf_102 ?_
                  refine lv_iload_n (pc := 105) hx hb dX7_shelf_105 rfl (lv_at hl 3 rfl) ?_
                  obtain ⟨hg106, hf⟩ := hf_g hf
                  refine vMra_17 (pc := 106) hx hb hK hP (f := (gA S 13)) rfl hg106 dX7_shelf_106 ?_
                  refine lv_goto (pc := 107) hx hb (tgt := 111) dX7_shelf_107 (by decide) ?_
                  obtain ⟨hg111, hf⟩ := hf_g hf
                  refine vMwa_22 (pc := 111) hx hb hK hP hD hS (f := (gA S 16)) rfl hg111 dX7_shelf_111 (fun H locs hP hD hS => ?_)
                  refine lv_iconst (pc := 112) hx hb (v := 1) dX7_shelf_112 (by decide) ?_
                  obtain rfl := Option.some.inj hf
                  exact hR H locs 113 ls hP hD hS dX7_shelf_113
              refine lv_icmp_ne (pc := 77) hx hb (tgt := 89) dX7_shelf_77 (by decide) (fun c_77 => ?_) (fun c_77 => ?_)
              · have hv90 := hf_f c_77 hv90
                refine lv_iload_n (pc := 89) hx hb dX7_shelf_89 rfl (lv_at hl 3 rfl) ?_
                obtain rfl := Option.some.inj hv90
                exact hj90 H locs ls hP hD hS (lv_sub hl [0, 1, 2, 3] rfl)
              · have hv90 := hf_t c_77 hv90
                refine lv_aload_n (pc := 80) hx hb dX7_shelf_80 rfl (lv_at hl 0 rfl) ?_
                refine vMgRX7_67_0 (pc := 81) hx hb hts mU_99 inU7 hown hK hP dX7_shelf_81 ?_
                refine lv_iload_n (pc := 84) hx hb dX7_shelf_84 rfl (lv_at hl 3 rfl) ?_
                obtain ⟨hg85, hv90⟩ := hf_g hv90
                refine vMra_16 (pc := 85) hx hb hK hP (f := (gA S 12)) rfl hg85 dX7_shelf_85 ?_
                refine lv_goto (pc := 86) hx hb (tgt := 90) dX7_shelf_86 (by decide) ?_
                obtain rfl := Option.some.inj hv90
                exact hj90 H locs ls hP hD hS (lv_sub hl [0, 1, 2, 3] rfl)
            refine lv_icmp_ne (pc := 52) hx hb (tgt := 68) dX7_shelf_52 (by decide) (fun c_52 => ?_) (fun c_52 => ?_)
            · have hv69 := hf_f c_52 hv69
              refine lv_iload_n (pc := 68) hx hb dX7_shelf_68 rfl (lv_at hl 2 rfl) ?_
              obtain rfl := Option.some.inj hv69
              exact hj69 H locs ls hP hD hS (lv_sub hl [0, 1, 2, 3] rfl)
            · have hv69 := hf_t c_52 hv69
              refine lv_aload_n (pc := 55) hx hb dX7_shelf_55 rfl (lv_at hl 0 rfl) ?_
              refine vMgRX7_67_0 (pc := 56) hx hb hts mU_99 inU7 hown hK hP dX7_shelf_56 ?_
              refine lv_iload_n (pc := 59) hx hb dX7_shelf_59 rfl (lv_at hl 3 rfl) ?_
              obtain ⟨hg60, hv69⟩ := hf_g hv69
              refine vMra_16 (pc := 60) hx hb hK hP (f := (gA S 12)) rfl hg60 dX7_shelf_60 ?_
              refine lv_if_ge (pc := 61) hx hb (tgt := 68) dX7_shelf_61 (by decide) (fun c_61 => ?_) (fun c_61 => ?_)
              · have hv69 := hf_t c_61 hv69
                refine lv_iload_n (pc := 68) hx hb dX7_shelf_68 rfl (lv_at hl 2 rfl) ?_
                obtain rfl := Option.some.inj hv69
                exact hj69 H locs ls hP hD hS (lv_sub hl [0, 1, 2, 3] rfl)
              · have hv69 := hf_f c_61 hv69
                refine lv_iconst (pc := 64) hx hb (v := 2) dX7_shelf_64 (by decide) ?_
                refine lv_goto (pc := 65) hx hb (tgt := 69) dX7_shelf_65 (by decide) ?_
                obtain rfl := Option.some.inj hv69
                exact hj69 H locs ls hP hD hS (lv_sub hl [0, 1, 2, 3] rfl)
          · have hf := hf_t c_40 hf
            refine lv_iconst (pc := 43) hx hb (v := (-1)) dX7_shelf_43 (by decide) ?_
            obtain rfl := Option.some.inj hf
            exact hR H locs 44 ls hP hD hS dX7_shelf_44
      · have hf := hf_t c_20 hf
        refine lv_aload_n (pc := 23) hx hb dX7_shelf_23 rfl (lv_at hl 0 rfl) ?_
        refine lv_iload_n (pc := 24) hx hb dX7_shelf_24 rfl (lv_at hl 3 rfl) ?_
        obtain ⟨r25, hc25, hf⟩ := hf_b hf
        refine cl_V (pc := 25) (As := [.int a3]) (rest := []) hx hb hml hown hts (kX7_isEquation l D A B _ S a3 r25 hc25) (cwV 1 hts gwRX7_203 rfl rfl rfl hdX7_isEquation ⟨Nat.le_of_ble_eq_true rfl, Nat.le_of_ble_eq_true rfl⟩) hN hK hP hD hS hA (va_recv hK hP (ci := 7) (q0 := 0) rfl (eM_0 A B _)) rfl hl.1 rfl (Nat.le_of_ble_eq_true rfl) dX7_shelf_25 (st1 := [.int r25]) rfl ⟨Nat.zero_le _, Nat.zero_le _⟩ (fun H locs hP hD hS => ?_)
        refine lv_if_eq (pc := 28) hx hb (tgt := 43) dX7_shelf_28 (by decide) (fun c_28 => ?_) (fun c_28 => ?_)
        · have hf := hf_t c_28 hf
          refine lv_iconst (pc := 43) hx hb (v := (-1)) dX7_shelf_43 (by decide) ?_
          obtain rfl := Option.some.inj hf
          exact hR H locs 44 ls hP hD hS dX7_shelf_44
        · have hf := hf_f c_28 hf
          refine lv_iload_n (pc := 31) hx hb dX7_shelf_31 rfl (lv_at hl 2 rfl) ?_
          refine lv_iconst (pc := 32) hx hb (v := 1) dX7_shelf_32 (by decide) ?_
          refine lv_icmp_ne (pc := 33) hx hb (tgt := 45) dX7_shelf_33 (by decide) (fun c_33 => ?_) (fun c_33 => ?_)
          · have hf := hf_f c_33 hf
            refine lv_aload_n (pc := 45) hx hb dX7_shelf_45 rfl (lv_at hl 0 rfl) ?_
            refine vMgRX7_79_0 (pc := 46) hx hb hts mU_103 inU7 hown hK hP dX7_shelf_46 ?_
            refine lv_iload_n (pc := 49) hx hb dX7_shelf_49 rfl (lv_at hl 1 rfl) ?_
            refine lv_iload_n (pc := 50) hx hb dX7_shelf_50 rfl (lv_at hl 2 rfl) ?_
            refine lv_iconst (pc := 51) hx hb (v := 1) dX7_shelf_51 (by decide) ?_
            obtain ⟨q69, hv69, hf⟩ := hf_b hf
            have hj69 : ∀ (H : Heap) (locs : List Loc) (ls : Array Slot), va_P D vwCl (wM A B S) H → va_D Ad (wM A B S) → va_S Ad s.heap H locs → lv_has ls 4 [(0, .ref (A 0)), (1, .int a1), (2, .int a2), (3, .int a3)] → W p l e rm_X7_shelf s m args below meth c H locs 0 0 Q (F0 m 69 ls [.int q69, .int a1, .ref (A 20)]) := by
              intro H locs ls hP hD hS hl
              obtain ⟨hg69, hf⟩ := hf_g hf
              refine vMwa_20 (pc := 69) hx hb hK hP hD hS (f := (gA S 14)) rfl hg69 dX7_shelf_69 (fun H locs hP hD hS => ?_)
              refine lv_aload_n (pc := 70) hx hb dX7_shelf_70 rfl (lv_at hl 0 rfl) ?_
              refine vMgRX7_82_0 (pc := 71) hx hb hts mU_104 inU7 hown hK hP dX7_shelf_71 ?_
              refine lv_iload_n (pc := 74) hx hb dX7_shelf_74 rfl (lv_at hl 1 rfl) ?_
              refine lv_iload_n (pc := 75) hx hb dX7_shelf_75 rfl (lv_at hl 2 rfl) ?_
              refine lv_iconst (pc := 76) hx hb (v := 1) dX7_shelf_76 (by decide) ?_
              obtain ⟨q90, hv90, hf⟩ := hf_b hf
              have hj90 : ∀ (H : Heap) (locs : List Loc) (ls : Array Slot), va_P D vwCl (wM A B (sA S 14 (upd (gA S 14) a1.toNatClampNeg q69))) H → va_D Ad (wM A B (sA S 14 (upd (gA S 14) a1.toNatClampNeg q69))) → va_S Ad s.heap H locs → lv_has ls 4 [(0, .ref (A 0)), (1, .int a1), (2, .int a2), (3, .int a3)] → W p l e rm_X7_shelf s m args below meth c H locs 0 0 Q (F0 m 90 ls [.int q90, .int a1, .ref (A 21)]) := by
                intro H locs ls hP hD hS hl
                obtain ⟨hg90, hf⟩ := hf_g hf
                refine vMwa_21 (pc := 90) hx hb hK hP hD hS (f := (gA S 15)) rfl hg90 dX7_shelf_90 (fun H locs hP hD hS => ?_)
                refine lv_aload_n (pc := 91) hx hb dX7_shelf_91 rfl (lv_at hl 0 rfl) ?_
                refine vMgRX7_85_0 (pc := 92) hx hb hts mU_105 inU7 hown hK hP dX7_shelf_92 ?_
                refine lv_iload_n (pc := 95) hx hb dX7_shelf_95 rfl (lv_at hl 1 rfl) ?_
                refine lv_iload_n (pc := 96) hx hb dX7_shelf_96 rfl (lv_at hl 2 rfl) ?_
                refine lv_iconst (pc := 97) hx hb (v := 1) dX7_shelf_97 (by decide) ?_
                refine lv_icmp_ne (pc := 98) hx hb (tgt := 110) dX7_shelf_98 (by decide) (fun c_98 => ?_) (fun c_98 => ?_)
                · have hf := hf_f c_98 hf
                  refine lv_iconst (pc := 110) hx hb (v := 0) dX7_shelf_110 (by decide) ?_
                  obtain ⟨hg111, hf⟩ := hf_g hf
                  refine vMwa_22 (pc := 111) hx hb hK hP hD hS (f := (gA S 16)) rfl hg111 dX7_shelf_111 (fun H locs hP hD hS => ?_)
                  refine lv_iconst (pc := 112) hx hb (v := 1) dX7_shelf_112 (by decide) ?_
                  obtain rfl := Option.some.inj hf
                  exact hR H locs 113 ls hP hD hS dX7_shelf_113
                · have hf := hf_t c_98 hf
                  refine lv_aload_n (pc := 101) hx hb dX7_shelf_101 rfl (lv_at hl 0 rfl) ?_
                  refine vMgRX7_70_0 (pc := 102) hx hb hts mU_100 inU7 hown hK hP dX7_shelf_102 ?_
                  refine lv_iload_n (pc := 105) hx hb dX7_shelf_105 rfl (lv_at hl 3 rfl) ?_
                  obtain ⟨hg106, hf⟩ := hf_g hf
                  refine vMra_17 (pc := 106) hx hb hK hP (f := (gA S 13)) rfl hg106 dX7_shelf_106 ?_
                  refine lv_goto (pc := 107) hx hb (tgt := 111) dX7_shelf_107 (by decide) ?_
                  obtain ⟨hg111, hf⟩ := hf_g hf
                  refine vMwa_22 (pc := 111) hx hb hK hP hD hS (f := (gA S 16)) rfl hg111 dX7_shelf_111 (fun H locs hP hD hS => ?_)
                  refine lv_iconst (pc := 112) hx hb (v := 1) dX7_shelf_112 (by decide) ?_
                  obtain rfl := Option.some.inj hf
                  exact hR H locs 113 ls hP hD hS dX7_shelf_113
              refine lv_icmp_ne (pc := 77) hx hb (tgt := 89) dX7_shelf_77 (by decide) (fun c_77 => ?_) (fun c_77 => ?_)
              · have hv90 := hf_f c_77 hv90
                refine lv_iload_n (pc := 89) hx hb dX7_shelf_89 rfl (lv_at hl 3 rfl) ?_
                obtain rfl := Option.some.inj hv90
                exact hj90 H locs ls hP hD hS (lv_sub hl [0, 1, 2, 3] rfl)
              · have hv90 := hf_t c_77 hv90
                refine lv_aload_n (pc := 80) hx hb dX7_shelf_80 rfl (lv_at hl 0 rfl) ?_
                refine vMgRX7_67_0 (pc := 81) hx hb hts mU_99 inU7 hown hK hP dX7_shelf_81 ?_
                refine lv_iload_n (pc := 84) hx hb dX7_shelf_84 rfl (lv_at hl 3 rfl) ?_
                obtain ⟨hg85, hv90⟩ := hf_g hv90
                refine vMra_16 (pc := 85) hx hb hK hP (f := (gA S 12)) rfl hg85 dX7_shelf_85 ?_
                refine lv_goto (pc := 86) hx hb (tgt := 90) dX7_shelf_86 (by decide) ?_
                obtain rfl := Option.some.inj hv90
                exact hj90 H locs ls hP hD hS (lv_sub hl [0, 1, 2, 3] rfl)
            refine lv_icmp_ne (pc := 52) hx hb (tgt := 68) dX7_shelf_52 (by decide) (fun c_52 => ?_) (fun c_52 => ?_)
            · have hv69 := hf_f c_52 hv69
              refine lv_iload_n (pc := 68) hx hb dX7_shelf_68 rfl (lv_at hl 2 rfl) ?_
              obtain rfl := Option.some.inj hv69
              exact hj69 H locs ls hP hD hS (lv_sub hl [0, 1, 2, 3] rfl)
            · have hv69 := hf_t c_52 hv69
              refine lv_aload_n (pc := 55) hx hb dX7_shelf_55 rfl (lv_at hl 0 rfl) ?_
              refine vMgRX7_67_0 (pc := 56) hx hb hts mU_99 inU7 hown hK hP dX7_shelf_56 ?_
              refine lv_iload_n (pc := 59) hx hb dX7_shelf_59 rfl (lv_at hl 3 rfl) ?_
              obtain ⟨hg60, hv69⟩ := hf_g hv69
              refine vMra_16 (pc := 60) hx hb hK hP (f := (gA S 12)) rfl hg60 dX7_shelf_60 ?_
              refine lv_if_ge (pc := 61) hx hb (tgt := 68) dX7_shelf_61 (by decide) (fun c_61 => ?_) (fun c_61 => ?_)
              · have hv69 := hf_t c_61 hv69
                refine lv_iload_n (pc := 68) hx hb dX7_shelf_68 rfl (lv_at hl 2 rfl) ?_
                obtain rfl := Option.some.inj hv69
                exact hj69 H locs ls hP hD hS (lv_sub hl [0, 1, 2, 3] rfl)
              · have hv69 := hf_f c_61 hv69
                refine lv_iconst (pc := 64) hx hb (v := 2) dX7_shelf_64 (by decide) ?_
                refine lv_goto (pc := 65) hx hb (tgt := 69) dX7_shelf_65 (by decide) ?_
                obtain rfl := Option.some.inj hv69
                exact hj69 H locs ls hP hD hS (lv_sub hl [0, 1, 2, 3] rfl)
          · have hf := hf_t c_33 hf
            refine lv_iload_n (pc := 36) hx hb dX7_shelf_36 rfl (lv_at hl 3 rfl) ?_
            obtain ⟨r37, hc37, hf⟩ := hf_b hf
            refine cl_S (pc := 37) (As := [.int a3]) (rest := []) hx hb hml hown hts (kX7_isSheet l D A B _ S a3 r37 hc37) (va_cwS 1 hts gwRX7_303 rfl rfl rfl hdX7_isSheet ⟨Nat.le_of_ble_eq_true rfl, Nat.le_of_ble_eq_true rfl⟩) hN hK hP hD hS hA rfl hl.1 rfl (Nat.le_of_ble_eq_true rfl) dX7_shelf_37 (st1 := [.int r37]) rfl ⟨Nat.zero_le _, Nat.zero_le _⟩ (fun H locs hP hD hS => ?_)
            refine lv_if_ne (pc := 40) hx hb (tgt := 45) dX7_shelf_40 (by decide) (fun c_40 => ?_) (fun c_40 => ?_)
            · have hf := hf_f c_40 hf
              refine lv_aload_n (pc := 45) hx hb dX7_shelf_45 rfl (lv_at hl 0 rfl) ?_
              refine vMgRX7_79_0 (pc := 46) hx hb hts mU_103 inU7 hown hK hP dX7_shelf_46 ?_
              refine lv_iload_n (pc := 49) hx hb dX7_shelf_49 rfl (lv_at hl 1 rfl) ?_
              refine lv_iload_n (pc := 50) hx hb dX7_shelf_50 rfl (lv_at hl 2 rfl) ?_
              refine lv_iconst (pc := 51) hx hb (v := 1) dX7_shelf_51 (by decide) ?_
              obtain ⟨q69, hv69, hf⟩ := hf_b hf
              have hj69 : ∀ (H : Heap) (locs : List Loc) (ls : Array Slot), va_P D vwCl (wM A B S) H → va_D Ad (wM A B S) → va_S Ad s.heap H locs → lv_has ls 4 [(0, .ref (A 0)), (1, .int a1), (2, .int a2), (3, .int a3)] → W p l e rm_X7_shelf s m args below meth c H locs 0 0 Q (F0 m 69 ls [.int q69, .int a1, .ref (A 20)]) := by
                intro H locs ls hP hD hS hl
                obtain ⟨hg69, hf⟩ := hf_g hf
                refine vMwa_20 (pc := 69) hx hb hK hP hD hS (f := (gA S 14)) rfl hg69 dX7_shelf_69 (fun H locs hP hD hS => ?_)
                refine lv_aload_n (pc := 70) hx hb dX7_shelf_70 rfl (lv_at hl 0 rfl) ?_
                refine vMgRX7_82_0 (pc := 71) hx hb hts mU_104 inU7 hown hK hP dX7_shelf_71 ?_
                refine lv_iload_n (pc := 74) hx hb dX7_shelf_74 rfl (lv_at hl 1 rfl) ?_
                refine lv_iload_n (pc := 75) hx hb dX7_shelf_75 rfl (lv_at hl 2 rfl) ?_
                refine lv_iconst (pc := 76) hx hb (v := 1) dX7_shelf_76 (by decide) ?_
                obtain ⟨q90, hv90, hf⟩ := hf_b hf
                have hj90 : ∀ (H : Heap) (locs : List Loc) (ls : Array Slot), va_P D vwCl (wM A B (sA S 14 (upd (gA S 14) a1.toNatClampNeg q69))) H → va_D Ad (wM A B (sA S 14 (upd (gA S 14) a1.toNatClampNeg q69))) → va_S Ad s.heap H locs → lv_has ls 4 [(0, .ref (A 0)), (1, .int a1), (2, .int a2), (3, .int a3)] → W p l e rm_X7_shelf s m args below meth c H locs 0 0 Q (F0 m 90 ls [.int q90, .int a1, .ref (A 21)]) := by
                  intro H locs ls hP hD hS hl
                  obtain ⟨hg90, hf⟩ := hf_g hf
                  refine vMwa_21 (pc := 90) hx hb hK hP hD hS (f := (gA S 15)) rfl hg90 dX7_shelf_90 (fun H locs hP hD hS => ?_)
                  refine lv_aload_n (pc := 91) hx hb dX7_shelf_91 rfl (lv_at hl 0 rfl) ?_
                  refine vMgRX7_85_0 (pc := 92) hx hb hts mU_105 inU7 hown hK hP dX7_shelf_92 ?_
                  refine lv_iload_n (pc := 95) hx hb dX7_shelf_95 rfl (lv_at hl 1 rfl) ?_
                  refine lv_iload_n (pc := 96) hx hb dX7_shelf_96 rfl (lv_at hl 2 rfl) ?_
                  refine lv_iconst (pc := 97) hx hb (v := 1) dX7_shelf_97 (by decide) ?_
                  refine lv_icmp_ne (pc := 98) hx hb (tgt := 110) dX7_shelf_98 (by decide) (fun c_98 => ?_) (fun c_98 => ?_)
                  · have hf := hf_f c_98 hf
                    refine lv_iconst (pc := 110) hx hb (v := 0) dX7_shelf_110 (by decide) ?_
                    obtain ⟨hg111, hf⟩ := hf_g hf
                    refine vMwa_22 (pc := 111) hx hb hK hP hD hS (f := (gA S 16)) rfl hg111 dX7_shelf_111 (fun H locs hP hD hS => ?_)
                    refine lv_iconst (pc := 112) hx hb (v := 1) dX7_shelf_112 (by decide) ?_
                    obtain rfl := Option.some.inj hf
                    exact hR H locs 113 ls hP hD hS dX7_shelf_113
                  · have hf := hf_t c_98 hf
                    refine lv_aload_n (pc := 101) hx hb dX7_shelf_101 rfl (lv_at hl 0 rfl) ?_
                    refine vMgRX7_70_0 (pc := 102) hx hb hts mU_100 inU7 hown hK hP dX7_shelf_102 ?_
                    refine lv_iload_n (pc := 105) hx hb dX7_shelf_105 rfl (lv_at hl 3 rfl) ?_
                    obtain ⟨hg106, hf⟩ := hf_g hf
                    refine vMra_17 (pc := 106) hx hb hK hP (f := (gA S 13)) rfl hg106 dX7_shelf_106 ?_
                    refine lv_goto (pc := 107) hx hb (tgt := 111) dX7_shelf_107 (by decide) ?_
                    obtain ⟨hg111, hf⟩ := hf_g hf
                    refine vMwa_22 (pc := 111) hx hb hK hP hD hS (f := (gA S 16)) rfl hg111 dX7_shelf_111 (fun H locs hP hD hS => ?_)
                    refine lv_iconst (pc := 112) hx hb (v := 1) dX7_shelf_112 (by decide) ?_
                    obtain rfl := Option.some.inj hf
                    exact hR H locs 113 ls hP hD hS dX7_shelf_113
                refine lv_icmp_ne (pc := 77) hx hb (tgt := 89) dX7_shelf_77 (by decide) (fun c_77 => ?_) (fun c_77 => ?_)
                · have hv90 := hf_f c_77 hv90
                  refine lv_iload_n (pc := 89) hx hb dX7_shelf_89 rfl (lv_at hl 3 rfl) ?_
                  obtain rfl := Option.some.inj hv90
                  exact hj90 H locs ls hP hD hS (lv_sub hl [0, 1, 2, 3] rfl)
                · have hv90 := hf_t c_77 hv90
                  refine lv_aload_n (pc := 80) hx hb dX7_shelf_80 rfl (lv_at hl 0 rfl) ?_
                  refine vMgRX7_67_0 (pc := 81) hx hb hts mU_99 inU7 hown hK hP dX7_shelf_81 ?_
                  refine lv_iload_n (pc := 84) hx hb dX7_shelf_84 rfl (lv_at hl 3 rfl) ?_
                  obtain ⟨hg85, hv90⟩ := hf_g hv90
                  refine vMra_16 (pc := 85) hx hb hK hP (f := (gA S 12)) rfl hg85 dX7_shelf_85 ?_
                  refine lv_goto (pc := 86) hx hb (tgt := 90) dX7_shelf_86 (by decide) ?_
                  obtain rfl := Option.some.inj hv90
                  exact hj90 H locs ls hP hD hS (lv_sub hl [0, 1, 2, 3] rfl)
              refine lv_icmp_ne (pc := 52) hx hb (tgt := 68) dX7_shelf_52 (by decide) (fun c_52 => ?_) (fun c_52 => ?_)
              · have hv69 := hf_f c_52 hv69
                refine lv_iload_n (pc := 68) hx hb dX7_shelf_68 rfl (lv_at hl 2 rfl) ?_
                obtain rfl := Option.some.inj hv69
                exact hj69 H locs ls hP hD hS (lv_sub hl [0, 1, 2, 3] rfl)
              · have hv69 := hf_t c_52 hv69
                refine lv_aload_n (pc := 55) hx hb dX7_shelf_55 rfl (lv_at hl 0 rfl) ?_
                refine vMgRX7_67_0 (pc := 56) hx hb hts mU_99 inU7 hown hK hP dX7_shelf_56 ?_
                refine lv_iload_n (pc := 59) hx hb dX7_shelf_59 rfl (lv_at hl 3 rfl) ?_
                obtain ⟨hg60, hv69⟩ := hf_g hv69
                refine vMra_16 (pc := 60) hx hb hK hP (f := (gA S 12)) rfl hg60 dX7_shelf_60 ?_
                refine lv_if_ge (pc := 61) hx hb (tgt := 68) dX7_shelf_61 (by decide) (fun c_61 => ?_) (fun c_61 => ?_)
                · have hv69 := hf_t c_61 hv69
                  refine lv_iload_n (pc := 68) hx hb dX7_shelf_68 rfl (lv_at hl 2 rfl) ?_
                  obtain rfl := Option.some.inj hv69
                  exact hj69 H locs ls hP hD hS (lv_sub hl [0, 1, 2, 3] rfl)
                · have hv69 := hf_f c_61 hv69
                  refine lv_iconst (pc := 64) hx hb (v := 2) dX7_shelf_64 (by decide) ?_
                  refine lv_goto (pc := 65) hx hb (tgt := 69) dX7_shelf_65 (by decide) ?_
                  obtain rfl := Option.some.inj hv69
                  exact hj69 H locs ls hP hD hS (lv_sub hl [0, 1, 2, 3] rfl)
            · have hf := hf_t c_40 hf
              refine lv_iconst (pc := 43) hx hb (v := (-1)) dX7_shelf_43 (by decide) ?_
              obtain rfl := Option.some.inj hf
              exact hR H locs 44 ls hP hD hS dX7_shelf_44
set_option maxHeartbeats 4000000 in
set_option maxRecDepth 100000 in
theorem kX7_heldBy (l : Launch) (D : va_G) (A : Nat → Nat) (B : Nat → ClassId) (sz : Nat) (S : w_S) (a1 : Int32) (z : Int32) (hf : fX7_heldBy S a1 = some z) : MetW l yX7_heldBy (wsO yX7_heldBy cX7_heldBy 2 (some .int)) rm_X7_heldBy [.ref (A 0), .int a1] D (tyB B) (wM A B S) (wM A B S) sz (some (.int z)) := by
  refine MetW.mkI (cc := cX7_heldBy) (maxL := 2) (by decide) (Nat.le_of_ble_eq_true rfl) ?_
  intro p e s m args below meth c Ad Q hx hb hts hown hml hN hK hA hR H locs ls hP hD hS hl
  have hl : lv_has ls 2 [(0, .ref (A 0)), (1, .int a1)] := hl
  rw [fX7_heldBy] at hf
  refine lv_aload_n (pc := 0) hx hb dX7_heldBy_0 rfl (lv_at hl 0 rfl) ?_
  refine vMgRX7_79_0 (pc := 1) hx hb hts mU_103 inU7 hown hK hP dX7_heldBy_1 ?_
  refine lv_iload_n (pc := 4) hx hb dX7_heldBy_4 rfl (lv_at hl 1 rfl) ?_
  obtain ⟨hg5, hf⟩ := hf_g hf
  refine vMra_20 (pc := 5) hx hb hK hP (f := (gA S 14)) rfl hg5 dX7_heldBy_5 ?_
  refine lv_if_ne (pc := 6) hx hb (tgt := 26) dX7_heldBy_6 (by decide) (fun c_6 => ?_) (fun c_6 => ?_)
  · have hf := hf_f c_6 hf
    refine lv_aload_n (pc := 26) hx hb dX7_heldBy_26 rfl (lv_at hl 0 rfl) ?_
    refine vMgRX7_79_0 (pc := 27) hx hb hts mU_103 inU7 hown hK hP dX7_heldBy_27 ?_
    refine lv_iload_n (pc := 30) hx hb dX7_heldBy_30 rfl (lv_at hl 1 rfl) ?_
    obtain ⟨hg31, hf⟩ := hf_g hf
    refine vMra_20 (pc := 31) hx hb hK hP (f := (gA S 14)) rfl hg31 dX7_heldBy_31 ?_
    obtain rfl := Option.some.inj hf
    exact hR H locs 32 ls hP hD hS dX7_heldBy_32
  · have hf := hf_t c_6 hf
    refine lv_aload_n (pc := 9) hx hb dX7_heldBy_9 rfl (lv_at hl 0 rfl) ?_
    refine lv_aload_n (pc := 10) hx hb dX7_heldBy_10 rfl (lv_at hl 0 rfl) ?_
    refine vMgRX7_82_0 (pc := 11) hx hb hts mU_104 inU7 hown hK hP dX7_heldBy_11 ?_
    refine lv_iload_n (pc := 14) hx hb dX7_heldBy_14 rfl (lv_at hl 1 rfl) ?_
    obtain ⟨hg15, hf⟩ := hf_g hf
    refine vMra_21 (pc := 15) hx hb hK hP (f := (gA S 15)) rfl hg15 dX7_heldBy_15 ?_
    obtain ⟨r16, hc16, hf⟩ := hf_b hf
    refine cl_V (pc := 16) (As := [.int ((gA S 15) a1.toNatClampNeg)]) (rest := []) hx hb hml hown hts (kX7_isEquation l D A B _ S ((gA S 15) a1.toNatClampNeg) r16 hc16) (cwV 1 hts gwRX7_203 rfl rfl rfl hdX7_isEquation ⟨Nat.le_of_ble_eq_true rfl, Nat.le_of_ble_eq_true rfl⟩) hN hK hP hD hS hA (va_recv hK hP (ci := 7) (q0 := 0) rfl (eM_0 A B _)) rfl hl.1 rfl (Nat.le_of_ble_eq_true rfl) dX7_heldBy_16 (st1 := [.int r16]) rfl ⟨Nat.zero_le _, Nat.zero_le _⟩ (fun H locs hP hD hS => ?_)
    refine lv_if_ne (pc := 19) hx hb (tgt := 26) dX7_heldBy_19 (by decide) (fun c_19 => ?_) (fun c_19 => ?_)
    · have hf := hf_f c_19 hf
      refine lv_aload_n (pc := 26) hx hb dX7_heldBy_26 rfl (lv_at hl 0 rfl) ?_
      refine vMgRX7_79_0 (pc := 27) hx hb hts mU_103 inU7 hown hK hP dX7_heldBy_27 ?_
      refine lv_iload_n (pc := 30) hx hb dX7_heldBy_30 rfl (lv_at hl 1 rfl) ?_
      obtain ⟨hg31, hf⟩ := hf_g hf
      refine vMra_20 (pc := 31) hx hb hK hP (f := (gA S 14)) rfl hg31 dX7_heldBy_31 ?_
      obtain rfl := Option.some.inj hf
      exact hR H locs 32 ls hP hD hS dX7_heldBy_32
    · have hf := hf_t c_19 hf
      refine lv_iconst (pc := 22) hx hb (v := 2) dX7_heldBy_22 (by decide) ?_
      refine lv_goto (pc := 23) hx hb (tgt := 32) dX7_heldBy_23 (by decide) ?_
      obtain rfl := Option.some.inj hf
      exact hR H locs 32 ls hP hD hS dX7_heldBy_32
set_option maxHeartbeats 4000000 in
set_option maxRecDepth 100000 in
theorem kX7_isUnder (l : Launch) (D : va_G) (A : Nat → Nat) (B : Nat → ClassId) (sz : Nat) (S : w_S) (a0 : Int32) (a1 : Int32) (z : Int32) (hf : fX7_isUnder a0 a1 = some z) : MetW l yX7_isUnder (wsO yX7_isUnder cX7_isUnder 2 (some .boolean)) rm_X7_isUnder [.int a0, .int a1] D (tyB B) (wM A B S) (wM A B S) sz (some (.int z)) := by
  refine MetW.mkZ (cc := cX7_isUnder) (maxL := 2) (by decide) (Nat.le_of_ble_eq_true rfl) ?_
  intro p e s m args below meth c Ad Q hx hb hts hown hml hN hK hA hR H locs ls hP hD hS hl
  have hl : lv_has ls 2 [(0, .int a0), (1, .int a1)] := hl
  rw [fX7_isUnder] at hf
  refine lv_iload_n (pc := 0) hx hb dX7_isUnder_0 rfl (lv_at hl 1 rfl) ?_
  refine lv_if_eq (pc := 1) hx hb (tgt := 40) dX7_isUnder_1 (by decide) (fun c_1 => ?_) (fun c_1 => ?_)
  · have hf := hf_t c_1 hf
    refine lv_iconst (pc := 40) hx hb (v := 1) dX7_isUnder_40 (by decide) ?_
    refine lv_goto (pc := 41) hx hb (tgt := 45) dX7_isUnder_41 (by decide) ?_
    obtain rfl := Option.some.inj hf
    exact hR H locs 45 ls hP hD hS (nz_of (.inr rfl)) dX7_isUnder_45
  · have hf := hf_f c_1 hf
    refine lv_iload_n (pc := 4) hx hb dX7_isUnder_4 rfl (lv_at hl 0 rfl) ?_
    refine lv_iload_n (pc := 5) hx hb dX7_isUnder_5 rfl (lv_at hl 1 rfl) ?_
    refine lv_icmp_eq (pc := 6) hx hb (tgt := 40) dX7_isUnder_6 (by decide) (fun c_6 => ?_) (fun c_6 => ?_)
    · have hf := hf_t c_6 hf
      refine lv_iconst (pc := 40) hx hb (v := 1) dX7_isUnder_40 (by decide) ?_
      refine lv_goto (pc := 41) hx hb (tgt := 45) dX7_isUnder_41 (by decide) ?_
      obtain rfl := Option.some.inj hf
      exact hR H locs 45 ls hP hD hS (nz_of (.inr rfl)) dX7_isUnder_45
    · have hf := hf_f c_6 hf
      refine lv_iload_n (pc := 9) hx hb dX7_isUnder_9 rfl (lv_at hl 1 rfl) ?_
      refine lv_iconst (pc := 10) hx hb (v := 2) dX7_isUnder_10 (by decide) ?_
      refine lv_icmp_ne (pc := 11) hx hb (tgt := 19) dX7_isUnder_11 (by decide) (fun c_11 => ?_) (fun c_11 => ?_)
      · have hf := hf_f c_11 hf
        refine lv_iload_n (pc := 19) hx hb dX7_isUnder_19 rfl (lv_at hl 1 rfl) ?_
        refine lv_iconst (pc := 20) hx hb (v := 3) dX7_isUnder_20 (by decide) ?_
        refine lv_icmp_ne (pc := 21) hx hb (tgt := 29) dX7_isUnder_21 (by decide) (fun c_21 => ?_) (fun c_21 => ?_)
        · have hf := hf_f c_21 hf
          refine lv_iload_n (pc := 29) hx hb dX7_isUnder_29 rfl (lv_at hl 1 rfl) ?_
          refine lv_iconst (pc := 30) hx hb (v := 5) dX7_isUnder_30 (by decide) ?_
          refine lv_icmp_ne (pc := 31) hx hb (tgt := 44) dX7_isUnder_31 (by decide) (fun c_31 => ?_) (fun c_31 => ?_)
          · have hf := hf_f c_31 hf
            refine lv_iconst (pc := 44) hx hb (v := 0) dX7_isUnder_44 (by decide) ?_
            obtain rfl := Option.some.inj hf
            exact hR H locs 45 ls hP hD hS (nz_of (.inl rfl)) dX7_isUnder_45
          · have hf := hf_t c_31 hf
            refine lv_iload_n (pc := 34) hx hb dX7_isUnder_34 rfl (lv_at hl 0 rfl) ?_
            refine lv_bipush (pc := 35) hx hb (v := 6) dX7_isUnder_35 (by decide) ?_
            refine lv_icmp_ne (pc := 37) hx hb (tgt := 44) dX7_isUnder_37 (by decide) (fun c_37 => ?_) (fun c_37 => ?_)
            · have hf := hf_f c_37 hf
              refine lv_iconst (pc := 44) hx hb (v := 0) dX7_isUnder_44 (by decide) ?_
              obtain rfl := Option.some.inj hf
              exact hR H locs 45 ls hP hD hS (nz_of (.inl rfl)) dX7_isUnder_45
            · have hf := hf_t c_37 hf
              refine lv_iconst (pc := 40) hx hb (v := 1) dX7_isUnder_40 (by decide) ?_
              refine lv_goto (pc := 41) hx hb (tgt := 45) dX7_isUnder_41 (by decide) ?_
              obtain rfl := Option.some.inj hf
              exact hR H locs 45 ls hP hD hS (nz_of (.inr rfl)) dX7_isUnder_45
        · have hf := hf_t c_21 hf
          refine lv_iload_n (pc := 24) hx hb dX7_isUnder_24 rfl (lv_at hl 0 rfl) ?_
          refine lv_iconst (pc := 25) hx hb (v := 5) dX7_isUnder_25 (by decide) ?_
          refine lv_icmp_ge (pc := 26) hx hb (tgt := 40) dX7_isUnder_26 (by decide) (fun c_26 => ?_) (fun c_26 => ?_)
          · have hf := hf_t c_26 hf
            refine lv_iconst (pc := 40) hx hb (v := 1) dX7_isUnder_40 (by decide) ?_
            refine lv_goto (pc := 41) hx hb (tgt := 45) dX7_isUnder_41 (by decide) ?_
            obtain rfl := Option.some.inj hf
            exact hR H locs 45 ls hP hD hS (nz_of (.inr rfl)) dX7_isUnder_45
          · have hf := hf_f c_26 hf
            refine lv_iload_n (pc := 29) hx hb dX7_isUnder_29 rfl (lv_at hl 1 rfl) ?_
            refine lv_iconst (pc := 30) hx hb (v := 5) dX7_isUnder_30 (by decide) ?_
            refine lv_icmp_ne (pc := 31) hx hb (tgt := 44) dX7_isUnder_31 (by decide) (fun c_31 => ?_) (fun c_31 => ?_)
            · have hf := hf_f c_31 hf
              refine lv_iconst (pc := 44) hx hb (v := 0) dX7_isUnder_44 (by decide) ?_
              obtain rfl := Option.some.inj hf
              exact hR H locs 45 ls hP hD hS (nz_of (.inl rfl)) dX7_isUnder_45
            · have hf := hf_t c_31 hf
              refine lv_iload_n (pc := 34) hx hb dX7_isUnder_34 rfl (lv_at hl 0 rfl) ?_
              refine lv_bipush (pc := 35) hx hb (v := 6) dX7_isUnder_35 (by decide) ?_
              refine lv_icmp_ne (pc := 37) hx hb (tgt := 44) dX7_isUnder_37 (by decide) (fun c_37 => ?_) (fun c_37 => ?_)
              · have hf := hf_f c_37 hf
                refine lv_iconst (pc := 44) hx hb (v := 0) dX7_isUnder_44 (by decide) ?_
                obtain rfl := Option.some.inj hf
                exact hR H locs 45 ls hP hD hS (nz_of (.inl rfl)) dX7_isUnder_45
              · have hf := hf_t c_37 hf
                refine lv_iconst (pc := 40) hx hb (v := 1) dX7_isUnder_40 (by decide) ?_
                refine lv_goto (pc := 41) hx hb (tgt := 45) dX7_isUnder_41 (by decide) ?_
                obtain rfl := Option.some.inj hf
                exact hR H locs 45 ls hP hD hS (nz_of (.inr rfl)) dX7_isUnder_45
      · have hf := hf_t c_11 hf
        refine lv_iload_n (pc := 14) hx hb dX7_isUnder_14 rfl (lv_at hl 0 rfl) ?_
        refine lv_iconst (pc := 15) hx hb (v := 4) dX7_isUnder_15 (by decide) ?_
        refine lv_icmp_eq (pc := 16) hx hb (tgt := 40) dX7_isUnder_16 (by decide) (fun c_16 => ?_) (fun c_16 => ?_)
        · have hf := hf_t c_16 hf
          refine lv_iconst (pc := 40) hx hb (v := 1) dX7_isUnder_40 (by decide) ?_
          refine lv_goto (pc := 41) hx hb (tgt := 45) dX7_isUnder_41 (by decide) ?_
          obtain rfl := Option.some.inj hf
          exact hR H locs 45 ls hP hD hS (nz_of (.inr rfl)) dX7_isUnder_45
        · have hf := hf_f c_16 hf
          refine lv_iload_n (pc := 19) hx hb dX7_isUnder_19 rfl (lv_at hl 1 rfl) ?_
          refine lv_iconst (pc := 20) hx hb (v := 3) dX7_isUnder_20 (by decide) ?_
          refine lv_icmp_ne (pc := 21) hx hb (tgt := 29) dX7_isUnder_21 (by decide) (fun c_21 => ?_) (fun c_21 => ?_)
          · have hf := hf_f c_21 hf
            refine lv_iload_n (pc := 29) hx hb dX7_isUnder_29 rfl (lv_at hl 1 rfl) ?_
            refine lv_iconst (pc := 30) hx hb (v := 5) dX7_isUnder_30 (by decide) ?_
            refine lv_icmp_ne (pc := 31) hx hb (tgt := 44) dX7_isUnder_31 (by decide) (fun c_31 => ?_) (fun c_31 => ?_)
            · have hf := hf_f c_31 hf
              refine lv_iconst (pc := 44) hx hb (v := 0) dX7_isUnder_44 (by decide) ?_
              obtain rfl := Option.some.inj hf
              exact hR H locs 45 ls hP hD hS (nz_of (.inl rfl)) dX7_isUnder_45
            · have hf := hf_t c_31 hf
              refine lv_iload_n (pc := 34) hx hb dX7_isUnder_34 rfl (lv_at hl 0 rfl) ?_
              refine lv_bipush (pc := 35) hx hb (v := 6) dX7_isUnder_35 (by decide) ?_
              refine lv_icmp_ne (pc := 37) hx hb (tgt := 44) dX7_isUnder_37 (by decide) (fun c_37 => ?_) (fun c_37 => ?_)
              · have hf := hf_f c_37 hf
                refine lv_iconst (pc := 44) hx hb (v := 0) dX7_isUnder_44 (by decide) ?_
                obtain rfl := Option.some.inj hf
                exact hR H locs 45 ls hP hD hS (nz_of (.inl rfl)) dX7_isUnder_45
              · have hf := hf_t c_37 hf
                refine lv_iconst (pc := 40) hx hb (v := 1) dX7_isUnder_40 (by decide) ?_
                refine lv_goto (pc := 41) hx hb (tgt := 45) dX7_isUnder_41 (by decide) ?_
                obtain rfl := Option.some.inj hf
                exact hR H locs 45 ls hP hD hS (nz_of (.inr rfl)) dX7_isUnder_45
          · have hf := hf_t c_21 hf
            refine lv_iload_n (pc := 24) hx hb dX7_isUnder_24 rfl (lv_at hl 0 rfl) ?_
            refine lv_iconst (pc := 25) hx hb (v := 5) dX7_isUnder_25 (by decide) ?_
            refine lv_icmp_ge (pc := 26) hx hb (tgt := 40) dX7_isUnder_26 (by decide) (fun c_26 => ?_) (fun c_26 => ?_)
            · have hf := hf_t c_26 hf
              refine lv_iconst (pc := 40) hx hb (v := 1) dX7_isUnder_40 (by decide) ?_
              refine lv_goto (pc := 41) hx hb (tgt := 45) dX7_isUnder_41 (by decide) ?_
              obtain rfl := Option.some.inj hf
              exact hR H locs 45 ls hP hD hS (nz_of (.inr rfl)) dX7_isUnder_45
            · have hf := hf_f c_26 hf
              refine lv_iload_n (pc := 29) hx hb dX7_isUnder_29 rfl (lv_at hl 1 rfl) ?_
              refine lv_iconst (pc := 30) hx hb (v := 5) dX7_isUnder_30 (by decide) ?_
              refine lv_icmp_ne (pc := 31) hx hb (tgt := 44) dX7_isUnder_31 (by decide) (fun c_31 => ?_) (fun c_31 => ?_)
              · have hf := hf_f c_31 hf
                refine lv_iconst (pc := 44) hx hb (v := 0) dX7_isUnder_44 (by decide) ?_
                obtain rfl := Option.some.inj hf
                exact hR H locs 45 ls hP hD hS (nz_of (.inl rfl)) dX7_isUnder_45
              · have hf := hf_t c_31 hf
                refine lv_iload_n (pc := 34) hx hb dX7_isUnder_34 rfl (lv_at hl 0 rfl) ?_
                refine lv_bipush (pc := 35) hx hb (v := 6) dX7_isUnder_35 (by decide) ?_
                refine lv_icmp_ne (pc := 37) hx hb (tgt := 44) dX7_isUnder_37 (by decide) (fun c_37 => ?_) (fun c_37 => ?_)
                · have hf := hf_f c_37 hf
                  refine lv_iconst (pc := 44) hx hb (v := 0) dX7_isUnder_44 (by decide) ?_
                  obtain rfl := Option.some.inj hf
                  exact hR H locs 45 ls hP hD hS (nz_of (.inl rfl)) dX7_isUnder_45
                · have hf := hf_t c_37 hf
                  refine lv_iconst (pc := 40) hx hb (v := 1) dX7_isUnder_40 (by decide) ?_
                  refine lv_goto (pc := 41) hx hb (tgt := 45) dX7_isUnder_41 (by decide) ?_
                  obtain rfl := Option.some.inj hf
                  exact hR H locs 45 ls hP hD hS (nz_of (.inr rfl)) dX7_isUnder_45
set_option maxHeartbeats 4000000 in
set_option maxRecDepth 100000 in
theorem kX7_taken (l : Launch) (D : va_G) (A : Nat → Nat) (B : Nat → ClassId) (sz : Nat) (S : w_S) (a1 : Int32) (a2 : Int32) (z : Int32) (hf : fX7_taken S a1 a2 = some z) : MetW l yX7_taken (wsO yX7_taken cX7_taken 4 (some .int)) rm_X7_taken [.ref (A 0), .int a1, .int a2] D (tyB B) (wM A B S) (wM A B S) sz (some (.int z)) := by
  refine MetW.mkI (cc := cX7_taken) (maxL := 4) (by decide) (Nat.le_of_ble_eq_true rfl) ?_
  intro p e s m args below meth c Ad Q hx hb hts hown hml hN hK hA hR H locs ls hP hD hS hl
  have hl : lv_has ls 4 [(0, .ref (A 0)), (1, .int a1), (2, .int a2)] := hl
  rw [fX7_taken] at hf
  refine lv_iload_n (pc := 0) hx hb dX7_taken_0 rfl (lv_at hl 1 rfl) ?_
  obtain ⟨r1, hc1, hf⟩ := hf_b hf
  refine cl_S (pc := 1) (As := [.int a1]) (rest := []) hx hb hml hown hts (kX7_isShelf l D A B _ S a1 r1 hc1) (va_cwS 1 hts gwRX7_335 rfl rfl rfl hdX7_isShelf ⟨Nat.le_of_ble_eq_true rfl, Nat.le_of_ble_eq_true rfl⟩) hN hK hP hD hS hA rfl hl.1 rfl (Nat.le_of_ble_eq_true rfl) dX7_taken_1 (st1 := [.int r1]) rfl ⟨Nat.zero_le _, Nat.zero_le _⟩ (fun H locs hP hD hS => ?_)
  refine lv_if_eq (pc := 4) hx hb (tgt := 28) dX7_taken_4 (by decide) (fun c_4 => ?_) (fun c_4 => ?_)
  · have hf := hf_t c_4 hf
    refine lv_iconst (pc := 28) hx hb (v := (-1)) dX7_taken_28 (by decide) ?_
    obtain rfl := Option.some.inj hf
    exact hR H locs 29 ls hP hD hS dX7_taken_29
  · have hf := hf_f c_4 hf
    refine lv_iload_n (pc := 7) hx hb dX7_taken_7 rfl (lv_at hl 2 rfl) ?_
    obtain ⟨r8, hc8, hf⟩ := hf_b hf
    refine cl_S (pc := 8) (As := [.int a2]) (rest := []) hx hb hml hown hts (kX7_isKind l D A B _ S a2 r8 hc8) (va_cwS 1 hts gwRX7_198 rfl rfl rfl hdX7_isKind ⟨Nat.le_of_ble_eq_true rfl, Nat.le_of_ble_eq_true rfl⟩) hN hK hP hD hS hA rfl hl.1 rfl (Nat.le_of_ble_eq_true rfl) dX7_taken_8 (st1 := [.int r8]) rfl ⟨Nat.zero_le _, Nat.zero_le _⟩ (fun H locs hP hD hS => ?_)
    refine lv_if_ne (pc := 11) hx hb (tgt := 30) dX7_taken_11 (by decide) (fun c_11 => ?_) (fun c_11 => ?_)
    · have hf := hf_f c_11 hf
      refine lv_aload_n (pc := 30) hx hb dX7_taken_30 rfl (lv_at hl 0 rfl) ?_
      refine lv_iload_n (pc := 31) hx hb dX7_taken_31 rfl (lv_at hl 1 rfl) ?_
      obtain ⟨r32, hc32, hf⟩ := hf_b hf
      refine cl_V (pc := 32) (As := [.int a1]) (rest := []) hx hb hml hown hts (kX7_heldBy l D A B _ S a1 r32 hc32) (cwV 1 hts gwRX7_342 rfl rfl rfl hdX7_heldBy ⟨Nat.le_of_ble_eq_true rfl, Nat.le_of_ble_eq_true rfl⟩) hN hK hP hD hS hA (va_recv hK hP (ci := 7) (q0 := 0) rfl (eM_0 A B _)) rfl hl.1 rfl (Nat.le_of_ble_eq_true rfl) dX7_taken_32 (st1 := [.int r32]) rfl ⟨Nat.zero_le _, Nat.zero_le _⟩ (fun H locs hP hD hS => ?_)
      refine lv_istore_n (pc := 35) hx hb (lv' := [(3, .int r32), (0, .ref (A 0)), (1, .int a1), (2, .int a2)]) dX7_taken_35 rfl hl (by decide) rfl (fun ls hl => ?_)
      refine lv_iload_n (pc := 36) hx hb dX7_taken_36 rfl (lv_at hl 0 rfl) ?_
      refine lv_iconst (pc := 37) hx hb (v := 2) dX7_taken_37 (by decide) ?_
      refine lv_icmp_ne (pc := 38) hx hb (tgt := 44) dX7_taken_38 (by decide) (fun c_38 => ?_) (fun c_38 => ?_)
      · have hf := hf_f c_38 hf
        refine lv_iload_n (pc := 44) hx hb dX7_taken_44 rfl (lv_at hl 0 rfl) ?_
        refine lv_if_ne (pc := 45) hx hb (tgt := 84) dX7_taken_45 (by decide) (fun c_45 => ?_) (fun c_45 => ?_)
        · have hf := hf_f c_45 hf
          refine lv_iload_n (pc := 84) hx hb dX7_taken_84 rfl (lv_at hl 3 rfl) ?_
          refine lv_bipush (pc := 85) hx hb (v := 10) dX7_taken_85 (by decide) ?_
          refine lv_aload_n (pc := 87) hx hb dX7_taken_87 rfl (lv_at hl 1 rfl) ?_
          refine vMgRX7_82_0 (pc := 88) hx hb hts mU_104 inU7 hown hK hP dX7_taken_88 ?_
          refine lv_iload_n (pc := 91) hx hb dX7_taken_91 rfl (lv_at hl 2 rfl) ?_
          obtain ⟨hg92, hf⟩ := hf_g hf
          refine vMra_21 (pc := 92) hx hb hK hP (f := (gA S 15)) rfl hg92 dX7_taken_92 ?_
          refine lv_iadd (pc := 93) hx hb dX7_taken_93 ?_
          refine lv_icmp_ne (pc := 94) hx hb (tgt := 106) dX7_taken_94 (by decide) (fun c_94 => ?_) (fun c_94 => ?_)
          · have hf := hf_f c_94 hf
            refine lv_bipush (pc := 106) hx hb (v := (-13)) dX7_taken_106 (by decide) ?_
            obtain rfl := Option.some.inj hf
            exact hR H locs 108 ls hP hD hS dX7_taken_108
          · have hf := hf_t c_94 hf
            refine lv_aload_n (pc := 97) hx hb dX7_taken_97 rfl (lv_at hl 1 rfl) ?_
            refine vMgRX7_85_0 (pc := 98) hx hb hts mU_105 inU7 hown hK hP dX7_taken_98 ?_
            refine lv_iload_n (pc := 101) hx hb dX7_taken_101 rfl (lv_at hl 2 rfl) ?_
            obtain ⟨hg102, hf⟩ := hf_g hf
            refine vMra_22 (pc := 102) hx hb hK hP (f := (gA S 16)) rfl hg102 dX7_taken_102 ?_
            refine lv_goto (pc := 103) hx hb (tgt := 108) dX7_taken_103 (by decide) ?_
            obtain rfl := Option.some.inj hf
            exact hR H locs 108 ls hP hD hS dX7_taken_108
        · have hf := hf_t c_45 hf
          refine lv_iload_n (pc := 48) hx hb dX7_taken_48 rfl (lv_at hl 3 rfl) ?_
          refine lv_bipush (pc := 49) hx hb (v := 6) dX7_taken_49 (by decide) ?_
          refine lv_icmp_gt (pc := 51) hx hb (tgt := 81) dX7_taken_51 (by decide) (fun c_51 => ?_) (fun c_51 => ?_)
          · have hf := hf_t c_51 hf
            refine lv_bipush (pc := 81) hx hb (v := (-13)) dX7_taken_81 (by decide) ?_
            obtain rfl := Option.some.inj hf
            exact hR H locs 83 ls hP hD hS dX7_taken_83
          · have hf := hf_f c_51 hf
            refine lv_aload_n (pc := 54) hx hb dX7_taken_54 rfl (lv_at hl 1 rfl) ?_
            refine vMgRX7_29_0 (pc := 55) hx hb hts mU_87 inU7 hown hK hP dX7_taken_55 ?_
            refine lv_aload_n (pc := 58) hx hb dX7_taken_58 rfl (lv_at hl 1 rfl) ?_
            refine vMgRX7_82_0 (pc := 59) hx hb hts mU_104 inU7 hown hK hP dX7_taken_59 ?_
            refine lv_iload_n (pc := 62) hx hb dX7_taken_62 rfl (lv_at hl 2 rfl) ?_
            obtain ⟨hg63, hf⟩ := hf_g hf
            refine vMra_21 (pc := 63) hx hb hK hP (f := (gA S 15)) rfl hg63 dX7_taken_63 ?_
            obtain ⟨hg64, hf⟩ := hf_g hf
            refine vMra_4 (pc := 64) hx hb hK hP (f := (gA S 3)) rfl hg64 dX7_taken_64 ?_
            refine lv_iload_n (pc := 65) hx hb dX7_taken_65 rfl (lv_at hl 3 rfl) ?_
            obtain ⟨r66, hc66, hf⟩ := hf_b hf
            refine cl_S (pc := 66) (As := [.int ((gA S 3) ((gA S 15) a1.toNatClampNeg).toNatClampNeg), .int a2]) (rest := []) hx hb hml hown hts (kX7_isUnder l D A B _ S ((gA S 3) ((gA S 15) a1.toNatClampNeg).toNatClampNeg) a2 r66 hc66) (va_cwS 2 hts gwRX7_345 rfl rfl rfl hdX7_isUnder ⟨Nat.le_of_ble_eq_true rfl, Nat.le_of_ble_eq_true rfl⟩) hN hK hP hD hS hA rfl hl.1 rfl (Nat.le_of_ble_eq_true rfl) dX7_taken_66 (st1 := [.int r66]) rfl ⟨Nat.zero_le _, Nat.zero_le _⟩ (fun H locs hP hD hS => ?_)
            refine lv_if_eq (pc := 69) hx hb (tgt := 81) dX7_taken_69 (by decide) (fun c_69 => ?_) (fun c_69 => ?_)
            · have hf := hf_t c_69 hf
              refine lv_bipush (pc := 81) hx hb (v := (-13)) dX7_taken_81 (by decide) ?_
              obtain rfl := Option.some.inj hf
              exact hR H locs 83 ls hP hD hS dX7_taken_83
            · have hf := hf_f c_69 hf
              refine lv_aload_n (pc := 72) hx hb dX7_taken_72 rfl (lv_at hl 1 rfl) ?_
              refine vMgRX7_82_0 (pc := 73) hx hb hts mU_104 inU7 hown hK hP dX7_taken_73 ?_
              refine lv_iload_n (pc := 76) hx hb dX7_taken_76 rfl (lv_at hl 2 rfl) ?_
              obtain ⟨hg77, hf⟩ := hf_g hf
              refine vMra_21 (pc := 77) hx hb hK hP (f := (gA S 15)) rfl hg77 dX7_taken_77 ?_
              refine lv_goto (pc := 78) hx hb (tgt := 83) dX7_taken_78 (by decide) ?_
              obtain rfl := Option.some.inj hf
              exact hR H locs 83 ls hP hD hS dX7_taken_83
      · have hf := hf_t c_38 hf
        refine lv_bipush (pc := 41) hx hb (v := (-11)) dX7_taken_41 (by decide) ?_
        obtain rfl := Option.some.inj hf
        exact hR H locs 43 ls hP hD hS dX7_taken_43
    · have hf := hf_t c_11 hf
      refine lv_iload_n (pc := 14) hx hb dX7_taken_14 rfl (lv_at hl 2 rfl) ?_
      refine lv_i2l (pc := 15) hx hb (v := a2.toInt64) dX7_taken_15 rfl ?_
      refine lv_ldc2 (pc := 16) hx hb (v := 10) hown (hts (.constantLong RX7 338 (10)) mU_974) dX7_taken_16 ?_
      refine lv_ldc2 (pc := 19) hx hb (v := 13) hown (hts (.constantLong RX7 340 (13)) mU_975) dX7_taken_19 ?_
      obtain ⟨r22, hc22, hf⟩ := hf_b hf
      refine cl_S (pc := 22) (As := [.long a2.toInt64, .long 10, .long 13]) (rest := []) hx hb hml hown hts (kX7_in l D A B _ S a2.toInt64 10 13 r22 hc22) (va_cwS 3 hts gwRX7_99 rfl rfl rfl hdX7_in ⟨Nat.le_of_ble_eq_true rfl, Nat.le_of_ble_eq_true rfl⟩) hN hK hP hD hS hA rfl hl.1 rfl (Nat.le_of_ble_eq_true rfl) dX7_taken_22 (st1 := [.int r22]) rfl ⟨Nat.zero_le _, Nat.zero_le _⟩ (fun H locs hP hD hS => ?_)
      refine lv_if_ne (pc := 25) hx hb (tgt := 30) dX7_taken_25 (by decide) (fun c_25 => ?_) (fun c_25 => ?_)
      · have hf := hf_f c_25 hf
        refine lv_aload_n (pc := 30) hx hb dX7_taken_30 rfl (lv_at hl 0 rfl) ?_
        refine lv_iload_n (pc := 31) hx hb dX7_taken_31 rfl (lv_at hl 1 rfl) ?_
        obtain ⟨r32, hc32, hf⟩ := hf_b hf
        refine cl_V (pc := 32) (As := [.int a1]) (rest := []) hx hb hml hown hts (kX7_heldBy l D A B _ S a1 r32 hc32) (cwV 1 hts gwRX7_342 rfl rfl rfl hdX7_heldBy ⟨Nat.le_of_ble_eq_true rfl, Nat.le_of_ble_eq_true rfl⟩) hN hK hP hD hS hA (va_recv hK hP (ci := 7) (q0 := 0) rfl (eM_0 A B _)) rfl hl.1 rfl (Nat.le_of_ble_eq_true rfl) dX7_taken_32 (st1 := [.int r32]) rfl ⟨Nat.zero_le _, Nat.zero_le _⟩ (fun H locs hP hD hS => ?_)
        refine lv_istore_n (pc := 35) hx hb (lv' := [(3, .int r32), (0, .ref (A 0)), (1, .int a1), (2, .int a2)]) dX7_taken_35 rfl hl (by decide) rfl (fun ls hl => ?_)
        refine lv_iload_n (pc := 36) hx hb dX7_taken_36 rfl (lv_at hl 0 rfl) ?_
        refine lv_iconst (pc := 37) hx hb (v := 2) dX7_taken_37 (by decide) ?_
        refine lv_icmp_ne (pc := 38) hx hb (tgt := 44) dX7_taken_38 (by decide) (fun c_38 => ?_) (fun c_38 => ?_)
        · have hf := hf_f c_38 hf
          refine lv_iload_n (pc := 44) hx hb dX7_taken_44 rfl (lv_at hl 0 rfl) ?_
          refine lv_if_ne (pc := 45) hx hb (tgt := 84) dX7_taken_45 (by decide) (fun c_45 => ?_) (fun c_45 => ?_)
          · have hf := hf_f c_45 hf
            refine lv_iload_n (pc := 84) hx hb dX7_taken_84 rfl (lv_at hl 3 rfl) ?_
            refine lv_bipush (pc := 85) hx hb (v := 10) dX7_taken_85 (by decide) ?_
            refine lv_aload_n (pc := 87) hx hb dX7_taken_87 rfl (lv_at hl 1 rfl) ?_
            refine vMgRX7_82_0 (pc := 88) hx hb hts mU_104 inU7 hown hK hP dX7_taken_88 ?_
            refine lv_iload_n (pc := 91) hx hb dX7_taken_91 rfl (lv_at hl 2 rfl) ?_
            obtain ⟨hg92, hf⟩ := hf_g hf
            refine vMra_21 (pc := 92) hx hb hK hP (f := (gA S 15)) rfl hg92 dX7_taken_92 ?_
            refine lv_iadd (pc := 93) hx hb dX7_taken_93 ?_
            refine lv_icmp_ne (pc := 94) hx hb (tgt := 106) dX7_taken_94 (by decide) (fun c_94 => ?_) (fun c_94 => ?_)
            · have hf := hf_f c_94 hf
              refine lv_bipush (pc := 106) hx hb (v := (-13)) dX7_taken_106 (by decide) ?_
              obtain rfl := Option.some.inj hf
              exact hR H locs 108 ls hP hD hS dX7_taken_108
            · have hf := hf_t c_94 hf
              refine lv_aload_n (pc := 97) hx hb dX7_taken_97 rfl (lv_at hl 1 rfl) ?_
              refine vMgRX7_85_0 (pc := 98) hx hb hts mU_105 inU7 hown hK hP dX7_taken_98 ?_
              refine lv_iload_n (pc := 101) hx hb dX7_taken_101 rfl (lv_at hl 2 rfl) ?_
              obtain ⟨hg102, hf⟩ := hf_g hf
              refine vMra_22 (pc := 102) hx hb hK hP (f := (gA S 16)) rfl hg102 dX7_taken_102 ?_
              refine lv_goto (pc := 103) hx hb (tgt := 108) dX7_taken_103 (by decide) ?_
              obtain rfl := Option.some.inj hf
              exact hR H locs 108 ls hP hD hS dX7_taken_108
          · have hf := hf_t c_45 hf
            refine lv_iload_n (pc := 48) hx hb dX7_taken_48 rfl (lv_at hl 3 rfl) ?_
            refine lv_bipush (pc := 49) hx hb (v := 6) dX7_taken_49 (by decide) ?_
            refine lv_icmp_gt (pc := 51) hx hb (tgt := 81) dX7_taken_51 (by decide) (fun c_51 => ?_) (fun c_51 => ?_)
            · have hf := hf_t c_51 hf
              refine lv_bipush (pc := 81) hx hb (v := (-13)) dX7_taken_81 (by decide) ?_
              obtain rfl := Option.some.inj hf
              exact hR H locs 83 ls hP hD hS dX7_taken_83
            · have hf := hf_f c_51 hf
              refine lv_aload_n (pc := 54) hx hb dX7_taken_54 rfl (lv_at hl 1 rfl) ?_
              refine vMgRX7_29_0 (pc := 55) hx hb hts mU_87 inU7 hown hK hP dX7_taken_55 ?_
              refine lv_aload_n (pc := 58) hx hb dX7_taken_58 rfl (lv_at hl 1 rfl) ?_
              refine vMgRX7_82_0 (pc := 59) hx hb hts mU_104 inU7 hown hK hP dX7_taken_59 ?_
              refine lv_iload_n (pc := 62) hx hb dX7_taken_62 rfl (lv_at hl 2 rfl) ?_
              obtain ⟨hg63, hf⟩ := hf_g hf
              refine vMra_21 (pc := 63) hx hb hK hP (f := (gA S 15)) rfl hg63 dX7_taken_63 ?_
              obtain ⟨hg64, hf⟩ := hf_g hf
              refine vMra_4 (pc := 64) hx hb hK hP (f := (gA S 3)) rfl hg64 dX7_taken_64 ?_
              refine lv_iload_n (pc := 65) hx hb dX7_taken_65 rfl (lv_at hl 3 rfl) ?_
              obtain ⟨r66, hc66, hf⟩ := hf_b hf
              refine cl_S (pc := 66) (As := [.int ((gA S 3) ((gA S 15) a1.toNatClampNeg).toNatClampNeg), .int a2]) (rest := []) hx hb hml hown hts (kX7_isUnder l D A B _ S ((gA S 3) ((gA S 15) a1.toNatClampNeg).toNatClampNeg) a2 r66 hc66) (va_cwS 2 hts gwRX7_345 rfl rfl rfl hdX7_isUnder ⟨Nat.le_of_ble_eq_true rfl, Nat.le_of_ble_eq_true rfl⟩) hN hK hP hD hS hA rfl hl.1 rfl (Nat.le_of_ble_eq_true rfl) dX7_taken_66 (st1 := [.int r66]) rfl ⟨Nat.zero_le _, Nat.zero_le _⟩ (fun H locs hP hD hS => ?_)
              refine lv_if_eq (pc := 69) hx hb (tgt := 81) dX7_taken_69 (by decide) (fun c_69 => ?_) (fun c_69 => ?_)
              · have hf := hf_t c_69 hf
                refine lv_bipush (pc := 81) hx hb (v := (-13)) dX7_taken_81 (by decide) ?_
                obtain rfl := Option.some.inj hf
                exact hR H locs 83 ls hP hD hS dX7_taken_83
              · have hf := hf_f c_69 hf
                refine lv_aload_n (pc := 72) hx hb dX7_taken_72 rfl (lv_at hl 1 rfl) ?_
                refine vMgRX7_82_0 (pc := 73) hx hb hts mU_104 inU7 hown hK hP dX7_taken_73 ?_
                refine lv_iload_n (pc := 76) hx hb dX7_taken_76 rfl (lv_at hl 2 rfl) ?_
                obtain ⟨hg77, hf⟩ := hf_g hf
                refine vMra_21 (pc := 77) hx hb hK hP (f := (gA S 15)) rfl hg77 dX7_taken_77 ?_
                refine lv_goto (pc := 78) hx hb (tgt := 83) dX7_taken_78 (by decide) ?_
                obtain rfl := Option.some.inj hf
                exact hR H locs 83 ls hP hD hS dX7_taken_83
        · have hf := hf_t c_38 hf
          refine lv_bipush (pc := 41) hx hb (v := (-11)) dX7_taken_41 (by decide) ?_
          obtain rfl := Option.some.inj hf
          exact hR H locs 43 ls hP hD hS dX7_taken_43
      · have hf := hf_t c_25 hf
        refine lv_iconst (pc := 28) hx hb (v := (-1)) dX7_taken_28 (by decide) ?_
        obtain rfl := Option.some.inj hf
        exact hR H locs 29 ls hP hD hS dX7_taken_29
set_option maxHeartbeats 4000000 in
set_option maxRecDepth 100000 in
theorem kX7_ran (l : Launch) (D : va_G) (A : Nat → Nat) (B : Nat → ClassId) (sz : Nat) (S : w_S) (a1 : Int32) (z : w_S) (hf : fX7_ran S a1 = some z) : MetW l yX7_ran (wsO yX7_ran cX7_ran 2 none) rm_X7_ran [.ref (A 0), .int a1] D (tyB B) (wM A B S) (wM A B z) sz (none) := by
  refine MetW.mkV (cc := cX7_ran) (maxL := 2) (by decide) (Nat.le_of_ble_eq_true rfl) ?_
  intro p e s m args below meth c Ad Q hx hb hts hown hml hN hK hA hR H locs ls hP hD hS hl
  have hl : lv_has ls 2 [(0, .ref (A 0)), (1, .int a1)] := hl
  rw [fX7_ran] at hf
  refine lv_aload_n (pc := 0) hx hb dX7_ran_0 rfl (lv_at hl 0 rfl) ?_
  refine vMgRX7_348_0 (pc := 1) hx hb hts mU_1027 inU7 hown hK hP (x := (gI S 18)) rfl dX7_ran_1 ?_
  refine lv_bipush (pc := 4) hx hb (v := 30) dX7_ran_4 (by decide) ?_
  refine lv_icmp_ge (pc := 6) hx hb (tgt := 29) dX7_ran_6 (by decide) (fun c_6 => ?_) (fun c_6 => ?_)
  · have hf := hf_t c_6 hf
    obtain rfl := Option.some.inj hf
    exact hR H locs 29 ls hP hD hS dX7_ran_29
  · have hf := hf_f c_6 hf
    refine lv_aload_n (pc := 9) hx hb dX7_ran_9 rfl (lv_at hl 0 rfl) ?_
    refine vMgRX7_88_0 (pc := 10) hx hb hts mU_106 inU7 hown hK hP dX7_ran_10 ?_
    refine lv_aload_n (pc := 13) hx hb dX7_ran_13 rfl (lv_at hl 0 rfl) ?_
    refine vMgRX7_348_0 (pc := 14) hx hb hts mU_1027 inU7 hown hK hP (x := (gI S 18)) rfl dX7_ran_14 ?_
    refine lv_iload_n (pc := 17) hx hb dX7_ran_17 rfl (lv_at hl 1 rfl) ?_
    obtain ⟨hg18, hf⟩ := hf_g hf
    refine vMwa_23 (pc := 18) hx hb hK hP hD hS (f := (gA S 17)) rfl hg18 dX7_ran_18 (fun H locs hP hD hS => ?_)
    refine lv_aload_n (pc := 19) hx hb dX7_ran_19 rfl (lv_at hl 0 rfl) ?_
    refine lv_dup (pc := 20) hx hb dX7_ran_20 rfl ?_
    refine vMgRX7_348_0 (pc := 21) hx hb hts mU_1027 inU7 hown hK hP (x := (gI S 18)) rfl dX7_ran_21 ?_
    refine lv_iconst (pc := 24) hx hb (v := 1) dX7_ran_24 (by decide) ?_
    refine lv_iadd (pc := 25) hx hb dX7_ran_25 ?_
    refine vMpRX7_348_0 (pc := 26) hx hb hts mU_1027 inU7 hown hK hP hD hS dX7_ran_26 (fun H locs hP hD hS => ?_)
    obtain rfl := Option.some.inj hf
    exact hR H locs 29 ls hP hD hS dX7_ran_29
set_option maxHeartbeats 4000000 in
set_option maxRecDepth 100000 in
theorem kX7_plainWeighs (l : Launch) (D : va_G) (A : Nat → Nat) (B : Nat → ClassId) (sz : Nat) (S : w_S) (a1 : Int32) (z : Int32 × w_S) (hf : fX7_plainWeighs S a1 = some z) : MetW l yX7_plainWeighs (wsO yX7_plainWeighs cX7_plainWeighs 2 (some .int)) rm_X7_plainWeighs [.ref (A 0), .int a1] D (tyB B) (wM A B S) (wM A B z.2) sz (some (.int z.1)) := by
  refine MetW.mkI (cc := cX7_plainWeighs) (maxL := 2) (by decide) (Nat.le_of_ble_eq_true rfl) ?_
  intro p e s m args below meth c Ad Q hx hb hts hown hml hN hK hA hR H locs ls hP hD hS hl
  have hl : lv_has ls 2 [(0, .ref (A 0)), (1, .int a1)] := hl
  rw [fX7_plainWeighs] at hf
  refine lv_aload_n (pc := 0) hx hb dX7_plainWeighs_0 rfl (lv_at hl 0 rfl) ?_
  refine lv_bipush (pc := 1) hx hb (v := 10) dX7_plainWeighs_1 (by decide) ?_
  obtain ⟨r3, hc3, hf⟩ := hf_b hf
  refine cl_V (pc := 3) (As := [.int 10]) (rest := []) hx hb hml hown hts (kX7_ran l D A B _ S 10 r3 hc3) (cwV 1 hts gwRX7_351 rfl rfl rfl hdX7_ran ⟨Nat.le_of_ble_eq_true rfl, Nat.le_of_ble_eq_true rfl⟩) hN hK hP hD hS hA (va_recv hK hP (ci := 7) (q0 := 0) rfl (eM_0 A B _)) rfl hl.1 rfl (Nat.le_of_ble_eq_true rfl) dX7_plainWeighs_3 (st1 := []) rfl ⟨Nat.zero_le _, Nat.zero_le _⟩ (fun H locs hP hD hS => ?_)
  refine lv_iload_n (pc := 6) hx hb dX7_plainWeighs_6 rfl (lv_at hl 1 rfl) ?_
  refine lv_bipush (pc := 7) hx hb (v := 7) dX7_plainWeighs_7 (by decide) ?_
  refine lv_imul (pc := 9) hx hb dX7_plainWeighs_9 ?_
  refine lv_aload_n (pc := 10) hx hb dX7_plainWeighs_10 rfl (lv_at hl 0 rfl) ?_
  refine vMgRX7_354_0 (pc := 11) hx hb hts mU_1028 inU7 hown hK hP (x := (gI r3 20)) rfl dX7_plainWeighs_11 ?_
  refine lv_iadd (pc := 14) hx hb dX7_plainWeighs_14 ?_
  obtain rfl := Option.some.inj hf
  exact hR H locs 15 ls hP hD hS dX7_plainWeighs_15
set_option maxHeartbeats 4000000 in
set_option maxRecDepth 100000 in
theorem kX7_turnedWeighs (l : Launch) (D : va_G) (A : Nat → Nat) (B : Nat → ClassId) (sz : Nat) (S : w_S) (a1 : Int32) (z : Int32 × w_S) (hf : fX7_turnedWeighs S a1 = some z) : MetW l yX7_turnedWeighs (wsO yX7_turnedWeighs cX7_turnedWeighs 2 (some .int)) rm_X7_turnedWeighs [.ref (A 0), .int a1] D (tyB B) (wM A B S) (wM A B z.2) sz (some (.int z.1)) := by
  refine MetW.mkI (cc := cX7_turnedWeighs) (maxL := 2) (by decide) (Nat.le_of_ble_eq_true rfl) ?_
  intro p e s m args below meth c Ad Q hx hb hts hown hml hN hK hA hR H locs ls hP hD hS hl
  have hl : lv_has ls 2 [(0, .ref (A 0)), (1, .int a1)] := hl
  rw [fX7_turnedWeighs] at hf
  refine lv_aload_n (pc := 0) hx hb dX7_turnedWeighs_0 rfl (lv_at hl 0 rfl) ?_
  refine lv_bipush (pc := 1) hx hb (v := 40) dX7_turnedWeighs_1 (by decide) ?_
  obtain ⟨r3, hc3, hf⟩ := hf_b hf
  refine cl_V (pc := 3) (As := [.int 40]) (rest := []) hx hb hml hown hts (kX7_ran l D A B _ S 40 r3 hc3) (cwV 1 hts gwRX7_351 rfl rfl rfl hdX7_ran ⟨Nat.le_of_ble_eq_true rfl, Nat.le_of_ble_eq_true rfl⟩) hN hK hP hD hS hA (va_recv hK hP (ci := 7) (q0 := 0) rfl (eM_0 A B _)) rfl hl.1 rfl (Nat.le_of_ble_eq_true rfl) dX7_turnedWeighs_3 (st1 := []) rfl ⟨Nat.zero_le _, Nat.zero_le _⟩ (fun H locs hP hD hS => ?_)
  refine lv_aload_n (pc := 6) hx hb dX7_turnedWeighs_6 rfl (lv_at hl 0 rfl) ?_
  refine lv_iload_n (pc := 7) hx hb dX7_turnedWeighs_7 rfl (lv_at hl 1 rfl) ?_
  refine lv_iconst (pc := 8) hx hb (v := 1) dX7_turnedWeighs_8 (by decide) ?_
  refine lv_isub (pc := 9) hx hb dX7_turnedWeighs_9 ?_
  obtain ⟨r10, hc10, hf⟩ := hf_b hf
  refine cl_V (pc := 10) (As := [.int (a1 - 1)]) (rest := []) hx hb hml hown hts (kX7_plainWeighs l D A B _ r3 (a1 - 1) r10 hc10) (cwV 1 hts gwRX7_357 rfl rfl rfl hdX7_plainWeighs ⟨Nat.le_of_ble_eq_true rfl, Nat.le_of_ble_eq_true rfl⟩) hN hK hP hD hS hA (va_recv hK hP (ci := 7) (q0 := 0) rfl (eM_0 A B _)) rfl hl.1 rfl (Nat.le_of_ble_eq_true rfl) dX7_turnedWeighs_10 (st1 := [.int r10.1]) rfl ⟨Nat.zero_le _, Nat.zero_le _⟩ (fun H locs hP hD hS => ?_)
  refine lv_iconst (pc := 13) hx hb (v := 2) dX7_turnedWeighs_13 (by decide) ?_
  refine lv_imul (pc := 14) hx hb dX7_turnedWeighs_14 ?_
  obtain rfl := Option.some.inj hf
  exact hR H locs 15 ls hP hD hS dX7_turnedWeighs_15
set_option maxHeartbeats 4000000 in
set_option maxRecDepth 100000 in
theorem kX7_weighs (l : Launch) (D : va_G) (A : Nat → Nat) (B : Nat → ClassId) (sz : Nat) (S : w_S) (a1 : Int32) (z : Int32 × w_S) (hf : fX7_weighs S a1 = some z) : MetW l yX7_weighs (wsO yX7_weighs cX7_weighs 2 (some .int)) rm_X7_weighs [.ref (A 0), .int a1] D (tyB B) (wM A B S) (wM A B z.2) sz (some (.int z.1)) := by
  refine MetW.mkI (cc := cX7_weighs) (maxL := 2) (by decide) (Nat.le_of_ble_eq_true rfl) ?_
  intro p e s m args below meth c Ad Q hx hb hts hown hml hN hK hA hR H locs ls hP hD hS hl
  have hl : lv_has ls 2 [(0, .ref (A 0)), (1, .int a1)] := hl
  rw [fX7_weighs] at hf
  refine lv_aload_n (pc := 0) hx hb dX7_weighs_0 rfl (lv_at hl 0 rfl) ?_
  refine vMgRX7_360_0 (pc := 1) hx hb hts mU_1029 inU7 hown hK hP (x := (gI S 19)) rfl dX7_weighs_1 ?_
  by_cases e4_1 : (gI S 19) = (1 : Int32)
  · have hf := hf_t e4_1 hf
    refine lv_tableIn (pc := 4) hx hb (off := 40) (tgt := 44) dX7_weighs_4 (by rw [e4_1]; decide) (by rw [e4_1]; decide) (by rw [e4_1]; rfl) (by decide) ?_
    refine lv_aload_n (pc := 44) hx hb dX7_weighs_44 rfl (lv_at hl 0 rfl) ?_
    refine lv_bipush (pc := 45) hx hb (v := 20) dX7_weighs_45 (by decide) ?_
    obtain ⟨r47, hc47, hf⟩ := hf_b hf
    refine cl_V (pc := 47) (As := [.int 20]) (rest := []) hx hb hml hown hts (kX7_ran l D A B _ S 20 r47 hc47) (cwV 1 hts gwRX7_351 rfl rfl rfl hdX7_ran ⟨Nat.le_of_ble_eq_true rfl, Nat.le_of_ble_eq_true rfl⟩) hN hK hP hD hS hA (va_recv hK hP (ci := 7) (q0 := 0) rfl (eM_0 A B _)) rfl hl.1 rfl (Nat.le_of_ble_eq_true rfl) dX7_weighs_47 (st1 := []) rfl ⟨Nat.zero_le _, Nat.zero_le _⟩ (fun H locs hP hD hS => ?_)
    refine lv_aload_n (pc := 50) hx hb dX7_weighs_50 rfl (lv_at hl 0 rfl) ?_
    refine lv_iload_n (pc := 51) hx hb dX7_weighs_51 rfl (lv_at hl 1 rfl) ?_
    obtain ⟨r52, hc52, hf⟩ := hf_b hf
    refine cl_V (pc := 52) (As := [.int a1]) (rest := []) hx hb hml hown hts (kX7_plainWeighs l D A B _ r47 a1 r52 hc52) (cwV 1 hts gwRX7_357 rfl rfl rfl hdX7_plainWeighs ⟨Nat.le_of_ble_eq_true rfl, Nat.le_of_ble_eq_true rfl⟩) hN hK hP hD hS hA (va_recv hK hP (ci := 7) (q0 := 0) rfl (eM_0 A B _)) rfl hl.1 rfl (Nat.le_of_ble_eq_true rfl) dX7_weighs_52 (st1 := [.int r52.1]) rfl ⟨Nat.zero_le _, Nat.zero_le _⟩ (fun H locs hP hD hS => ?_)
    refine lv_iconst (pc := 55) hx hb (v := 4) dX7_weighs_55 (by decide) ?_
    refine lv_iadd (pc := 56) hx hb dX7_weighs_56 ?_
    obtain rfl := Option.some.inj hf
    exact hR H locs 57 ls hP hD hS dX7_weighs_57
  · have hf := hf_f e4_1 hf
    by_cases e4_2 : (gI S 19) = (2 : Int32)
    · have hf := hf_t e4_2 hf
      refine lv_tableIn (pc := 4) hx hb (off := 77) (tgt := 81) dX7_weighs_4 (by rw [e4_2]; decide) (by rw [e4_2]; decide) (by rw [e4_2]; rfl) (by decide) ?_
      refine lv_aload_n (pc := 81) hx hb dX7_weighs_81 rfl (lv_at hl 0 rfl) ?_
      refine lv_iload_n (pc := 82) hx hb dX7_weighs_82 rfl (lv_at hl 1 rfl) ?_
      obtain ⟨r83, hc83, hf⟩ := hf_b hf
      refine cl_V (pc := 83) (As := [.int a1]) (rest := []) hx hb hml hown hts (kX7_plainWeighs l D A B _ S a1 r83 hc83) (cwV 1 hts gwRX7_357 rfl rfl rfl hdX7_plainWeighs ⟨Nat.le_of_ble_eq_true rfl, Nat.le_of_ble_eq_true rfl⟩) hN hK hP hD hS hA (va_recv hK hP (ci := 7) (q0 := 0) rfl (eM_0 A B _)) rfl hl.1 rfl (Nat.le_of_ble_eq_true rfl) dX7_weighs_83 (st1 := [.int r83.1]) rfl ⟨Nat.zero_le _, Nat.zero_le _⟩ (fun H locs hP hD hS => ?_)
      obtain rfl := Option.some.inj hf
      exact hR H locs 86 ls hP hD hS dX7_weighs_86
    · have hf := hf_f e4_2 hf
      by_cases e4_3 : (gI S 19) = (3 : Int32)
      · have hf := hf_t e4_3 hf
        refine lv_tableIn (pc := 4) hx hb (off := 54) (tgt := 58) dX7_weighs_4 (by rw [e4_3]; decide) (by rw [e4_3]; decide) (by rw [e4_3]; rfl) (by decide) ?_
        refine lv_aload_n (pc := 58) hx hb dX7_weighs_58 rfl (lv_at hl 0 rfl) ?_
        refine lv_iload_n (pc := 59) hx hb dX7_weighs_59 rfl (lv_at hl 1 rfl) ?_
        obtain ⟨r60, hc60, hf⟩ := hf_b hf
        refine cl_V (pc := 60) (As := [.int a1]) (rest := []) hx hb hml hown hts (kX7_turnedWeighs l D A B _ S a1 r60 hc60) (cwV 1 hts gwRX7_363 rfl rfl rfl hdX7_turnedWeighs ⟨Nat.le_of_ble_eq_true rfl, Nat.le_of_ble_eq_true rfl⟩) hN hK hP hD hS hA (va_recv hK hP (ci := 7) (q0 := 0) rfl (eM_0 A B _)) rfl hl.1 rfl (Nat.le_of_ble_eq_true rfl) dX7_weighs_60 (st1 := [.int r60.1]) rfl ⟨Nat.zero_le _, Nat.zero_le _⟩ (fun H locs hP hD hS => ?_)
        obtain rfl := Option.some.inj hf
        exact hR H locs 63 ls hP hD hS dX7_weighs_63
      · have hf := hf_f e4_3 hf
        by_cases e4_4 : (gI S 19) = (4 : Int32)
        · have hf := hf_t e4_4 hf
          refine lv_tableIn (pc := 4) hx hb (off := 77) (tgt := 81) dX7_weighs_4 (by rw [e4_4]; decide) (by rw [e4_4]; decide) (by rw [e4_4]; rfl) (by decide) ?_
          refine lv_aload_n (pc := 81) hx hb dX7_weighs_81 rfl (lv_at hl 0 rfl) ?_
          refine lv_iload_n (pc := 82) hx hb dX7_weighs_82 rfl (lv_at hl 1 rfl) ?_
          obtain ⟨r83, hc83, hf⟩ := hf_b hf
          refine cl_V (pc := 83) (As := [.int a1]) (rest := []) hx hb hml hown hts (kX7_plainWeighs l D A B _ S a1 r83 hc83) (cwV 1 hts gwRX7_357 rfl rfl rfl hdX7_plainWeighs ⟨Nat.le_of_ble_eq_true rfl, Nat.le_of_ble_eq_true rfl⟩) hN hK hP hD hS hA (va_recv hK hP (ci := 7) (q0 := 0) rfl (eM_0 A B _)) rfl hl.1 rfl (Nat.le_of_ble_eq_true rfl) dX7_weighs_83 (st1 := [.int r83.1]) rfl ⟨Nat.zero_le _, Nat.zero_le _⟩ (fun H locs hP hD hS => ?_)
          obtain rfl := Option.some.inj hf
          exact hR H locs 86 ls hP hD hS dX7_weighs_86
        · have hf := hf_f e4_4 hf
          by_cases e4_5 : (gI S 19) = (5 : Int32)
          · have hf := hf_t e4_5 hf
            refine lv_tableIn (pc := 4) hx hb (off := 54) (tgt := 58) dX7_weighs_4 (by rw [e4_5]; decide) (by rw [e4_5]; decide) (by rw [e4_5]; rfl) (by decide) ?_
            refine lv_aload_n (pc := 58) hx hb dX7_weighs_58 rfl (lv_at hl 0 rfl) ?_
            refine lv_iload_n (pc := 59) hx hb dX7_weighs_59 rfl (lv_at hl 1 rfl) ?_
            obtain ⟨r60, hc60, hf⟩ := hf_b hf
            refine cl_V (pc := 60) (As := [.int a1]) (rest := []) hx hb hml hown hts (kX7_turnedWeighs l D A B _ S a1 r60 hc60) (cwV 1 hts gwRX7_363 rfl rfl rfl hdX7_turnedWeighs ⟨Nat.le_of_ble_eq_true rfl, Nat.le_of_ble_eq_true rfl⟩) hN hK hP hD hS hA (va_recv hK hP (ci := 7) (q0 := 0) rfl (eM_0 A B _)) rfl hl.1 rfl (Nat.le_of_ble_eq_true rfl) dX7_weighs_60 (st1 := [.int r60.1]) rfl ⟨Nat.zero_le _, Nat.zero_le _⟩ (fun H locs hP hD hS => ?_)
            obtain rfl := Option.some.inj hf
            exact hR H locs 63 ls hP hD hS dX7_weighs_63
          · have hf := hf_f e4_5 hf
            by_cases e4_6 : (gI S 19) = (6 : Int32)
            · have hf := hf_t e4_6 hf
              refine lv_tableIn (pc := 4) hx hb (off := 60) (tgt := 64) dX7_weighs_4 (by rw [e4_6]; decide) (by rw [e4_6]; decide) (by rw [e4_6]; rfl) (by decide) ?_
              refine lv_aload_n (pc := 64) hx hb dX7_weighs_64 rfl (lv_at hl 0 rfl) ?_
              refine lv_bipush (pc := 65) hx hb (v := 70) dX7_weighs_65 (by decide) ?_
              obtain ⟨r67, hc67, hf⟩ := hf_b hf
              refine cl_V (pc := 67) (As := [.int 70]) (rest := []) hx hb hml hown hts (kX7_ran l D A B _ S 70 r67 hc67) (cwV 1 hts gwRX7_351 rfl rfl rfl hdX7_ran ⟨Nat.le_of_ble_eq_true rfl, Nat.le_of_ble_eq_true rfl⟩) hN hK hP hD hS hA (va_recv hK hP (ci := 7) (q0 := 0) rfl (eM_0 A B _)) rfl hl.1 rfl (Nat.le_of_ble_eq_true rfl) dX7_weighs_67 (st1 := []) rfl ⟨Nat.zero_le _, Nat.zero_le _⟩ (fun H locs hP hD hS => ?_)
              refine lv_aload_n (pc := 70) hx hb dX7_weighs_70 rfl (lv_at hl 0 rfl) ?_
              refine lv_iload_n (pc := 71) hx hb dX7_weighs_71 rfl (lv_at hl 1 rfl) ?_
              obtain ⟨r72, hc72, hf⟩ := hf_b hf
              refine cl_V (pc := 72) (As := [.int a1]) (rest := []) hx hb hml hown hts (kX7_turnedWeighs l D A B _ r67 a1 r72 hc72) (cwV 1 hts gwRX7_363 rfl rfl rfl hdX7_turnedWeighs ⟨Nat.le_of_ble_eq_true rfl, Nat.le_of_ble_eq_true rfl⟩) hN hK hP hD hS hA (va_recv hK hP (ci := 7) (q0 := 0) rfl (eM_0 A B _)) rfl hl.1 rfl (Nat.le_of_ble_eq_true rfl) dX7_weighs_72 (st1 := [.int r72.1]) rfl ⟨Nat.zero_le _, Nat.zero_le _⟩ (fun H locs hP hD hS => ?_)
              refine lv_aload_n (pc := 75) hx hb dX7_weighs_75 rfl (lv_at hl 0 rfl) ?_
              refine vMgRX7_366_0 (pc := 76) hx hb hts mU_1030 inU7 hown hK hP (x := (gI r72.2 21)) rfl dX7_weighs_76 ?_
              refine lv_ixor (pc := 79) hx hb dX7_weighs_79 ?_
              obtain rfl := Option.some.inj hf
              exact hR H locs 80 ls hP hD hS dX7_weighs_80
            · have hf := hf_f e4_6 hf
              have n4_1 := lv_neT (a := 1) e4_1 rfl
              have n4_2 := lv_neT (a := 2) e4_2 rfl
              have n4_3 := lv_neT (a := 3) e4_3 rfl
              have n4_4 := lv_neT (a := 4) e4_4 rfl
              have n4_5 := lv_neT (a := 5) e4_5 rfl
              have n4_6 := lv_neT (a := 6) e4_6 rfl
              refine lv_tableOut (pc := 4) hx hb (tgt := 81) dX7_weighs_4 (by omega) (by decide) ?_
              refine lv_aload_n (pc := 81) hx hb dX7_weighs_81 rfl (lv_at hl 0 rfl) ?_
              refine lv_iload_n (pc := 82) hx hb dX7_weighs_82 rfl (lv_at hl 1 rfl) ?_
              obtain ⟨r83, hc83, hf⟩ := hf_b hf
              refine cl_V (pc := 83) (As := [.int a1]) (rest := []) hx hb hml hown hts (kX7_plainWeighs l D A B _ S a1 r83 hc83) (cwV 1 hts gwRX7_357 rfl rfl rfl hdX7_plainWeighs ⟨Nat.le_of_ble_eq_true rfl, Nat.le_of_ble_eq_true rfl⟩) hN hK hP hD hS hA (va_recv hK hP (ci := 7) (q0 := 0) rfl (eM_0 A B _)) rfl hl.1 rfl (Nat.le_of_ble_eq_true rfl) dX7_weighs_83 (st1 := [.int r83.1]) rfl ⟨Nat.zero_le _, Nat.zero_le _⟩ (fun H locs hP hD hS => ?_)
              obtain rfl := Option.some.inj hf
              exact hR H locs 86 ls hP hD hS dX7_weighs_86
set_option maxHeartbeats 4000000 in
set_option maxRecDepth 100000 in
theorem kX7_parts (l : Launch) (D : va_G) (A : Nat → Nat) (B : Nat → ClassId) (sz : Nat) (S : w_S) (a1 : Int32) (z : Int32 × w_S) (hf : fX7_parts S a1 = some z) : MetW l yX7_parts (wsO yX7_parts cX7_parts 4 (some .int)) rm_X7_parts [.ref (A 0), .int a1] D (tyB B) (wM A B S) (wM A B z.2) sz (some (.int z.1)) := by
  refine MetW.mkI (cc := cX7_parts) (maxL := 4) (by decide) (Nat.le_of_ble_eq_true rfl) ?_
  intro p e s m args below meth c Ad Q hx hb hts hown hml hN hK hA hR H locs ls hP hD hS hl
  have hl : lv_has ls 4 [(0, .ref (A 0)), (1, .int a1)] := hl
  rw [fX7_parts] at hf
  refine lv_aload_n (pc := 0) hx hb dX7_parts_0 rfl (lv_at hl 0 rfl) ?_
  refine vMgRX7_360_0 (pc := 1) hx hb hts mU_1029 inU7 hown hK hP (x := (gI S 19)) rfl dX7_parts_1 ?_
  refine lv_iconst (pc := 4) hx hb (v := 3) dX7_parts_4 (by decide) ?_
  obtain ⟨q21, hv21, hf⟩ := hf_b hf
  have hj21 : ∀ (H : Heap) (locs : List Loc) (ls : Array Slot), va_P D vwCl (wM A B S) H → va_D Ad (wM A B S) → va_S Ad s.heap H locs → lv_has ls 4 [(0, .ref (A 0)), (1, .int a1)] → W p l e rm_X7_parts s m args below meth c H locs 0 0 Q (F0 m 21 ls [.int q21]) := by
    intro H locs ls hP hD hS hl
    refine lv_istore_n (pc := 21) hx hb (lv' := [(2, .int q21), (0, .ref (A 0)), (1, .int a1)]) dX7_parts_21 rfl hl (by decide) rfl (fun ls hl => ?_)
    refine lv_iload_n (pc := 22) hx hb dX7_parts_22 rfl (lv_at hl 0 rfl) ?_
    obtain ⟨q32, hv32, hf⟩ := hf_b hf
    have hj32 : ∀ (H : Heap) (locs : List Loc) (ls : Array Slot), va_P D vwCl (wM A B q32) H → va_D Ad (wM A B q32) → va_S Ad s.heap H locs → lv_has ls 4 [(0, .ref (A 0)), (1, .int a1), (2, .int q21)] → W p l e rm_X7_parts s m args below meth c H locs 0 0 Q (F0 m 32 ls []) := by
      intro H locs ls hP hD hS hl
      refine lv_aload_n (pc := 32) hx hb dX7_parts_32 rfl (lv_at hl 0 rfl) ?_
      refine lv_bipush (pc := 33) hx hb (v := 12) dX7_parts_33 (by decide) ?_
      obtain ⟨r35, hc35, hf⟩ := hf_b hf
      refine cl_V (pc := 35) (As := [.int 12]) (rest := []) hx hb hml hown hts (kX7_ran l D A B _ q32 12 r35 hc35) (cwV 1 hts gwRX7_351 rfl rfl rfl hdX7_ran ⟨Nat.le_of_ble_eq_true rfl, Nat.le_of_ble_eq_true rfl⟩) hN hK hP hD hS hA (va_recv hK hP (ci := 7) (q0 := 0) rfl (eM_0 A B _)) rfl hl.1 rfl (Nat.le_of_ble_eq_true rfl) dX7_parts_35 (st1 := []) rfl ⟨Nat.zero_le _, Nat.zero_le _⟩ (fun H locs hP hD hS => ?_)
      refine lv_aload_n (pc := 38) hx hb dX7_parts_38 rfl (lv_at hl 0 rfl) ?_
      refine lv_aload_n (pc := 39) hx hb dX7_parts_39 rfl (lv_at hl 0 rfl) ?_
      refine vMgRX7_378_0 (pc := 40) hx hb hts mU_1031 inU7 hown hK hP (x := (gI r35 22)) rfl dX7_parts_40 ?_
      obtain ⟨q62, hv62, hf⟩ := hf_b hf
      have hj62 : ∀ (H : Heap) (locs : List Loc) (ls : Array Slot), va_P D vwCl (wM A B r35) H → va_D Ad (wM A B r35) → va_S Ad s.heap H locs → lv_has ls 4 [(0, .ref (A 0)), (1, .int a1), (2, .int q21)] → W p l e rm_X7_parts s m args below meth c H locs 0 0 Q (F0 m 62 ls [.int q62, .ref (A 0)]) := by
        intro H locs ls hP hD hS hl
        obtain ⟨hg62, hf⟩ := hf_g hf
        refine vMpRX7_378_0 (pc := 62) hx hb hts mU_1031 inU7 hown hK hP hD hS hg62 dX7_parts_62 (fun H locs hP hD hS => ?_)
        refine lv_aload_n (pc := 65) hx hb dX7_parts_65 rfl (lv_at hl 0 rfl) ?_
        refine vMgRX7_378_0 (pc := 66) hx hb hts mU_1031 inU7 hown hK hP (x := q62) rfl dX7_parts_66 ?_
        refine lv_if_eq (pc := 69) hx hb (tgt := 74) dX7_parts_69 (by decide) (fun c_69 => ?_) (fun c_69 => ?_)
        · have hf := hf_t c_69 hf
          refine lv_aload_n (pc := 74) hx hb dX7_parts_74 rfl (lv_at hl 0 rfl) ?_
          refine vMgRX7_354_0 (pc := 75) hx hb hts mU_1028 inU7 hown hK hP (x := (gI r35 20)) rfl dX7_parts_75 ?_
          refine lv_aload_n (pc := 78) hx hb dX7_parts_78 rfl (lv_at hl 0 rfl) ?_
          refine vMgRX7_366_0 (pc := 79) hx hb hts mU_1030 inU7 hown hK hP (x := (gI r35 21)) rfl dX7_parts_79 ?_
          refine lv_isub (pc := 82) hx hb dX7_parts_82 ?_
          refine lv_iconst (pc := 83) hx hb (v := (-1)) dX7_parts_83 (by decide) ?_
          obtain ⟨q104, hv104, hf⟩ := hf_b hf
          have hj104 : ∀ (H : Heap) (locs : List Loc) (ls : Array Slot), va_P D vwCl (wM A B (sI r35 22 q62)) H → va_D Ad (wM A B (sI r35 22 q62)) → va_S Ad s.heap H locs → lv_has ls 4 [(0, .ref (A 0)), (2, .int q21)] → W p l e rm_X7_parts s m args below meth c H locs 0 0 Q (F0 m 104 ls [.int q104]) := by
            intro H locs ls hP hD hS hl
            refine lv_istore_n (pc := 104) hx hb (lv' := [(3, .int q104), (0, .ref (A 0)), (2, .int q21)]) dX7_parts_104 rfl hl (by decide) rfl (fun ls hl => ?_)
            refine lv_iload_n (pc := 105) hx hb dX7_parts_105 rfl (lv_at hl 2 rfl) ?_
            refine lv_if_eq (pc := 106) hx hb (tgt := 122) dX7_parts_106 (by decide) (fun c_106 => ?_) (fun c_106 => ?_)
            · have hf := hf_t c_106 hf
              refine lv_iload_n (pc := 122) hx hb dX7_parts_122 rfl (lv_at hl 0 rfl) ?_
              obtain rfl := Option.some.inj hf
              exact hR H locs 123 ls hP hD hS dX7_parts_123
            · have hf := hf_f c_106 hf
              refine lv_iload_n (pc := 109) hx hb dX7_parts_109 rfl (lv_at hl 0 rfl) ?_
              refine lv_aload_n (pc := 110) hx hb dX7_parts_110 rfl (lv_at hl 1 rfl) ?_
              refine lv_aload_n (pc := 111) hx hb dX7_parts_111 rfl (lv_at hl 1 rfl) ?_
              refine vMgRX7_354_0 (pc := 112) hx hb hts mU_1028 inU7 hown hK hP (x := (gI r35 20)) rfl dX7_parts_112 ?_
              obtain ⟨r115, hc115, hf⟩ := hf_b hf
              refine cl_V (pc := 115) (As := [.int (gI r35 20)]) (rest := [.int q104]) hx hb hml hown hts (kX7_weighs l D A B _ (sI r35 22 q62) (gI r35 20) r115 hc115) (cwV 1 hts gwRX7_369 rfl rfl rfl hdX7_weighs ⟨Nat.le_of_ble_eq_true rfl, Nat.le_of_ble_eq_true rfl⟩) hN hK hP hD hS hA (va_recv hK hP (ci := 7) (q0 := 0) rfl (eM_0 A B _)) rfl hl.1 rfl (Nat.le_of_ble_eq_true rfl) dX7_parts_115 (st1 := [.int r115.1, .int q104]) rfl ⟨Nat.zero_le _, Nat.zero_le _⟩ (fun H locs hP hD hS => ?_)
              refine lv_isub (pc := 118) hx hb dX7_parts_118 ?_
              refine lv_goto (pc := 119) hx hb (tgt := 123) dX7_parts_119 (by decide) ?_
              obtain rfl := Option.some.inj hf
              exact hR H locs 123 ls hP hD hS dX7_parts_123
          refine lv_icmp_ne (pc := 84) hx hb (tgt := 93) dX7_parts_84 (by decide) (fun c_84 => ?_) (fun c_84 => ?_)
          · have hv104 := hf_f c_84 hv104
            refine lv_iload_n (pc := 93) hx hb dX7_parts_93 rfl (lv_at hl 1 rfl) ?_
            refine lv_aload_n (pc := 94) hx hb dX7_parts_94 rfl (lv_at hl 0 rfl) ?_
            refine vMgRX7_354_0 (pc := 95) hx hb hts mU_1028 inU7 hown hK hP (x := (gI r35 20)) rfl dX7_parts_95 ?_
            refine lv_aload_n (pc := 98) hx hb dX7_parts_98 rfl (lv_at hl 0 rfl) ?_
            refine vMgRX7_366_0 (pc := 99) hx hb hts mU_1030 inU7 hown hK hP (x := (gI r35 21)) rfl dX7_parts_99 ?_
            refine lv_isub (pc := 102) hx hb dX7_parts_102 ?_
            obtain ⟨hg103, hv104⟩ := hf_g hv104
            refine lv_idiv (pc := 103) hx hb dX7_parts_103 hg103 ?_
            obtain rfl := Option.some.inj hv104
            exact hj104 H locs ls hP hD hS (lv_sub hl [0, 2] rfl)
          · have hv104 := hf_t c_84 hv104
            refine lv_iconst (pc := 87) hx hb (v := 0) dX7_parts_87 (by decide) ?_
            refine lv_iload_n (pc := 88) hx hb dX7_parts_88 rfl (lv_at hl 1 rfl) ?_
            refine lv_isub (pc := 89) hx hb dX7_parts_89 ?_
            refine lv_goto (pc := 90) hx hb (tgt := 104) dX7_parts_90 (by decide) ?_
            obtain rfl := Option.some.inj hv104
            exact hj104 H locs ls hP hD hS (lv_sub hl [0, 2] rfl)
        · have hf := hf_f c_69 hf
          refine lv_iconst (pc := 72) hx hb (v := 0) dX7_parts_72 (by decide) ?_
          obtain rfl := Option.some.inj hf
          exact hR H locs 73 ls hP hD hS dX7_parts_73
      refine lv_if_ne (pc := 43) hx hb (tgt := 57) dX7_parts_43 (by decide) (fun c_43 => ?_) (fun c_43 => ?_)
      · have hv62 := hf_f c_43 hv62
        refine lv_iconst (pc := 57) hx hb (v := 1) dX7_parts_57 (by decide) ?_
        refine lv_goto (pc := 58) hx hb (tgt := 62) dX7_parts_58 (by decide) ?_
        obtain rfl := Option.some.inj hv62
        exact hj62 H locs ls hP hD hS (lv_sub hl [0, 1, 2] rfl)
      · have hv62 := hf_t c_43 hv62
        refine lv_aload_n (pc := 46) hx hb dX7_parts_46 rfl (lv_at hl 0 rfl) ?_
        refine vMgRX7_354_0 (pc := 47) hx hb hts mU_1028 inU7 hown hK hP (x := (gI r35 20)) rfl dX7_parts_47 ?_
        refine lv_aload_n (pc := 50) hx hb dX7_parts_50 rfl (lv_at hl 0 rfl) ?_
        refine vMgRX7_366_0 (pc := 51) hx hb hts mU_1030 inU7 hown hK hP (x := (gI r35 21)) rfl dX7_parts_51 ?_
        refine lv_icmp_ne (pc := 54) hx hb (tgt := 61) dX7_parts_54 (by decide) (fun c_54 => ?_) (fun c_54 => ?_)
        · have hv62 := hf_f c_54 hv62
          refine lv_iconst (pc := 61) hx hb (v := 0) dX7_parts_61 (by decide) ?_
          obtain rfl := Option.some.inj hv62
          exact hj62 H locs ls hP hD hS (lv_sub hl [0, 1, 2] rfl)
        · have hv62 := hf_t c_54 hv62
          refine lv_iconst (pc := 57) hx hb (v := 1) dX7_parts_57 (by decide) ?_
          refine lv_goto (pc := 58) hx hb (tgt := 62) dX7_parts_58 (by decide) ?_
          obtain rfl := Option.some.inj hv62
          exact hj62 H locs ls hP hD hS (lv_sub hl [0, 1, 2] rfl)
    refine lv_if_eq (pc := 23) hx hb (tgt := 32) dX7_parts_23 (by decide) (fun c_23 => ?_) (fun c_23 => ?_)
    · have hv32 := hf_t c_23 hv32
      obtain rfl := Option.some.inj hv32
      exact hj32 H locs ls hP hD hS (lv_sub hl [1, 2, 0] rfl)
    · have hv32 := hf_f c_23 hv32
      refine lv_aload_n (pc := 26) hx hb dX7_parts_26 rfl (lv_at hl 1 rfl) ?_
      refine lv_bipush (pc := 27) hx hb (v := 41) dX7_parts_27 (by decide) ?_
      obtain ⟨r29, hc29, hv32⟩ := hf_b hv32
      refine cl_V (pc := 29) (As := [.int 41]) (rest := []) hx hb hml hown hts (kX7_ran l D A B _ S 41 r29 hc29) (cwV 1 hts gwRX7_351 rfl rfl rfl hdX7_ran ⟨Nat.le_of_ble_eq_true rfl, Nat.le_of_ble_eq_true rfl⟩) hN hK hP hD hS hA (va_recv hK hP (ci := 7) (q0 := 0) rfl (eM_0 A B _)) rfl hl.1 rfl (Nat.le_of_ble_eq_true rfl) dX7_parts_29 (st1 := []) rfl ⟨Nat.zero_le _, Nat.zero_le _⟩ (fun H locs hP hD hS => ?_)
      obtain rfl := Option.some.inj hv32
      exact hj32 H locs ls hP hD hS (lv_sub hl [1, 2, 0] rfl)
  refine lv_icmp_eq (pc := 5) hx hb (tgt := 16) dX7_parts_5 (by decide) (fun c_5 => ?_) (fun c_5 => ?_)
  · have hv21 := hf_t c_5 hv21
    refine lv_iconst (pc := 16) hx hb (v := 1) dX7_parts_16 (by decide) ?_
    refine lv_goto (pc := 17) hx hb (tgt := 21) dX7_parts_17 (by decide) ?_
    obtain rfl := Option.some.inj hv21
    exact hj21 H locs ls hP hD hS (lv_sub hl [0, 1] rfl)
  · have hv21 := hf_f c_5 hv21
    refine lv_aload_n (pc := 8) hx hb dX7_parts_8 rfl (lv_at hl 0 rfl) ?_
    refine vMgRX7_360_0 (pc := 9) hx hb hts mU_1029 inU7 hown hK hP (x := (gI S 19)) rfl dX7_parts_9 ?_
    refine lv_iconst (pc := 12) hx hb (v := 5) dX7_parts_12 (by decide) ?_
    refine lv_icmp_lt (pc := 13) hx hb (tgt := 20) dX7_parts_13 (by decide) (fun c_13 => ?_) (fun c_13 => ?_)
    · have hv21 := hf_t c_13 hv21
      refine lv_iconst (pc := 20) hx hb (v := 0) dX7_parts_20 (by decide) ?_
      obtain rfl := Option.some.inj hv21
      exact hj21 H locs ls hP hD hS (lv_sub hl [0, 1] rfl)
    · have hv21 := hf_f c_13 hv21
      refine lv_iconst (pc := 16) hx hb (v := 1) dX7_parts_16 (by decide) ?_
      refine lv_goto (pc := 17) hx hb (tgt := 21) dX7_parts_17 (by decide) ?_
      obtain rfl := Option.some.inj hv21
      exact hj21 H locs ls hP hD hS (lv_sub hl [0, 1] rfl)
set_option maxHeartbeats 4000000 in
set_option maxRecDepth 100000 in
theorem kX7_plainTurns (l : Launch) (D : va_G) (A : Nat → Nat) (B : Nat → ClassId) (sz : Nat) (S : w_S) (a1 : Int32) (z : Int32 × w_S) (hf : fX7_plainTurns S a1 = some z) : MetW l yX7_plainTurns (wsO yX7_plainTurns cX7_plainTurns 2 (some .int)) rm_X7_plainTurns [.ref (A 0), .int a1] D (tyB B) (wM A B S) (wM A B z.2) sz (some (.int z.1)) := by
  refine MetW.mkI (cc := cX7_plainTurns) (maxL := 2) (by decide) (Nat.le_of_ble_eq_true rfl) ?_
  intro p e s m args below meth c Ad Q hx hb hts hown hml hN hK hA hR H locs ls hP hD hS hl
  have hl : lv_has ls 2 [(0, .ref (A 0)), (1, .int a1)] := hl
  rw [fX7_plainTurns] at hf
  refine lv_aload_n (pc := 0) hx hb dX7_plainTurns_0 rfl (lv_at hl 0 rfl) ?_
  refine lv_bipush (pc := 1) hx hb (v := 11) dX7_plainTurns_1 (by decide) ?_
  obtain ⟨r3, hc3, hf⟩ := hf_b hf
  refine cl_V (pc := 3) (As := [.int 11]) (rest := []) hx hb hml hown hts (kX7_ran l D A B _ S 11 r3 hc3) (cwV 1 hts gwRX7_351 rfl rfl rfl hdX7_ran ⟨Nat.le_of_ble_eq_true rfl, Nat.le_of_ble_eq_true rfl⟩) hN hK hP hD hS hA (va_recv hK hP (ci := 7) (q0 := 0) rfl (eM_0 A B _)) rfl hl.1 rfl (Nat.le_of_ble_eq_true rfl) dX7_plainTurns_3 (st1 := []) rfl ⟨Nat.zero_le _, Nat.zero_le _⟩ (fun H locs hP hD hS => ?_)
  refine lv_aload_n (pc := 6) hx hb dX7_plainTurns_6 rfl (lv_at hl 0 rfl) ?_
  refine lv_iload_n (pc := 7) hx hb dX7_plainTurns_7 rfl (lv_at hl 1 rfl) ?_
  obtain ⟨r8, hc8, hf⟩ := hf_b hf
  refine cl_V (pc := 8) (As := [.int a1]) (rest := []) hx hb hml hown hts (kX7_weighs l D A B _ r3 a1 r8 hc8) (cwV 1 hts gwRX7_369 rfl rfl rfl hdX7_weighs ⟨Nat.le_of_ble_eq_true rfl, Nat.le_of_ble_eq_true rfl⟩) hN hK hP hD hS hA (va_recv hK hP (ci := 7) (q0 := 0) rfl (eM_0 A B _)) rfl hl.1 rfl (Nat.le_of_ble_eq_true rfl) dX7_plainTurns_8 (st1 := [.int r8.1]) rfl ⟨Nat.zero_le _, Nat.zero_le _⟩ (fun H locs hP hD hS => ?_)
  refine lv_aload_n (pc := 11) hx hb dX7_plainTurns_11 rfl (lv_at hl 0 rfl) ?_
  refine vMgRX7_366_0 (pc := 12) hx hb hts mU_1030 inU7 hown hK hP (x := (gI r8.2 21)) rfl dX7_plainTurns_12 ?_
  refine lv_isub (pc := 15) hx hb dX7_plainTurns_15 ?_
  obtain rfl := Option.some.inj hf
  exact hR H locs 16 ls hP hD hS dX7_plainTurns_16
