set_option maxHeartbeats 4000000 in
set_option maxRecDepth 100000 in
theorem kX6_solution (l : Launch) (D : va_G) (A : Nat → Nat) (B : Nat → ClassId) (sz : Nat) (S : w_S) (a1 : Int32) (a2 : Int32) (a3 : Int32) (a4 : Int32) (z : Int64 × w_S) (hf : fX6_solution S a1 a2 a3 a4 = some z) : MetW l yX6_solution (wsO yX6_solution cX6_solution 5 (some .long)) rm_X6_solution [.ref (A 0), .int a1, .int a2, .int a3, .int a4] D (tyB B) (wX A B S) (wX A B z.2) sz (some (.long z.1)) := by
  refine MetW.mkL (cc := cX6_solution) (maxL := 5) (by decide) (Nat.le_of_ble_eq_true rfl) ?_
  intro p e s m args below meth c Ad Q hx hb hts hown hml hN hK hA hR H locs ls hP hD hS hl
  have hl : lv_has ls 5 [(0, .ref (A 0)), (1, .int a1), (2, .int a2), (3, .int a3), (4, .int a4)] := hl
  rw [fX6_solution] at hf
  refine lv_aload_n (pc := 0) hx hb dX6_solution_0 rfl (lv_at hl 0 rfl) ?_
  refine vXgRX6_10_0 (pc := 1) hx hb hts mU_16 inU6 hown hK hP dX6_solution_1 ?_
  refine lv_iload_n (pc := 4) hx hb dX6_solution_4 rfl (lv_at hl 1 rfl) ?_
  obtain ⟨r5, hc5, hf⟩ := hf_b hf
  refine cl_V (pc := 5) (As := [.int a1]) (rest := []) hx hb hml hown hts (kX4_hasEquation_1 l D A B _ S a1 r5 hc5) (cwV 1 hts gwRX6_125 rfl rfl rfl hdX4_hasEquation ⟨Nat.le_of_ble_eq_true rfl, Nat.le_of_ble_eq_true rfl⟩) hN hK hP hD hS hA (va_recv hK hP (ci := 4) (q0 := 1) rfl (eX_1 A B _)) rfl hl.1 rfl (Nat.le_of_ble_eq_true rfl) dX6_solution_5 (st1 := [.int r5]) rfl ⟨Nat.zero_le _, Nat.zero_le _⟩ (fun H locs hP hD hS => ?_)
  refine lv_if_eq (pc := 8) hx hb (tgt := 32) dX6_solution_8 (by decide) (fun c_8 => ?_) (fun c_8 => ?_)
  · have hf := hf_t c_8 hf
    refine lv_iconst (pc := 32) hx hb (v := (-1)) dX6_solution_32 (by decide) ?_
    obtain ⟨r33, hc33, hf⟩ := hf_b hf
    refine cl_S (pc := 33) (As := [.int (-1)]) (rest := []) hx hb hml hown hts (kX6_far l D A B _ S (-1) r33 hc33) (va_cwS 1 hts gwRX6_87 rfl rfl rfl hdX6_far ⟨Nat.le_of_ble_eq_true rfl, Nat.le_of_ble_eq_true rfl⟩) hN hK hP hD hS hA rfl hl.1 rfl (Nat.le_of_ble_eq_true rfl) dX6_solution_33 (st1 := [.long r33]) rfl ⟨Nat.zero_le _, Nat.zero_le _⟩ (fun H locs hP hD hS => ?_)
    obtain rfl := Option.some.inj hf
    exact hR H locs 36 ls hP hD hS dX6_solution_36
  · have hf := hf_f c_8 hf
    refine lv_aload_n (pc := 11) hx hb dX6_solution_11 rfl (lv_at hl 0 rfl) ?_
    refine vXgRX6_10_0 (pc := 12) hx hb hts mU_16 inU6 hown hK hP dX6_solution_12 ?_
    refine lv_iconst (pc := 15) hx hb (v := 2) dX6_solution_15 (by decide) ?_
    refine lv_iload_n (pc := 16) hx hb dX6_solution_16 rfl (lv_at hl 2 rfl) ?_
    refine lv_iload_n (pc := 17) hx hb dX6_solution_17 rfl (lv_at hl 3 rfl) ?_
    obtain ⟨r18, hc18, hf⟩ := hf_b hf
    refine cl_V (pc := 18) (As := [.int 2, .int a2, .int a3]) (rest := []) hx hb hml hown hts (kX4_hasEntry_1 l D A B _ S 2 a2 a3 r18 hc18) (cwV 3 hts gwRX6_71 rfl rfl rfl hdX4_hasEntry ⟨Nat.le_of_ble_eq_true rfl, Nat.le_of_ble_eq_true rfl⟩) hN hK hP hD hS hA (va_recv hK hP (ci := 4) (q0 := 1) rfl (eX_1 A B _)) rfl hl.1 rfl (Nat.le_of_ble_eq_true rfl) dX6_solution_18 (st1 := [.int r18]) rfl ⟨Nat.zero_le _, Nat.zero_le _⟩ (fun H locs hP hD hS => ?_)
    refine lv_if_eq (pc := 21) hx hb (tgt := 32) dX6_solution_21 (by decide) (fun c_21 => ?_) (fun c_21 => ?_)
    · have hf := hf_t c_21 hf
      refine lv_iconst (pc := 32) hx hb (v := (-1)) dX6_solution_32 (by decide) ?_
      obtain ⟨r33, hc33, hf⟩ := hf_b hf
      refine cl_S (pc := 33) (As := [.int (-1)]) (rest := []) hx hb hml hown hts (kX6_far l D A B _ S (-1) r33 hc33) (va_cwS 1 hts gwRX6_87 rfl rfl rfl hdX6_far ⟨Nat.le_of_ble_eq_true rfl, Nat.le_of_ble_eq_true rfl⟩) hN hK hP hD hS hA rfl hl.1 rfl (Nat.le_of_ble_eq_true rfl) dX6_solution_33 (st1 := [.long r33]) rfl ⟨Nat.zero_le _, Nat.zero_le _⟩ (fun H locs hP hD hS => ?_)
      obtain rfl := Option.some.inj hf
      exact hR H locs 36 ls hP hD hS dX6_solution_36
    · have hf := hf_f c_21 hf
      refine lv_iload (pc := 24) hx hb dX6_solution_24 (lv_at hl 4 rfl) ?_
      obtain ⟨r26, hc26, hf⟩ := hf_b hf
      refine cl_S (pc := 26) (As := [.int a4]) (rest := []) hx hb hml hown hts (kX6_isPart l D A B _ S a4 r26 hc26) (va_cwS 1 hts gwRX6_165 rfl rfl rfl hdX6_isPart ⟨Nat.le_of_ble_eq_true rfl, Nat.le_of_ble_eq_true rfl⟩) hN hK hP hD hS hA rfl hl.1 rfl (Nat.le_of_ble_eq_true rfl) dX6_solution_26 (st1 := [.int r26]) rfl ⟨Nat.zero_le _, Nat.zero_le _⟩ (fun H locs hP hD hS => ?_)
      refine lv_if_ne (pc := 29) hx hb (tgt := 37) dX6_solution_29 (by decide) (fun c_29 => ?_) (fun c_29 => ?_)
      · have hf := hf_f c_29 hf
        refine lv_aload_n (pc := 37) hx hb dX6_solution_37 rfl (lv_at hl 0 rfl) ?_
        refine vXgRX6_10_0 (pc := 38) hx hb hts mU_16 inU6 hown hK hP dX6_solution_38 ?_
        refine lv_aload_n (pc := 41) hx hb dX6_solution_41 rfl (lv_at hl 0 rfl) ?_
        refine vXgRX6_10_0 (pc := 42) hx hb hts mU_16 inU6 hown hK hP dX6_solution_42 ?_
        refine lv_iload_n (pc := 45) hx hb dX6_solution_45 rfl (lv_at hl 1 rfl) ?_
        obtain ⟨r46, hc46, hf⟩ := hf_b hf
        refine cl_V (pc := 46) (As := [.int a1]) (rest := [.ref (A 1)]) hx hb hml hown hts (kX4_kindOf_1 l D A B _ S a1 r46 hc46) (cwV 1 hts gwRX6_128 rfl rfl rfl hdX4_kindOf ⟨Nat.le_of_ble_eq_true rfl, Nat.le_of_ble_eq_true rfl⟩) hN hK hP hD hS hA (va_recv hK hP (ci := 4) (q0 := 1) rfl (eX_1 A B _)) rfl hl.1 rfl (Nat.le_of_ble_eq_true rfl) dX6_solution_46 (st1 := [.int r46, .ref (A 1)]) rfl ⟨Nat.zero_le _, Nat.zero_le _⟩ (fun H locs hP hD hS => ?_)
        obtain ⟨r49, hc49, hf⟩ := hf_b hf
        refine cl_V (pc := 49) (As := [.int r46]) (rest := []) hx hb hml hown hts (kX4_fits_1 l D A B _ S r46 r49 hc49) (cwV 1 hts gwRX6_134 rfl rfl rfl hdX4_fits ⟨Nat.le_of_ble_eq_true rfl, Nat.le_of_ble_eq_true rfl⟩) hN hK hP hD hS hA (va_recv hK hP (ci := 4) (q0 := 1) rfl (eX_1 A B _)) rfl hl.1 rfl (Nat.le_of_ble_eq_true rfl) dX6_solution_49 (st1 := [.int r49]) rfl ⟨Nat.zero_le _, Nat.zero_le _⟩ (fun H locs hP hD hS => ?_)
        refine lv_if_ne (pc := 52) hx hb (tgt := 61) dX6_solution_52 (by decide) (fun c_52 => ?_) (fun c_52 => ?_)
        · have hf := hf_f c_52 hf
          refine lv_aload_n (pc := 61) hx hb dX6_solution_61 rfl (lv_at hl 0 rfl) ?_
          refine lv_iload_n (pc := 62) hx hb dX6_solution_62 rfl (lv_at hl 1 rfl) ?_
          obtain ⟨r63, hc63, hf⟩ := hf_b hf
          refine cl_V (pc := 63) (As := [.int a1]) (rest := []) hx hb hml hown hts (kX6_solve l D A B _ S a1 r63 hc63) (cwV 1 hts gwRX6_143 rfl rfl rfl hdX6_solve ⟨Nat.le_of_ble_eq_true rfl, Nat.le_of_ble_eq_true rfl⟩) hN hK hP hD hS hA (va_recv hK hP (ci := 6) (q0 := 0) rfl (eX_0 A B _)) rfl hl.1 rfl (Nat.le_of_ble_eq_true rfl) dX6_solution_63 (st1 := []) rfl ⟨Nat.zero_le _, Nat.zero_le _⟩ (fun H locs hP hD hS => ?_)
          refine lv_aload_n (pc := 66) hx hb dX6_solution_66 rfl (lv_at hl 0 rfl) ?_
          refine vXgRX6_25_0 (pc := 67) hx hb hts mU_22 inU6 hown hK hP dX6_solution_67 ?_
          obtain ⟨r70, hc70, hf⟩ := hf_b hf
          refine cl_V (pc := 70) (As := []) (rest := []) hx hb hml hown hts (kX1_isSolvable_19 l D A B _ r63 r70 hc70) (cwV 0 hts gwRX6_154 rfl rfl rfl hdX1_isSolvable ⟨Nat.le_of_ble_eq_true rfl, Nat.le_of_ble_eq_true rfl⟩) hN hK hP hD hS hA (va_recv hK hP (ci := 1) (q0 := 19) rfl (eX_19 A B _)) rfl hl.1 rfl (Nat.le_of_ble_eq_true rfl) dX6_solution_70 (st1 := [.int r70]) rfl ⟨Nat.zero_le _, Nat.zero_le _⟩ (fun H locs hP hD hS => ?_)
          refine lv_if_ne (pc := 73) hx hb (tgt := 82) dX6_solution_73 (by decide) (fun c_73 => ?_) (fun c_73 => ?_)
          · have hf := hf_f c_73 hf
            refine lv_aload_n (pc := 82) hx hb dX6_solution_82 rfl (lv_at hl 0 rfl) ?_
            refine lv_aload_n (pc := 83) hx hb dX6_solution_83 rfl (lv_at hl 0 rfl) ?_
            refine vXgRX6_10_0 (pc := 84) hx hb hts mU_16 inU6 hown hK hP dX6_solution_84 ?_
            refine lv_iload_n (pc := 87) hx hb dX6_solution_87 rfl (lv_at hl 1 rfl) ?_
            obtain ⟨r88, hc88, hf⟩ := hf_b hf
            refine cl_V (pc := 88) (As := [.int a1]) (rest := [.ref (A 0)]) hx hb hml hown hts (kX4_kindOf_1 l D A B _ r63 a1 r88 hc88) (cwV 1 hts gwRX6_128 rfl rfl rfl hdX4_kindOf ⟨Nat.le_of_ble_eq_true rfl, Nat.le_of_ble_eq_true rfl⟩) hN hK hP hD hS hA (va_recv hK hP (ci := 4) (q0 := 1) rfl (eX_1 A B _)) rfl hl.1 rfl (Nat.le_of_ble_eq_true rfl) dX6_solution_88 (st1 := [.int r88, .ref (A 0)]) rfl ⟨Nat.zero_le _, Nat.zero_le _⟩ (fun H locs hP hD hS => ?_)
            refine lv_iload_n (pc := 91) hx hb dX6_solution_91 rfl (lv_at hl 2 rfl) ?_
            refine lv_iload_n (pc := 92) hx hb dX6_solution_92 rfl (lv_at hl 3 rfl) ?_
            obtain ⟨r93, hc93, hf⟩ := hf_b hf
            refine cl_V (pc := 93) (As := [.int r88, .int a2, .int a3]) (rest := []) hx hb hml hown hts (kX6_solutionAbove l D A B _ r63 r88 a2 a3 r93 hc93) (cwV 3 hts gwRX6_168 rfl rfl rfl hdX6_solutionAbove ⟨Nat.le_of_ble_eq_true rfl, Nat.le_of_ble_eq_true rfl⟩) hN hK hP hD hS hA (va_recv hK hP (ci := 6) (q0 := 0) rfl (eX_0 A B _)) rfl hl.1 rfl (Nat.le_of_ble_eq_true rfl) dX6_solution_93 (st1 := [.long r93]) rfl ⟨Nat.zero_le _, Nat.zero_le _⟩ (fun H locs hP hD hS => ?_)
            refine lv_aload_n (pc := 96) hx hb dX6_solution_96 rfl (lv_at hl 0 rfl) ?_
            refine vXgRX6_25_0 (pc := 97) hx hb hts mU_22 inU6 hown hK hP dX6_solution_97 ?_
            refine vXgRX6_172_19 (pc := 100) hx hb hts mU_603 inU1 hown hK hP (x := (gL r63 0)) rfl dX6_solution_100 ?_
            refine lv_iload (pc := 103) hx hb dX6_solution_103 (lv_at hl 4 rfl) ?_
            obtain ⟨r105, hc105, hf⟩ := hf_b hf
            refine cl_S (pc := 105) (As := [.long r93, .long (gL r63 0), .int a4]) (rest := []) hx hb hml hown hts (kX6_fractionPart l D A B _ r63 r93 (gL r63 0) a4 r105 hc105) (va_cwS 3 hts gwRX6_176 rfl rfl rfl hdX6_fractionPart ⟨Nat.le_of_ble_eq_true rfl, Nat.le_of_ble_eq_true rfl⟩) hN hK hP hD hS hA rfl hl.1 rfl (Nat.le_of_ble_eq_true rfl) dX6_solution_105 (st1 := [.long r105]) rfl ⟨Nat.zero_le _, Nat.zero_le _⟩ (fun H locs hP hD hS => ?_)
            obtain rfl := Option.some.inj hf
            exact hR H locs 108 ls hP hD hS dX6_solution_108
          · have hf := hf_t c_73 hf
            refine lv_bipush (pc := 76) hx hb (v := (-3)) dX6_solution_76 (by decide) ?_
            obtain ⟨r78, hc78, hf⟩ := hf_b hf
            refine cl_S (pc := 78) (As := [.int (-3)]) (rest := []) hx hb hml hown hts (kX6_far l D A B _ r63 (-3) r78 hc78) (va_cwS 1 hts gwRX6_87 rfl rfl rfl hdX6_far ⟨Nat.le_of_ble_eq_true rfl, Nat.le_of_ble_eq_true rfl⟩) hN hK hP hD hS hA rfl hl.1 rfl (Nat.le_of_ble_eq_true rfl) dX6_solution_78 (st1 := [.long r78]) rfl ⟨Nat.zero_le _, Nat.zero_le _⟩ (fun H locs hP hD hS => ?_)
            obtain rfl := Option.some.inj hf
            exact hR H locs 81 ls hP hD hS dX6_solution_81
        · have hf := hf_t c_52 hf
          refine lv_bipush (pc := 55) hx hb (v := (-4)) dX6_solution_55 (by decide) ?_
          obtain ⟨r57, hc57, hf⟩ := hf_b hf
          refine cl_S (pc := 57) (As := [.int (-4)]) (rest := []) hx hb hml hown hts (kX6_far l D A B _ S (-4) r57 hc57) (va_cwS 1 hts gwRX6_87 rfl rfl rfl hdX6_far ⟨Nat.le_of_ble_eq_true rfl, Nat.le_of_ble_eq_true rfl⟩) hN hK hP hD hS hA rfl hl.1 rfl (Nat.le_of_ble_eq_true rfl) dX6_solution_57 (st1 := [.long r57]) rfl ⟨Nat.zero_le _, Nat.zero_le _⟩ (fun H locs hP hD hS => ?_)
          obtain rfl := Option.some.inj hf
          exact hR H locs 60 ls hP hD hS dX6_solution_60
      · have hf := hf_t c_29 hf
        refine lv_iconst (pc := 32) hx hb (v := (-1)) dX6_solution_32 (by decide) ?_
        obtain ⟨r33, hc33, hf⟩ := hf_b hf
        refine cl_S (pc := 33) (As := [.int (-1)]) (rest := []) hx hb hml hown hts (kX6_far l D A B _ S (-1) r33 hc33) (va_cwS 1 hts gwRX6_87 rfl rfl rfl hdX6_far ⟨Nat.le_of_ble_eq_true rfl, Nat.le_of_ble_eq_true rfl⟩) hN hK hP hD hS hA rfl hl.1 rfl (Nat.le_of_ble_eq_true rfl) dX6_solution_33 (st1 := [.long r33]) rfl ⟨Nat.zero_le _, Nat.zero_le _⟩ (fun H locs hP hD hS => ?_)
        obtain rfl := Option.some.inj hf
        exact hR H locs 36 ls hP hD hS dX6_solution_36
set_option maxHeartbeats 4000000 in
set_option maxRecDepth 100000 in
theorem kX1_baseAbove_19 (l : Launch) (D : va_G) (A : Nat → Nat) (B : Nat → ClassId) (sz : Nat) (S : w_S) (a1 : Int32) (a2 : Int32) (z : Int64) (hf : fX1_baseAbove_19 S a1 a2 = some z) : MetW l yX1_baseAbove (wsO yX1_baseAbove cX1_baseAbove 3 (some .long)) rm_X1_baseAbove [.ref (A 19), .int a1, .int a2] D (tyB B) (wX A B S) (wX A B S) sz (some (.long z)) := by
  refine MetW.mkL (cc := cX1_baseAbove) (maxL := 3) (by decide) (Nat.le_of_ble_eq_true rfl) ?_
  intro p e s m args below meth c Ad Q hx hb hts hown hml hN hK hA hR H locs ls hP hD hS hl
  have hl : lv_has ls 3 [(0, .ref (A 19)), (1, .int a1), (2, .int a2)] := hl
  rw [fX1_baseAbove_19] at hf
  refine lv_iload_n (pc := 0) hx hb dX1_baseAbove_0 rfl (lv_at hl 2 rfl) ?_
  refine lv_iload_n (pc := 1) hx hb dX1_baseAbove_1 rfl (lv_at hl 1 rfl) ?_
  refine lv_icmp_ne (pc := 2) hx hb (tgt := 10) dX1_baseAbove_2 (by decide) (fun c_2 => ?_) (fun c_2 => ?_)
  · have hf := hf_f c_2 hf
    refine lv_aload_n (pc := 10) hx hb dX1_baseAbove_10 rfl (lv_at hl 0 rfl) ?_
    refine lv_iload_n (pc := 11) hx hb dX1_baseAbove_11 rfl (lv_at hl 2 rfl) ?_
    obtain ⟨r12, hc12, hf⟩ := hf_b hf
    refine cl_V (pc := 12) (As := [.int a2]) (rest := []) hx hb hml hown hts (kX1_isPivot_19 l D A B _ S a2 r12 hc12) (cwV 1 hts gwRX1_82 rfl rfl rfl hdX1_isPivot ⟨Nat.le_of_ble_eq_true rfl, Nat.le_of_ble_eq_true rfl⟩) hN hK hP hD hS hA (va_recv hK hP (ci := 1) (q0 := 19) rfl (eX_19 A B _)) rfl hl.1 rfl (Nat.le_of_ble_eq_true rfl) dX1_baseAbove_12 (st1 := [.int r12]) rfl ⟨Nat.zero_le _, Nat.zero_le _⟩ (fun H locs hP hD hS => ?_)
    refine lv_if_eq (pc := 15) hx hb (tgt := 33) dX1_baseAbove_15 (by decide) (fun c_15 => ?_) (fun c_15 => ?_)
    · have hf := hf_t c_15 hf
      refine lv_lconst (pc := 33) hx hb (v := 0) dX1_baseAbove_33 (by decide) ?_
      obtain rfl := Option.some.inj hf
      exact hR H locs 34 ls hP hD hS dX1_baseAbove_34
    · have hf := hf_f c_15 hf
      refine lv_aload_n (pc := 18) hx hb dX1_baseAbove_18 rfl (lv_at hl 0 rfl) ?_
      refine lv_aload_n (pc := 19) hx hb dX1_baseAbove_19 rfl (lv_at hl 0 rfl) ?_
      refine vXgRX1_19_19 (pc := 20) hx hb hts mU_58 inU1 hown hK hP dX1_baseAbove_20 ?_
      refine lv_iload_n (pc := 23) hx hb dX1_baseAbove_23 rfl (lv_at hl 2 rfl) ?_
      obtain ⟨hg24, hf⟩ := hf_g hf
      refine vXra_21 (pc := 24) hx hb hK hP (f := (gA S 15)) rfl hg24 dX1_baseAbove_24 ?_
      refine lv_iload_n (pc := 25) hx hb dX1_baseAbove_25 rfl (lv_at hl 1 rfl) ?_
      obtain ⟨r26, hc26, hf⟩ := hf_b hf
      refine cl_V (pc := 26) (As := [.int ((gA S 15) a2.toNatClampNeg), .int a1]) (rest := []) hx hb hml hown hts (kX1_cell_19 l D A B _ S ((gA S 15) a2.toNatClampNeg) a1 r26 hc26) (cwV 2 hts gwRX1_49 rfl rfl rfl hdX1_cell ⟨Nat.le_of_ble_eq_true rfl, Nat.le_of_ble_eq_true rfl⟩) hN hK hP hD hS hA (va_recv hK hP (ci := 1) (q0 := 19) rfl (eX_19 A B _)) rfl hl.1 rfl (Nat.le_of_ble_eq_true rfl) dX1_baseAbove_26 (st1 := [.long r26]) rfl ⟨Nat.zero_le _, Nat.zero_le _⟩ (fun H locs hP hD hS => ?_)
      refine lv_lneg (pc := 29) hx hb dX1_baseAbove_29 ?_
      refine lv_goto (pc := 30) hx hb (tgt := 34) dX1_baseAbove_30 (by decide) ?_
      obtain rfl := Option.some.inj hf
      exact hR H locs 34 ls hP hD hS dX1_baseAbove_34
  · have hf := hf_t c_2 hf
    refine lv_aload_n (pc := 5) hx hb dX1_baseAbove_5 rfl (lv_at hl 0 rfl) ?_
    refine vXgRX1_9_19 (pc := 6) hx hb hts mU_55 inU1 hown hK hP (x := (gL S 0)) rfl dX1_baseAbove_6 ?_
    obtain rfl := Option.some.inj hf
    exact hR H locs 9 ls hP hD hS dX1_baseAbove_9
set_option maxHeartbeats 4000000 in
set_option maxRecDepth 100000 in
theorem kX6_base (l : Launch) (D : va_G) (A : Nat → Nat) (B : Nat → ClassId) (sz : Nat) (S : w_S) (a1 : Int32) (a2 : Int32) (a3 : Int32) (a4 : Int32) (a5 : Int32) (z : Int64 × w_S) (hf : fX6_base S a1 a2 a3 a4 a5 = some z) : MetW l yX6_base (wsO yX6_base cX6_base 9 (some .long)) rm_X6_base [.ref (A 0), .int a1, .int a2, .int a3, .int a4, .int a5] D (tyB B) (wX A B S) (wX A B z.2) sz (some (.long z.1)) := by
  refine MetW.mkL (cc := cX6_base) (maxL := 9) (by decide) (Nat.le_of_ble_eq_true rfl) ?_
  intro p e s m args below meth c Ad Q hx hb hts hown hml hN hK hA hR H locs ls hP hD hS hl
  have hl : lv_has ls 9 [(0, .ref (A 0)), (1, .int a1), (2, .int a2), (3, .int a3), (4, .int a4), (5, .int a5)] := hl
  rw [fX6_base] at hf
  refine lv_aload_n (pc := 0) hx hb dX6_base_0 rfl (lv_at hl 0 rfl) ?_
  refine vXgRX6_10_0 (pc := 1) hx hb hts mU_16 inU6 hown hK hP dX6_base_1 ?_
  refine lv_iload_n (pc := 4) hx hb dX6_base_4 rfl (lv_at hl 1 rfl) ?_
  obtain ⟨r5, hc5, hf⟩ := hf_b hf
  refine cl_V (pc := 5) (As := [.int a1]) (rest := []) hx hb hml hown hts (kX4_hasEquation_1 l D A B _ S a1 r5 hc5) (cwV 1 hts gwRX6_125 rfl rfl rfl hdX4_hasEquation ⟨Nat.le_of_ble_eq_true rfl, Nat.le_of_ble_eq_true rfl⟩) hN hK hP hD hS hA (va_recv hK hP (ci := 4) (q0 := 1) rfl (eX_1 A B _)) rfl hl.1 rfl (Nat.le_of_ble_eq_true rfl) dX6_base_5 (st1 := [.int r5]) rfl ⟨Nat.zero_le _, Nat.zero_le _⟩ (fun H locs hP hD hS => ?_)
  refine lv_if_eq (pc := 8) hx hb (tgt := 43) dX6_base_8 (by decide) (fun c_8 => ?_) (fun c_8 => ?_)
  · have hf := hf_t c_8 hf
    refine lv_iconst (pc := 43) hx hb (v := (-1)) dX6_base_43 (by decide) ?_
    obtain ⟨r44, hc44, hf⟩ := hf_b hf
    refine cl_S (pc := 44) (As := [.int (-1)]) (rest := []) hx hb hml hown hts (kX6_far l D A B _ S (-1) r44 hc44) (va_cwS 1 hts gwRX6_87 rfl rfl rfl hdX6_far ⟨Nat.le_of_ble_eq_true rfl, Nat.le_of_ble_eq_true rfl⟩) hN hK hP hD hS hA rfl hl.1 rfl (Nat.le_of_ble_eq_true rfl) dX6_base_44 (st1 := [.long r44]) rfl ⟨Nat.zero_le _, Nat.zero_le _⟩ (fun H locs hP hD hS => ?_)
    obtain rfl := Option.some.inj hf
    exact hR H locs 47 ls hP hD hS dX6_base_47
  · have hf := hf_f c_8 hf
    refine lv_iload_n (pc := 11) hx hb dX6_base_11 rfl (lv_at hl 2 rfl) ?_
    refine lv_if_lt (pc := 12) hx hb (tgt := 43) dX6_base_12 (by decide) (fun c_12 => ?_) (fun c_12 => ?_)
    · have hf := hf_t c_12 hf
      refine lv_iconst (pc := 43) hx hb (v := (-1)) dX6_base_43 (by decide) ?_
      obtain ⟨r44, hc44, hf⟩ := hf_b hf
      refine cl_S (pc := 44) (As := [.int (-1)]) (rest := []) hx hb hml hown hts (kX6_far l D A B _ S (-1) r44 hc44) (va_cwS 1 hts gwRX6_87 rfl rfl rfl hdX6_far ⟨Nat.le_of_ble_eq_true rfl, Nat.le_of_ble_eq_true rfl⟩) hN hK hP hD hS hA rfl hl.1 rfl (Nat.le_of_ble_eq_true rfl) dX6_base_44 (st1 := [.long r44]) rfl ⟨Nat.zero_le _, Nat.zero_le _⟩ (fun H locs hP hD hS => ?_)
      obtain rfl := Option.some.inj hf
      exact hR H locs 47 ls hP hD hS dX6_base_47
    · have hf := hf_f c_12 hf
      refine lv_iload_n (pc := 15) hx hb dX6_base_15 rfl (lv_at hl 2 rfl) ?_
      refine lv_bipush (pc := 16) hx hb (v := 9) dX6_base_16 (by decide) ?_
      refine lv_icmp_ge (pc := 18) hx hb (tgt := 43) dX6_base_18 (by decide) (fun c_18 => ?_) (fun c_18 => ?_)
      · have hf := hf_t c_18 hf
        refine lv_iconst (pc := 43) hx hb (v := (-1)) dX6_base_43 (by decide) ?_
        obtain ⟨r44, hc44, hf⟩ := hf_b hf
        refine cl_S (pc := 44) (As := [.int (-1)]) (rest := []) hx hb hml hown hts (kX6_far l D A B _ S (-1) r44 hc44) (va_cwS 1 hts gwRX6_87 rfl rfl rfl hdX6_far ⟨Nat.le_of_ble_eq_true rfl, Nat.le_of_ble_eq_true rfl⟩) hN hK hP hD hS hA rfl hl.1 rfl (Nat.le_of_ble_eq_true rfl) dX6_base_44 (st1 := [.long r44]) rfl ⟨Nat.zero_le _, Nat.zero_le _⟩ (fun H locs hP hD hS => ?_)
        obtain rfl := Option.some.inj hf
        exact hR H locs 47 ls hP hD hS dX6_base_47
      · have hf := hf_f c_18 hf
        refine lv_aload_n (pc := 21) hx hb dX6_base_21 rfl (lv_at hl 0 rfl) ?_
        refine vXgRX6_10_0 (pc := 22) hx hb hts mU_16 inU6 hown hK hP dX6_base_22 ?_
        refine lv_iconst (pc := 25) hx hb (v := 2) dX6_base_25 (by decide) ?_
        refine lv_iload_n (pc := 26) hx hb dX6_base_26 rfl (lv_at hl 3 rfl) ?_
        refine lv_iload (pc := 27) hx hb dX6_base_27 (lv_at hl 4 rfl) ?_
        obtain ⟨r29, hc29, hf⟩ := hf_b hf
        refine cl_V (pc := 29) (As := [.int 2, .int a3, .int a4]) (rest := []) hx hb hml hown hts (kX4_hasEntry_1 l D A B _ S 2 a3 a4 r29 hc29) (cwV 3 hts gwRX6_71 rfl rfl rfl hdX4_hasEntry ⟨Nat.le_of_ble_eq_true rfl, Nat.le_of_ble_eq_true rfl⟩) hN hK hP hD hS hA (va_recv hK hP (ci := 4) (q0 := 1) rfl (eX_1 A B _)) rfl hl.1 rfl (Nat.le_of_ble_eq_true rfl) dX6_base_29 (st1 := [.int r29]) rfl ⟨Nat.zero_le _, Nat.zero_le _⟩ (fun H locs hP hD hS => ?_)
        refine lv_if_eq (pc := 32) hx hb (tgt := 43) dX6_base_32 (by decide) (fun c_32 => ?_) (fun c_32 => ?_)
        · have hf := hf_t c_32 hf
          refine lv_iconst (pc := 43) hx hb (v := (-1)) dX6_base_43 (by decide) ?_
          obtain ⟨r44, hc44, hf⟩ := hf_b hf
          refine cl_S (pc := 44) (As := [.int (-1)]) (rest := []) hx hb hml hown hts (kX6_far l D A B _ S (-1) r44 hc44) (va_cwS 1 hts gwRX6_87 rfl rfl rfl hdX6_far ⟨Nat.le_of_ble_eq_true rfl, Nat.le_of_ble_eq_true rfl⟩) hN hK hP hD hS hA rfl hl.1 rfl (Nat.le_of_ble_eq_true rfl) dX6_base_44 (st1 := [.long r44]) rfl ⟨Nat.zero_le _, Nat.zero_le _⟩ (fun H locs hP hD hS => ?_)
          obtain rfl := Option.some.inj hf
          exact hR H locs 47 ls hP hD hS dX6_base_47
        · have hf := hf_f c_32 hf
          refine lv_iload (pc := 35) hx hb dX6_base_35 (lv_at hl 5 rfl) ?_
          obtain ⟨r37, hc37, hf⟩ := hf_b hf
          refine cl_S (pc := 37) (As := [.int a5]) (rest := []) hx hb hml hown hts (kX6_isPart l D A B _ S a5 r37 hc37) (va_cwS 1 hts gwRX6_165 rfl rfl rfl hdX6_isPart ⟨Nat.le_of_ble_eq_true rfl, Nat.le_of_ble_eq_true rfl⟩) hN hK hP hD hS hA rfl hl.1 rfl (Nat.le_of_ble_eq_true rfl) dX6_base_37 (st1 := [.int r37]) rfl ⟨Nat.zero_le _, Nat.zero_le _⟩ (fun H locs hP hD hS => ?_)
          refine lv_if_ne (pc := 40) hx hb (tgt := 48) dX6_base_40 (by decide) (fun c_40 => ?_) (fun c_40 => ?_)
          · have hf := hf_f c_40 hf
            refine lv_aload_n (pc := 48) hx hb dX6_base_48 rfl (lv_at hl 0 rfl) ?_
            refine vXgRX6_10_0 (pc := 49) hx hb hts mU_16 inU6 hown hK hP dX6_base_49 ?_
            refine lv_iload_n (pc := 52) hx hb dX6_base_52 rfl (lv_at hl 1 rfl) ?_
            obtain ⟨r53, hc53, hf⟩ := hf_b hf
            refine cl_V (pc := 53) (As := [.int a1]) (rest := []) hx hb hml hown hts (kX4_kindOf_1 l D A B _ S a1 r53 hc53) (cwV 1 hts gwRX6_128 rfl rfl rfl hdX4_kindOf ⟨Nat.le_of_ble_eq_true rfl, Nat.le_of_ble_eq_true rfl⟩) hN hK hP hD hS hA (va_recv hK hP (ci := 4) (q0 := 1) rfl (eX_1 A B _)) rfl hl.1 rfl (Nat.le_of_ble_eq_true rfl) dX6_base_53 (st1 := [.int r53]) rfl ⟨Nat.zero_le _, Nat.zero_le _⟩ (fun H locs hP hD hS => ?_)
            refine lv_istore (pc := 56) hx hb (lv' := [(6, .int r53), (0, .ref (A 0)), (1, .int a1), (2, .int a2), (3, .int a3), (4, .int a4), (5, .int a5)]) dX6_base_56 hl (by decide) rfl (fun ls hl => ?_)
            refine lv_aload_n (pc := 58) hx hb dX6_base_58 rfl (lv_at hl 1 rfl) ?_
            refine vXgRX6_10_0 (pc := 59) hx hb hts mU_16 inU6 hown hK hP dX6_base_59 ?_
            refine lv_iload (pc := 62) hx hb dX6_base_62 (lv_at hl 0 rfl) ?_
            obtain ⟨r64, hc64, hf⟩ := hf_b hf
            refine cl_V (pc := 64) (As := [.int r53]) (rest := []) hx hb hml hown hts (kX4_fits_1 l D A B _ S r53 r64 hc64) (cwV 1 hts gwRX6_134 rfl rfl rfl hdX4_fits ⟨Nat.le_of_ble_eq_true rfl, Nat.le_of_ble_eq_true rfl⟩) hN hK hP hD hS hA (va_recv hK hP (ci := 4) (q0 := 1) rfl (eX_1 A B _)) rfl hl.1 rfl (Nat.le_of_ble_eq_true rfl) dX6_base_64 (st1 := [.int r64]) rfl ⟨Nat.zero_le _, Nat.zero_le _⟩ (fun H locs hP hD hS => ?_)
            refine lv_if_ne (pc := 67) hx hb (tgt := 76) dX6_base_67 (by decide) (fun c_67 => ?_) (fun c_67 => ?_)
            · have hf := hf_f c_67 hf
              refine lv_aload_n (pc := 76) hx hb dX6_base_76 rfl (lv_at hl 1 rfl) ?_
              refine lv_iload_n (pc := 77) hx hb dX6_base_77 rfl (lv_at hl 2 rfl) ?_
              obtain ⟨r78, hc78, hf⟩ := hf_b hf
              refine cl_V (pc := 78) (As := [.int a1]) (rest := []) hx hb hml hown hts (kX6_solve l D A B _ S a1 r78 hc78) (cwV 1 hts gwRX6_143 rfl rfl rfl hdX6_solve ⟨Nat.le_of_ble_eq_true rfl, Nat.le_of_ble_eq_true rfl⟩) hN hK hP hD hS hA (va_recv hK hP (ci := 6) (q0 := 0) rfl (eX_0 A B _)) rfl hl.1 rfl (Nat.le_of_ble_eq_true rfl) dX6_base_78 (st1 := []) rfl ⟨Nat.zero_le _, Nat.zero_le _⟩ (fun H locs hP hD hS => ?_)
              refine lv_aload_n (pc := 81) hx hb dX6_base_81 rfl (lv_at hl 1 rfl) ?_
              refine vXgRX6_25_0 (pc := 82) hx hb hts mU_22 inU6 hown hK hP dX6_base_82 ?_
              refine lv_iload_n (pc := 85) hx hb dX6_base_85 rfl (lv_at hl 3 rfl) ?_
              obtain ⟨r86, hc86, hf⟩ := hf_b hf
              refine cl_V (pc := 86) (As := [.int a2]) (rest := []) hx hb hml hown hts (kX1_isFree_19 l D A B _ r78 a2 r86 hc86) (cwV 1 hts gwRX6_180 rfl rfl rfl hdX1_isFree ⟨Nat.le_of_ble_eq_true rfl, Nat.le_of_ble_eq_true rfl⟩) hN hK hP hD hS hA (va_recv hK hP (ci := 1) (q0 := 19) rfl (eX_19 A B _)) rfl hl.1 rfl (Nat.le_of_ble_eq_true rfl) dX6_base_86 (st1 := [.int r86]) rfl ⟨Nat.zero_le _, Nat.zero_le _⟩ (fun H locs hP hD hS => ?_)
              refine lv_if_ne (pc := 89) hx hb (tgt := 98) dX6_base_89 (by decide) (fun c_89 => ?_) (fun c_89 => ?_)
              · have hf := hf_f c_89 hf
                refine lv_aload_n (pc := 98) hx hb dX6_base_98 rfl (lv_at hl 1 rfl) ?_
                refine vXgRX6_10_0 (pc := 99) hx hb hts mU_16 inU6 hown hK hP dX6_base_99 ?_
                refine lv_iload (pc := 102) hx hb dX6_base_102 (lv_at hl 0 rfl) ?_
                refine lv_iload_n (pc := 104) hx hb dX6_base_104 rfl (lv_at hl 4 rfl) ?_
                refine lv_iload (pc := 105) hx hb dX6_base_105 (lv_at hl 5 rfl) ?_
                obtain ⟨r107, hc107, hf⟩ := hf_b hf
                refine cl_V (pc := 107) (As := [.int r53, .int a3, .int a4]) (rest := []) hx hb hml hown hts (kX4_signAt_1 l D A B _ r78 r53 a3 a4 r107 hc107) (cwV 3 hts gwRX6_183 rfl rfl rfl hdX4_signAt ⟨Nat.le_of_ble_eq_true rfl, Nat.le_of_ble_eq_true rfl⟩) hN hK hP hD hS hA (va_recv hK hP (ci := 4) (q0 := 1) rfl (eX_1 A B _)) rfl hl.1 rfl (Nat.le_of_ble_eq_true rfl) dX6_base_107 (st1 := [.int r107]) rfl ⟨Nat.zero_le _, Nat.zero_le _⟩ (fun H locs hP hD hS => ?_)
                refine lv_i2l (pc := 110) hx hb (v := r107.toInt64) dX6_base_110 rfl ?_
                refine lv_aload_n (pc := 111) hx hb dX6_base_111 rfl (lv_at hl 1 rfl) ?_
                refine vXgRX6_25_0 (pc := 112) hx hb hts mU_22 inU6 hown hK hP dX6_base_112 ?_
                refine lv_iload_n (pc := 115) hx hb dX6_base_115 rfl (lv_at hl 3 rfl) ?_
                refine lv_aload_n (pc := 116) hx hb dX6_base_116 rfl (lv_at hl 1 rfl) ?_
                refine vXgRX6_10_0 (pc := 117) hx hb hts mU_16 inU6 hown hK hP dX6_base_117 ?_
                refine lv_iload (pc := 120) hx hb dX6_base_120 (lv_at hl 0 rfl) ?_
                refine lv_iload_n (pc := 122) hx hb dX6_base_122 rfl (lv_at hl 4 rfl) ?_
                refine lv_iload (pc := 123) hx hb dX6_base_123 (lv_at hl 5 rfl) ?_
                obtain ⟨r125, hc125, hf⟩ := hf_b hf
                refine cl_V (pc := 125) (As := [.int r53, .int a3, .int a4]) (rest := [.int a2, .ref (A 19), .long r107.toInt64]) hx hb hml hown hts (kX4_unknownAt_1 l D A B _ r78 r53 a3 a4 r125 hc125) (cwV 3 hts gwRX6_186 rfl rfl rfl hdX4_unknownAt ⟨Nat.le_of_ble_eq_true rfl, Nat.le_of_ble_eq_true rfl⟩) hN hK hP hD hS hA (va_recv hK hP (ci := 4) (q0 := 1) rfl (eX_1 A B _)) rfl hl.1 rfl (Nat.le_of_ble_eq_true rfl) dX6_base_125 (st1 := [.int r125, .int a2, .ref (A 19), .long r107.toInt64]) rfl ⟨Nat.zero_le _, Nat.zero_le _⟩ (fun H locs hP hD hS => ?_)
                obtain ⟨r128, hc128, hf⟩ := hf_b hf
                refine cl_V (pc := 128) (As := [.int a2, .int r125]) (rest := [.long r107.toInt64]) hx hb hml hown hts (kX1_baseAbove_19 l D A B _ r78 a2 r125 r128 hc128) (cwV 2 hts gwRX6_189 rfl rfl rfl hdX1_baseAbove ⟨Nat.le_of_ble_eq_true rfl, Nat.le_of_ble_eq_true rfl⟩) hN hK hP hD hS hA (va_recv hK hP (ci := 1) (q0 := 19) rfl (eX_19 A B _)) rfl hl.1 rfl (Nat.le_of_ble_eq_true rfl) dX6_base_128 (st1 := [.long r128, .long r107.toInt64]) rfl ⟨Nat.zero_le _, Nat.zero_le _⟩ (fun H locs hP hD hS => ?_)
                refine lv_lmul (pc := 131) hx hb dX6_base_131 ?_
                refine lv_lstore (pc := 132) hx hb (lv' := [(7, .long (r107.toInt64 * r128)), (6, .int r53), (0, .ref (A 0)), (1, .int a1), (2, .int a2), (3, .int a3), (4, .int a4), (5, .int a5)]) dX6_base_132 hl (by decide) rfl (fun ls hl => ?_)
                refine lv_lload (pc := 134) hx hb dX6_base_134 (lv_at hl 0 rfl) ?_
                refine lv_aload_n (pc := 136) hx hb dX6_base_136 rfl (lv_at hl 2 rfl) ?_
                refine vXgRX6_25_0 (pc := 137) hx hb hts mU_22 inU6 hown hK hP dX6_base_137 ?_
                refine vXgRX6_172_19 (pc := 140) hx hb hts mU_603 inU1 hown hK hP (x := (gL r78 0)) rfl dX6_base_140 ?_
                refine lv_iload (pc := 143) hx hb dX6_base_143 (lv_at hl 7 rfl) ?_
                obtain ⟨r145, hc145, hf⟩ := hf_b hf
                refine cl_S (pc := 145) (As := [.long (r107.toInt64 * r128), .long (gL r78 0), .int a5]) (rest := []) hx hb hml hown hts (kX6_fractionPart l D A B _ r78 (r107.toInt64 * r128) (gL r78 0) a5 r145 hc145) (va_cwS 3 hts gwRX6_176 rfl rfl rfl hdX6_fractionPart ⟨Nat.le_of_ble_eq_true rfl, Nat.le_of_ble_eq_true rfl⟩) hN hK hP hD hS hA rfl hl.1 rfl (Nat.le_of_ble_eq_true rfl) dX6_base_145 (st1 := [.long r145]) rfl ⟨Nat.zero_le _, Nat.zero_le _⟩ (fun H locs hP hD hS => ?_)
                obtain rfl := Option.some.inj hf
                exact hR H locs 148 ls hP hD hS dX6_base_148
              · have hf := hf_t c_89 hf
                refine lv_bipush (pc := 92) hx hb (v := (-3)) dX6_base_92 (by decide) ?_
                obtain ⟨r94, hc94, hf⟩ := hf_b hf
                refine cl_S (pc := 94) (As := [.int (-3)]) (rest := []) hx hb hml hown hts (kX6_far l D A B _ r78 (-3) r94 hc94) (va_cwS 1 hts gwRX6_87 rfl rfl rfl hdX6_far ⟨Nat.le_of_ble_eq_true rfl, Nat.le_of_ble_eq_true rfl⟩) hN hK hP hD hS hA rfl hl.1 rfl (Nat.le_of_ble_eq_true rfl) dX6_base_94 (st1 := [.long r94]) rfl ⟨Nat.zero_le _, Nat.zero_le _⟩ (fun H locs hP hD hS => ?_)
                obtain rfl := Option.some.inj hf
                exact hR H locs 97 ls hP hD hS dX6_base_97
            · have hf := hf_t c_67 hf
              refine lv_bipush (pc := 70) hx hb (v := (-4)) dX6_base_70 (by decide) ?_
              obtain ⟨r72, hc72, hf⟩ := hf_b hf
              refine cl_S (pc := 72) (As := [.int (-4)]) (rest := []) hx hb hml hown hts (kX6_far l D A B _ S (-4) r72 hc72) (va_cwS 1 hts gwRX6_87 rfl rfl rfl hdX6_far ⟨Nat.le_of_ble_eq_true rfl, Nat.le_of_ble_eq_true rfl⟩) hN hK hP hD hS hA rfl hl.1 rfl (Nat.le_of_ble_eq_true rfl) dX6_base_72 (st1 := [.long r72]) rfl ⟨Nat.zero_le _, Nat.zero_le _⟩ (fun H locs hP hD hS => ?_)
              obtain rfl := Option.some.inj hf
              exact hR H locs 75 ls hP hD hS dX6_base_75
          · have hf := hf_t c_40 hf
            refine lv_iconst (pc := 43) hx hb (v := (-1)) dX6_base_43 (by decide) ?_
            obtain ⟨r44, hc44, hf⟩ := hf_b hf
            refine cl_S (pc := 44) (As := [.int (-1)]) (rest := []) hx hb hml hown hts (kX6_far l D A B _ S (-1) r44 hc44) (va_cwS 1 hts gwRX6_87 rfl rfl rfl hdX6_far ⟨Nat.le_of_ble_eq_true rfl, Nat.le_of_ble_eq_true rfl⟩) hN hK hP hD hS hA rfl hl.1 rfl (Nat.le_of_ble_eq_true rfl) dX6_base_44 (st1 := [.long r44]) rfl ⟨Nat.zero_le _, Nat.zero_le _⟩ (fun H locs hP hD hS => ?_)
            obtain rfl := Option.some.inj hf
            exact hR H locs 47 ls hP hD hS dX6_base_47
set_option maxHeartbeats 4000000 in
set_option maxRecDepth 100000 in
theorem kX1_hasCell_22 (l : Launch) (D : va_G) (A : Nat → Nat) (B : Nat → ClassId) (sz : Nat) (S : w_S) (a1 : Int32) (a2 : Int32) (z : Int32) (hf : fX1_hasCell_22 a1 a2 = some z) : MetW l yX1_hasCell (wsO yX1_hasCell cX1_hasCell 3 (some .boolean)) rm_X1_hasCell [.ref (A 22), .int a1, .int a2] D (tyB B) (wX A B S) (wX A B S) sz (some (.int z)) := by
  refine MetW.mkZ (cc := cX1_hasCell) (maxL := 3) (by decide) (Nat.le_of_ble_eq_true rfl) ?_
  intro p e s m args below meth c Ad Q hx hb hts hown hml hN hK hA hR H locs ls hP hD hS hl
  have hl : lv_has ls 3 [(0, .ref (A 22)), (1, .int a1), (2, .int a2)] := hl
  rw [fX1_hasCell_22] at hf
  refine lv_iload_n (pc := 0) hx hb dX1_hasCell_0 rfl (lv_at hl 1 rfl) ?_
  refine lv_if_lt (pc := 1) hx hb (tgt := 24) dX1_hasCell_1 (by decide) (fun c_1 => ?_) (fun c_1 => ?_)
  · have hf := hf_t c_1 hf
    refine lv_iconst (pc := 24) hx hb (v := 0) dX1_hasCell_24 (by decide) ?_
    obtain rfl := Option.some.inj hf
    exact hR H locs 25 ls hP hD hS (nz_of (.inl rfl)) dX1_hasCell_25
  · have hf := hf_f c_1 hf
    refine lv_iload_n (pc := 4) hx hb dX1_hasCell_4 rfl (lv_at hl 1 rfl) ?_
    refine lv_bipush (pc := 5) hx hb (v := 9) dX1_hasCell_5 (by decide) ?_
    refine lv_icmp_ge (pc := 7) hx hb (tgt := 24) dX1_hasCell_7 (by decide) (fun c_7 => ?_) (fun c_7 => ?_)
    · have hf := hf_t c_7 hf
      refine lv_iconst (pc := 24) hx hb (v := 0) dX1_hasCell_24 (by decide) ?_
      obtain rfl := Option.some.inj hf
      exact hR H locs 25 ls hP hD hS (nz_of (.inl rfl)) dX1_hasCell_25
    · have hf := hf_f c_7 hf
      refine lv_iload_n (pc := 10) hx hb dX1_hasCell_10 rfl (lv_at hl 2 rfl) ?_
      refine lv_if_lt (pc := 11) hx hb (tgt := 24) dX1_hasCell_11 (by decide) (fun c_11 => ?_) (fun c_11 => ?_)
      · have hf := hf_t c_11 hf
        refine lv_iconst (pc := 24) hx hb (v := 0) dX1_hasCell_24 (by decide) ?_
        obtain rfl := Option.some.inj hf
        exact hR H locs 25 ls hP hD hS (nz_of (.inl rfl)) dX1_hasCell_25
      · have hf := hf_f c_11 hf
        refine lv_iload_n (pc := 14) hx hb dX1_hasCell_14 rfl (lv_at hl 2 rfl) ?_
        refine lv_bipush (pc := 15) hx hb (v := 10) dX1_hasCell_15 (by decide) ?_
        refine lv_icmp_ge (pc := 17) hx hb (tgt := 24) dX1_hasCell_17 (by decide) (fun c_17 => ?_) (fun c_17 => ?_)
        · have hf := hf_t c_17 hf
          refine lv_iconst (pc := 24) hx hb (v := 0) dX1_hasCell_24 (by decide) ?_
          obtain rfl := Option.some.inj hf
          exact hR H locs 25 ls hP hD hS (nz_of (.inl rfl)) dX1_hasCell_25
        · have hf := hf_f c_17 hf
          refine lv_iconst (pc := 20) hx hb (v := 1) dX1_hasCell_20 (by decide) ?_
          refine lv_goto (pc := 21) hx hb (tgt := 25) dX1_hasCell_21 (by decide) ?_
          obtain rfl := Option.some.inj hf
          exact hR H locs 25 ls hP hD hS (nz_of (.inr rfl)) dX1_hasCell_25
set_option maxHeartbeats 4000000 in
set_option maxRecDepth 100000 in
theorem kX1_cell_22 (l : Launch) (D : va_G) (A : Nat → Nat) (B : Nat → ClassId) (sz : Nat) (S : w_S) (a1 : Int32) (a2 : Int32) (z : Int64) (hf : fX1_cell_22 S a1 a2 = some z) : MetW l yX1_cell (wsO yX1_cell cX1_cell 3 (some .long)) rm_X1_cell [.ref (A 22), .int a1, .int a2] D (tyB B) (wX A B S) (wX A B S) sz (some (.long z)) := by
  refine MetW.mkL (cc := cX1_cell) (maxL := 3) (by decide) (Nat.le_of_ble_eq_true rfl) ?_
  intro p e s m args below meth c Ad Q hx hb hts hown hml hN hK hA hR H locs ls hP hD hS hl
  have hl : lv_has ls 3 [(0, .ref (A 22)), (1, .int a1), (2, .int a2)] := hl
  rw [fX1_cell_22] at hf
  refine lv_aload_n (pc := 0) hx hb dX1_cell_0 rfl (lv_at hl 0 rfl) ?_
  refine lv_iload_n (pc := 1) hx hb dX1_cell_1 rfl (lv_at hl 1 rfl) ?_
  refine lv_iload_n (pc := 2) hx hb dX1_cell_2 rfl (lv_at hl 2 rfl) ?_
  obtain ⟨r3, hc3, hf⟩ := hf_b hf
  refine cl_V (pc := 3) (As := [.int a1, .int a2]) (rest := []) hx hb hml hown hts (kX1_hasCell_22 l D A B _ S a1 a2 r3 hc3) (cwV 2 hts gwRX1_45 rfl rfl rfl hdX1_hasCell ⟨Nat.le_of_ble_eq_true rfl, Nat.le_of_ble_eq_true rfl⟩) hN hK hP hD hS hA (va_recv hK hP (ci := 1) (q0 := 22) rfl (eX_22 A B _)) rfl hl.1 rfl (Nat.le_of_ble_eq_true rfl) dX1_cell_3 (st1 := [.int r3]) rfl ⟨Nat.zero_le _, Nat.zero_le _⟩ (fun H locs hP hD hS => ?_)
  refine lv_if_eq (pc := 6) hx hb (tgt := 23) dX1_cell_6 (by decide) (fun c_6 => ?_) (fun c_6 => ?_)
  · have hf := hf_t c_6 hf
    refine lv_lconst (pc := 23) hx hb (v := 0) dX1_cell_23 (by decide) ?_
    obtain rfl := Option.some.inj hf
    exact hR H locs 24 ls hP hD hS dX1_cell_24
  · have hf := hf_f c_6 hf
    refine lv_aload_n (pc := 9) hx hb dX1_cell_9 rfl (lv_at hl 0 rfl) ?_
    refine vXgRX1_15_22 (pc := 10) hx hb hts mU_57 inU1 hown hK hP dX1_cell_10 ?_
    refine lv_iload_n (pc := 13) hx hb dX1_cell_13 rfl (lv_at hl 1 rfl) ?_
    refine lv_bipush (pc := 14) hx hb (v := 10) dX1_cell_14 (by decide) ?_
    refine lv_imul (pc := 16) hx hb dX1_cell_16 ?_
    refine lv_iload_n (pc := 17) hx hb dX1_cell_17 rfl (lv_at hl 2 rfl) ?_
    refine lv_iadd (pc := 18) hx hb dX1_cell_18 ?_
    obtain ⟨hg19, hf⟩ := hf_g hf
    refine vXra_23 (pc := 19) hx hb hK hP (f := (gB S 1)) rfl hg19 dX1_cell_19 ?_
    refine lv_goto (pc := 20) hx hb (tgt := 24) dX1_cell_20 (by decide) ?_
    obtain rfl := Option.some.inj hf
    exact hR H locs 24 ls hP hD hS dX1_cell_24
set_option maxHeartbeats 4000000 in
set_option maxRecDepth 100000 in
theorem kX1_firstFilled_22 (l : Launch) (D : va_G) (A : Nat → Nat) (B : Nat → ClassId) (sz : Nat) (S : w_S) (a1 : Int32) (z : Int32) (hf : fX1_firstFilled_22 S a1 = some z) : MetW l yX1_firstFilled (wsO yX1_firstFilled cX1_firstFilled 3 (some .int)) rm_X1_firstFilled [.ref (A 22), .int a1] D (tyB B) (wX A B S) (wX A B S) sz (some (.int z)) := by
  refine MetW.mkI (cc := cX1_firstFilled) (maxL := 3) (by decide) (Nat.le_of_ble_eq_true rfl) ?_
  intro p e s m args below meth c Ad Q hx hb hts hown hml hN hK hA hR H locs ls hP hD hS hl
  have hl : lv_has ls 3 [(0, .ref (A 22)), (1, .int a1)] := hl
  rw [fX1_firstFilled_22] at hf
  refine lv_aload_n (pc := 0) hx hb dX1_firstFilled_0 rfl (lv_at hl 0 rfl) ?_
  refine vXgRX1_61_22 (pc := 1) hx hb hts mU_483 inU1 hown hK hP (x := (gI S 19)) rfl dX1_firstFilled_1 ?_
  refine lv_istore_n (pc := 4) hx hb (lv' := [(2, .int (gI S 19)), (0, .ref (A 22)), (1, .int a1)]) dX1_firstFilled_4 rfl hl (by decide) rfl (fun ls hl => ?_)
  have hk5 : ∀  (H : Heap) (locs : List Loc) (ls : Array Slot), some (-1) = some z → va_P D vwCl (wX A B S) H → va_D Ad (wX A B S) → va_S Ad s.heap H locs → lv_has ls 3 [] → W p l e rm_X1_firstFilled s m args below meth c H locs 0 0 Q (F0 m 32 ls []) := by
    intro  H locs ls hf hP hD hS hl
    refine lv_iconst (pc := 32) hx hb (v := (-1)) dX1_firstFilled_32 (by decide) ?_
    obtain rfl := Option.some.inj hf
    exact hR H locs 33 ls hP hD hS dX1_firstFilled_33
  have lp5 : ∀ (n : Nat) (u2_5 : Int32) (H : Heap) (locs : List Loc) (ls : Array Slot), fX1_firstFilled_22_L5 (some (-1)) S a1 n u2_5 = some z → va_P D vwCl (wX A B S) H → va_D Ad (wX A B S) → va_S Ad s.heap H locs → lv_has ls 3 [(0, .ref (A 22)), (1, .int a1), (2, .int u2_5)] → W p l e rm_X1_firstFilled s m args below meth c H locs 0 0 Q (F0 m 5 ls []) := by
    intro n5
    induction n5 with
    | zero => intro u2_5 H locs ls hf; exact hf_0 hf
    | succ n5 ih5 =>
      intro u2_5 H locs ls hf hP hD hS hl
      rw [fX1_firstFilled_22_L5] at hf
      refine lv_iload_n (pc := 5) hx hb dX1_firstFilled_5 rfl (lv_at hl 2 rfl) ?_
      refine lv_aload_n (pc := 6) hx hb dX1_firstFilled_6 rfl (lv_at hl 0 rfl) ?_
      refine vXgRX1_32_22 (pc := 7) hx hb hts mU_436 inU1 hown hK hP (x := (gI S 17)) rfl dX1_firstFilled_7 ?_
      refine lv_icmp_ge (pc := 10) hx hb (tgt := 32) dX1_firstFilled_10 (by decide) (fun c_10 => ?_) (fun c_10 => ?_)
      · have hf := hf_t c_10 hf
        exact hk5  H locs ls hf hP hD hS (lv_sub hl [] rfl)
      · have hf := hf_f c_10 hf
        refine lv_aload_n (pc := 13) hx hb dX1_firstFilled_13 rfl (lv_at hl 0 rfl) ?_
        refine lv_iload_n (pc := 14) hx hb dX1_firstFilled_14 rfl (lv_at hl 2 rfl) ?_
        refine lv_iload_n (pc := 15) hx hb dX1_firstFilled_15 rfl (lv_at hl 1 rfl) ?_
        obtain ⟨r16, hc16, hf⟩ := hf_b hf
        refine cl_V (pc := 16) (As := [.int u2_5, .int a1]) (rest := []) hx hb hml hown hts (kX1_cell_22 l D A B _ S u2_5 a1 r16 hc16) (cwV 2 hts gwRX1_49 rfl rfl rfl hdX1_cell ⟨Nat.le_of_ble_eq_true rfl, Nat.le_of_ble_eq_true rfl⟩) hN hK hP hD hS hA (va_recv hK hP (ci := 1) (q0 := 22) rfl (eX_22 A B _)) rfl hl.1 rfl (Nat.le_of_ble_eq_true rfl) dX1_firstFilled_16 (st1 := [.long r16]) rfl ⟨Nat.zero_le _, Nat.zero_le _⟩ (fun H locs hP hD hS => ?_)
        refine lv_lconst (pc := 19) hx hb (v := 0) dX1_firstFilled_19 (by decide) ?_
        refine W.lcmp (pc := 20) hx hb dX1_firstFilled_20 ?_
        refine lv_if_eq (pc := 21) hx hb (tgt := 26) dX1_firstFilled_21 (by decide) (fun c_21 => ?_) (fun c_21 => ?_)
        · have c_21 := lg_eq0.mp c_21
          have hf := hf_t c_21 hf
          refine lv_iinc (pc := 26) hx hb (v := u2_5 + 1) (lv' := [(2, .int (u2_5 + 1)), (0, .ref (A 22)), (1, .int a1)]) dX1_firstFilled_26 hl (k := 2) rfl rfl (by decide) rfl (fun ls hl => ?_)
          refine lv_goto (pc := 29) hx hb (tgt := 5) dX1_firstFilled_29 (by decide) ?_
          exact ih5 (u2_5 + 1) H locs ls hf hP hD hS (lv_sub hl [1, 2, 0] rfl)
        · have c_21 := fun h9 => c_21 (lg_eq0.mpr h9)
          have hf := hf_f c_21 hf
          refine lv_iload_n (pc := 24) hx hb dX1_firstFilled_24 rfl (lv_at hl 2 rfl) ?_
          obtain rfl := Option.some.inj hf
          exact hR H locs 25 ls hP hD hS dX1_firstFilled_25
  exact lp5 256 (gI S 19) H locs ls hf hP hD hS (lv_sub hl [1, 2, 0] rfl)
set_option maxHeartbeats 4000000 in
set_option maxRecDepth 100000 in
theorem kX1_write_22 (l : Launch) (D : va_G) (A : Nat → Nat) (B : Nat → ClassId) (sz : Nat) (S : w_S) (a1 : Int32) (a2 : Int32) (a3 : Int64) (z : w_S) (hf : fX1_write_22 S a1 a2 a3 = some z) : MetW l yX1_write (wsO yX1_write cX1_write 5 none) rm_X1_write [.ref (A 22), .int a1, .int a2, .long a3] D (tyB B) (wX A B S) (wX A B z) sz (none) := by
  refine MetW.mkV (cc := cX1_write) (maxL := 5) (by decide) (Nat.le_of_ble_eq_true rfl) ?_
  intro p e s m args below meth c Ad Q hx hb hts hown hml hN hK hA hR H locs ls hP hD hS hl
  have hl : lv_has ls 5 [(0, .ref (A 22)), (1, .int a1), (2, .int a2), (3, .long a3)] := hl
  rw [fX1_write_22] at hf
  refine lv_aload_n (pc := 0) hx hb dX1_write_0 rfl (lv_at hl 0 rfl) ?_
  refine lv_iload_n (pc := 1) hx hb dX1_write_1 rfl (lv_at hl 1 rfl) ?_
  refine lv_iload_n (pc := 2) hx hb dX1_write_2 rfl (lv_at hl 2 rfl) ?_
  obtain ⟨r3, hc3, hf⟩ := hf_b hf
  refine cl_V (pc := 3) (As := [.int a1, .int a2]) (rest := []) hx hb hml hown hts (kX1_hasCell_22 l D A B _ S a1 a2 r3 hc3) (cwV 2 hts gwRX1_45 rfl rfl rfl hdX1_hasCell ⟨Nat.le_of_ble_eq_true rfl, Nat.le_of_ble_eq_true rfl⟩) hN hK hP hD hS hA (va_recv hK hP (ci := 1) (q0 := 22) rfl (eX_22 A B _)) rfl hl.1 rfl (Nat.le_of_ble_eq_true rfl) dX1_write_3 (st1 := [.int r3]) rfl ⟨Nat.zero_le _, Nat.zero_le _⟩ (fun H locs hP hD hS => ?_)
  refine lv_if_eq (pc := 6) hx hb (tgt := 21) dX1_write_6 (by decide) (fun c_6 => ?_) (fun c_6 => ?_)
  · have hf := hf_t c_6 hf
    obtain rfl := Option.some.inj hf
    exact hR H locs 21 ls hP hD hS dX1_write_21
  · have hf := hf_f c_6 hf
    refine lv_aload_n (pc := 9) hx hb dX1_write_9 rfl (lv_at hl 0 rfl) ?_
    refine vXgRX1_15_22 (pc := 10) hx hb hts mU_57 inU1 hown hK hP dX1_write_10 ?_
    refine lv_iload_n (pc := 13) hx hb dX1_write_13 rfl (lv_at hl 1 rfl) ?_
    refine lv_bipush (pc := 14) hx hb (v := 10) dX1_write_14 (by decide) ?_
    refine lv_imul (pc := 16) hx hb dX1_write_16 ?_
    refine lv_iload_n (pc := 17) hx hb dX1_write_17 rfl (lv_at hl 2 rfl) ?_
    refine lv_iadd (pc := 18) hx hb dX1_write_18 ?_
    refine lv_lload_n (pc := 19) hx hb dX1_write_19 rfl (lv_at hl 3 rfl) ?_
    obtain ⟨hg20, hf⟩ := hf_g hf
    refine vXwa_23 (pc := 20) hx hb hK hP hD hS (f := (gB S 1)) rfl hg20 dX1_write_20 (fun H locs hP hD hS => ?_)
    obtain rfl := Option.some.inj hf
    exact hR H locs 21 ls hP hD hS dX1_write_21
set_option maxHeartbeats 4000000 in
set_option maxRecDepth 100000 in
theorem kX1_swapRows_22 (l : Launch) (D : va_G) (A : Nat → Nat) (B : Nat → ClassId) (sz : Nat) (S : w_S) (a1 : Int32) (a2 : Int32) (z : w_S) (hf : fX1_swapRows_22 S a1 a2 = some z) : MetW l yX1_swapRows (wsO yX1_swapRows cX1_swapRows 6 none) rm_X1_swapRows [.ref (A 22), .int a1, .int a2] D (tyB B) (wX A B S) (wX A B z) sz (none) := by
  refine MetW.mkV (cc := cX1_swapRows) (maxL := 6) (by decide) (Nat.le_of_ble_eq_true rfl) ?_
  intro p e s m args below meth c Ad Q hx hb hts hown hml hN hK hA hR H locs ls hP hD hS hl
  have hl : lv_has ls 6 [(0, .ref (A 22)), (1, .int a1), (2, .int a2)] := hl
  rw [fX1_swapRows_22] at hf
  refine lv_iload_n (pc := 0) hx hb dX1_swapRows_0 rfl (lv_at hl 1 rfl) ?_
  refine lv_iload_n (pc := 1) hx hb dX1_swapRows_1 rfl (lv_at hl 2 rfl) ?_
  refine lv_icmp_ne (pc := 2) hx hb (tgt := 6) dX1_swapRows_2 (by decide) (fun c_2 => ?_) (fun c_2 => ?_)
  · have hf := hf_f c_2 hf
    refine lv_aload_n (pc := 6) hx hb dX1_swapRows_6 rfl (lv_at hl 0 rfl) ?_
    refine lv_aload_n (pc := 7) hx hb dX1_swapRows_7 rfl (lv_at hl 0 rfl) ?_
    refine vXgRX1_64_22 (pc := 8) hx hb hts mU_484 inU1 hown hK hP (x := (gI S 20)) rfl dX1_swapRows_8 ?_
    obtain ⟨q19, hv19, hf⟩ := hf_b hf
    have hj19 : ∀ (H : Heap) (locs : List Loc) (ls : Array Slot), va_P D vwCl (wX A B S) H → va_D Ad (wX A B S) → va_S Ad s.heap H locs → lv_has ls 6 [(0, .ref (A 22)), (1, .int a1), (2, .int a2)] → W p l e rm_X1_swapRows s m args below meth c H locs 0 0 Q (F0 m 19 ls [.int q19, .ref (A 22)]) := by
      intro H locs ls hP hD hS hl
      obtain ⟨hg19, hf⟩ := hf_g hf
      refine vXpRX1_64_22 (pc := 19) hx hb hts mU_484 inU1 hown hK hP hD hS hg19 dX1_swapRows_19 (fun H locs hP hD hS => ?_)
      refine lv_iconst (pc := 22) hx hb (v := 0) dX1_swapRows_22 (by decide) ?_
      refine lv_istore_n (pc := 23) hx hb (lv' := [(3, .int 0), (0, .ref (A 22)), (1, .int a1), (2, .int a2)]) dX1_swapRows_23 rfl hl (by decide) rfl (fun ls hl => ?_)
      obtain ⟨q24, hq24, hf⟩ := hf_b hf
      have hk24 : ∀ (H : Heap) (locs : List Loc) (ls : Array Slot), va_P D vwCl (wX A B q24) H → va_D Ad (wX A B q24) → va_S Ad s.heap H locs → lv_has ls 6 [] → W p l e rm_X1_swapRows s m args below meth c H locs 0 0 Q (F0 m 66 ls []) := by
        intro H locs ls hP hD hS hl
        obtain rfl := Option.some.inj hf
        exact hR H locs 66 ls hP hD hS dX1_swapRows_66
      have lp24 : ∀ (n : Nat) (T24 : w_S) (u3_24 : Int32) (H : Heap) (locs : List Loc) (ls : Array Slot), fX1_swapRows_22_L24 a1 a2 n T24 u3_24 = some q24 → va_P D vwCl (wX A B T24) H → va_D Ad (wX A B T24) → va_S Ad s.heap H locs → lv_has ls 6 [(0, .ref (A 22)), (1, .int a1), (2, .int a2), (3, .int u3_24)] → W p l e rm_X1_swapRows s m args below meth c H locs 0 0 Q (F0 m 24 ls []) := by
        intro n24
        induction n24 with
        | zero => intro T24 u3_24 H locs ls hq24; exact hf_0 hq24
        | succ n24 ih24 =>
          intro T24 u3_24 H locs ls hq24 hP hD hS hl
          rw [fX1_swapRows_22_L24] at hq24
          refine lv_iload_n (pc := 24) hx hb dX1_swapRows_24 rfl (lv_at hl 3 rfl) ?_
          refine lv_aload_n (pc := 25) hx hb dX1_swapRows_25 rfl (lv_at hl 0 rfl) ?_
          refine vXgRX1_36_22 (pc := 26) hx hb hts mU_437 inU1 hown hK hP (x := (gI T24 18)) rfl dX1_swapRows_26 ?_
          refine lv_icmp_gt (pc := 29) hx hb (tgt := 66) dX1_swapRows_29 (by decide) (fun c_29 => ?_) (fun c_29 => ?_)
          · have hq24 := hf_t c_29 hq24
            obtain rfl := Option.some.inj hq24
            exact hk24 H locs ls hP hD hS (lv_sub hl [] rfl)
          · have hq24 := hf_f c_29 hq24
            refine lv_aload_n (pc := 32) hx hb dX1_swapRows_32 rfl (lv_at hl 0 rfl) ?_
            refine lv_iload_n (pc := 33) hx hb dX1_swapRows_33 rfl (lv_at hl 1 rfl) ?_
            refine lv_iload_n (pc := 34) hx hb dX1_swapRows_34 rfl (lv_at hl 3 rfl) ?_
            obtain ⟨r35, hc35, hq24⟩ := hf_b hq24
            refine cl_V (pc := 35) (As := [.int a1, .int u3_24]) (rest := []) hx hb hml hown hts (kX1_cell_22 l D A B _ T24 a1 u3_24 r35 hc35) (cwV 2 hts gwRX1_49 rfl rfl rfl hdX1_cell ⟨Nat.le_of_ble_eq_true rfl, Nat.le_of_ble_eq_true rfl⟩) hN hK hP hD hS hA (va_recv hK hP (ci := 1) (q0 := 22) rfl (eX_22 A B _)) rfl hl.1 rfl (Nat.le_of_ble_eq_true rfl) dX1_swapRows_35 (st1 := [.long r35]) rfl ⟨Nat.zero_le _, Nat.zero_le _⟩ (fun H locs hP hD hS => ?_)
            refine lv_lstore (pc := 38) hx hb (lv' := [(4, .long r35), (0, .ref (A 22)), (1, .int a1), (2, .int a2), (3, .int u3_24)]) dX1_swapRows_38 hl (by decide) rfl (fun ls hl => ?_)
            refine lv_aload_n (pc := 40) hx hb dX1_swapRows_40 rfl (lv_at hl 1 rfl) ?_
            refine lv_iload_n (pc := 41) hx hb dX1_swapRows_41 rfl (lv_at hl 2 rfl) ?_
            refine lv_iload_n (pc := 42) hx hb dX1_swapRows_42 rfl (lv_at hl 4 rfl) ?_
            refine lv_aload_n (pc := 43) hx hb dX1_swapRows_43 rfl (lv_at hl 1 rfl) ?_
            refine lv_iload_n (pc := 44) hx hb dX1_swapRows_44 rfl (lv_at hl 3 rfl) ?_
            refine lv_iload_n (pc := 45) hx hb dX1_swapRows_45 rfl (lv_at hl 4 rfl) ?_
            obtain ⟨r46, hc46, hq24⟩ := hf_b hq24
            refine cl_V (pc := 46) (As := [.int a2, .int u3_24]) (rest := [.int u3_24, .int a1, .ref (A 22)]) hx hb hml hown hts (kX1_cell_22 l D A B _ T24 a2 u3_24 r46 hc46) (cwV 2 hts gwRX1_49 rfl rfl rfl hdX1_cell ⟨Nat.le_of_ble_eq_true rfl, Nat.le_of_ble_eq_true rfl⟩) hN hK hP hD hS hA (va_recv hK hP (ci := 1) (q0 := 22) rfl (eX_22 A B _)) rfl hl.1 rfl (Nat.le_of_ble_eq_true rfl) dX1_swapRows_46 (st1 := [.long r46, .int u3_24, .int a1, .ref (A 22)]) rfl ⟨Nat.zero_le _, Nat.zero_le _⟩ (fun H locs hP hD hS => ?_)
            obtain ⟨r49, hc49, hq24⟩ := hf_b hq24
            refine cl_V (pc := 49) (As := [.int a1, .int u3_24, .long r46]) (rest := []) hx hb hml hown hts (kX1_write_22 l D A B _ T24 a1 u3_24 r46 r49 hc49) (cwV 3 hts gwRX1_53 rfl rfl rfl hdX1_write ⟨Nat.le_of_ble_eq_true rfl, Nat.le_of_ble_eq_true rfl⟩) hN hK hP hD hS hA (va_recv hK hP (ci := 1) (q0 := 22) rfl (eX_22 A B _)) rfl hl.1 rfl (Nat.le_of_ble_eq_true rfl) dX1_swapRows_49 (st1 := []) rfl ⟨Nat.zero_le _, Nat.zero_le _⟩ (fun H locs hP hD hS => ?_)
            refine lv_aload_n (pc := 52) hx hb dX1_swapRows_52 rfl (lv_at hl 1 rfl) ?_
            refine lv_iload_n (pc := 53) hx hb dX1_swapRows_53 rfl (lv_at hl 3 rfl) ?_
            refine lv_iload_n (pc := 54) hx hb dX1_swapRows_54 rfl (lv_at hl 4 rfl) ?_
            refine lv_lload (pc := 55) hx hb dX1_swapRows_55 (lv_at hl 0 rfl) ?_
            obtain ⟨r57, hc57, hq24⟩ := hf_b hq24
            refine cl_V (pc := 57) (As := [.int a2, .int u3_24, .long r35]) (rest := []) hx hb hml hown hts (kX1_write_22 l D A B _ r49 a2 u3_24 r35 r57 hc57) (cwV 3 hts gwRX1_53 rfl rfl rfl hdX1_write ⟨Nat.le_of_ble_eq_true rfl, Nat.le_of_ble_eq_true rfl⟩) hN hK hP hD hS hA (va_recv hK hP (ci := 1) (q0 := 22) rfl (eX_22 A B _)) rfl hl.1 rfl (Nat.le_of_ble_eq_true rfl) dX1_swapRows_57 (st1 := []) rfl ⟨Nat.zero_le _, Nat.zero_le _⟩ (fun H locs hP hD hS => ?_)
            refine lv_iinc (pc := 60) hx hb (v := u3_24 + 1) (lv' := [(3, .int (u3_24 + 1)), (4, .long r35), (0, .ref (A 22)), (1, .int a1), (2, .int a2)]) dX1_swapRows_60 hl (k := 4) rfl rfl (by decide) rfl (fun ls hl => ?_)
            refine lv_goto (pc := 63) hx hb (tgt := 24) dX1_swapRows_63 (by decide) ?_
            exact ih24 r57 (u3_24 + 1) H locs ls hq24 hP hD hS (lv_sub hl [2, 3, 4, 0] rfl)
      exact lp24 256 (sI S 20 q19) 0 H locs ls hq24 hP hD hS (lv_sub hl [1, 2, 3, 0] rfl)
    refine lv_if_ne (pc := 11) hx hb (tgt := 18) dX1_swapRows_11 (by decide) (fun c_11 => ?_) (fun c_11 => ?_)
    · have hv19 := hf_f c_11 hv19
      refine lv_iconst (pc := 18) hx hb (v := 0) dX1_swapRows_18 (by decide) ?_
      obtain rfl := Option.some.inj hv19
      exact hj19 H locs ls hP hD hS (lv_sub hl [0, 1, 2] rfl)
    · have hv19 := hf_t c_11 hv19
      refine lv_iconst (pc := 14) hx hb (v := 1) dX1_swapRows_14 (by decide) ?_
      refine lv_goto (pc := 15) hx hb (tgt := 19) dX1_swapRows_15 (by decide) ?_
      obtain rfl := Option.some.inj hv19
      exact hj19 H locs ls hP hD hS (lv_sub hl [0, 1, 2] rfl)
  · have hf := hf_t c_2 hf
    obtain rfl := Option.some.inj hf
    exact hR H locs 5 ls hP hD hS dX1_swapRows_5
set_option maxHeartbeats 4000000 in
set_option maxRecDepth 100000 in
theorem kX1_sweep_22 (l : Launch) (D : va_G) (A : Nat → Nat) (B : Nat → ClassId) (sz : Nat) (S : w_S) (a1 : Int32) (a2 : Int32) (z : w_S) (hf : fX1_sweep_22 S a1 a2 = some z) : MetW l yX1_sweep (wsO yX1_sweep cX1_sweep 11 none) rm_X1_sweep [.ref (A 22), .int a1, .int a2] D (tyB B) (wX A B S) (wX A B z) sz (none) := by
  refine MetW.mkV (cc := cX1_sweep) (maxL := 11) (by decide) (Nat.le_of_ble_eq_true rfl) ?_
  intro p e s m args below meth c Ad Q hx hb hts hown hml hN hK hA hR H locs ls hP hD hS hl
  have hl : lv_has ls 11 [(0, .ref (A 22)), (1, .int a1), (2, .int a2)] := hl
  rw [fX1_sweep_22] at hf
  refine lv_aload_n (pc := 0) hx hb dX1_sweep_0 rfl (lv_at hl 0 rfl) ?_
  refine vXgRX1_9_22 (pc := 1) hx hb hts mU_55 inU1 hown hK hP (x := (gL S 1)) rfl dX1_sweep_1 ?_
  refine lv_lconst (pc := 4) hx hb (v := 0) dX1_sweep_4 (by decide) ?_
  refine W.lcmp (pc := 5) hx hb dX1_sweep_5 ?_
  refine lv_if_ne (pc := 6) hx hb (tgt := 10) dX1_sweep_6 (by decide) (fun c_6 => ?_) (fun c_6 => ?_)
  · have c_6 := fun h9 => c_6 (lg_eq0.mpr h9)
    have hf := hf_f c_6 hf
    refine lv_aload_n (pc := 10) hx hb dX1_sweep_10 rfl (lv_at hl 0 rfl) ?_
    refine lv_iload_n (pc := 11) hx hb dX1_sweep_11 rfl (lv_at hl 1 rfl) ?_
    refine lv_iload_n (pc := 12) hx hb dX1_sweep_12 rfl (lv_at hl 2 rfl) ?_
    obtain ⟨r13, hc13, hf⟩ := hf_b hf
    refine cl_V (pc := 13) (As := [.int a1, .int a2]) (rest := []) hx hb hml hown hts (kX1_cell_22 l D A B _ S a1 a2 r13 hc13) (cwV 2 hts gwRX1_49 rfl rfl rfl hdX1_cell ⟨Nat.le_of_ble_eq_true rfl, Nat.le_of_ble_eq_true rfl⟩) hN hK hP hD hS hA (va_recv hK hP (ci := 1) (q0 := 22) rfl (eX_22 A B _)) rfl hl.1 rfl (Nat.le_of_ble_eq_true rfl) dX1_sweep_13 (st1 := [.long r13]) rfl ⟨Nat.zero_le _, Nat.zero_le _⟩ (fun H locs hP hD hS => ?_)
    refine lv_lstore_n (pc := 16) hx hb (lv' := [(3, .long r13), (0, .ref (A 22)), (1, .int a1), (2, .int a2)]) dX1_sweep_16 rfl hl (by decide) rfl (fun ls hl => ?_)
    refine lv_iconst (pc := 17) hx hb (v := 0) dX1_sweep_17 (by decide) ?_
    refine lv_istore (pc := 18) hx hb (lv' := [(5, .int 0), (3, .long r13), (0, .ref (A 22)), (1, .int a1), (2, .int a2)]) dX1_sweep_18 hl (by decide) rfl (fun ls hl => ?_)
    obtain ⟨q20, hq20, hf⟩ := hf_b hf
    have hk20 : ∀ (H : Heap) (locs : List Loc) (ls : Array Slot), va_P D vwCl (wX A B q20) H → va_D Ad (wX A B q20) → va_S Ad s.heap H locs → lv_has ls 11 [] → W p l e rm_X1_sweep s m args below meth c H locs 0 0 Q (F0 m 106 ls []) := by
      intro H locs ls hP hD hS hl
      obtain rfl := Option.some.inj hf
      exact hR H locs 106 ls hP hD hS dX1_sweep_106
    have lp20 : ∀ (n : Nat) (T20 : w_S) (u5_20 : Int32) (H : Heap) (locs : List Loc) (ls : Array Slot), fX1_sweep_22_L20 a1 a2 r13 n T20 u5_20 = some q20 → va_P D vwCl (wX A B T20) H → va_D Ad (wX A B T20) → va_S Ad s.heap H locs → lv_has ls 11 [(0, .ref (A 22)), (1, .int a1), (2, .int a2), (3, .long r13), (5, .int u5_20)] → W p l e rm_X1_sweep s m args below meth c H locs 0 0 Q (F0 m 20 ls []) := by
      intro n20
      induction n20 with
      | zero => intro T20 u5_20 H locs ls hq20; exact hf_0 hq20
      | succ n20 ih20 =>
        intro T20 u5_20 H locs ls hq20 hP hD hS hl
        rw [fX1_sweep_22_L20] at hq20
        refine lv_iload (pc := 20) hx hb dX1_sweep_20 (lv_at hl 4 rfl) ?_
        refine lv_aload_n (pc := 22) hx hb dX1_sweep_22 rfl (lv_at hl 0 rfl) ?_
        refine vXgRX1_32_22 (pc := 23) hx hb hts mU_436 inU1 hown hK hP (x := (gI T20 17)) rfl dX1_sweep_23 ?_
        refine lv_icmp_ge (pc := 26) hx hb (tgt := 106) dX1_sweep_26 (by decide) (fun c_26 => ?_) (fun c_26 => ?_)
        · have hq20 := hf_t c_26 hq20
          obtain rfl := Option.some.inj hq20
          exact hk20 H locs ls hP hD hS (lv_sub hl [] rfl)
        · have hq20 := hf_f c_26 hq20
          refine lv_iload (pc := 29) hx hb dX1_sweep_29 (lv_at hl 4 rfl) ?_
          refine lv_iload_n (pc := 31) hx hb dX1_sweep_31 rfl (lv_at hl 1 rfl) ?_
          refine lv_icmp_eq (pc := 32) hx hb (tgt := 100) dX1_sweep_32 (by decide) (fun c_32 => ?_) (fun c_32 => ?_)
          · have hq20 := hf_t c_32 hq20
            refine lv_iinc (pc := 100) hx hb (v := u5_20 + 1) (lv' := [(5, .int (u5_20 + 1)), (0, .ref (A 22)), (1, .int a1), (2, .int a2), (3, .long r13)]) dX1_sweep_100 hl (k := 4) rfl rfl (by decide) rfl (fun ls hl => ?_)
            refine lv_goto (pc := 103) hx hb (tgt := 20) dX1_sweep_103 (by decide) ?_
            exact ih20 T20 (u5_20 + 1) H locs ls hq20 hP hD hS (lv_sub hl [1, 2, 3, 4, 0] rfl)
          · have hq20 := hf_f c_32 hq20
            refine lv_aload_n (pc := 35) hx hb dX1_sweep_35 rfl (lv_at hl 0 rfl) ?_
            refine lv_iload (pc := 36) hx hb dX1_sweep_36 (lv_at hl 4 rfl) ?_
            refine lv_iload_n (pc := 38) hx hb dX1_sweep_38 rfl (lv_at hl 2 rfl) ?_
            obtain ⟨r39, hc39, hq20⟩ := hf_b hq20
            refine cl_V (pc := 39) (As := [.int u5_20, .int a2]) (rest := []) hx hb hml hown hts (kX1_cell_22 l D A B _ T20 u5_20 a2 r39 hc39) (cwV 2 hts gwRX1_49 rfl rfl rfl hdX1_cell ⟨Nat.le_of_ble_eq_true rfl, Nat.le_of_ble_eq_true rfl⟩) hN hK hP hD hS hA (va_recv hK hP (ci := 1) (q0 := 22) rfl (eX_22 A B _)) rfl hl.1 rfl (Nat.le_of_ble_eq_true rfl) dX1_sweep_39 (st1 := [.long r39]) rfl ⟨Nat.zero_le _, Nat.zero_le _⟩ (fun H locs hP hD hS => ?_)
            refine lv_lstore (pc := 42) hx hb (lv' := [(6, .long r39), (0, .ref (A 22)), (1, .int a1), (2, .int a2), (3, .long r13), (5, .int u5_20)]) dX1_sweep_42 hl (by decide) rfl (fun ls hl => ?_)
            refine lv_iconst (pc := 44) hx hb (v := 0) dX1_sweep_44 (by decide) ?_
            refine lv_istore (pc := 45) hx hb (lv' := [(8, .int 0), (6, .long r39), (0, .ref (A 22)), (1, .int a1), (2, .int a2), (3, .long r13), (5, .int u5_20)]) dX1_sweep_45 hl (by decide) rfl (fun ls hl => ?_)
            obtain ⟨q47, hq47, hq20⟩ := hf_b hq20
            have hk47 : ∀ (H : Heap) (locs : List Loc) (ls : Array Slot), va_P D vwCl (wX A B q47) H → va_D Ad (wX A B q47) → va_S Ad s.heap H locs → lv_has ls 11 [(0, .ref (A 22)), (1, .int a1), (2, .int a2), (3, .long r13), (5, .int u5_20)] → W p l e rm_X1_sweep s m args below meth c H locs 0 0 Q (F0 m 100 ls []) := by
              intro H locs ls hP hD hS hl
              refine lv_iinc (pc := 100) hx hb (v := u5_20 + 1) (lv' := [(5, .int (u5_20 + 1)), (0, .ref (A 22)), (1, .int a1), (2, .int a2), (3, .long r13)]) dX1_sweep_100 hl (k := 4) rfl rfl (by decide) rfl (fun ls hl => ?_)
              refine lv_goto (pc := 103) hx hb (tgt := 20) dX1_sweep_103 (by decide) ?_
              exact ih20 q47 (u5_20 + 1) H locs ls hq20 hP hD hS (lv_sub hl [1, 2, 3, 4, 0] rfl)
            have lp47 : ∀ (n : Nat) (T47 : w_S) (u8_47 : Int32) (H : Heap) (locs : List Loc) (ls : Array Slot), fX1_sweep_22_L47 a1 a2 r13 u5_20 r39 n T47 u8_47 = some q47 → va_P D vwCl (wX A B T47) H → va_D Ad (wX A B T47) → va_S Ad s.heap H locs → lv_has ls 11 [(0, .ref (A 22)), (1, .int a1), (2, .int a2), (3, .long r13), (5, .int u5_20), (6, .long r39), (8, .int u8_47)] → W p l e rm_X1_sweep s m args below meth c H locs 0 0 Q (F0 m 47 ls []) := by
              intro n47
              induction n47 with
              | zero => intro T47 u8_47 H locs ls hq47; exact hf_0 hq47
              | succ n47 ih47 =>
                intro T47 u8_47 H locs ls hq47 hP hD hS hl
                rw [fX1_sweep_22_L47] at hq47
                refine lv_iload (pc := 47) hx hb dX1_sweep_47 (lv_at hl 6 rfl) ?_
                refine lv_aload_n (pc := 49) hx hb dX1_sweep_49 rfl (lv_at hl 0 rfl) ?_
                refine vXgRX1_36_22 (pc := 50) hx hb hts mU_437 inU1 hown hK hP (x := (gI T47 18)) rfl dX1_sweep_50 ?_
                refine lv_icmp_gt (pc := 53) hx hb (tgt := 100) dX1_sweep_53 (by decide) (fun c_53 => ?_) (fun c_53 => ?_)
                · have hq47 := hf_t c_53 hq47
                  obtain rfl := Option.some.inj hq47
                  exact hk47 H locs ls hP hD hS (lv_sub hl [0, 1, 2, 3, 4] rfl)
                · have hq47 := hf_f c_53 hq47
                  refine lv_aload_n (pc := 56) hx hb dX1_sweep_56 rfl (lv_at hl 0 rfl) ?_
                  refine lv_iload (pc := 57) hx hb dX1_sweep_57 (lv_at hl 4 rfl) ?_
                  refine lv_iload (pc := 59) hx hb dX1_sweep_59 (lv_at hl 6 rfl) ?_
                  obtain ⟨r61, hc61, hq47⟩ := hf_b hq47
                  refine cl_V (pc := 61) (As := [.int u5_20, .int u8_47]) (rest := []) hx hb hml hown hts (kX1_cell_22 l D A B _ T47 u5_20 u8_47 r61 hc61) (cwV 2 hts gwRX1_49 rfl rfl rfl hdX1_cell ⟨Nat.le_of_ble_eq_true rfl, Nat.le_of_ble_eq_true rfl⟩) hN hK hP hD hS hA (va_recv hK hP (ci := 1) (q0 := 22) rfl (eX_22 A B _)) rfl hl.1 rfl (Nat.le_of_ble_eq_true rfl) dX1_sweep_61 (st1 := [.long r61]) rfl ⟨Nat.zero_le _, Nat.zero_le _⟩ (fun H locs hP hD hS => ?_)
                  refine lv_lload_n (pc := 64) hx hb dX1_sweep_64 rfl (lv_at hl 3 rfl) ?_
                  refine lv_lmul (pc := 65) hx hb dX1_sweep_65 ?_
                  refine lv_lload (pc := 66) hx hb dX1_sweep_66 (lv_at hl 5 rfl) ?_
                  refine lv_aload_n (pc := 68) hx hb dX1_sweep_68 rfl (lv_at hl 0 rfl) ?_
                  refine lv_iload_n (pc := 69) hx hb dX1_sweep_69 rfl (lv_at hl 1 rfl) ?_
                  refine lv_iload (pc := 70) hx hb dX1_sweep_70 (lv_at hl 6 rfl) ?_
                  obtain ⟨r72, hc72, hq47⟩ := hf_b hq47
                  refine cl_V (pc := 72) (As := [.int a1, .int u8_47]) (rest := [.long r39, .long (r61 * r13)]) hx hb hml hown hts (kX1_cell_22 l D A B _ T47 a1 u8_47 r72 hc72) (cwV 2 hts gwRX1_49 rfl rfl rfl hdX1_cell ⟨Nat.le_of_ble_eq_true rfl, Nat.le_of_ble_eq_true rfl⟩) hN hK hP hD hS hA (va_recv hK hP (ci := 1) (q0 := 22) rfl (eX_22 A B _)) rfl hl.1 rfl (Nat.le_of_ble_eq_true rfl) dX1_sweep_72 (st1 := [.long r72, .long r39, .long (r61 * r13)]) rfl ⟨Nat.zero_le _, Nat.zero_le _⟩ (fun H locs hP hD hS => ?_)
                  refine lv_lmul (pc := 75) hx hb dX1_sweep_75 ?_
                  refine lv_lsub (pc := 76) hx hb dX1_sweep_76 ?_
                  refine lv_lstore (pc := 77) hx hb (lv' := [(9, .long ((r61 * r13) - (r39 * r72))), (0, .ref (A 22)), (1, .int a1), (2, .int a2), (3, .long r13), (5, .int u5_20), (6, .long r39), (8, .int u8_47)]) dX1_sweep_77 hl (by decide) rfl (fun ls hl => ?_)
                  refine lv_aload_n (pc := 79) hx hb dX1_sweep_79 rfl (lv_at hl 1 rfl) ?_
                  refine lv_iload (pc := 80) hx hb dX1_sweep_80 (lv_at hl 5 rfl) ?_
                  refine lv_iload (pc := 82) hx hb dX1_sweep_82 (lv_at hl 7 rfl) ?_
                  refine lv_lload (pc := 84) hx hb dX1_sweep_84 (lv_at hl 0 rfl) ?_
                  refine lv_aload_n (pc := 86) hx hb dX1_sweep_86 rfl (lv_at hl 1 rfl) ?_
                  refine vXgRX1_9_22 (pc := 87) hx hb hts mU_55 inU1 hown hK hP (x := (gL T47 1)) rfl dX1_sweep_87 ?_
                  obtain ⟨hg90, hq47⟩ := hf_g hq47
                  refine lv_ldiv (pc := 90) hx hb dX1_sweep_90 hg90 ?_
                  obtain ⟨r91, hc91, hq47⟩ := hf_b hq47
                  refine cl_V (pc := 91) (As := [.int u5_20, .int u8_47, .long (((r61 * r13) - (r39 * r72)) / (gL T47 1))]) (rest := []) hx hb hml hown hts (kX1_write_22 l D A B _ T47 u5_20 u8_47 (((r61 * r13) - (r39 * r72)) / (gL T47 1)) r91 hc91) (cwV 3 hts gwRX1_53 rfl rfl rfl hdX1_write ⟨Nat.le_of_ble_eq_true rfl, Nat.le_of_ble_eq_true rfl⟩) hN hK hP hD hS hA (va_recv hK hP (ci := 1) (q0 := 22) rfl (eX_22 A B _)) rfl hl.1 rfl (Nat.le_of_ble_eq_true rfl) dX1_sweep_91 (st1 := []) rfl ⟨Nat.zero_le _, Nat.zero_le _⟩ (fun H locs hP hD hS => ?_)
                  refine lv_iinc (pc := 94) hx hb (v := u8_47 + 1) (lv' := [(8, .int (u8_47 + 1)), (9, .long ((r61 * r13) - (r39 * r72))), (0, .ref (A 22)), (1, .int a1), (2, .int a2), (3, .long r13), (5, .int u5_20), (6, .long r39)]) dX1_sweep_94 hl (k := 7) rfl rfl (by decide) rfl (fun ls hl => ?_)
                  refine lv_goto (pc := 97) hx hb (tgt := 47) dX1_sweep_97 (by decide) ?_
                  exact ih47 r91 (u8_47 + 1) H locs ls hq47 hP hD hS (lv_sub hl [2, 3, 4, 5, 6, 7, 0] rfl)
            exact lp47 256 T20 0 H locs ls hq47 hP hD hS (lv_sub hl [2, 3, 4, 5, 6, 1, 0] rfl)
    exact lp20 256 S 0 H locs ls hq20 hP hD hS (lv_sub hl [2, 3, 4, 1, 0] rfl)
  · have c_6 := lg_eq0.mp c_6
    have hf := hf_t c_6 hf
    obtain rfl := Option.some.inj hf
    exact hR H locs 9 ls hP hD hS dX1_sweep_9
set_option maxHeartbeats 4000000 in
set_option maxRecDepth 100000 in
theorem kX1_eliminate_22 (l : Launch) (D : va_G) (A : Nat → Nat) (B : Nat → ClassId) (sz : Nat) (S : w_S) (z : w_S) (hf : fX1_eliminate_22 S = some z) : MetW l yX1_eliminate (wsO yX1_eliminate cX1_eliminate 3 none) rm_X1_eliminate [.ref (A 22)] D (tyB B) (wX A B S) (wX A B z) sz (none) := by
  refine MetW.mkV (cc := cX1_eliminate) (maxL := 3) (by decide) (Nat.le_of_ble_eq_true rfl) ?_
  intro p e s m args below meth c Ad Q hx hb hts hown hml hN hK hA hR H locs ls hP hD hS hl
  have hl : lv_has ls 3 [(0, .ref (A 22))] := hl
  rw [fX1_eliminate_22] at hf
  refine lv_aload_n (pc := 0) hx hb dX1_eliminate_0 rfl (lv_at hl 0 rfl) ?_
  refine lv_iconst (pc := 1) hx hb (v := 0) dX1_eliminate_1 (by decide) ?_
  refine vXpRX1_61_22 (pc := 2) hx hb hts mU_483 inU1 hown hK hP hD hS dX1_eliminate_2 (fun H locs hP hD hS => ?_)
  refine lv_aload_n (pc := 5) hx hb dX1_eliminate_5 rfl (lv_at hl 0 rfl) ?_
  refine lv_lconst (pc := 6) hx hb (v := 1) dX1_eliminate_6 (by decide) ?_
  refine vXpRX1_9_22 (pc := 7) hx hb hts mU_55 inU1 hown hK hP hD hS dX1_eliminate_7 (fun H locs hP hD hS => ?_)
  refine lv_aload_n (pc := 10) hx hb dX1_eliminate_10 rfl (lv_at hl 0 rfl) ?_
  refine lv_iconst (pc := 11) hx hb (v := 0) dX1_eliminate_11 (by decide) ?_
  refine vXpRX1_64_22 (pc := 12) hx hb hts mU_484 inU1 hown hK hP hD hS (by decide) dX1_eliminate_12 (fun H locs hP hD hS => ?_)
  refine lv_iconst (pc := 15) hx hb (v := 0) dX1_eliminate_15 (by decide) ?_
  refine lv_istore_n (pc := 16) hx hb (lv' := [(1, .int 0), (0, .ref (A 22))]) dX1_eliminate_16 rfl hl (by decide) rfl (fun ls hl => ?_)
  obtain ⟨q17, hq17, hf⟩ := hf_b hf
  have hk17 : ∀ (H : Heap) (locs : List Loc) (ls : Array Slot), va_P D vwCl (wX A B q17) H → va_D Ad (wX A B q17) → va_S Ad s.heap H locs → lv_has ls 3 [] → W p l e rm_X1_eliminate s m args below meth c H locs 0 0 Q (F0 m 106 ls []) := by
    intro H locs ls hP hD hS hl
    obtain rfl := Option.some.inj hf
    exact hR H locs 106 ls hP hD hS dX1_eliminate_106
  have lp17 : ∀ (n : Nat) (T17 : w_S) (u1_17 : Int32) (H : Heap) (locs : List Loc) (ls : Array Slot), fX1_eliminate_22_L17  n T17 u1_17 = some q17 → va_P D vwCl (wX A B T17) H → va_D Ad (wX A B T17) → va_S Ad s.heap H locs → lv_has ls 3 [(0, .ref (A 22)), (1, .int u1_17)] → W p l e rm_X1_eliminate s m args below meth c H locs 0 0 Q (F0 m 17 ls []) := by
    intro n17
    induction n17 with
    | zero => intro T17 u1_17 H locs ls hq17; exact hf_0 hq17
    | succ n17 ih17 =>
      intro T17 u1_17 H locs ls hq17 hP hD hS hl
      rw [fX1_eliminate_22_L17] at hq17
      refine lv_iload_n (pc := 17) hx hb dX1_eliminate_17 rfl (lv_at hl 1 rfl) ?_
      refine lv_aload_n (pc := 18) hx hb dX1_eliminate_18 rfl (lv_at hl 0 rfl) ?_
      refine vXgRX1_36_22 (pc := 19) hx hb hts mU_437 inU1 hown hK hP (x := (gI T17 18)) rfl dX1_eliminate_19 ?_
      refine lv_icmp_ge (pc := 22) hx hb (tgt := 106) dX1_eliminate_22 (by decide) (fun c_22 => ?_) (fun c_22 => ?_)
      · have hq17 := hf_t c_22 hq17
        obtain rfl := Option.some.inj hq17
        exact hk17 H locs ls hP hD hS (lv_sub hl [] rfl)
      · have hq17 := hf_f c_22 hq17
        refine lv_iload_n (pc := 25) hx hb dX1_eliminate_25 rfl (lv_at hl 1 rfl) ?_
        refine lv_bipush (pc := 26) hx hb (v := 10) dX1_eliminate_26 (by decide) ?_
        refine lv_icmp_ge (pc := 28) hx hb (tgt := 106) dX1_eliminate_28 (by decide) (fun c_28 => ?_) (fun c_28 => ?_)
        · have hq17 := hf_t c_28 hq17
          obtain rfl := Option.some.inj hq17
          exact hk17 H locs ls hP hD hS (lv_sub hl [] rfl)
        · have hq17 := hf_f c_28 hq17
          refine lv_aload_n (pc := 31) hx hb dX1_eliminate_31 rfl (lv_at hl 0 rfl) ?_
          refine lv_iload_n (pc := 32) hx hb dX1_eliminate_32 rfl (lv_at hl 1 rfl) ?_
          obtain ⟨r33, hc33, hq17⟩ := hf_b hq17
          refine cl_V (pc := 33) (As := [.int u1_17]) (rest := []) hx hb hml hown hts (kX1_firstFilled_22 l D A B _ T17 u1_17 r33 hc33) (cwV 1 hts gwRX1_68 rfl rfl rfl hdX1_firstFilled ⟨Nat.le_of_ble_eq_true rfl, Nat.le_of_ble_eq_true rfl⟩) hN hK hP hD hS hA (va_recv hK hP (ci := 1) (q0 := 22) rfl (eX_22 A B _)) rfl hl.1 rfl (Nat.le_of_ble_eq_true rfl) dX1_eliminate_33 (st1 := [.int r33]) rfl ⟨Nat.zero_le _, Nat.zero_le _⟩ (fun H locs hP hD hS => ?_)
          refine lv_istore_n (pc := 36) hx hb (lv' := [(2, .int r33), (0, .ref (A 22)), (1, .int u1_17)]) dX1_eliminate_36 rfl hl (by decide) rfl (fun ls hl => ?_)
          refine lv_aload_n (pc := 37) hx hb dX1_eliminate_37 rfl (lv_at hl 1 rfl) ?_
          refine vXgRX1_19_22 (pc := 38) hx hb hts mU_58 inU1 hown hK hP dX1_eliminate_38 ?_
          refine lv_iload_n (pc := 41) hx hb dX1_eliminate_41 rfl (lv_at hl 2 rfl) ?_
          refine lv_iload_n (pc := 42) hx hb dX1_eliminate_42 rfl (lv_at hl 0 rfl) ?_
          obtain ⟨q54, hv54, hq17⟩ := hf_b hq17
          have hj54 : ∀ (H : Heap) (locs : List Loc) (ls : Array Slot), va_P D vwCl (wX A B T17) H → va_D Ad (wX A B T17) → va_S Ad s.heap H locs → lv_has ls 3 [(0, .ref (A 22)), (1, .int u1_17), (2, .int r33)] → W p l e rm_X1_eliminate s m args below meth c H locs 0 0 Q (F0 m 54 ls [.int q54, .int u1_17, .ref (A 24)]) := by
            intro H locs ls hP hD hS hl
            obtain ⟨hg54, hq17⟩ := hf_g hq17
            refine vXwa_24 (pc := 54) hx hb hK hP hD hS (f := (gA T17 16)) rfl hg54 dX1_eliminate_54 (fun H locs hP hD hS => ?_)
            refine lv_iload_n (pc := 55) hx hb dX1_eliminate_55 rfl (lv_at hl 2 rfl) ?_
            refine lv_if_lt (pc := 56) hx hb (tgt := 100) dX1_eliminate_56 (by decide) (fun c_56 => ?_) (fun c_56 => ?_)
            · have hq17 := hf_t c_56 hq17
              refine lv_iinc (pc := 100) hx hb (v := u1_17 + 1) (lv' := [(1, .int (u1_17 + 1)), (0, .ref (A 22)), (2, .int r33)]) dX1_eliminate_100 hl (k := 1) rfl rfl (by decide) rfl (fun ls hl => ?_)
              refine lv_goto (pc := 103) hx hb (tgt := 17) dX1_eliminate_103 (by decide) ?_
              exact ih17 (sA T17 16 (upd (gA T17 16) u1_17.toNatClampNeg q54)) (u1_17 + 1) H locs ls hq17 hP hD hS (lv_sub hl [1, 0] rfl)
            · have hq17 := hf_f c_56 hq17
              refine lv_aload_n (pc := 59) hx hb dX1_eliminate_59 rfl (lv_at hl 0 rfl) ?_
              refine lv_iload_n (pc := 60) hx hb dX1_eliminate_60 rfl (lv_at hl 2 rfl) ?_
              refine lv_aload_n (pc := 61) hx hb dX1_eliminate_61 rfl (lv_at hl 0 rfl) ?_
              refine vXgRX1_61_22 (pc := 62) hx hb hts mU_483 inU1 hown hK hP (x := (gI T17 19)) rfl dX1_eliminate_62 ?_
              obtain ⟨r65, hc65, hq17⟩ := hf_b hq17
              refine cl_V (pc := 65) (As := [.int r33, .int (gI T17 19)]) (rest := []) hx hb hml hown hts (kX1_swapRows_22 l D A B _ (sA T17 16 (upd (gA T17 16) u1_17.toNatClampNeg q54)) r33 (gI T17 19) r65 hc65) (cwV 2 hts gwRX1_72 rfl rfl rfl hdX1_swapRows ⟨Nat.le_of_ble_eq_true rfl, Nat.le_of_ble_eq_true rfl⟩) hN hK hP hD hS hA (va_recv hK hP (ci := 1) (q0 := 22) rfl (eX_22 A B _)) rfl hl.1 rfl (Nat.le_of_ble_eq_true rfl) dX1_eliminate_65 (st1 := []) rfl ⟨Nat.zero_le _, Nat.zero_le _⟩ (fun H locs hP hD hS => ?_)
              refine lv_aload_n (pc := 68) hx hb dX1_eliminate_68 rfl (lv_at hl 0 rfl) ?_
              refine lv_aload_n (pc := 69) hx hb dX1_eliminate_69 rfl (lv_at hl 0 rfl) ?_
              refine vXgRX1_61_22 (pc := 70) hx hb hts mU_483 inU1 hown hK hP (x := (gI r65 19)) rfl dX1_eliminate_70 ?_
              refine lv_iload_n (pc := 73) hx hb dX1_eliminate_73 rfl (lv_at hl 1 rfl) ?_
              obtain ⟨r74, hc74, hq17⟩ := hf_b hq17
              refine cl_V (pc := 74) (As := [.int (gI r65 19), .int u1_17]) (rest := []) hx hb hml hown hts (kX1_sweep_22 l D A B _ r65 (gI r65 19) u1_17 r74 hc74) (cwV 2 hts gwRX1_75 rfl rfl rfl hdX1_sweep ⟨Nat.le_of_ble_eq_true rfl, Nat.le_of_ble_eq_true rfl⟩) hN hK hP hD hS hA (va_recv hK hP (ci := 1) (q0 := 22) rfl (eX_22 A B _)) rfl hl.1 rfl (Nat.le_of_ble_eq_true rfl) dX1_eliminate_74 (st1 := []) rfl ⟨Nat.zero_le _, Nat.zero_le _⟩ (fun H locs hP hD hS => ?_)
              refine lv_aload_n (pc := 77) hx hb dX1_eliminate_77 rfl (lv_at hl 0 rfl) ?_
              refine lv_aload_n (pc := 78) hx hb dX1_eliminate_78 rfl (lv_at hl 0 rfl) ?_
              refine lv_aload_n (pc := 79) hx hb dX1_eliminate_79 rfl (lv_at hl 0 rfl) ?_
              refine vXgRX1_61_22 (pc := 80) hx hb hts mU_483 inU1 hown hK hP (x := (gI r74 19)) rfl dX1_eliminate_80 ?_
              refine lv_iload_n (pc := 83) hx hb dX1_eliminate_83 rfl (lv_at hl 1 rfl) ?_
              obtain ⟨r84, hc84, hq17⟩ := hf_b hq17
              refine cl_V (pc := 84) (As := [.int (gI r74 19), .int u1_17]) (rest := [.ref (A 22)]) hx hb hml hown hts (kX1_cell_22 l D A B _ r74 (gI r74 19) u1_17 r84 hc84) (cwV 2 hts gwRX1_49 rfl rfl rfl hdX1_cell ⟨Nat.le_of_ble_eq_true rfl, Nat.le_of_ble_eq_true rfl⟩) hN hK hP hD hS hA (va_recv hK hP (ci := 1) (q0 := 22) rfl (eX_22 A B _)) rfl hl.1 rfl (Nat.le_of_ble_eq_true rfl) dX1_eliminate_84 (st1 := [.long r84, .ref (A 22)]) rfl ⟨Nat.zero_le _, Nat.zero_le _⟩ (fun H locs hP hD hS => ?_)
              refine vXpRX1_9_22 (pc := 87) hx hb hts mU_55 inU1 hown hK hP hD hS dX1_eliminate_87 (fun H locs hP hD hS => ?_)
              refine lv_aload_n (pc := 90) hx hb dX1_eliminate_90 rfl (lv_at hl 0 rfl) ?_
              refine lv_dup (pc := 91) hx hb dX1_eliminate_91 rfl ?_
              refine vXgRX1_61_22 (pc := 92) hx hb hts mU_483 inU1 hown hK hP (x := (gI r74 19)) rfl dX1_eliminate_92 ?_
              refine lv_iconst (pc := 95) hx hb (v := 1) dX1_eliminate_95 (by decide) ?_
              refine lv_iadd (pc := 96) hx hb dX1_eliminate_96 ?_
              refine vXpRX1_61_22 (pc := 97) hx hb hts mU_483 inU1 hown hK hP hD hS dX1_eliminate_97 (fun H locs hP hD hS => ?_)
              refine lv_iinc (pc := 100) hx hb (v := u1_17 + 1) (lv' := [(1, .int (u1_17 + 1)), (0, .ref (A 22)), (2, .int r33)]) dX1_eliminate_100 hl (k := 1) rfl rfl (by decide) rfl (fun ls hl => ?_)
              refine lv_goto (pc := 103) hx hb (tgt := 17) dX1_eliminate_103 (by decide) ?_
              exact ih17 (sI (sL r74 1 r84) 19 ((gI r74 19) + 1)) (u1_17 + 1) H locs ls hq17 hP hD hS (lv_sub hl [1, 0] rfl)
          refine lv_if_ge (pc := 43) hx hb (tgt := 50) dX1_eliminate_43 (by decide) (fun c_43 => ?_) (fun c_43 => ?_)
          · have hv54 := hf_t c_43 hv54
            refine lv_aload_n (pc := 50) hx hb dX1_eliminate_50 rfl (lv_at hl 1 rfl) ?_
            refine vXgRX1_61_22 (pc := 51) hx hb hts mU_483 inU1 hown hK hP (x := (gI T17 19)) rfl dX1_eliminate_51 ?_
            obtain rfl := Option.some.inj hv54
            exact hj54 H locs ls hP hD hS (lv_sub hl [1, 2, 0] rfl)
          · have hv54 := hf_f c_43 hv54
            refine lv_iconst (pc := 46) hx hb (v := (-1)) dX1_eliminate_46 (by decide) ?_
            refine lv_goto (pc := 47) hx hb (tgt := 54) dX1_eliminate_47 (by decide) ?_
            obtain rfl := Option.some.inj hv54
            exact hj54 H locs ls hP hD hS (lv_sub hl [1, 2, 0] rfl)
  exact lp17 256 (sI (sL (sI S 19 0) 1 1) 20 0) 0 H locs ls hq17 hP hD hS (lv_sub hl [1, 0] rfl)
set_option maxHeartbeats 4000000 in
set_option maxRecDepth 100000 in
theorem kJ7_fill_d0a16_23 (l : Launch) (D : va_G) (A : Nat → Nat) (B : Nat → ClassId) (sz : Nat) (S : w_S) (a1 : Int64) (z : w_S) (hf : fJ7_fill_d0a16_23 S a1 = some z) : MetW l yJ7_fill_d0a16 (wsO yJ7_fill_d0a16 cJ7_fill_d0a16 5 none) rm_J7_fill_d0a16 [.ref (A 23), .long a1] D (tyB B) (wX A B S) (wX A B z) sz (none) := by
  refine MetW.mkV (cc := cJ7_fill_d0a16) (maxL := 5) (by decide) (Nat.le_of_ble_eq_true rfl) ?_
  intro p e s m args below meth c Ad Q hx hb hts hown hml hN hK hA hR H locs ls hP hD hS hl
  have hl : lv_has ls 5 [(0, .ref (A 23)), (1, .long a1)] := hl
  rw [fJ7_fill_d0a16_23] at hf
  refine lv_iconst (pc := 0) hx hb (v := 0) dJ7_fill_d0a16_0 (by decide) ?_
  refine lv_istore_n (pc := 1) hx hb (lv' := [(3, .int 0), (0, .ref (A 23)), (1, .long a1)]) dJ7_fill_d0a16_1 rfl hl (by decide) rfl (fun ls hl => ?_)
  refine lv_aload_n (pc := 2) hx hb dJ7_fill_d0a16_2 rfl (lv_at hl 1 rfl) ?_
  refine vXln_23 (pc := 3) hx hb hK hP dJ7_fill_d0a16_3 ?_
  refine lv_istore (pc := 4) hx hb (lv' := [(4, .int 90), (3, .int 0), (0, .ref (A 23)), (1, .long a1)]) dJ7_fill_d0a16_4 hl (by decide) rfl (fun ls hl => ?_)
  obtain ⟨q6, hq6, hf⟩ := hf_b hf
  have hk6 : ∀ (H : Heap) (locs : List Loc) (ls : Array Slot), va_P D vwCl (wX A B q6) H → va_D Ad (wX A B q6) → va_S Ad s.heap H locs → lv_has ls 5 [] → W p l e rm_J7_fill_d0a16 s m args below meth c H locs 0 0 Q (F0 m 22 ls []) := by
    intro H locs ls hP hD hS hl
    obtain rfl := Option.some.inj hf
    exact hR H locs 22 ls hP hD hS dJ7_fill_d0a16_22
  have lp6 : ∀ (n : Nat) (T6 : w_S) (u3_6 : Int32) (H : Heap) (locs : List Loc) (ls : Array Slot), fJ7_fill_d0a16_23_L6 a1 90 n T6 u3_6 = some q6 → va_P D vwCl (wX A B T6) H → va_D Ad (wX A B T6) → va_S Ad s.heap H locs → lv_has ls 5 [(0, .ref (A 23)), (1, .long a1), (3, .int u3_6), (4, .int 90)] → W p l e rm_J7_fill_d0a16 s m args below meth c H locs 0 0 Q (F0 m 6 ls []) := by
    intro n6
    induction n6 with
    | zero => intro T6 u3_6 H locs ls hq6; exact hf_0 hq6
    | succ n6 ih6 =>
      intro T6 u3_6 H locs ls hq6 hP hD hS hl
      rw [fJ7_fill_d0a16_23_L6] at hq6
      refine lv_iload_n (pc := 6) hx hb dJ7_fill_d0a16_6 rfl (lv_at hl 2 rfl) ?_
      refine lv_iload (pc := 7) hx hb dJ7_fill_d0a16_7 (lv_at hl 3 rfl) ?_
      refine lv_icmp_ge (pc := 9) hx hb (tgt := 22) dJ7_fill_d0a16_9 (by decide) (fun c_9 => ?_) (fun c_9 => ?_)
      · have hq6 := hf_t c_9 hq6
        obtain rfl := Option.some.inj hq6
        exact hk6 H locs ls hP hD hS (lv_sub hl [] rfl)
      · have hq6 := hf_f c_9 hq6
        refine lv_aload_n (pc := 12) hx hb dJ7_fill_d0a16_12 rfl (lv_at hl 0 rfl) ?_
        refine lv_iload_n (pc := 13) hx hb dJ7_fill_d0a16_13 rfl (lv_at hl 2 rfl) ?_
        refine lv_lload_n (pc := 14) hx hb dJ7_fill_d0a16_14 rfl (lv_at hl 1 rfl) ?_
        obtain ⟨hg15, hq6⟩ := hf_g hq6
        refine vXwa_23 (pc := 15) hx hb hK hP hD hS (f := (gB T6 1)) rfl hg15 dJ7_fill_d0a16_15 (fun H locs hP hD hS => ?_)
        refine lv_iinc (pc := 16) hx hb (v := u3_6 + 1) (lv' := [(3, .int (u3_6 + 1)), (0, .ref (A 23)), (1, .long a1), (4, .int 90)]) dJ7_fill_d0a16_16 hl (k := 2) rfl rfl (by decide) rfl (fun ls hl => ?_)
        refine lv_goto (pc := 19) hx hb (tgt := 6) dJ7_fill_d0a16_19 (by decide) ?_
        exact ih6 (sB T6 1 (vp_updL (gB T6 1) u3_6.toNatClampNeg a1)) (u3_6 + 1) H locs ls hq6 hP hD hS (lv_sub hl [1, 2, 0, 3] rfl)
  exact lp6 256 S 0 H locs ls hq6 hP hD hS (lv_sub hl [2, 3, 1, 0] rfl)
set_option maxHeartbeats 4000000 in
set_option maxRecDepth 100000 in
theorem kX1_clear_22 (l : Launch) (D : va_G) (A : Nat → Nat) (B : Nat → ClassId) (sz : Nat) (S : w_S) (a1 : Int32) (a2 : Int32) (z : w_S) (hf : fX1_clear_22 S a1 a2 = some z) : MetW l yX1_clear (wsO yX1_clear cX1_clear 3 none) rm_X1_clear [.ref (A 22), .int a1, .int a2] D (tyB B) (wX A B S) (wX A B z) sz (none) := by
  refine MetW.mkV (cc := cX1_clear) (maxL := 3) (by decide) (Nat.le_of_ble_eq_true rfl) ?_
  intro p e s m args below meth c Ad Q hx hb hts hown hml hN hK hA hR H locs ls hP hD hS hl
  have hl : lv_has ls 3 [(0, .ref (A 22)), (1, .int a1), (2, .int a2)] := hl
  rw [fX1_clear_22] at hf
  refine lv_aload_n (pc := 0) hx hb dX1_clear_0 rfl (lv_at hl 0 rfl) ?_
  refine lv_iconst (pc := 1) hx hb (v := 0) dX1_clear_1 (by decide) ?_
  refine lv_iload_n (pc := 2) hx hb dX1_clear_2 rfl (lv_at hl 1 rfl) ?_
  refine lv_bipush (pc := 3) hx hb (v := 9) dX1_clear_3 (by decide) ?_
  refine va_mmin (pc := 5) hx hb (hml.trans hl.1.symm) hown (hts (.methodLink RX1 23 Lib.Math.min.name) mU_429) (hts (.static Lib.Math.min.name) mU_430) (hts (.initialized "java/lang/Math") mU_431) (hts (.code Lib.Math.min.name Lib.Math.min.code 2 (some .int)) mU_432) (Nat.le_of_ble_eq_true rfl) (Nat.le_of_ble_eq_true rfl) (Nat.zero_le _) (Nat.zero_le _) dX1_clear_5 ?_
  refine va_mmax (pc := 8) hx hb (hml.trans hl.1.symm) hown (hts (.methodLink RX1 29 Lib.Math.max.name) mU_433) (hts (.static Lib.Math.max.name) mU_434) (hts (.initialized "java/lang/Math") mU_431) (hts (.code Lib.Math.max.name Lib.Math.max.code 2 (some .int)) mU_435) (Nat.le_of_ble_eq_true rfl) (Nat.le_of_ble_eq_true rfl) (Nat.zero_le _) (Nat.zero_le _) dX1_clear_8 ?_
  refine vXpRX1_32_22 (pc := 11) hx hb hts mU_436 inU1 hown hK hP hD hS dX1_clear_11 (fun H locs hP hD hS => ?_)
  refine lv_aload_n (pc := 14) hx hb dX1_clear_14 rfl (lv_at hl 0 rfl) ?_
  refine lv_iconst (pc := 15) hx hb (v := 0) dX1_clear_15 (by decide) ?_
  refine lv_iload_n (pc := 16) hx hb dX1_clear_16 rfl (lv_at hl 2 rfl) ?_
  refine lv_bipush (pc := 17) hx hb (v := 9) dX1_clear_17 (by decide) ?_
  refine va_mmin (pc := 19) hx hb (hml.trans hl.1.symm) hown (hts (.methodLink RX1 23 Lib.Math.min.name) mU_429) (hts (.static Lib.Math.min.name) mU_430) (hts (.initialized "java/lang/Math") mU_431) (hts (.code Lib.Math.min.name Lib.Math.min.code 2 (some .int)) mU_432) (Nat.le_of_ble_eq_true rfl) (Nat.le_of_ble_eq_true rfl) (Nat.zero_le _) (Nat.zero_le _) dX1_clear_19 ?_
  refine va_mmax (pc := 22) hx hb (hml.trans hl.1.symm) hown (hts (.methodLink RX1 29 Lib.Math.max.name) mU_433) (hts (.static Lib.Math.max.name) mU_434) (hts (.initialized "java/lang/Math") mU_431) (hts (.code Lib.Math.max.name Lib.Math.max.code 2 (some .int)) mU_435) (Nat.le_of_ble_eq_true rfl) (Nat.le_of_ble_eq_true rfl) (Nat.zero_le _) (Nat.zero_le _) dX1_clear_22 ?_
  refine vXpRX1_36_22 (pc := 25) hx hb hts mU_437 inU1 hown hK hP hD hS dX1_clear_25 (fun H locs hP hD hS => ?_)
  refine lv_aload_n (pc := 28) hx hb dX1_clear_28 rfl (lv_at hl 0 rfl) ?_
  refine vXgRX1_15_22 (pc := 29) hx hb hts mU_57 inU1 hown hK hP dX1_clear_29 ?_
  refine lv_lconst (pc := 32) hx hb (v := 0) dX1_clear_32 (by decide) ?_
  obtain ⟨r33, hc33, hf⟩ := hf_b hf
  refine cl_S (pc := 33) (As := [.ref (A 23), .long 0]) (rest := []) hx hb hml hown hts (kJ7_fill_d0a16_23 l D A B _ (sI (sI S 17 (if 0 < (if 9 < a1 then 9 else a1) then (if 9 < a1 then 9 else a1) else 0)) 18 (if 0 < (if 9 < a2 then 9 else a2) then (if 9 < a2 then 9 else a2) else 0)) 0 r33 hc33) (va_cwS 2 hts gwRX1_39 rfl rfl rfl hdJ7_fill_d0a16 ⟨Nat.le_of_ble_eq_true rfl, Nat.le_of_ble_eq_true rfl⟩) hN hK hP hD hS hA rfl hl.1 rfl (Nat.le_of_ble_eq_true rfl) dX1_clear_33 (st1 := []) rfl ⟨Nat.zero_le _, Nat.zero_le _⟩ (fun H locs hP hD hS => ?_)
  obtain rfl := Option.some.inj hf
  exact hR H locs 36 ls hP hD hS dX1_clear_36
set_option maxHeartbeats 4000000 in
set_option maxRecDepth 100000 in
theorem kX1_fillTurned_22_19 (l : Launch) (D : va_G) (A : Nat → Nat) (B : Nat → ClassId) (sz : Nat) (S : w_S) (z : w_S) (hf : fX1_fillTurned_22_19 S = some z) : MetW l yX1_fillTurned (wsO yX1_fillTurned cX1_fillTurned 4 none) rm_X1_fillTurned [.ref (A 22), .ref (A 19)] D (tyB B) (wX A B S) (wX A B z) sz (none) := by
  refine MetW.mkV (cc := cX1_fillTurned) (maxL := 4) (by decide) (Nat.le_of_ble_eq_true rfl) ?_
  intro p e s m args below meth c Ad Q hx hb hts hown hml hN hK hA hR H locs ls hP hD hS hl
  have hl : lv_has ls 4 [(0, .ref (A 22)), (1, .ref (A 19))] := hl
  rw [fX1_fillTurned_22_19] at hf
  refine lv_aload_n (pc := 0) hx hb dX1_fillTurned_0 rfl (lv_at hl 0 rfl) ?_
  refine lv_aload_n (pc := 1) hx hb dX1_fillTurned_1 rfl (lv_at hl 1 rfl) ?_
  refine vXgRX1_36_19 (pc := 2) hx hb hts mU_437 inU1 hown hK hP (x := (gI S 14)) rfl dX1_fillTurned_2 ?_
  refine lv_iconst (pc := 5) hx hb (v := 1) dX1_fillTurned_5 (by decide) ?_
  refine lv_iadd (pc := 6) hx hb dX1_fillTurned_6 ?_
  refine lv_aload_n (pc := 7) hx hb dX1_fillTurned_7 rfl (lv_at hl 1 rfl) ?_
  refine vXgRX1_32_19 (pc := 8) hx hb hts mU_436 inU1 hown hK hP (x := (gI S 13)) rfl dX1_fillTurned_8 ?_
  obtain ⟨r11, hc11, hf⟩ := hf_b hf
  refine cl_V (pc := 11) (As := [.int ((gI S 14) + 1), .int (gI S 13)]) (rest := []) hx hb hml hown hts (kX1_clear_22 l D A B _ S ((gI S 14) + 1) (gI S 13) r11 hc11) (cwV 2 hts gwRX1_57 rfl rfl rfl hdX1_clear ⟨Nat.le_of_ble_eq_true rfl, Nat.le_of_ble_eq_true rfl⟩) hN hK hP hD hS hA (va_recv hK hP (ci := 1) (q0 := 22) rfl (eX_22 A B _)) rfl hl.1 rfl (Nat.le_of_ble_eq_true rfl) dX1_fillTurned_11 (st1 := []) rfl ⟨Nat.zero_le _, Nat.zero_le _⟩ (fun H locs hP hD hS => ?_)
  refine lv_iconst (pc := 14) hx hb (v := 0) dX1_fillTurned_14 (by decide) ?_
  refine lv_istore_n (pc := 15) hx hb (lv' := [(2, .int 0), (0, .ref (A 22)), (1, .ref (A 19))]) dX1_fillTurned_15 rfl hl (by decide) rfl (fun ls hl => ?_)
  obtain ⟨q16, hq16, hf⟩ := hf_b hf
  have hk16 : ∀ (H : Heap) (locs : List Loc) (ls : Array Slot), va_P D vwCl (wX A B q16) H → va_D Ad (wX A B q16) → va_S Ad s.heap H locs → lv_has ls 4 [(0, .ref (A 22)), (1, .ref (A 19))] → W p l e rm_X1_fillTurned s m args below meth c H locs 0 0 Q (F0 m 58 ls []) := by
    intro H locs ls hP hD hS hl
    refine lv_aload_n (pc := 58) hx hb dX1_fillTurned_58 rfl (lv_at hl 0 rfl) ?_
    refine lv_aload_n (pc := 59) hx hb dX1_fillTurned_59 rfl (lv_at hl 1 rfl) ?_
    refine vXgRX1_36_19 (pc := 60) hx hb hts mU_437 inU1 hown hK hP (x := (gI q16 14)) rfl dX1_fillTurned_60 ?_
    refine lv_aload_n (pc := 63) hx hb dX1_fillTurned_63 rfl (lv_at hl 0 rfl) ?_
    refine vXgRX1_36_22 (pc := 64) hx hb hts mU_437 inU1 hown hK hP (x := (gI q16 18)) rfl dX1_fillTurned_64 ?_
    refine lv_lconst (pc := 67) hx hb (v := 1) dX1_fillTurned_67 (by decide) ?_
    obtain ⟨r68, hc68, hf⟩ := hf_b hf
    refine cl_V (pc := 68) (As := [.int (gI q16 14), .int (gI q16 18), .long 1]) (rest := []) hx hb hml hown hts (kX1_write_22 l D A B _ q16 (gI q16 14) (gI q16 18) 1 r68 hc68) (cwV 3 hts gwRX1_53 rfl rfl rfl hdX1_write ⟨Nat.le_of_ble_eq_true rfl, Nat.le_of_ble_eq_true rfl⟩) hN hK hP hD hS hA (va_recv hK hP (ci := 1) (q0 := 22) rfl (eX_22 A B _)) rfl hl.1 rfl (Nat.le_of_ble_eq_true rfl) dX1_fillTurned_68 (st1 := []) rfl ⟨Nat.zero_le _, Nat.zero_le _⟩ (fun H locs hP hD hS => ?_)
    obtain rfl := Option.some.inj hf
    exact hR H locs 71 ls hP hD hS dX1_fillTurned_71
  have lp16 : ∀ (n : Nat) (T16 : w_S) (u2_16 : Int32) (H : Heap) (locs : List Loc) (ls : Array Slot), fX1_fillTurned_22_19_L16  n T16 u2_16 = some q16 → va_P D vwCl (wX A B T16) H → va_D Ad (wX A B T16) → va_S Ad s.heap H locs → lv_has ls 4 [(0, .ref (A 22)), (1, .ref (A 19)), (2, .int u2_16)] → W p l e rm_X1_fillTurned s m args below meth c H locs 0 0 Q (F0 m 16 ls []) := by
    intro n16
    induction n16 with
    | zero => intro T16 u2_16 H locs ls hq16; exact hf_0 hq16
    | succ n16 ih16 =>
      intro T16 u2_16 H locs ls hq16 hP hD hS hl
      rw [fX1_fillTurned_22_19_L16] at hq16
      refine lv_iload_n (pc := 16) hx hb dX1_fillTurned_16 rfl (lv_at hl 2 rfl) ?_
      refine lv_aload_n (pc := 17) hx hb dX1_fillTurned_17 rfl (lv_at hl 0 rfl) ?_
      refine vXgRX1_32_22 (pc := 18) hx hb hts mU_436 inU1 hown hK hP (x := (gI T16 17)) rfl dX1_fillTurned_18 ?_
      refine lv_icmp_ge (pc := 21) hx hb (tgt := 58) dX1_fillTurned_21 (by decide) (fun c_21 => ?_) (fun c_21 => ?_)
      · have hq16 := hf_t c_21 hq16
        obtain rfl := Option.some.inj hq16
        exact hk16 H locs ls hP hD hS (lv_sub hl [0, 1] rfl)
      · have hq16 := hf_f c_21 hq16
        refine lv_iconst (pc := 24) hx hb (v := 0) dX1_fillTurned_24 (by decide) ?_
        refine lv_istore_n (pc := 25) hx hb (lv' := [(3, .int 0), (0, .ref (A 22)), (1, .ref (A 19)), (2, .int u2_16)]) dX1_fillTurned_25 rfl hl (by decide) rfl (fun ls hl => ?_)
        obtain ⟨q26, hq26, hq16⟩ := hf_b hq16
        have hk26 : ∀ (H : Heap) (locs : List Loc) (ls : Array Slot), va_P D vwCl (wX A B q26) H → va_D Ad (wX A B q26) → va_S Ad s.heap H locs → lv_has ls 4 [(0, .ref (A 22)), (1, .ref (A 19)), (2, .int u2_16)] → W p l e rm_X1_fillTurned s m args below meth c H locs 0 0 Q (F0 m 52 ls []) := by
          intro H locs ls hP hD hS hl
          refine lv_iinc (pc := 52) hx hb (v := u2_16 + 1) (lv' := [(2, .int (u2_16 + 1)), (0, .ref (A 22)), (1, .ref (A 19))]) dX1_fillTurned_52 hl (k := 2) rfl rfl (by decide) rfl (fun ls hl => ?_)
          refine lv_goto (pc := 55) hx hb (tgt := 16) dX1_fillTurned_55 (by decide) ?_
          exact ih16 q26 (u2_16 + 1) H locs ls hq16 hP hD hS (lv_sub hl [1, 2, 0] rfl)
        have lp26 : ∀ (n : Nat) (T26 : w_S) (u3_26 : Int32) (H : Heap) (locs : List Loc) (ls : Array Slot), fX1_fillTurned_22_19_L26 u2_16 n T26 u3_26 = some q26 → va_P D vwCl (wX A B T26) H → va_D Ad (wX A B T26) → va_S Ad s.heap H locs → lv_has ls 4 [(0, .ref (A 22)), (1, .ref (A 19)), (2, .int u2_16), (3, .int u3_26)] → W p l e rm_X1_fillTurned s m args below meth c H locs 0 0 Q (F0 m 26 ls []) := by
          intro n26
          induction n26 with
          | zero => intro T26 u3_26 H locs ls hq26; exact hf_0 hq26
          | succ n26 ih26 =>
            intro T26 u3_26 H locs ls hq26 hP hD hS hl
            rw [fX1_fillTurned_22_19_L26] at hq26
            refine lv_iload_n (pc := 26) hx hb dX1_fillTurned_26 rfl (lv_at hl 3 rfl) ?_
            refine lv_aload_n (pc := 27) hx hb dX1_fillTurned_27 rfl (lv_at hl 0 rfl) ?_
            refine vXgRX1_36_22 (pc := 28) hx hb hts mU_437 inU1 hown hK hP (x := (gI T26 18)) rfl dX1_fillTurned_28 ?_
            refine lv_icmp_ge (pc := 31) hx hb (tgt := 52) dX1_fillTurned_31 (by decide) (fun c_31 => ?_) (fun c_31 => ?_)
            · have hq26 := hf_t c_31 hq26
              obtain rfl := Option.some.inj hq26
              exact hk26 H locs ls hP hD hS (lv_sub hl [0, 1, 2] rfl)
            · have hq26 := hf_f c_31 hq26
              refine lv_aload_n (pc := 34) hx hb dX1_fillTurned_34 rfl (lv_at hl 0 rfl) ?_
              refine lv_iload_n (pc := 35) hx hb dX1_fillTurned_35 rfl (lv_at hl 2 rfl) ?_
              refine lv_iload_n (pc := 36) hx hb dX1_fillTurned_36 rfl (lv_at hl 3 rfl) ?_
              refine lv_aload_n (pc := 37) hx hb dX1_fillTurned_37 rfl (lv_at hl 1 rfl) ?_
              refine lv_iload_n (pc := 38) hx hb dX1_fillTurned_38 rfl (lv_at hl 3 rfl) ?_
              refine lv_iload_n (pc := 39) hx hb dX1_fillTurned_39 rfl (lv_at hl 2 rfl) ?_
              obtain ⟨r40, hc40, hq26⟩ := hf_b hq26
              refine cl_V (pc := 40) (As := [.int u3_26, .int u2_16]) (rest := [.int u3_26, .int u2_16, .ref (A 22)]) hx hb hml hown hts (kX1_cell_19 l D A B _ T26 u3_26 u2_16 r40 hc40) (cwV 2 hts gwRX1_49 rfl rfl rfl hdX1_cell ⟨Nat.le_of_ble_eq_true rfl, Nat.le_of_ble_eq_true rfl⟩) hN hK hP hD hS hA (va_recv hK hP (ci := 1) (q0 := 19) rfl (eX_19 A B _)) rfl hl.1 rfl (Nat.le_of_ble_eq_true rfl) dX1_fillTurned_40 (st1 := [.long r40, .int u3_26, .int u2_16, .ref (A 22)]) rfl ⟨Nat.zero_le _, Nat.zero_le _⟩ (fun H locs hP hD hS => ?_)
              obtain ⟨r43, hc43, hq26⟩ := hf_b hq26
              refine cl_V (pc := 43) (As := [.int u2_16, .int u3_26, .long r40]) (rest := []) hx hb hml hown hts (kX1_write_22 l D A B _ T26 u2_16 u3_26 r40 r43 hc43) (cwV 3 hts gwRX1_53 rfl rfl rfl hdX1_write ⟨Nat.le_of_ble_eq_true rfl, Nat.le_of_ble_eq_true rfl⟩) hN hK hP hD hS hA (va_recv hK hP (ci := 1) (q0 := 22) rfl (eX_22 A B _)) rfl hl.1 rfl (Nat.le_of_ble_eq_true rfl) dX1_fillTurned_43 (st1 := []) rfl ⟨Nat.zero_le _, Nat.zero_le _⟩ (fun H locs hP hD hS => ?_)
              refine lv_iinc (pc := 46) hx hb (v := u3_26 + 1) (lv' := [(3, .int (u3_26 + 1)), (0, .ref (A 22)), (1, .ref (A 19)), (2, .int u2_16)]) dX1_fillTurned_46 hl (k := 3) rfl rfl (by decide) rfl (fun ls hl => ?_)
              refine lv_goto (pc := 49) hx hb (tgt := 26) dX1_fillTurned_49 (by decide) ?_
              exact ih26 r43 (u3_26 + 1) H locs ls hq26 hP hD hS (lv_sub hl [1, 2, 3, 0] rfl)
        exact lp26 256 T16 0 H locs ls hq26 hP hD hS (lv_sub hl [1, 2, 3, 0] rfl)
  exact lp16 256 r11 0 H locs ls hq16 hP hD hS (lv_sub hl [1, 2, 0] rfl)
set_option maxHeartbeats 4000000 in
set_option maxRecDepth 100000 in
theorem kX1_isPivot_22 (l : Launch) (D : va_G) (A : Nat → Nat) (B : Nat → ClassId) (sz : Nat) (S : w_S) (a1 : Int32) (z : Int32) (hf : fX1_isPivot_22 S a1 = some z) : MetW l yX1_isPivot (wsO yX1_isPivot cX1_isPivot 2 (some .boolean)) rm_X1_isPivot [.ref (A 22), .int a1] D (tyB B) (wX A B S) (wX A B S) sz (some (.int z)) := by
  refine MetW.mkZ (cc := cX1_isPivot) (maxL := 2) (by decide) (Nat.le_of_ble_eq_true rfl) ?_
  intro p e s m args below meth c Ad Q hx hb hts hown hml hN hK hA hR H locs ls hP hD hS hl
  have hl : lv_has ls 2 [(0, .ref (A 22)), (1, .int a1)] := hl
  rw [fX1_isPivot_22] at hf
  refine lv_iload_n (pc := 0) hx hb dX1_isPivot_0 rfl (lv_at hl 1 rfl) ?_
  refine lv_if_lt (pc := 1) hx hb (tgt := 31) dX1_isPivot_1 (by decide) (fun c_1 => ?_) (fun c_1 => ?_)
  · have hf := hf_t c_1 hf
    refine lv_iconst (pc := 31) hx hb (v := 0) dX1_isPivot_31 (by decide) ?_
    obtain rfl := Option.some.inj hf
    exact hR H locs 32 ls hP hD hS (nz_of (.inl rfl)) dX1_isPivot_32
  · have hf := hf_f c_1 hf
    refine lv_iload_n (pc := 4) hx hb dX1_isPivot_4 rfl (lv_at hl 1 rfl) ?_
    refine lv_aload_n (pc := 5) hx hb dX1_isPivot_5 rfl (lv_at hl 0 rfl) ?_
    refine vXgRX1_36_22 (pc := 6) hx hb hts mU_437 inU1 hown hK hP (x := (gI S 18)) rfl dX1_isPivot_6 ?_
    refine lv_icmp_ge (pc := 9) hx hb (tgt := 31) dX1_isPivot_9 (by decide) (fun c_9 => ?_) (fun c_9 => ?_)
    · have hf := hf_t c_9 hf
      refine lv_iconst (pc := 31) hx hb (v := 0) dX1_isPivot_31 (by decide) ?_
      obtain rfl := Option.some.inj hf
      exact hR H locs 32 ls hP hD hS (nz_of (.inl rfl)) dX1_isPivot_32
    · have hf := hf_f c_9 hf
      refine lv_iload_n (pc := 12) hx hb dX1_isPivot_12 rfl (lv_at hl 1 rfl) ?_
      refine lv_bipush (pc := 13) hx hb (v := 10) dX1_isPivot_13 (by decide) ?_
      refine lv_icmp_ge (pc := 15) hx hb (tgt := 31) dX1_isPivot_15 (by decide) (fun c_15 => ?_) (fun c_15 => ?_)
      · have hf := hf_t c_15 hf
        refine lv_iconst (pc := 31) hx hb (v := 0) dX1_isPivot_31 (by decide) ?_
        obtain rfl := Option.some.inj hf
        exact hR H locs 32 ls hP hD hS (nz_of (.inl rfl)) dX1_isPivot_32
      · have hf := hf_f c_15 hf
        refine lv_aload_n (pc := 18) hx hb dX1_isPivot_18 rfl (lv_at hl 0 rfl) ?_
        refine vXgRX1_19_22 (pc := 19) hx hb hts mU_58 inU1 hown hK hP dX1_isPivot_19 ?_
        refine lv_iload_n (pc := 22) hx hb dX1_isPivot_22 rfl (lv_at hl 1 rfl) ?_
        obtain ⟨hg23, hf⟩ := hf_g hf
        refine vXra_24 (pc := 23) hx hb hK hP (f := (gA S 16)) rfl hg23 dX1_isPivot_23 ?_
        refine lv_if_lt (pc := 24) hx hb (tgt := 31) dX1_isPivot_24 (by decide) (fun c_24 => ?_) (fun c_24 => ?_)
        · have hf := hf_t c_24 hf
          refine lv_iconst (pc := 31) hx hb (v := 0) dX1_isPivot_31 (by decide) ?_
          obtain rfl := Option.some.inj hf
          exact hR H locs 32 ls hP hD hS (nz_of (.inl rfl)) dX1_isPivot_32
        · have hf := hf_f c_24 hf
          refine lv_iconst (pc := 27) hx hb (v := 1) dX1_isPivot_27 (by decide) ?_
          refine lv_goto (pc := 28) hx hb (tgt := 32) dX1_isPivot_28 (by decide) ?_
          obtain rfl := Option.some.inj hf
          exact hR H locs 32 ls hP hD hS (nz_of (.inr rfl)) dX1_isPivot_32
set_option maxHeartbeats 4000000 in
set_option maxRecDepth 100000 in
theorem kX1_solutionAbove_22 (l : Launch) (D : va_G) (A : Nat → Nat) (B : Nat → ClassId) (sz : Nat) (S : w_S) (a1 : Int32) (z : Int64) (hf : fX1_solutionAbove_22 S a1 = some z) : MetW l yX1_solutionAbove (wsO yX1_solutionAbove cX1_solutionAbove 2 (some .long)) rm_X1_solutionAbove [.ref (A 22), .int a1] D (tyB B) (wX A B S) (wX A B S) sz (some (.long z)) := by
  refine MetW.mkL (cc := cX1_solutionAbove) (maxL := 2) (by decide) (Nat.le_of_ble_eq_true rfl) ?_
  intro p e s m args below meth c Ad Q hx hb hts hown hml hN hK hA hR H locs ls hP hD hS hl
  have hl : lv_has ls 2 [(0, .ref (A 22)), (1, .int a1)] := hl
  rw [fX1_solutionAbove_22] at hf
  refine lv_aload_n (pc := 0) hx hb dX1_solutionAbove_0 rfl (lv_at hl 0 rfl) ?_
  refine lv_iload_n (pc := 1) hx hb dX1_solutionAbove_1 rfl (lv_at hl 1 rfl) ?_
  obtain ⟨r2, hc2, hf⟩ := hf_b hf
  refine cl_V (pc := 2) (As := [.int a1]) (rest := []) hx hb hml hown hts (kX1_isPivot_22 l D A B _ S a1 r2 hc2) (cwV 1 hts gwRX1_82 rfl rfl rfl hdX1_isPivot ⟨Nat.le_of_ble_eq_true rfl, Nat.le_of_ble_eq_true rfl⟩) hN hK hP hD hS hA (va_recv hK hP (ci := 1) (q0 := 22) rfl (eX_22 A B _)) rfl hl.1 rfl (Nat.le_of_ble_eq_true rfl) dX1_solutionAbove_2 (st1 := [.int r2]) rfl ⟨Nat.zero_le _, Nat.zero_le _⟩ (fun H locs hP hD hS => ?_)
  refine lv_if_eq (pc := 5) hx hb (tgt := 25) dX1_solutionAbove_5 (by decide) (fun c_5 => ?_) (fun c_5 => ?_)
  · have hf := hf_t c_5 hf
    refine lv_lconst (pc := 25) hx hb (v := 0) dX1_solutionAbove_25 (by decide) ?_
    obtain rfl := Option.some.inj hf
    exact hR H locs 26 ls hP hD hS dX1_solutionAbove_26
  · have hf := hf_f c_5 hf
    refine lv_aload_n (pc := 8) hx hb dX1_solutionAbove_8 rfl (lv_at hl 0 rfl) ?_
    refine lv_aload_n (pc := 9) hx hb dX1_solutionAbove_9 rfl (lv_at hl 0 rfl) ?_
    refine vXgRX1_19_22 (pc := 10) hx hb hts mU_58 inU1 hown hK hP dX1_solutionAbove_10 ?_
    refine lv_iload_n (pc := 13) hx hb dX1_solutionAbove_13 rfl (lv_at hl 1 rfl) ?_
    obtain ⟨hg14, hf⟩ := hf_g hf
    refine vXra_24 (pc := 14) hx hb hK hP (f := (gA S 16)) rfl hg14 dX1_solutionAbove_14 ?_
    refine lv_aload_n (pc := 15) hx hb dX1_solutionAbove_15 rfl (lv_at hl 0 rfl) ?_
    refine vXgRX1_36_22 (pc := 16) hx hb hts mU_437 inU1 hown hK hP (x := (gI S 18)) rfl dX1_solutionAbove_16 ?_
    obtain ⟨r19, hc19, hf⟩ := hf_b hf
    refine cl_V (pc := 19) (As := [.int ((gA S 16) a1.toNatClampNeg), .int (gI S 18)]) (rest := []) hx hb hml hown hts (kX1_cell_22 l D A B _ S ((gA S 16) a1.toNatClampNeg) (gI S 18) r19 hc19) (cwV 2 hts gwRX1_49 rfl rfl rfl hdX1_cell ⟨Nat.le_of_ble_eq_true rfl, Nat.le_of_ble_eq_true rfl⟩) hN hK hP hD hS hA (va_recv hK hP (ci := 1) (q0 := 22) rfl (eX_22 A B _)) rfl hl.1 rfl (Nat.le_of_ble_eq_true rfl) dX1_solutionAbove_19 (st1 := [.long r19]) rfl ⟨Nat.zero_le _, Nat.zero_le _⟩ (fun H locs hP hD hS => ?_)
    refine lv_goto (pc := 22) hx hb (tgt := 26) dX1_solutionAbove_22 (by decide) ?_
    obtain rfl := Option.some.inj hf
    exact hR H locs 26 ls hP hD hS dX1_solutionAbove_26
set_option maxHeartbeats 4000000 in
set_option maxRecDepth 100000 in
theorem kX6_witness (l : Launch) (D : va_G) (A : Nat → Nat) (B : Nat → ClassId) (sz : Nat) (S : w_S) (a1 : Int32) (a2 : Int32) (a3 : Int32) (a4 : Int32) (z : Int64 × w_S) (hf : fX6_witness S a1 a2 a3 a4 = some z) : MetW l yX6_witness (wsO yX6_witness cX6_witness 6 (some .long)) rm_X6_witness [.ref (A 0), .int a1, .int a2, .int a3, .int a4] D (tyB B) (wX A B S) (wX A B z.2) sz (some (.long z.1)) := by
  refine MetW.mkL (cc := cX6_witness) (maxL := 6) (by decide) (Nat.le_of_ble_eq_true rfl) ?_
  intro p e s m args below meth c Ad Q hx hb hts hown hml hN hK hA hR H locs ls hP hD hS hl
  have hl : lv_has ls 6 [(0, .ref (A 0)), (1, .int a1), (2, .int a2), (3, .int a3), (4, .int a4)] := hl
  rw [fX6_witness] at hf
  refine lv_aload_n (pc := 0) hx hb dX6_witness_0 rfl (lv_at hl 0 rfl) ?_
  refine vXgRX6_10_0 (pc := 1) hx hb hts mU_16 inU6 hown hK hP dX6_witness_1 ?_
  refine lv_iload_n (pc := 4) hx hb dX6_witness_4 rfl (lv_at hl 1 rfl) ?_
  obtain ⟨r5, hc5, hf⟩ := hf_b hf
  refine cl_V (pc := 5) (As := [.int a1]) (rest := []) hx hb hml hown hts (kX4_hasEquation_1 l D A B _ S a1 r5 hc5) (cwV 1 hts gwRX6_125 rfl rfl rfl hdX4_hasEquation ⟨Nat.le_of_ble_eq_true rfl, Nat.le_of_ble_eq_true rfl⟩) hN hK hP hD hS hA (va_recv hK hP (ci := 4) (q0 := 1) rfl (eX_1 A B _)) rfl hl.1 rfl (Nat.le_of_ble_eq_true rfl) dX6_witness_5 (st1 := [.int r5]) rfl ⟨Nat.zero_le _, Nat.zero_le _⟩ (fun H locs hP hD hS => ?_)
  refine lv_if_eq (pc := 8) hx hb (tgt := 32) dX6_witness_8 (by decide) (fun c_8 => ?_) (fun c_8 => ?_)
  · have hf := hf_t c_8 hf
    refine lv_iconst (pc := 32) hx hb (v := (-1)) dX6_witness_32 (by decide) ?_
    obtain ⟨r33, hc33, hf⟩ := hf_b hf
    refine cl_S (pc := 33) (As := [.int (-1)]) (rest := []) hx hb hml hown hts (kX6_far l D A B _ S (-1) r33 hc33) (va_cwS 1 hts gwRX6_87 rfl rfl rfl hdX6_far ⟨Nat.le_of_ble_eq_true rfl, Nat.le_of_ble_eq_true rfl⟩) hN hK hP hD hS hA rfl hl.1 rfl (Nat.le_of_ble_eq_true rfl) dX6_witness_33 (st1 := [.long r33]) rfl ⟨Nat.zero_le _, Nat.zero_le _⟩ (fun H locs hP hD hS => ?_)
    obtain rfl := Option.some.inj hf
    exact hR H locs 36 ls hP hD hS dX6_witness_36
  · have hf := hf_f c_8 hf
    refine lv_aload_n (pc := 11) hx hb dX6_witness_11 rfl (lv_at hl 0 rfl) ?_
    refine vXgRX6_10_0 (pc := 12) hx hb hts mU_16 inU6 hown hK hP dX6_witness_12 ?_
    refine lv_iconst (pc := 15) hx hb (v := 2) dX6_witness_15 (by decide) ?_
    refine lv_iload_n (pc := 16) hx hb dX6_witness_16 rfl (lv_at hl 2 rfl) ?_
    refine lv_iload_n (pc := 17) hx hb dX6_witness_17 rfl (lv_at hl 3 rfl) ?_
    obtain ⟨r18, hc18, hf⟩ := hf_b hf
    refine cl_V (pc := 18) (As := [.int 2, .int a2, .int a3]) (rest := []) hx hb hml hown hts (kX4_hasEntry_1 l D A B _ S 2 a2 a3 r18 hc18) (cwV 3 hts gwRX6_71 rfl rfl rfl hdX4_hasEntry ⟨Nat.le_of_ble_eq_true rfl, Nat.le_of_ble_eq_true rfl⟩) hN hK hP hD hS hA (va_recv hK hP (ci := 4) (q0 := 1) rfl (eX_1 A B _)) rfl hl.1 rfl (Nat.le_of_ble_eq_true rfl) dX6_witness_18 (st1 := [.int r18]) rfl ⟨Nat.zero_le _, Nat.zero_le _⟩ (fun H locs hP hD hS => ?_)
    refine lv_if_eq (pc := 21) hx hb (tgt := 32) dX6_witness_21 (by decide) (fun c_21 => ?_) (fun c_21 => ?_)
    · have hf := hf_t c_21 hf
      refine lv_iconst (pc := 32) hx hb (v := (-1)) dX6_witness_32 (by decide) ?_
      obtain ⟨r33, hc33, hf⟩ := hf_b hf
      refine cl_S (pc := 33) (As := [.int (-1)]) (rest := []) hx hb hml hown hts (kX6_far l D A B _ S (-1) r33 hc33) (va_cwS 1 hts gwRX6_87 rfl rfl rfl hdX6_far ⟨Nat.le_of_ble_eq_true rfl, Nat.le_of_ble_eq_true rfl⟩) hN hK hP hD hS hA rfl hl.1 rfl (Nat.le_of_ble_eq_true rfl) dX6_witness_33 (st1 := [.long r33]) rfl ⟨Nat.zero_le _, Nat.zero_le _⟩ (fun H locs hP hD hS => ?_)
      obtain rfl := Option.some.inj hf
      exact hR H locs 36 ls hP hD hS dX6_witness_36
    · have hf := hf_f c_21 hf
      refine lv_iload (pc := 24) hx hb dX6_witness_24 (lv_at hl 4 rfl) ?_
      obtain ⟨r26, hc26, hf⟩ := hf_b hf
      refine cl_S (pc := 26) (As := [.int a4]) (rest := []) hx hb hml hown hts (kX6_isPart l D A B _ S a4 r26 hc26) (va_cwS 1 hts gwRX6_165 rfl rfl rfl hdX6_isPart ⟨Nat.le_of_ble_eq_true rfl, Nat.le_of_ble_eq_true rfl⟩) hN hK hP hD hS hA rfl hl.1 rfl (Nat.le_of_ble_eq_true rfl) dX6_witness_26 (st1 := [.int r26]) rfl ⟨Nat.zero_le _, Nat.zero_le _⟩ (fun H locs hP hD hS => ?_)
      refine lv_if_ne (pc := 29) hx hb (tgt := 37) dX6_witness_29 (by decide) (fun c_29 => ?_) (fun c_29 => ?_)
      · have hf := hf_f c_29 hf
        refine lv_aload_n (pc := 37) hx hb dX6_witness_37 rfl (lv_at hl 0 rfl) ?_
        refine vXgRX6_10_0 (pc := 38) hx hb hts mU_16 inU6 hown hK hP dX6_witness_38 ?_
        refine lv_iload_n (pc := 41) hx hb dX6_witness_41 rfl (lv_at hl 1 rfl) ?_
        obtain ⟨r42, hc42, hf⟩ := hf_b hf
        refine cl_V (pc := 42) (As := [.int a1]) (rest := []) hx hb hml hown hts (kX4_kindOf_1 l D A B _ S a1 r42 hc42) (cwV 1 hts gwRX6_128 rfl rfl rfl hdX4_kindOf ⟨Nat.le_of_ble_eq_true rfl, Nat.le_of_ble_eq_true rfl⟩) hN hK hP hD hS hA (va_recv hK hP (ci := 4) (q0 := 1) rfl (eX_1 A B _)) rfl hl.1 rfl (Nat.le_of_ble_eq_true rfl) dX6_witness_42 (st1 := [.int r42]) rfl ⟨Nat.zero_le _, Nat.zero_le _⟩ (fun H locs hP hD hS => ?_)
        refine lv_istore (pc := 45) hx hb (lv' := [(5, .int r42), (0, .ref (A 0)), (1, .int a1), (2, .int a2), (3, .int a3), (4, .int a4)]) dX6_witness_45 hl (by decide) rfl (fun ls hl => ?_)
        refine lv_aload_n (pc := 47) hx hb dX6_witness_47 rfl (lv_at hl 1 rfl) ?_
        refine vXgRX6_10_0 (pc := 48) hx hb hts mU_16 inU6 hown hK hP dX6_witness_48 ?_
        refine lv_iload (pc := 51) hx hb dX6_witness_51 (lv_at hl 0 rfl) ?_
        obtain ⟨r53, hc53, hf⟩ := hf_b hf
        refine cl_V (pc := 53) (As := [.int r42]) (rest := []) hx hb hml hown hts (kX4_fits_1 l D A B _ S r42 r53 hc53) (cwV 1 hts gwRX6_134 rfl rfl rfl hdX4_fits ⟨Nat.le_of_ble_eq_true rfl, Nat.le_of_ble_eq_true rfl⟩) hN hK hP hD hS hA (va_recv hK hP (ci := 4) (q0 := 1) rfl (eX_1 A B _)) rfl hl.1 rfl (Nat.le_of_ble_eq_true rfl) dX6_witness_53 (st1 := [.int r53]) rfl ⟨Nat.zero_le _, Nat.zero_le _⟩ (fun H locs hP hD hS => ?_)
        refine lv_if_ne (pc := 56) hx hb (tgt := 65) dX6_witness_56 (by decide) (fun c_56 => ?_) (fun c_56 => ?_)
        · have hf := hf_f c_56 hf
          refine lv_aload_n (pc := 65) hx hb dX6_witness_65 rfl (lv_at hl 1 rfl) ?_
          refine lv_iload (pc := 66) hx hb dX6_witness_66 (lv_at hl 0 rfl) ?_
          refine lv_iload (pc := 68) hx hb dX6_witness_68 (lv_at hl 0 rfl) ?_
          refine lv_aload_n (pc := 70) hx hb dX6_witness_70 rfl (lv_at hl 1 rfl) ?_
          refine vXgRX6_10_0 (pc := 71) hx hb hts mU_16 inU6 hown hK hP dX6_witness_71 ?_
          refine lv_iload_n (pc := 74) hx hb dX6_witness_74 rfl (lv_at hl 2 rfl) ?_
          obtain ⟨r75, hc75, hf⟩ := hf_b hf
          refine cl_V (pc := 75) (As := [.int a1]) (rest := [.int r42, .int r42, .ref (A 0)]) hx hb hml hown hts (kX4_shiftOf_1 l D A B _ S a1 r75 hc75) (cwV 1 hts gwRX6_131 rfl rfl rfl hdX4_shiftOf ⟨Nat.le_of_ble_eq_true rfl, Nat.le_of_ble_eq_true rfl⟩) hN hK hP hD hS hA (va_recv hK hP (ci := 4) (q0 := 1) rfl (eX_1 A B _)) rfl hl.1 rfl (Nat.le_of_ble_eq_true rfl) dX6_witness_75 (st1 := [.int r75, .int r42, .int r42, .ref (A 0)]) rfl ⟨Nat.zero_le _, Nat.zero_le _⟩ (fun H locs hP hD hS => ?_)
          refine lv_iconst (pc := 78) hx hb (v := 0) dX6_witness_78 (by decide) ?_
          obtain ⟨r79, hc79, hf⟩ := hf_b hf
          refine cl_V (pc := 79) (As := [.int r42, .int r42, .int r75, .int 0]) (rest := []) hx hb hml hown hts (kX6_fillGrid l D A B _ S r42 r42 r75 0 r79 hc79) (cwV 4 hts gwRX6_192 rfl rfl rfl hdX6_fillGrid ⟨Nat.le_of_ble_eq_true rfl, Nat.le_of_ble_eq_true rfl⟩) hN hK hP hD hS hA (va_recv hK hP (ci := 6) (q0 := 0) rfl (eX_0 A B _)) rfl hl.1 rfl (Nat.le_of_ble_eq_true rfl) dX6_witness_79 (st1 := []) rfl ⟨Nat.zero_le _, Nat.zero_le _⟩ (fun H locs hP hD hS => ?_)
          refine lv_aload_n (pc := 82) hx hb dX6_witness_82 rfl (lv_at hl 1 rfl) ?_
          refine vXgRX6_29_0 (pc := 83) hx hb hts mU_23 inU6 hown hK hP dX6_witness_83 ?_
          refine lv_aload_n (pc := 86) hx hb dX6_witness_86 rfl (lv_at hl 1 rfl) ?_
          refine vXgRX6_25_0 (pc := 87) hx hb hts mU_22 inU6 hown hK hP dX6_witness_87 ?_
          obtain ⟨r90, hc90, hf⟩ := hf_b hf
          refine cl_V (pc := 90) (As := [.ref (A 19)]) (rest := []) hx hb hml hown hts (kX1_fillTurned_22_19 l D A B _ r79 r90 hc90) (cwV 1 hts gwRX6_195 rfl rfl rfl hdX1_fillTurned ⟨Nat.le_of_ble_eq_true rfl, Nat.le_of_ble_eq_true rfl⟩) hN hK hP hD hS hA (va_recv hK hP (ci := 1) (q0 := 22) rfl (eX_22 A B _)) rfl hl.1 rfl (Nat.le_of_ble_eq_true rfl) dX6_witness_90 (st1 := []) rfl ⟨Nat.zero_le _, Nat.zero_le _⟩ (fun H locs hP hD hS => ?_)
          refine lv_aload_n (pc := 93) hx hb dX6_witness_93 rfl (lv_at hl 1 rfl) ?_
          refine vXgRX6_25_0 (pc := 94) hx hb hts mU_22 inU6 hown hK hP dX6_witness_94 ?_
          obtain ⟨r97, hc97, hf⟩ := hf_b hf
          refine cl_V (pc := 97) (As := []) (rest := []) hx hb hml hown hts (kX1_eliminate_19 l D A B _ r90 r97 hc97) (cwV 0 hts gwRX6_199 rfl rfl rfl hdX1_eliminate ⟨Nat.le_of_ble_eq_true rfl, Nat.le_of_ble_eq_true rfl⟩) hN hK hP hD hS hA (va_recv hK hP (ci := 1) (q0 := 19) rfl (eX_19 A B _)) rfl hl.1 rfl (Nat.le_of_ble_eq_true rfl) dX6_witness_97 (st1 := []) rfl ⟨Nat.zero_le _, Nat.zero_le _⟩ (fun H locs hP hD hS => ?_)
          refine lv_aload_n (pc := 100) hx hb dX6_witness_100 rfl (lv_at hl 1 rfl) ?_
          refine vXgRX6_25_0 (pc := 101) hx hb hts mU_22 inU6 hown hK hP dX6_witness_101 ?_
          obtain ⟨r104, hc104, hf⟩ := hf_b hf
          refine cl_V (pc := 104) (As := []) (rest := []) hx hb hml hown hts (kX1_isSolvable_19 l D A B _ r97 r104 hc104) (cwV 0 hts gwRX6_154 rfl rfl rfl hdX1_isSolvable ⟨Nat.le_of_ble_eq_true rfl, Nat.le_of_ble_eq_true rfl⟩) hN hK hP hD hS hA (va_recv hK hP (ci := 1) (q0 := 19) rfl (eX_19 A B _)) rfl hl.1 rfl (Nat.le_of_ble_eq_true rfl) dX6_witness_104 (st1 := [.int r104]) rfl ⟨Nat.zero_le _, Nat.zero_le _⟩ (fun H locs hP hD hS => ?_)
          refine lv_if_eq (pc := 107) hx hb (tgt := 116) dX6_witness_107 (by decide) (fun c_107 => ?_) (fun c_107 => ?_)
          · have hf := hf_t c_107 hf
            refine lv_aload_n (pc := 116) hx hb dX6_witness_116 rfl (lv_at hl 1 rfl) ?_
            refine vXgRX6_29_0 (pc := 117) hx hb hts mU_23 inU6 hown hK hP dX6_witness_117 ?_
            obtain ⟨r120, hc120, hf⟩ := hf_b hf
            refine cl_V (pc := 120) (As := []) (rest := []) hx hb hml hown hts (kX1_eliminate_22 l D A B _ r97 r120 hc120) (cwV 0 hts gwRX6_199 rfl rfl rfl hdX1_eliminate ⟨Nat.le_of_ble_eq_true rfl, Nat.le_of_ble_eq_true rfl⟩) hN hK hP hD hS hA (va_recv hK hP (ci := 1) (q0 := 22) rfl (eX_22 A B _)) rfl hl.1 rfl (Nat.le_of_ble_eq_true rfl) dX6_witness_120 (st1 := []) rfl ⟨Nat.zero_le _, Nat.zero_le _⟩ (fun H locs hP hD hS => ?_)
            refine lv_aload_n (pc := 123) hx hb dX6_witness_123 rfl (lv_at hl 1 rfl) ?_
            refine vXgRX6_29_0 (pc := 124) hx hb hts mU_23 inU6 hown hK hP dX6_witness_124 ?_
            refine lv_iload_n (pc := 127) hx hb dX6_witness_127 rfl (lv_at hl 3 rfl) ?_
            refine lv_aload_n (pc := 128) hx hb dX6_witness_128 rfl (lv_at hl 1 rfl) ?_
            refine vXgRX6_10_0 (pc := 129) hx hb hts mU_16 inU6 hown hK hP dX6_witness_129 ?_
            refine vXgRX6_64_1 (pc := 132) hx hb hts mU_112 inU4 hown hK hP (x := (gI r120 1)) rfl dX6_witness_132 ?_
            refine lv_imul (pc := 135) hx hb dX6_witness_135 ?_
            refine lv_iload_n (pc := 136) hx hb dX6_witness_136 rfl (lv_at hl 4 rfl) ?_
            refine lv_iadd (pc := 137) hx hb dX6_witness_137 ?_
            obtain ⟨r138, hc138, hf⟩ := hf_b hf
            refine cl_V (pc := 138) (As := [.int ((a2 * (gI r120 1)) + a3)]) (rest := []) hx hb hml hown hts (kX1_solutionAbove_22 l D A B _ r120 ((a2 * (gI r120 1)) + a3) r138 hc138) (cwV 1 hts gwRX6_202 rfl rfl rfl hdX1_solutionAbove ⟨Nat.le_of_ble_eq_true rfl, Nat.le_of_ble_eq_true rfl⟩) hN hK hP hD hS hA (va_recv hK hP (ci := 1) (q0 := 22) rfl (eX_22 A B _)) rfl hl.1 rfl (Nat.le_of_ble_eq_true rfl) dX6_witness_138 (st1 := [.long r138]) rfl ⟨Nat.zero_le _, Nat.zero_le _⟩ (fun H locs hP hD hS => ?_)
            refine lv_aload_n (pc := 141) hx hb dX6_witness_141 rfl (lv_at hl 1 rfl) ?_
            refine vXgRX6_29_0 (pc := 142) hx hb hts mU_23 inU6 hown hK hP dX6_witness_142 ?_
            refine vXgRX6_172_22 (pc := 145) hx hb hts mU_603 inU1 hown hK hP (x := (gL r120 1)) rfl dX6_witness_145 ?_
            refine lv_iload (pc := 148) hx hb dX6_witness_148 (lv_at hl 5 rfl) ?_
            obtain ⟨r150, hc150, hf⟩ := hf_b hf
            refine cl_S (pc := 150) (As := [.long r138, .long (gL r120 1), .int a4]) (rest := []) hx hb hml hown hts (kX6_fractionPart l D A B _ r120 r138 (gL r120 1) a4 r150 hc150) (va_cwS 3 hts gwRX6_176 rfl rfl rfl hdX6_fractionPart ⟨Nat.le_of_ble_eq_true rfl, Nat.le_of_ble_eq_true rfl⟩) hN hK hP hD hS hA rfl hl.1 rfl (Nat.le_of_ble_eq_true rfl) dX6_witness_150 (st1 := [.long r150]) rfl ⟨Nat.zero_le _, Nat.zero_le _⟩ (fun H locs hP hD hS => ?_)
            obtain rfl := Option.some.inj hf
            exact hR H locs 153 ls hP hD hS dX6_witness_153
          · have hf := hf_f c_107 hf
            refine lv_bipush (pc := 110) hx hb (v := (-3)) dX6_witness_110 (by decide) ?_
            obtain ⟨r112, hc112, hf⟩ := hf_b hf
            refine cl_S (pc := 112) (As := [.int (-3)]) (rest := []) hx hb hml hown hts (kX6_far l D A B _ r97 (-3) r112 hc112) (va_cwS 1 hts gwRX6_87 rfl rfl rfl hdX6_far ⟨Nat.le_of_ble_eq_true rfl, Nat.le_of_ble_eq_true rfl⟩) hN hK hP hD hS hA rfl hl.1 rfl (Nat.le_of_ble_eq_true rfl) dX6_witness_112 (st1 := [.long r112]) rfl ⟨Nat.zero_le _, Nat.zero_le _⟩ (fun H locs hP hD hS => ?_)
            obtain rfl := Option.some.inj hf
            exact hR H locs 115 ls hP hD hS dX6_witness_115
        · have hf := hf_t c_56 hf
          refine lv_bipush (pc := 59) hx hb (v := (-4)) dX6_witness_59 (by decide) ?_
          obtain ⟨r61, hc61, hf⟩ := hf_b hf
          refine cl_S (pc := 61) (As := [.int (-4)]) (rest := []) hx hb hml hown hts (kX6_far l D A B _ S (-4) r61 hc61) (va_cwS 1 hts gwRX6_87 rfl rfl rfl hdX6_far ⟨Nat.le_of_ble_eq_true rfl, Nat.le_of_ble_eq_true rfl⟩) hN hK hP hD hS hA rfl hl.1 rfl (Nat.le_of_ble_eq_true rfl) dX6_witness_61 (st1 := [.long r61]) rfl ⟨Nat.zero_le _, Nat.zero_le _⟩ (fun H locs hP hD hS => ?_)
          obtain rfl := Option.some.inj hf
          exact hR H locs 64 ls hP hD hS dX6_witness_64
      · have hf := hf_t c_29 hf
        refine lv_iconst (pc := 32) hx hb (v := (-1)) dX6_witness_32 (by decide) ?_
        obtain ⟨r33, hc33, hf⟩ := hf_b hf
        refine cl_S (pc := 33) (As := [.int (-1)]) (rest := []) hx hb hml hown hts (kX6_far l D A B _ S (-1) r33 hc33) (va_cwS 1 hts gwRX6_87 rfl rfl rfl hdX6_far ⟨Nat.le_of_ble_eq_true rfl, Nat.le_of_ble_eq_true rfl⟩) hN hK hP hD hS hA rfl hl.1 rfl (Nat.le_of_ble_eq_true rfl) dX6_witness_33 (st1 := [.long r33]) rfl ⟨Nat.zero_le _, Nat.zero_le _⟩ (fun H locs hP hD hS => ?_)
        obtain rfl := Option.some.inj hf
        exact hR H locs 36 ls hP hD hS dX6_witness_36
set_option maxHeartbeats 4000000 in
set_option maxRecDepth 100000 in
theorem kX6_isSmallWhole (l : Launch) (D : va_G) (A : Nat → Nat) (B : Nat → ClassId) (sz : Nat) (S : w_S) (a1 : Int32) (z : Int32) (hf : fX6_isSmallWhole S a1 = some z) : MetW l yX6_isSmallWhole (wsO yX6_isSmallWhole cX6_isSmallWhole 2 (some .boolean)) rm_X6_isSmallWhole [.ref (A 0), .int a1] D (tyB B) (wX A B S) (wX A B S) sz (some (.int z)) := by
  refine MetW.mkZ (cc := cX6_isSmallWhole) (maxL := 2) (by decide) (Nat.le_of_ble_eq_true rfl) ?_
  intro p e s m args below meth c Ad Q hx hb hts hown hml hN hK hA hR H locs ls hP hD hS hl
  have hl : lv_has ls 2 [(0, .ref (A 0)), (1, .int a1)] := hl
  rw [fX6_isSmallWhole] at hf
  refine lv_aload_n (pc := 0) hx hb dX6_isSmallWhole_0 rfl (lv_at hl 0 rfl) ?_
  refine vXgRX6_10_0 (pc := 1) hx hb hts mU_16 inU6 hown hK hP dX6_isSmallWhole_1 ?_
  refine lv_aload_n (pc := 4) hx hb dX6_isSmallWhole_4 rfl (lv_at hl 0 rfl) ?_
  refine vXgRX6_10_0 (pc := 5) hx hb hts mU_16 inU6 hown hK hP dX6_isSmallWhole_5 ?_
  refine lv_iload_n (pc := 8) hx hb dX6_isSmallWhole_8 rfl (lv_at hl 1 rfl) ?_
  obtain ⟨r9, hc9, hf⟩ := hf_b hf
  refine cl_V (pc := 9) (As := [.int a1]) (rest := [.ref (A 1)]) hx hb hml hown hts (kX4_kindOf_1 l D A B _ S a1 r9 hc9) (cwV 1 hts gwRX6_128 rfl rfl rfl hdX4_kindOf ⟨Nat.le_of_ble_eq_true rfl, Nat.le_of_ble_eq_true rfl⟩) hN hK hP hD hS hA (va_recv hK hP (ci := 4) (q0 := 1) rfl (eX_1 A B _)) rfl hl.1 rfl (Nat.le_of_ble_eq_true rfl) dX6_isSmallWhole_9 (st1 := [.int r9, .ref (A 1)]) rfl ⟨Nat.zero_le _, Nat.zero_le _⟩ (fun H locs hP hD hS => ?_)
  obtain ⟨r12, hc12, hf⟩ := hf_b hf
  refine cl_V (pc := 12) (As := [.int r9]) (rest := []) hx hb hml hown hts (kX4_hasRight_1 l D A B _ S r9 r12 hc12) (cwV 1 hts gwRX6_137 rfl rfl rfl hdX4_hasRight ⟨Nat.le_of_ble_eq_true rfl, Nat.le_of_ble_eq_true rfl⟩) hN hK hP hD hS hA (va_recv hK hP (ci := 4) (q0 := 1) rfl (eX_1 A B _)) rfl hl.1 rfl (Nat.le_of_ble_eq_true rfl) dX6_isSmallWhole_12 (st1 := [.int r12]) rfl ⟨Nat.zero_le _, Nat.zero_le _⟩ (fun H locs hP hD hS => ?_)
  refine lv_if_eq (pc := 15) hx hb (tgt := 42) dX6_isSmallWhole_15 (by decide) (fun c_15 => ?_) (fun c_15 => ?_)
  · have hf := hf_t c_15 hf
    refine lv_iconst (pc := 42) hx hb (v := 0) dX6_isSmallWhole_42 (by decide) ?_
    obtain rfl := Option.some.inj hf
    exact hR H locs 43 ls hP hD hS (nz_of (.inl rfl)) dX6_isSmallWhole_43
  · have hf := hf_f c_15 hf
    refine lv_aload_n (pc := 18) hx hb dX6_isSmallWhole_18 rfl (lv_at hl 0 rfl) ?_
    refine vXgRX6_10_0 (pc := 19) hx hb hts mU_16 inU6 hown hK hP dX6_isSmallWhole_19 ?_
    refine vXgRX6_60_1 (pc := 22) hx hb hts mU_111 inU4 hown hK hP (x := (gI S 0)) rfl dX6_isSmallWhole_22 ?_
    refine lv_aload_n (pc := 25) hx hb dX6_isSmallWhole_25 rfl (lv_at hl 0 rfl) ?_
    refine vXgRX6_10_0 (pc := 26) hx hb hts mU_16 inU6 hown hK hP dX6_isSmallWhole_26 ?_
    refine vXgRX6_64_1 (pc := 29) hx hb hts mU_112 inU4 hown hK hP (x := (gI S 1)) rfl dX6_isSmallWhole_29 ?_
    refine lv_imul (pc := 32) hx hb dX6_isSmallWhole_32 ?_
    refine lv_bipush (pc := 33) hx hb (v := 6) dX6_isSmallWhole_33 (by decide) ?_
    refine lv_icmp_gt (pc := 35) hx hb (tgt := 42) dX6_isSmallWhole_35 (by decide) (fun c_35 => ?_) (fun c_35 => ?_)
    · have hf := hf_t c_35 hf
      refine lv_iconst (pc := 42) hx hb (v := 0) dX6_isSmallWhole_42 (by decide) ?_
      obtain rfl := Option.some.inj hf
      exact hR H locs 43 ls hP hD hS (nz_of (.inl rfl)) dX6_isSmallWhole_43
    · have hf := hf_f c_35 hf
      refine lv_iconst (pc := 38) hx hb (v := 1) dX6_isSmallWhole_38 (by decide) ?_
      refine lv_goto (pc := 39) hx hb (tgt := 43) dX6_isSmallWhole_39 (by decide) ?_
      obtain rfl := Option.some.inj hf
      exact hR H locs 43 ls hP hD hS (nz_of (.inr rfl)) dX6_isSmallWhole_43
set_option maxHeartbeats 4000000 in
set_option maxRecDepth 100000 in
theorem kX6_similar (l : Launch) (D : va_G) (A : Nat → Nat) (B : Nat → ClassId) (sz : Nat) (S : w_S) (a1 : Int32) (z : Int32 × w_S) (hf : fX6_similar S a1 = some z) : MetW l yX6_similar (wsO yX6_similar cX6_similar 2 (some .int)) rm_X6_similar [.ref (A 0), .int a1] D (tyB B) (wX A B S) (wX A B z.2) sz (some (.int z.1)) := by
  refine MetW.mkI (cc := cX6_similar) (maxL := 2) (by decide) (Nat.le_of_ble_eq_true rfl) ?_
  intro p e s m args below meth c Ad Q hx hb hts hown hml hN hK hA hR H locs ls hP hD hS hl
  have hl : lv_has ls 2 [(0, .ref (A 0)), (1, .int a1)] := hl
  rw [fX6_similar] at hf
  refine lv_aload_n (pc := 0) hx hb dX6_similar_0 rfl (lv_at hl 0 rfl) ?_
  refine vXgRX6_10_0 (pc := 1) hx hb hts mU_16 inU6 hown hK hP dX6_similar_1 ?_
  refine lv_iload_n (pc := 4) hx hb dX6_similar_4 rfl (lv_at hl 1 rfl) ?_
  obtain ⟨r5, hc5, hf⟩ := hf_b hf
  refine cl_V (pc := 5) (As := [.int a1]) (rest := []) hx hb hml hown hts (kX4_hasEquation_1 l D A B _ S a1 r5 hc5) (cwV 1 hts gwRX6_125 rfl rfl rfl hdX4_hasEquation ⟨Nat.le_of_ble_eq_true rfl, Nat.le_of_ble_eq_true rfl⟩) hN hK hP hD hS hA (va_recv hK hP (ci := 4) (q0 := 1) rfl (eX_1 A B _)) rfl hl.1 rfl (Nat.le_of_ble_eq_true rfl) dX6_similar_5 (st1 := [.int r5]) rfl ⟨Nat.zero_le _, Nat.zero_le _⟩ (fun H locs hP hD hS => ?_)
  refine lv_if_ne (pc := 8) hx hb (tgt := 13) dX6_similar_8 (by decide) (fun c_8 => ?_) (fun c_8 => ?_)
  · have hf := hf_f c_8 hf
    refine lv_aload_n (pc := 13) hx hb dX6_similar_13 rfl (lv_at hl 0 rfl) ?_
    refine lv_iload_n (pc := 14) hx hb dX6_similar_14 rfl (lv_at hl 1 rfl) ?_
    obtain ⟨r15, hc15, hf⟩ := hf_b hf
    refine cl_V (pc := 15) (As := [.int a1]) (rest := []) hx hb hml hown hts (kX6_isSmallWhole l D A B _ S a1 r15 hc15) (cwV 1 hts gwRX6_204 rfl rfl rfl hdX6_isSmallWhole ⟨Nat.le_of_ble_eq_true rfl, Nat.le_of_ble_eq_true rfl⟩) hN hK hP hD hS hA (va_recv hK hP (ci := 6) (q0 := 0) rfl (eX_0 A B _)) rfl hl.1 rfl (Nat.le_of_ble_eq_true rfl) dX6_similar_15 (st1 := [.int r15]) rfl ⟨Nat.zero_le _, Nat.zero_le _⟩ (fun H locs hP hD hS => ?_)
    refine lv_if_ne (pc := 18) hx hb (tgt := 24) dX6_similar_18 (by decide) (fun c_18 => ?_) (fun c_18 => ?_)
    · have hf := hf_f c_18 hf
      refine lv_aload_n (pc := 24) hx hb dX6_similar_24 rfl (lv_at hl 0 rfl) ?_
      refine lv_aload_n (pc := 25) hx hb dX6_similar_25 rfl (lv_at hl 0 rfl) ?_
      refine vXgRX6_10_0 (pc := 26) hx hb hts mU_16 inU6 hown hK hP dX6_similar_26 ?_
      refine lv_iload_n (pc := 29) hx hb dX6_similar_29 rfl (lv_at hl 1 rfl) ?_
      obtain ⟨r30, hc30, hf⟩ := hf_b hf
      refine cl_V (pc := 30) (As := [.int a1]) (rest := [.ref (A 0)]) hx hb hml hown hts (kX4_kindOf_1 l D A B _ S a1 r30 hc30) (cwV 1 hts gwRX6_128 rfl rfl rfl hdX4_kindOf ⟨Nat.le_of_ble_eq_true rfl, Nat.le_of_ble_eq_true rfl⟩) hN hK hP hD hS hA (va_recv hK hP (ci := 4) (q0 := 1) rfl (eX_1 A B _)) rfl hl.1 rfl (Nat.le_of_ble_eq_true rfl) dX6_similar_30 (st1 := [.int r30, .ref (A 0)]) rfl ⟨Nat.zero_le _, Nat.zero_le _⟩ (fun H locs hP hD hS => ?_)
      refine lv_iconst (pc := 33) hx hb (v := 0) dX6_similar_33 (by decide) ?_
      refine lv_aload_n (pc := 34) hx hb dX6_similar_34 rfl (lv_at hl 0 rfl) ?_
      refine vXgRX6_10_0 (pc := 35) hx hb hts mU_16 inU6 hown hK hP dX6_similar_35 ?_
      refine lv_iload_n (pc := 38) hx hb dX6_similar_38 rfl (lv_at hl 1 rfl) ?_
      obtain ⟨r39, hc39, hf⟩ := hf_b hf
      refine cl_V (pc := 39) (As := [.int a1]) (rest := [.int 0, .int r30, .ref (A 0)]) hx hb hml hown hts (kX4_shiftOf_1 l D A B _ S a1 r39 hc39) (cwV 1 hts gwRX6_131 rfl rfl rfl hdX4_shiftOf ⟨Nat.le_of_ble_eq_true rfl, Nat.le_of_ble_eq_true rfl⟩) hN hK hP hD hS hA (va_recv hK hP (ci := 4) (q0 := 1) rfl (eX_1 A B _)) rfl hl.1 rfl (Nat.le_of_ble_eq_true rfl) dX6_similar_39 (st1 := [.int r39, .int 0, .int r30, .ref (A 0)]) rfl ⟨Nat.zero_le _, Nat.zero_le _⟩ (fun H locs hP hD hS => ?_)
      refine lv_iconst (pc := 42) hx hb (v := 0) dX6_similar_42 (by decide) ?_
      obtain ⟨r43, hc43, hf⟩ := hf_b hf
      refine cl_V (pc := 43) (As := [.int r30, .int 0, .int r39, .int 0]) (rest := []) hx hb hml hown hts (kX6_fillGrid l D A B _ S r30 0 r39 0 r43 hc43) (cwV 4 hts gwRX6_192 rfl rfl rfl hdX6_fillGrid ⟨Nat.le_of_ble_eq_true rfl, Nat.le_of_ble_eq_true rfl⟩) hN hK hP hD hS hA (va_recv hK hP (ci := 6) (q0 := 0) rfl (eX_0 A B _)) rfl hl.1 rfl (Nat.le_of_ble_eq_true rfl) dX6_similar_43 (st1 := []) rfl ⟨Nat.zero_le _, Nat.zero_le _⟩ (fun H locs hP hD hS => ?_)
      refine lv_aload_n (pc := 46) hx hb dX6_similar_46 rfl (lv_at hl 0 rfl) ?_
      refine vXgRX6_25_0 (pc := 47) hx hb hts mU_22 inU6 hown hK hP dX6_similar_47 ?_
      obtain ⟨r50, hc50, hf⟩ := hf_b hf
      refine cl_V (pc := 50) (As := []) (rest := []) hx hb hml hown hts (kX1_eliminate_19 l D A B _ r43 r50 hc50) (cwV 0 hts gwRX6_199 rfl rfl rfl hdX1_eliminate ⟨Nat.le_of_ble_eq_true rfl, Nat.le_of_ble_eq_true rfl⟩) hN hK hP hD hS hA (va_recv hK hP (ci := 1) (q0 := 19) rfl (eX_19 A B _)) rfl hl.1 rfl (Nat.le_of_ble_eq_true rfl) dX6_similar_50 (st1 := []) rfl ⟨Nat.zero_le _, Nat.zero_le _⟩ (fun H locs hP hD hS => ?_)
      refine lv_aload_n (pc := 53) hx hb dX6_similar_53 rfl (lv_at hl 0 rfl) ?_
      refine vXgRX6_25_0 (pc := 54) hx hb hts mU_22 inU6 hown hK hP dX6_similar_54 ?_
      obtain ⟨r57, hc57, hf⟩ := hf_b hf
      refine cl_V (pc := 57) (As := []) (rest := []) hx hb hml hown hts (kX1_isSolvable_19 l D A B _ r50 r57 hc57) (cwV 0 hts gwRX6_154 rfl rfl rfl hdX1_isSolvable ⟨Nat.le_of_ble_eq_true rfl, Nat.le_of_ble_eq_true rfl⟩) hN hK hP hD hS hA (va_recv hK hP (ci := 1) (q0 := 19) rfl (eX_19 A B _)) rfl hl.1 rfl (Nat.le_of_ble_eq_true rfl) dX6_similar_57 (st1 := [.int r57]) rfl ⟨Nat.zero_le _, Nat.zero_le _⟩ (fun H locs hP hD hS => ?_)
      obtain ⟨r60, hc60, hf⟩ := hf_b hf
      refine cl_S (pc := 60) (As := [.int r57]) (rest := []) hx hb hml hown hts (kX6_oneIf l D A B _ r50 r57 r60 hc60) (va_cwS 1 hts gwRX6_158 rfl rfl rfl hdX6_oneIf ⟨Nat.le_of_ble_eq_true rfl, Nat.le_of_ble_eq_true rfl⟩) hN hK hP hD hS hA rfl hl.1 rfl (Nat.le_of_ble_eq_true rfl) dX6_similar_60 (st1 := [.int r60]) rfl ⟨Nat.zero_le _, Nat.zero_le _⟩ (fun H locs hP hD hS => ?_)
      obtain rfl := Option.some.inj hf
      exact hR H locs 63 ls hP hD hS dX6_similar_63
    · have hf := hf_t c_18 hf
      refine lv_bipush (pc := 21) hx hb (v := (-4)) dX6_similar_21 (by decide) ?_
      obtain rfl := Option.some.inj hf
      exact hR H locs 23 ls hP hD hS dX6_similar_23
  · have hf := hf_t c_8 hf
    refine lv_iconst (pc := 11) hx hb (v := (-1)) dX6_similar_11 (by decide) ?_
    obtain rfl := Option.some.inj hf
    exact hR H locs 12 ls hP hD hS dX6_similar_12
set_option maxHeartbeats 4000000 in
set_option maxRecDepth 100000 in
theorem kX1_determinant_19 (l : Launch) (D : va_G) (A : Nat → Nat) (B : Nat → ClassId) (sz : Nat) (S : w_S) (z : Int64) (hf : fX1_determinant_19 S = some z) : MetW l yX1_determinant (wsO yX1_determinant cX1_determinant 1 (some .long)) rm_X1_determinant [.ref (A 19)] D (tyB B) (wX A B S) (wX A B S) sz (some (.long z)) := by
  refine MetW.mkL (cc := cX1_determinant) (maxL := 1) (by decide) (Nat.le_of_ble_eq_true rfl) ?_
  intro p e s m args below meth c Ad Q hx hb hts hown hml hN hK hA hR H locs ls hP hD hS hl
  have hl : lv_has ls 1 [(0, .ref (A 19))] := hl
  rw [fX1_determinant_19] at hf
  refine lv_aload_n (pc := 0) hx hb dX1_determinant_0 rfl (lv_at hl 0 rfl) ?_
  refine vXgRX1_61_19 (pc := 1) hx hb hts mU_483 inU1 hown hK hP (x := (gI S 15)) rfl dX1_determinant_1 ?_
  refine lv_aload_n (pc := 4) hx hb dX1_determinant_4 rfl (lv_at hl 0 rfl) ?_
  refine vXgRX1_36_19 (pc := 5) hx hb hts mU_437 inU1 hown hK hP (x := (gI S 14)) rfl dX1_determinant_5 ?_
  refine lv_icmp_ge (pc := 8) hx hb (tgt := 13) dX1_determinant_8 (by decide) (fun c_8 => ?_) (fun c_8 => ?_)
  · have hf := hf_t c_8 hf
    refine lv_aload_n (pc := 13) hx hb dX1_determinant_13 rfl (lv_at hl 0 rfl) ?_
    refine vXgRX1_64_19 (pc := 14) hx hb hts mU_484 inU1 hown hK hP (x := (gI S 16)) rfl dX1_determinant_14 ?_
    refine lv_if_eq (pc := 17) hx hb (tgt := 28) dX1_determinant_17 (by decide) (fun c_17 => ?_) (fun c_17 => ?_)
    · have hf := hf_t c_17 hf
      refine lv_aload_n (pc := 28) hx hb dX1_determinant_28 rfl (lv_at hl 0 rfl) ?_
      refine vXgRX1_9_19 (pc := 29) hx hb hts mU_55 inU1 hown hK hP (x := (gL S 0)) rfl dX1_determinant_29 ?_
      obtain rfl := Option.some.inj hf
      exact hR H locs 32 ls hP hD hS dX1_determinant_32
    · have hf := hf_f c_17 hf
      refine lv_aload_n (pc := 20) hx hb dX1_determinant_20 rfl (lv_at hl 0 rfl) ?_
      refine vXgRX1_9_19 (pc := 21) hx hb hts mU_55 inU1 hown hK hP (x := (gL S 0)) rfl dX1_determinant_21 ?_
      refine lv_lneg (pc := 24) hx hb dX1_determinant_24 ?_
      refine lv_goto (pc := 25) hx hb (tgt := 32) dX1_determinant_25 (by decide) ?_
      obtain rfl := Option.some.inj hf
      exact hR H locs 32 ls hP hD hS dX1_determinant_32
  · have hf := hf_f c_8 hf
    refine lv_lconst (pc := 11) hx hb (v := 0) dX1_determinant_11 (by decide) ?_
    obtain rfl := Option.some.inj hf
    exact hR H locs 12 ls hP hD hS dX1_determinant_12
set_option maxHeartbeats 4000000 in
set_option maxRecDepth 100000 in
theorem kX6_whole (l : Launch) (D : va_G) (A : Nat → Nat) (B : Nat → ClassId) (sz : Nat) (S : w_S) (a1 : Int32) (z : Int64 × w_S) (hf : fX6_whole S a1 = some z) : MetW l yX6_whole (wsO yX6_whole cX6_whole 2 (some .long)) rm_X6_whole [.ref (A 0), .int a1] D (tyB B) (wX A B S) (wX A B z.2) sz (some (.long z.1)) := by
  refine MetW.mkL (cc := cX6_whole) (maxL := 2) (by decide) (Nat.le_of_ble_eq_true rfl) ?_
  intro p e s m args below meth c Ad Q hx hb hts hown hml hN hK hA hR H locs ls hP hD hS hl
  have hl : lv_has ls 2 [(0, .ref (A 0)), (1, .int a1)] := hl
  rw [fX6_whole] at hf
  refine lv_aload_n (pc := 0) hx hb dX6_whole_0 rfl (lv_at hl 0 rfl) ?_
  refine vXgRX6_10_0 (pc := 1) hx hb hts mU_16 inU6 hown hK hP dX6_whole_1 ?_
  refine lv_iload_n (pc := 4) hx hb dX6_whole_4 rfl (lv_at hl 1 rfl) ?_
  obtain ⟨r5, hc5, hf⟩ := hf_b hf
  refine cl_V (pc := 5) (As := [.int a1]) (rest := []) hx hb hml hown hts (kX4_hasEquation_1 l D A B _ S a1 r5 hc5) (cwV 1 hts gwRX6_125 rfl rfl rfl hdX4_hasEquation ⟨Nat.le_of_ble_eq_true rfl, Nat.le_of_ble_eq_true rfl⟩) hN hK hP hD hS hA (va_recv hK hP (ci := 4) (q0 := 1) rfl (eX_1 A B _)) rfl hl.1 rfl (Nat.le_of_ble_eq_true rfl) dX6_whole_5 (st1 := [.int r5]) rfl ⟨Nat.zero_le _, Nat.zero_le _⟩ (fun H locs hP hD hS => ?_)
  refine lv_if_ne (pc := 8) hx hb (tgt := 16) dX6_whole_8 (by decide) (fun c_8 => ?_) (fun c_8 => ?_)
  · have hf := hf_f c_8 hf
    refine lv_aload_n (pc := 16) hx hb dX6_whole_16 rfl (lv_at hl 0 rfl) ?_
    refine lv_iload_n (pc := 17) hx hb dX6_whole_17 rfl (lv_at hl 1 rfl) ?_
    obtain ⟨r18, hc18, hf⟩ := hf_b hf
    refine cl_V (pc := 18) (As := [.int a1]) (rest := []) hx hb hml hown hts (kX6_isSmallWhole l D A B _ S a1 r18 hc18) (cwV 1 hts gwRX6_204 rfl rfl rfl hdX6_isSmallWhole ⟨Nat.le_of_ble_eq_true rfl, Nat.le_of_ble_eq_true rfl⟩) hN hK hP hD hS hA (va_recv hK hP (ci := 6) (q0 := 0) rfl (eX_0 A B _)) rfl hl.1 rfl (Nat.le_of_ble_eq_true rfl) dX6_whole_18 (st1 := [.int r18]) rfl ⟨Nat.zero_le _, Nat.zero_le _⟩ (fun H locs hP hD hS => ?_)
    refine lv_if_ne (pc := 21) hx hb (tgt := 30) dX6_whole_21 (by decide) (fun c_21 => ?_) (fun c_21 => ?_)
    · have hf := hf_f c_21 hf
      refine lv_aload_n (pc := 30) hx hb dX6_whole_30 rfl (lv_at hl 0 rfl) ?_
      refine lv_aload_n (pc := 31) hx hb dX6_whole_31 rfl (lv_at hl 0 rfl) ?_
      refine vXgRX6_10_0 (pc := 32) hx hb hts mU_16 inU6 hown hK hP dX6_whole_32 ?_
      refine lv_iload_n (pc := 35) hx hb dX6_whole_35 rfl (lv_at hl 1 rfl) ?_
      obtain ⟨r36, hc36, hf⟩ := hf_b hf
      refine cl_V (pc := 36) (As := [.int a1]) (rest := [.ref (A 0)]) hx hb hml hown hts (kX4_kindOf_1 l D A B _ S a1 r36 hc36) (cwV 1 hts gwRX6_128 rfl rfl rfl hdX4_kindOf ⟨Nat.le_of_ble_eq_true rfl, Nat.le_of_ble_eq_true rfl⟩) hN hK hP hD hS hA (va_recv hK hP (ci := 4) (q0 := 1) rfl (eX_1 A B _)) rfl hl.1 rfl (Nat.le_of_ble_eq_true rfl) dX6_whole_36 (st1 := [.int r36, .ref (A 0)]) rfl ⟨Nat.zero_le _, Nat.zero_le _⟩ (fun H locs hP hD hS => ?_)
      refine lv_iconst (pc := 39) hx hb (v := 0) dX6_whole_39 (by decide) ?_
      refine lv_aload_n (pc := 40) hx hb dX6_whole_40 rfl (lv_at hl 0 rfl) ?_
      refine vXgRX6_10_0 (pc := 41) hx hb hts mU_16 inU6 hown hK hP dX6_whole_41 ?_
      refine lv_iload_n (pc := 44) hx hb dX6_whole_44 rfl (lv_at hl 1 rfl) ?_
      obtain ⟨r45, hc45, hf⟩ := hf_b hf
      refine cl_V (pc := 45) (As := [.int a1]) (rest := [.int 0, .int r36, .ref (A 0)]) hx hb hml hown hts (kX4_shiftOf_1 l D A B _ S a1 r45 hc45) (cwV 1 hts gwRX6_131 rfl rfl rfl hdX4_shiftOf ⟨Nat.le_of_ble_eq_true rfl, Nat.le_of_ble_eq_true rfl⟩) hN hK hP hD hS hA (va_recv hK hP (ci := 4) (q0 := 1) rfl (eX_1 A B _)) rfl hl.1 rfl (Nat.le_of_ble_eq_true rfl) dX6_whole_45 (st1 := [.int r45, .int 0, .int r36, .ref (A 0)]) rfl ⟨Nat.zero_le _, Nat.zero_le _⟩ (fun H locs hP hD hS => ?_)
      refine lv_iconst (pc := 48) hx hb (v := 0) dX6_whole_48 (by decide) ?_
      obtain ⟨r49, hc49, hf⟩ := hf_b hf
      refine cl_V (pc := 49) (As := [.int r36, .int 0, .int r45, .int 0]) (rest := []) hx hb hml hown hts (kX6_fillGrid l D A B _ S r36 0 r45 0 r49 hc49) (cwV 4 hts gwRX6_192 rfl rfl rfl hdX6_fillGrid ⟨Nat.le_of_ble_eq_true rfl, Nat.le_of_ble_eq_true rfl⟩) hN hK hP hD hS hA (va_recv hK hP (ci := 6) (q0 := 0) rfl (eX_0 A B _)) rfl hl.1 rfl (Nat.le_of_ble_eq_true rfl) dX6_whole_49 (st1 := []) rfl ⟨Nat.zero_le _, Nat.zero_le _⟩ (fun H locs hP hD hS => ?_)
      refine lv_aload_n (pc := 52) hx hb dX6_whole_52 rfl (lv_at hl 0 rfl) ?_
      refine vXgRX6_25_0 (pc := 53) hx hb hts mU_22 inU6 hown hK hP dX6_whole_53 ?_
      obtain ⟨r56, hc56, hf⟩ := hf_b hf
      refine cl_V (pc := 56) (As := []) (rest := []) hx hb hml hown hts (kX1_eliminate_19 l D A B _ r49 r56 hc56) (cwV 0 hts gwRX6_199 rfl rfl rfl hdX1_eliminate ⟨Nat.le_of_ble_eq_true rfl, Nat.le_of_ble_eq_true rfl⟩) hN hK hP hD hS hA (va_recv hK hP (ci := 1) (q0 := 19) rfl (eX_19 A B _)) rfl hl.1 rfl (Nat.le_of_ble_eq_true rfl) dX6_whole_56 (st1 := []) rfl ⟨Nat.zero_le _, Nat.zero_le _⟩ (fun H locs hP hD hS => ?_)
      refine lv_aload_n (pc := 59) hx hb dX6_whole_59 rfl (lv_at hl 0 rfl) ?_
      refine vXgRX6_25_0 (pc := 60) hx hb hts mU_22 inU6 hown hK hP dX6_whole_60 ?_
      obtain ⟨r63, hc63, hf⟩ := hf_b hf
      refine cl_V (pc := 63) (As := []) (rest := []) hx hb hml hown hts (kX1_determinant_19 l D A B _ r56 r63 hc63) (cwV 0 hts gwRX6_207 rfl rfl rfl hdX1_determinant ⟨Nat.le_of_ble_eq_true rfl, Nat.le_of_ble_eq_true rfl⟩) hN hK hP hD hS hA (va_recv hK hP (ci := 1) (q0 := 19) rfl (eX_19 A B _)) rfl hl.1 rfl (Nat.le_of_ble_eq_true rfl) dX6_whole_63 (st1 := [.long r63]) rfl ⟨Nat.zero_le _, Nat.zero_le _⟩ (fun H locs hP hD hS => ?_)
      obtain rfl := Option.some.inj hf
      exact hR H locs 66 ls hP hD hS dX6_whole_66
    · have hf := hf_t c_21 hf
      refine lv_bipush (pc := 24) hx hb (v := (-4)) dX6_whole_24 (by decide) ?_
      obtain ⟨r26, hc26, hf⟩ := hf_b hf
      refine cl_S (pc := 26) (As := [.int (-4)]) (rest := []) hx hb hml hown hts (kX6_far l D A B _ S (-4) r26 hc26) (va_cwS 1 hts gwRX6_87 rfl rfl rfl hdX6_far ⟨Nat.le_of_ble_eq_true rfl, Nat.le_of_ble_eq_true rfl⟩) hN hK hP hD hS hA rfl hl.1 rfl (Nat.le_of_ble_eq_true rfl) dX6_whole_26 (st1 := [.long r26]) rfl ⟨Nat.zero_le _, Nat.zero_le _⟩ (fun H locs hP hD hS => ?_)
      obtain rfl := Option.some.inj hf
      exact hR H locs 29 ls hP hD hS dX6_whole_29
  · have hf := hf_t c_8 hf
    refine lv_iconst (pc := 11) hx hb (v := (-1)) dX6_whole_11 (by decide) ?_
    obtain ⟨r12, hc12, hf⟩ := hf_b hf
    refine cl_S (pc := 12) (As := [.int (-1)]) (rest := []) hx hb hml hown hts (kX6_far l D A B _ S (-1) r12 hc12) (va_cwS 1 hts gwRX6_87 rfl rfl rfl hdX6_far ⟨Nat.le_of_ble_eq_true rfl, Nat.le_of_ble_eq_true rfl⟩) hN hK hP hD hS hA rfl hl.1 rfl (Nat.le_of_ble_eq_true rfl) dX6_whole_12 (st1 := [.long r12]) rfl ⟨Nat.zero_le _, Nat.zero_le _⟩ (fun H locs hP hD hS => ?_)
    obtain rfl := Option.some.inj hf
    exact hR H locs 15 ls hP hD hS dX6_whole_15
set_option maxHeartbeats 4000000 in
set_option maxRecDepth 100000 in
theorem kX4_splits_1 (l : Launch) (D : va_G) (A : Nat → Nat) (B : Nat → ClassId) (sz : Nat) (S : w_S) (a1 : Int32) (z : Int32) (hf : fX4_splits_1 S a1 = some z) : MetW l yX4_splits (wsO yX4_splits cX4_splits 4 (some .boolean)) rm_X4_splits [.ref (A 1), .int a1] D (tyB B) (wX A B S) (wX A B S) sz (some (.int z)) := by
  refine MetW.mkZ (cc := cX4_splits) (maxL := 4) (by decide) (Nat.le_of_ble_eq_true rfl) ?_
  intro p e s m args below meth c Ad Q hx hb hts hown hml hN hK hA hR H locs ls hP hD hS hl
  have hl : lv_has ls 4 [(0, .ref (A 1)), (1, .int a1)] := hl
  rw [fX4_splits_1] at hf
  refine lv_iload_n (pc := 0) hx hb dX4_splits_0 rfl (lv_at hl 1 rfl) ?_
  refine lv_iconst (pc := 1) hx hb (v := 1) dX4_splits_1 (by decide) ?_
  refine lv_icmp_lt (pc := 2) hx hb (tgt := 13) dX4_splits_2 (by decide) (fun c_2 => ?_) (fun c_2 => ?_)
  · have hf := hf_t c_2 hf
    refine lv_iconst (pc := 13) hx hb (v := 0) dX4_splits_13 (by decide) ?_
    obtain rfl := Option.some.inj hf
    exact hR H locs 14 ls hP hD hS (nz_of (.inl rfl)) dX4_splits_14
  · have hf := hf_f c_2 hf
    refine lv_iload_n (pc := 5) hx hb dX4_splits_5 rfl (lv_at hl 1 rfl) ?_
    refine lv_aload_n (pc := 6) hx hb dX4_splits_6 rfl (lv_at hl 0 rfl) ?_
    refine vXgRX4_9_1 (pc := 7) hx hb hts mU_43 inU4 hown hK hP (x := (gI S 0)) rfl dX4_splits_7 ?_
    refine lv_icmp_lt (pc := 10) hx hb (tgt := 15) dX4_splits_10 (by decide) (fun c_10 => ?_) (fun c_10 => ?_)
    · have hf := hf_t c_10 hf
      refine lv_iload_n (pc := 15) hx hb dX4_splits_15 rfl (lv_at hl 1 rfl) ?_
      refine lv_istore_n (pc := 16) hx hb (lv' := [(2, .int a1), (0, .ref (A 1)), (1, .int a1)]) dX4_splits_16 rfl hl (by decide) rfl (fun ls hl => ?_)
      have hk17 : ∀  (H : Heap) (locs : List Loc) (ls : Array Slot), some 1 = some z → va_P D vwCl (wX A B S) H → va_D Ad (wX A B S) → va_S Ad s.heap H locs → lv_has ls 4 [] → W p l e rm_X4_splits s m args below meth c H locs 0 0 Q (F0 m 56 ls []) := by
        intro  H locs ls hf hP hD hS hl
        refine lv_iconst (pc := 56) hx hb (v := 1) dX4_splits_56 (by decide) ?_
        obtain rfl := Option.some.inj hf
        exact hR H locs 57 ls hP hD hS (nz_of (.inr rfl)) dX4_splits_57
      have lp17 : ∀ (n : Nat) (u2_17 : Int32) (H : Heap) (locs : List Loc) (ls : Array Slot), fX4_splits_1_L17 (some 1) S a1 n u2_17 = some z → va_P D vwCl (wX A B S) H → va_D Ad (wX A B S) → va_S Ad s.heap H locs → lv_has ls 4 [(0, .ref (A 1)), (1, .int a1), (2, .int u2_17)] → W p l e rm_X4_splits s m args below meth c H locs 0 0 Q (F0 m 17 ls []) := by
        intro n17
        induction n17 with
        | zero => intro u2_17 H locs ls hf; exact hf_0 hf
        | succ n17 ih17 =>
          intro u2_17 H locs ls hf hP hD hS hl
          rw [fX4_splits_1_L17] at hf
          refine lv_iload_n (pc := 17) hx hb dX4_splits_17 rfl (lv_at hl 2 rfl) ?_
          refine lv_aload_n (pc := 18) hx hb dX4_splits_18 rfl (lv_at hl 0 rfl) ?_
          refine vXgRX4_9_1 (pc := 19) hx hb hts mU_43 inU4 hown hK hP (x := (gI S 0)) rfl dX4_splits_19 ?_
          refine lv_icmp_ge (pc := 22) hx hb (tgt := 56) dX4_splits_22 (by decide) (fun c_22 => ?_) (fun c_22 => ?_)
          · have hf := hf_t c_22 hf
            exact hk17  H locs ls hf hP hD hS (lv_sub hl [] rfl)
          · have hf := hf_f c_22 hf
            refine lv_iconst (pc := 25) hx hb (v := 0) dX4_splits_25 (by decide) ?_
            refine lv_istore_n (pc := 26) hx hb (lv' := [(3, .int 0), (0, .ref (A 1)), (1, .int a1), (2, .int u2_17)]) dX4_splits_26 rfl hl (by decide) rfl (fun ls hl => ?_)
            have hk27 : ∀  (H : Heap) (locs : List Loc) (ls : Array Slot), fX4_splits_1_L17 (some 1) S a1 n17 (u2_17 + 1) = some z → va_P D vwCl (wX A B S) H → va_D Ad (wX A B S) → va_S Ad s.heap H locs → lv_has ls 4 [(0, .ref (A 1)), (1, .int a1), (2, .int u2_17)] → W p l e rm_X4_splits s m args below meth c H locs 0 0 Q (F0 m 50 ls []) := by
              intro  H locs ls hf hP hD hS hl
              refine lv_iinc (pc := 50) hx hb (v := u2_17 + 1) (lv' := [(2, .int (u2_17 + 1)), (0, .ref (A 1)), (1, .int a1)]) dX4_splits_50 hl (k := 2) rfl rfl (by decide) rfl (fun ls hl => ?_)
              refine lv_goto (pc := 53) hx hb (tgt := 17) dX4_splits_53 (by decide) ?_
              exact ih17 (u2_17 + 1) H locs ls hf hP hD hS (lv_sub hl [1, 2, 0] rfl)
            have lp27 : ∀ (n : Nat) (u3_27 : Int32) (H : Heap) (locs : List Loc) (ls : Array Slot), fX4_splits_1_L27 (fX4_splits_1_L17 (some 1) S a1 n17 (u2_17 + 1)) S a1 u2_17 n u3_27 = some z → va_P D vwCl (wX A B S) H → va_D Ad (wX A B S) → va_S Ad s.heap H locs → lv_has ls 4 [(0, .ref (A 1)), (1, .int a1), (2, .int u2_17), (3, .int u3_27)] → W p l e rm_X4_splits s m args below meth c H locs 0 0 Q (F0 m 27 ls []) := by
              intro n27
              induction n27 with
              | zero => intro u3_27 H locs ls hf; exact hf_0 hf
              | succ n27 ih27 =>
                intro u3_27 H locs ls hf hP hD hS hl
                rw [fX4_splits_1_L27] at hf
                refine lv_iload_n (pc := 27) hx hb dX4_splits_27 rfl (lv_at hl 3 rfl) ?_
                refine lv_iload_n (pc := 28) hx hb dX4_splits_28 rfl (lv_at hl 1 rfl) ?_
                refine lv_icmp_ge (pc := 29) hx hb (tgt := 50) dX4_splits_29 (by decide) (fun c_29 => ?_) (fun c_29 => ?_)
                · have hf := hf_t c_29 hf
                  exact hk27  H locs ls hf hP hD hS (lv_sub hl [0, 1, 2] rfl)
                · have hf := hf_f c_29 hf
                  refine lv_aload_n (pc := 32) hx hb dX4_splits_32 rfl (lv_at hl 0 rfl) ?_
                  refine lv_iconst (pc := 33) hx hb (v := 0) dX4_splits_33 (by decide) ?_
                  refine lv_iload_n (pc := 34) hx hb dX4_splits_34 rfl (lv_at hl 2 rfl) ?_
                  refine lv_iload_n (pc := 35) hx hb dX4_splits_35 rfl (lv_at hl 3 rfl) ?_
                  obtain ⟨r36, hc36, hf⟩ := hf_b hf
                  refine cl_V (pc := 36) (As := [.int 0, .int u2_17, .int u3_27]) (rest := []) hx hb hml hown hts (kX4_entry_1 l D A B _ S 0 u2_17 u3_27 r36 hc36) (cwV 3 hts gwRX4_63 rfl rfl rfl hdX4_entry ⟨Nat.le_of_ble_eq_true rfl, Nat.le_of_ble_eq_true rfl⟩) hN hK hP hD hS hA (va_recv hK hP (ci := 4) (q0 := 1) rfl (eX_1 A B _)) rfl hl.1 rfl (Nat.le_of_ble_eq_true rfl) dX4_splits_36 (st1 := [.int r36]) rfl ⟨Nat.zero_le _, Nat.zero_le _⟩ (fun H locs hP hD hS => ?_)
                  refine lv_if_eq (pc := 39) hx hb (tgt := 44) dX4_splits_39 (by decide) (fun c_39 => ?_) (fun c_39 => ?_)
                  · have hf := hf_t c_39 hf
                    refine lv_iinc (pc := 44) hx hb (v := u3_27 + 1) (lv' := [(3, .int (u3_27 + 1)), (0, .ref (A 1)), (1, .int a1), (2, .int u2_17)]) dX4_splits_44 hl (k := 3) rfl rfl (by decide) rfl (fun ls hl => ?_)
                    refine lv_goto (pc := 47) hx hb (tgt := 27) dX4_splits_47 (by decide) ?_
                    exact ih27 (u3_27 + 1) H locs ls hf hP hD hS (lv_sub hl [1, 2, 3, 0] rfl)
                  · have hf := hf_f c_39 hf
                    refine lv_iconst (pc := 42) hx hb (v := 0) dX4_splits_42 (by decide) ?_
                    obtain rfl := Option.some.inj hf
                    exact hR H locs 43 ls hP hD hS (nz_of (.inl rfl)) dX4_splits_43
            exact lp27 256 0 H locs ls hf hP hD hS (lv_sub hl [1, 2, 3, 0] rfl)
      exact lp17 256 a1 H locs ls hf hP hD hS (lv_sub hl [1, 2, 0] rfl)
    · have hf := hf_f c_10 hf
      refine lv_iconst (pc := 13) hx hb (v := 0) dX4_splits_13 (by decide) ?_
      obtain rfl := Option.some.inj hf
      exact hR H locs 14 ls hP hD hS (nz_of (.inl rfl)) dX4_splits_14
set_option maxHeartbeats 4000000 in
set_option maxRecDepth 100000 in
theorem kX6_lower (l : Launch) (D : va_G) (A : Nat → Nat) (B : Nat → ClassId) (sz : Nat) (S : w_S) (a1 : Int32) (a2 : Int32) (z : Int32 × w_S) (hf : fX6_lower S a1 a2 = some z) : MetW l yX6_lower (wsO yX6_lower cX6_lower 3 (some .int)) rm_X6_lower [.ref (A 0), .int a1, .int a2] D (tyB B) (wX A B S) (wX A B z.2) sz (some (.int z.1)) := by
  refine MetW.mkI (cc := cX6_lower) (maxL := 3) (by decide) (Nat.le_of_ble_eq_true rfl) ?_
  intro p e s m args below meth c Ad Q hx hb hts hown hml hN hK hA hR H locs ls hP hD hS hl
  have hl : lv_has ls 3 [(0, .ref (A 0)), (1, .int a1), (2, .int a2)] := hl
  rw [fX6_lower] at hf
  refine lv_aload_n (pc := 0) hx hb dX6_lower_0 rfl (lv_at hl 0 rfl) ?_
  refine vXgRX6_10_0 (pc := 1) hx hb hts mU_16 inU6 hown hK hP dX6_lower_1 ?_
  refine lv_iload_n (pc := 4) hx hb dX6_lower_4 rfl (lv_at hl 1 rfl) ?_
  obtain ⟨r5, hc5, hf⟩ := hf_b hf
  refine cl_V (pc := 5) (As := [.int a1]) (rest := []) hx hb hml hown hts (kX4_hasEquation_1 l D A B _ S a1 r5 hc5) (cwV 1 hts gwRX6_125 rfl rfl rfl hdX4_hasEquation ⟨Nat.le_of_ble_eq_true rfl, Nat.le_of_ble_eq_true rfl⟩) hN hK hP hD hS hA (va_recv hK hP (ci := 4) (q0 := 1) rfl (eX_1 A B _)) rfl hl.1 rfl (Nat.le_of_ble_eq_true rfl) dX6_lower_5 (st1 := [.int r5]) rfl ⟨Nat.zero_le _, Nat.zero_le _⟩ (fun H locs hP hD hS => ?_)
  refine lv_if_eq (pc := 8) hx hb (tgt := 21) dX6_lower_8 (by decide) (fun c_8 => ?_) (fun c_8 => ?_)
  · have hf := hf_t c_8 hf
    refine lv_iconst (pc := 21) hx hb (v := (-1)) dX6_lower_21 (by decide) ?_
    obtain rfl := Option.some.inj hf
    exact hR H locs 22 ls hP hD hS dX6_lower_22
  · have hf := hf_f c_8 hf
    refine lv_iload_n (pc := 11) hx hb dX6_lower_11 rfl (lv_at hl 2 rfl) ?_
    refine lv_iconst (pc := 12) hx hb (v := 1) dX6_lower_12 (by decide) ?_
    refine lv_icmp_lt (pc := 13) hx hb (tgt := 21) dX6_lower_13 (by decide) (fun c_13 => ?_) (fun c_13 => ?_)
    · have hf := hf_t c_13 hf
      refine lv_iconst (pc := 21) hx hb (v := (-1)) dX6_lower_21 (by decide) ?_
      obtain rfl := Option.some.inj hf
      exact hR H locs 22 ls hP hD hS dX6_lower_22
    · have hf := hf_f c_13 hf
      refine lv_iload_n (pc := 16) hx hb dX6_lower_16 rfl (lv_at hl 2 rfl) ?_
      refine lv_iconst (pc := 17) hx hb (v := 2) dX6_lower_17 (by decide) ?_
      refine lv_icmp_le (pc := 18) hx hb (tgt := 23) dX6_lower_18 (by decide) (fun c_18 => ?_) (fun c_18 => ?_)
      · have hf := hf_t c_18 hf
        refine lv_aload_n (pc := 23) hx hb dX6_lower_23 rfl (lv_at hl 0 rfl) ?_
        refine vXgRX6_10_0 (pc := 24) hx hb hts mU_16 inU6 hown hK hP dX6_lower_24 ?_
        refine lv_iload_n (pc := 27) hx hb dX6_lower_27 rfl (lv_at hl 2 rfl) ?_
        obtain ⟨r28, hc28, hf⟩ := hf_b hf
        refine cl_V (pc := 28) (As := [.int a2]) (rest := []) hx hb hml hown hts (kX4_splits_1 l D A B _ S a2 r28 hc28) (cwV 1 hts gwRX6_211 rfl rfl rfl hdX4_splits ⟨Nat.le_of_ble_eq_true rfl, Nat.le_of_ble_eq_true rfl⟩) hN hK hP hD hS hA (va_recv hK hP (ci := 4) (q0 := 1) rfl (eX_1 A B _)) rfl hl.1 rfl (Nat.le_of_ble_eq_true rfl) dX6_lower_28 (st1 := [.int r28]) rfl ⟨Nat.zero_le _, Nat.zero_le _⟩ (fun H locs hP hD hS => ?_)
        refine lv_if_eq (pc := 31) hx hb (tgt := 74) dX6_lower_31 (by decide) (fun c_31 => ?_) (fun c_31 => ?_)
        · have hf := hf_t c_31 hf
          refine lv_bipush (pc := 74) hx hb (v := (-4)) dX6_lower_74 (by decide) ?_
          obtain rfl := Option.some.inj hf
          exact hR H locs 76 ls hP hD hS dX6_lower_76
        · have hf := hf_f c_31 hf
          refine lv_aload_n (pc := 34) hx hb dX6_lower_34 rfl (lv_at hl 0 rfl) ?_
          refine vXgRX6_10_0 (pc := 35) hx hb hts mU_16 inU6 hown hK hP dX6_lower_35 ?_
          refine lv_aload_n (pc := 38) hx hb dX6_lower_38 rfl (lv_at hl 0 rfl) ?_
          refine vXgRX6_10_0 (pc := 39) hx hb hts mU_16 inU6 hown hK hP dX6_lower_39 ?_
          refine lv_iload_n (pc := 42) hx hb dX6_lower_42 rfl (lv_at hl 1 rfl) ?_
          obtain ⟨r43, hc43, hf⟩ := hf_b hf
          refine cl_V (pc := 43) (As := [.int a1]) (rest := [.ref (A 1)]) hx hb hml hown hts (kX4_kindOf_1 l D A B _ S a1 r43 hc43) (cwV 1 hts gwRX6_128 rfl rfl rfl hdX4_kindOf ⟨Nat.le_of_ble_eq_true rfl, Nat.le_of_ble_eq_true rfl⟩) hN hK hP hD hS hA (va_recv hK hP (ci := 4) (q0 := 1) rfl (eX_1 A B _)) rfl hl.1 rfl (Nat.le_of_ble_eq_true rfl) dX6_lower_43 (st1 := [.int r43, .ref (A 1)]) rfl ⟨Nat.zero_le _, Nat.zero_le _⟩ (fun H locs hP hD hS => ?_)
          obtain ⟨r46, hc46, hf⟩ := hf_b hf
          refine cl_V (pc := 46) (As := [.int r43]) (rest := []) hx hb hml hown hts (kX4_hasRight_1 l D A B _ S r43 r46 hc46) (cwV 1 hts gwRX6_137 rfl rfl rfl hdX4_hasRight ⟨Nat.le_of_ble_eq_true rfl, Nat.le_of_ble_eq_true rfl⟩) hN hK hP hD hS hA (va_recv hK hP (ci := 4) (q0 := 1) rfl (eX_1 A B _)) rfl hl.1 rfl (Nat.le_of_ble_eq_true rfl) dX6_lower_46 (st1 := [.int r46]) rfl ⟨Nat.zero_le _, Nat.zero_le _⟩ (fun H locs hP hD hS => ?_)
          refine lv_if_eq (pc := 49) hx hb (tgt := 74) dX6_lower_49 (by decide) (fun c_49 => ?_) (fun c_49 => ?_)
          · have hf := hf_t c_49 hf
            refine lv_bipush (pc := 74) hx hb (v := (-4)) dX6_lower_74 (by decide) ?_
            obtain rfl := Option.some.inj hf
            exact hR H locs 76 ls hP hD hS dX6_lower_76
          · have hf := hf_f c_49 hf
            refine lv_aload_n (pc := 52) hx hb dX6_lower_52 rfl (lv_at hl 0 rfl) ?_
            refine vXgRX6_10_0 (pc := 53) hx hb hts mU_16 inU6 hown hK hP dX6_lower_53 ?_
            refine vXgRX6_60_1 (pc := 56) hx hb hts mU_111 inU4 hown hK hP (x := (gI S 0)) rfl dX6_lower_56 ?_
            refine lv_iload_n (pc := 59) hx hb dX6_lower_59 rfl (lv_at hl 2 rfl) ?_
            refine lv_isub (pc := 60) hx hb dX6_lower_60 ?_
            refine lv_aload_n (pc := 61) hx hb dX6_lower_61 rfl (lv_at hl 0 rfl) ?_
            refine vXgRX6_10_0 (pc := 62) hx hb hts mU_16 inU6 hown hK hP dX6_lower_62 ?_
            refine vXgRX6_64_1 (pc := 65) hx hb hts mU_112 inU4 hown hK hP (x := (gI S 1)) rfl dX6_lower_65 ?_
            refine lv_imul (pc := 68) hx hb dX6_lower_68 ?_
            refine lv_bipush (pc := 69) hx hb (v := 6) dX6_lower_69 (by decide) ?_
            refine lv_icmp_le (pc := 71) hx hb (tgt := 77) dX6_lower_71 (by decide) (fun c_71 => ?_) (fun c_71 => ?_)
            · have hf := hf_t c_71 hf
              refine lv_aload_n (pc := 77) hx hb dX6_lower_77 rfl (lv_at hl 0 rfl) ?_
              refine lv_aload_n (pc := 78) hx hb dX6_lower_78 rfl (lv_at hl 0 rfl) ?_
              refine vXgRX6_10_0 (pc := 79) hx hb hts mU_16 inU6 hown hK hP dX6_lower_79 ?_
              refine lv_iload_n (pc := 82) hx hb dX6_lower_82 rfl (lv_at hl 1 rfl) ?_
              obtain ⟨r83, hc83, hf⟩ := hf_b hf
              refine cl_V (pc := 83) (As := [.int a1]) (rest := [.ref (A 0)]) hx hb hml hown hts (kX4_kindOf_1 l D A B _ S a1 r83 hc83) (cwV 1 hts gwRX6_128 rfl rfl rfl hdX4_kindOf ⟨Nat.le_of_ble_eq_true rfl, Nat.le_of_ble_eq_true rfl⟩) hN hK hP hD hS hA (va_recv hK hP (ci := 4) (q0 := 1) rfl (eX_1 A B _)) rfl hl.1 rfl (Nat.le_of_ble_eq_true rfl) dX6_lower_83 (st1 := [.int r83, .ref (A 0)]) rfl ⟨Nat.zero_le _, Nat.zero_le _⟩ (fun H locs hP hD hS => ?_)
              refine lv_iconst (pc := 86) hx hb (v := 0) dX6_lower_86 (by decide) ?_
              refine lv_aload_n (pc := 87) hx hb dX6_lower_87 rfl (lv_at hl 0 rfl) ?_
              refine vXgRX6_10_0 (pc := 88) hx hb hts mU_16 inU6 hown hK hP dX6_lower_88 ?_
              refine lv_iload_n (pc := 91) hx hb dX6_lower_91 rfl (lv_at hl 1 rfl) ?_
              obtain ⟨r92, hc92, hf⟩ := hf_b hf
              refine cl_V (pc := 92) (As := [.int a1]) (rest := [.int 0, .int r83, .ref (A 0)]) hx hb hml hown hts (kX4_shiftOf_1 l D A B _ S a1 r92 hc92) (cwV 1 hts gwRX6_131 rfl rfl rfl hdX4_shiftOf ⟨Nat.le_of_ble_eq_true rfl, Nat.le_of_ble_eq_true rfl⟩) hN hK hP hD hS hA (va_recv hK hP (ci := 4) (q0 := 1) rfl (eX_1 A B _)) rfl hl.1 rfl (Nat.le_of_ble_eq_true rfl) dX6_lower_92 (st1 := [.int r92, .int 0, .int r83, .ref (A 0)]) rfl ⟨Nat.zero_le _, Nat.zero_le _⟩ (fun H locs hP hD hS => ?_)
              refine lv_iload_n (pc := 95) hx hb dX6_lower_95 rfl (lv_at hl 2 rfl) ?_
              obtain ⟨r96, hc96, hf⟩ := hf_b hf
              refine cl_V (pc := 96) (As := [.int r83, .int 0, .int r92, .int a2]) (rest := []) hx hb hml hown hts (kX6_fillGrid l D A B _ S r83 0 r92 a2 r96 hc96) (cwV 4 hts gwRX6_192 rfl rfl rfl hdX6_fillGrid ⟨Nat.le_of_ble_eq_true rfl, Nat.le_of_ble_eq_true rfl⟩) hN hK hP hD hS hA (va_recv hK hP (ci := 6) (q0 := 0) rfl (eX_0 A B _)) rfl hl.1 rfl (Nat.le_of_ble_eq_true rfl) dX6_lower_96 (st1 := []) rfl ⟨Nat.zero_le _, Nat.zero_le _⟩ (fun H locs hP hD hS => ?_)
              refine lv_aload_n (pc := 99) hx hb dX6_lower_99 rfl (lv_at hl 0 rfl) ?_
              refine vXgRX6_25_0 (pc := 100) hx hb hts mU_22 inU6 hown hK hP dX6_lower_100 ?_
              obtain ⟨r103, hc103, hf⟩ := hf_b hf
              refine cl_V (pc := 103) (As := []) (rest := []) hx hb hml hown hts (kX1_eliminate_19 l D A B _ r96 r103 hc103) (cwV 0 hts gwRX6_199 rfl rfl rfl hdX1_eliminate ⟨Nat.le_of_ble_eq_true rfl, Nat.le_of_ble_eq_true rfl⟩) hN hK hP hD hS hA (va_recv hK hP (ci := 1) (q0 := 19) rfl (eX_19 A B _)) rfl hl.1 rfl (Nat.le_of_ble_eq_true rfl) dX6_lower_103 (st1 := []) rfl ⟨Nat.zero_le _, Nat.zero_le _⟩ (fun H locs hP hD hS => ?_)
              refine lv_aload_n (pc := 106) hx hb dX6_lower_106 rfl (lv_at hl 0 rfl) ?_
              refine vXgRX6_25_0 (pc := 107) hx hb hts mU_22 inU6 hown hK hP dX6_lower_107 ?_
              obtain ⟨r110, hc110, hf⟩ := hf_b hf
              refine cl_V (pc := 110) (As := []) (rest := []) hx hb hml hown hts (kX1_isSolvable_19 l D A B _ r103 r110 hc110) (cwV 0 hts gwRX6_154 rfl rfl rfl hdX1_isSolvable ⟨Nat.le_of_ble_eq_true rfl, Nat.le_of_ble_eq_true rfl⟩) hN hK hP hD hS hA (va_recv hK hP (ci := 1) (q0 := 19) rfl (eX_19 A B _)) rfl hl.1 rfl (Nat.le_of_ble_eq_true rfl) dX6_lower_110 (st1 := [.int r110]) rfl ⟨Nat.zero_le _, Nat.zero_le _⟩ (fun H locs hP hD hS => ?_)
              obtain ⟨r113, hc113, hf⟩ := hf_b hf
              refine cl_S (pc := 113) (As := [.int r110]) (rest := []) hx hb hml hown hts (kX6_oneIf l D A B _ r103 r110 r113 hc113) (va_cwS 1 hts gwRX6_158 rfl rfl rfl hdX6_oneIf ⟨Nat.le_of_ble_eq_true rfl, Nat.le_of_ble_eq_true rfl⟩) hN hK hP hD hS hA rfl hl.1 rfl (Nat.le_of_ble_eq_true rfl) dX6_lower_113 (st1 := [.int r113]) rfl ⟨Nat.zero_le _, Nat.zero_le _⟩ (fun H locs hP hD hS => ?_)
              obtain rfl := Option.some.inj hf
              exact hR H locs 116 ls hP hD hS dX6_lower_116
            · have hf := hf_f c_71 hf
              refine lv_bipush (pc := 74) hx hb (v := (-4)) dX6_lower_74 (by decide) ?_
              obtain rfl := Option.some.inj hf
              exact hR H locs 76 ls hP hD hS dX6_lower_76
      · have hf := hf_f c_18 hf
        refine lv_iconst (pc := 21) hx hb (v := (-1)) dX6_lower_21 (by decide) ?_
        obtain rfl := Option.some.inj hf
        exact hR H locs 22 ls hP hD hS dX6_lower_22
set_option maxHeartbeats 4000000 in
set_option maxRecDepth 100000 in
theorem kX6_swapped (l : Launch) (D : va_G) (A : Nat → Nat) (B : Nat → ClassId) (sz : Nat) (S : w_S) (z : Int32) (hf : fX6_swapped S = some z) : MetW l yX6_swapped (wsO yX6_swapped cX6_swapped 1 (some .int)) rm_X6_swapped [.ref (A 0)] D (tyB B) (wX A B S) (wX A B S) sz (some (.int z)) := by
  refine MetW.mkI (cc := cX6_swapped) (maxL := 1) (by decide) (Nat.le_of_ble_eq_true rfl) ?_
  intro p e s m args below meth c Ad Q hx hb hts hown hml hN hK hA hR H locs ls hP hD hS hl
  have hl : lv_has ls 1 [(0, .ref (A 0))] := hl
  rw [fX6_swapped] at hf
  refine lv_aload_n (pc := 0) hx hb dX6_swapped_0 rfl (lv_at hl 0 rfl) ?_
  refine vXgRX6_10_0 (pc := 1) hx hb hts mU_16 inU6 hown hK hP dX6_swapped_1 ?_
  refine vXgRX6_60_1 (pc := 4) hx hb hts mU_111 inU4 hown hK hP (x := (gI S 0)) rfl dX6_swapped_4 ?_
  refine lv_aload_n (pc := 7) hx hb dX6_swapped_7 rfl (lv_at hl 0 rfl) ?_
  refine vXgRX6_10_0 (pc := 8) hx hb hts mU_16 inU6 hown hK hP dX6_swapped_8 ?_
  refine vXgRX6_64_1 (pc := 11) hx hb hts mU_112 inU4 hown hK hP (x := (gI S 1)) rfl dX6_swapped_11 ?_
  refine lv_icmp_eq (pc := 14) hx hb (tgt := 20) dX6_swapped_14 (by decide) (fun c_14 => ?_) (fun c_14 => ?_)
  · have hf := hf_t c_14 hf
    refine lv_aload_n (pc := 20) hx hb dX6_swapped_20 rfl (lv_at hl 0 rfl) ?_
    refine vXgRX6_10_0 (pc := 21) hx hb hts mU_16 inU6 hown hK hP dX6_swapped_21 ?_
    refine lv_iconst (pc := 24) hx hb (v := 2) dX6_swapped_24 (by decide) ?_
    refine lv_iconst (pc := 25) hx hb (v := 1) dX6_swapped_25 (by decide) ?_
    obtain ⟨r26, hc26, hf⟩ := hf_b hf
    refine cl_V (pc := 26) (As := [.int 2, .int 1]) (rest := []) hx hb hml hown hts (kX4_minors_1 l D A B _ S 2 1 r26 hc26) (cwV 2 hts gwRX6_94 rfl rfl rfl hdX4_minors ⟨Nat.le_of_ble_eq_true rfl, Nat.le_of_ble_eq_true rfl⟩) hN hK hP hD hS hA (va_recv hK hP (ci := 4) (q0 := 1) rfl (eX_1 A B _)) rfl hl.1 rfl (Nat.le_of_ble_eq_true rfl) dX6_swapped_26 (st1 := [.long r26]) rfl ⟨Nat.zero_le _, Nat.zero_le _⟩ (fun H locs hP hD hS => ?_)
    refine lv_lconst (pc := 29) hx hb (v := 0) dX6_swapped_29 (by decide) ?_
    refine W.lcmp (pc := 30) hx hb dX6_swapped_30 ?_
    refine lv_if_ne (pc := 31) hx hb (tgt := 38) dX6_swapped_31 (by decide) (fun c_31 => ?_) (fun c_31 => ?_)
    · have c_31 := fun h9 => c_31 (lg_eq0.mpr h9)
      have hf := hf_f c_31 hf
      refine lv_iconst (pc := 38) hx hb (v := 0) dX6_swapped_38 (by decide) ?_
      obtain ⟨r39, hc39, hf⟩ := hf_b hf
      refine cl_S (pc := 39) (As := [.int 0]) (rest := []) hx hb hml hown hts (kX6_oneIf l D A B _ S 0 r39 hc39) (va_cwS 1 hts gwRX6_158 rfl rfl rfl hdX6_oneIf ⟨Nat.le_of_ble_eq_true rfl, Nat.le_of_ble_eq_true rfl⟩) hN hK hP hD hS hA rfl hl.1 rfl (Nat.le_of_ble_eq_true rfl) dX6_swapped_39 (st1 := [.int r39]) rfl ⟨Nat.zero_le _, Nat.zero_le _⟩ (fun H locs hP hD hS => ?_)
      obtain rfl := Option.some.inj hf
      exact hR H locs 42 ls hP hD hS dX6_swapped_42
    · have c_31 := lg_eq0.mp c_31
      have hf := hf_t c_31 hf
      refine lv_iconst (pc := 34) hx hb (v := 1) dX6_swapped_34 (by decide) ?_
      refine lv_goto (pc := 35) hx hb (tgt := 39) dX6_swapped_35 (by decide) ?_
      obtain ⟨r39, hc39, hf⟩ := hf_b hf
      refine cl_S (pc := 39) (As := [.int 1]) (rest := []) hx hb hml hown hts (kX6_oneIf l D A B _ S 1 r39 hc39) (va_cwS 1 hts gwRX6_158 rfl rfl rfl hdX6_oneIf ⟨Nat.le_of_ble_eq_true rfl, Nat.le_of_ble_eq_true rfl⟩) hN hK hP hD hS hA rfl hl.1 rfl (Nat.le_of_ble_eq_true rfl) dX6_swapped_39 (st1 := [.int r39]) rfl ⟨Nat.zero_le _, Nat.zero_le _⟩ (fun H locs hP hD hS => ?_)
      obtain rfl := Option.some.inj hf
      exact hR H locs 42 ls hP hD hS dX6_swapped_42
  · have hf := hf_f c_14 hf
    refine lv_bipush (pc := 17) hx hb (v := (-4)) dX6_swapped_17 (by decide) ?_
    obtain rfl := Option.some.inj hf
    exact hR H locs 19 ls hP hD hS dX6_swapped_19
