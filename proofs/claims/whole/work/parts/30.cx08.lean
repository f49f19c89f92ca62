set_option maxHeartbeats 4000000 in
set_option maxRecDepth 100000 in
theorem kX6_judge (l : Launch) (D : va_G) (A : Nat → Nat) (B : Nat → ClassId) (sz : Nat) (S : w_S) (a1 : Int32) (a2 : Int32) (a3 : Int32) (z : Int32) (hf : fX6_judge S a1 a2 a3 = some z) : MetW l yX6_judge (wsO yX6_judge cX6_judge 8 (some .int)) rm_X6_judge [.ref (A 0), .int a1, .int a2, .int a3] D (tyB B) (wX A B S) (wX A B S) sz (some (.int z)) := by
  refine MetW.mkI (cc := cX6_judge) (maxL := 8) (by decide) (Nat.le_of_ble_eq_true rfl) ?_
  intro p e s m args below meth c Ad Q hx hb hts hown hml hN hK hA hR H locs ls hP hD hS hl
  have hl : lv_has ls 8 [(0, .ref (A 0)), (1, .int a1), (2, .int a2), (3, .int a3)] := hl
  rw [fX6_judge] at hf
  refine lv_aload_n (pc := 0) hx hb dX6_judge_0 rfl (lv_at hl 0 rfl) ?_
  refine vXgRX6_10_0 (pc := 1) hx hb hts mU_16 inU6 hown hK hP dX6_judge_1 ?_
  refine lv_iload_n (pc := 4) hx hb dX6_judge_4 rfl (lv_at hl 1 rfl) ?_
  obtain ⟨r5, hc5, hf⟩ := hf_b hf
  refine cl_V (pc := 5) (As := [.int a1]) (rest := []) hx hb hml hown hts (kX4_hasEquation_1 l D A B _ S a1 r5 hc5) (cwV 1 hts gwRX6_125 rfl rfl rfl hdX4_hasEquation ⟨Nat.le_of_ble_eq_true rfl, Nat.le_of_ble_eq_true rfl⟩) hN hK hP hD hS hA (va_recv hK hP (ci := 4) (q0 := 1) rfl (eX_1 A B _)) rfl hl.1 rfl (Nat.le_of_ble_eq_true rfl) dX6_judge_5 (st1 := [.int r5]) rfl ⟨Nat.zero_le _, Nat.zero_le _⟩ (fun H locs hP hD hS => ?_)
  refine lv_if_eq (pc := 8) hx hb (tgt := 23) dX6_judge_8 (by decide) (fun c_8 => ?_) (fun c_8 => ?_)
  · have hf := hf_t c_8 hf
    refine lv_iconst (pc := 23) hx hb (v := (-1)) dX6_judge_23 (by decide) ?_
    obtain rfl := Option.some.inj hf
    exact hR H locs 24 ls hP hD hS dX6_judge_24
  · have hf := hf_f c_8 hf
    refine lv_iload_n (pc := 11) hx hb dX6_judge_11 rfl (lv_at hl 2 rfl) ?_
    obtain ⟨r12, hc12, hf⟩ := hf_b hf
    refine cl_S (pc := 12) (As := [.int a2]) (rest := []) hx hb hml hown hts (kX6_isSheet l D A B _ S a2 r12 hc12) (va_cwS 1 hts gwRX6_214 rfl rfl rfl hdX6_isSheet ⟨Nat.le_of_ble_eq_true rfl, Nat.le_of_ble_eq_true rfl⟩) hN hK hP hD hS hA rfl hl.1 rfl (Nat.le_of_ble_eq_true rfl) dX6_judge_12 (st1 := [.int r12]) rfl ⟨Nat.zero_le _, Nat.zero_le _⟩ (fun H locs hP hD hS => ?_)
    refine lv_if_eq (pc := 15) hx hb (tgt := 23) dX6_judge_15 (by decide) (fun c_15 => ?_) (fun c_15 => ?_)
    · have hf := hf_t c_15 hf
      refine lv_iconst (pc := 23) hx hb (v := (-1)) dX6_judge_23 (by decide) ?_
      obtain rfl := Option.some.inj hf
      exact hR H locs 24 ls hP hD hS dX6_judge_24
    · have hf := hf_f c_15 hf
      refine lv_iload_n (pc := 18) hx hb dX6_judge_18 rfl (lv_at hl 3 rfl) ?_
      refine lv_iconst (pc := 19) hx hb (v := 1) dX6_judge_19 (by decide) ?_
      refine lv_icmp_ge (pc := 20) hx hb (tgt := 25) dX6_judge_20 (by decide) (fun c_20 => ?_) (fun c_20 => ?_)
      · have hf := hf_t c_20 hf
        refine lv_aload_n (pc := 25) hx hb dX6_judge_25 rfl (lv_at hl 0 rfl) ?_
        refine vXgRX6_10_0 (pc := 26) hx hb hts mU_16 inU6 hown hK hP dX6_judge_26 ?_
        refine lv_iload_n (pc := 29) hx hb dX6_judge_29 rfl (lv_at hl 1 rfl) ?_
        obtain ⟨r30, hc30, hf⟩ := hf_b hf
        refine cl_V (pc := 30) (As := [.int a1]) (rest := []) hx hb hml hown hts (kX4_kindOf_1 l D A B _ S a1 r30 hc30) (cwV 1 hts gwRX6_128 rfl rfl rfl hdX4_kindOf ⟨Nat.le_of_ble_eq_true rfl, Nat.le_of_ble_eq_true rfl⟩) hN hK hP hD hS hA (va_recv hK hP (ci := 4) (q0 := 1) rfl (eX_1 A B _)) rfl hl.1 rfl (Nat.le_of_ble_eq_true rfl) dX6_judge_30 (st1 := [.int r30]) rfl ⟨Nat.zero_le _, Nat.zero_le _⟩ (fun H locs hP hD hS => ?_)
        refine lv_istore (pc := 33) hx hb (lv' := [(4, .int r30), (0, .ref (A 0)), (1, .int a1), (2, .int a2), (3, .int a3)]) dX6_judge_33 hl (by decide) rfl (fun ls hl => ?_)
        refine lv_aload_n (pc := 35) hx hb dX6_judge_35 rfl (lv_at hl 1 rfl) ?_
        refine vXgRX6_10_0 (pc := 36) hx hb hts mU_16 inU6 hown hK hP dX6_judge_36 ?_
        refine lv_iload (pc := 39) hx hb dX6_judge_39 (lv_at hl 0 rfl) ?_
        obtain ⟨r41, hc41, hf⟩ := hf_b hf
        refine cl_V (pc := 41) (As := [.int r30]) (rest := []) hx hb hml hown hts (kX4_hasRight_1 l D A B _ S r30 r41 hc41) (cwV 1 hts gwRX6_137 rfl rfl rfl hdX4_hasRight ⟨Nat.le_of_ble_eq_true rfl, Nat.le_of_ble_eq_true rfl⟩) hN hK hP hD hS hA (va_recv hK hP (ci := 4) (q0 := 1) rfl (eX_1 A B _)) rfl hl.1 rfl (Nat.le_of_ble_eq_true rfl) dX6_judge_41 (st1 := [.int r41]) rfl ⟨Nat.zero_le _, Nat.zero_le _⟩ (fun H locs hP hD hS => ?_)
        refine lv_if_ne (pc := 44) hx hb (tgt := 50) dX6_judge_44 (by decide) (fun c_44 => ?_) (fun c_44 => ?_)
        · have hf := hf_f c_44 hf
          refine lv_aload_n (pc := 50) hx hb dX6_judge_50 rfl (lv_at hl 1 rfl) ?_
          refine vXgRX6_48_0 (pc := 51) hx hb hts mU_33 inU6 hown hK hP dX6_judge_51 ?_
          refine lv_iload_n (pc := 54) hx hb dX6_judge_54 rfl (lv_at hl 3 rfl) ?_
          by_cases e55_0 : a2 = (0 : Int32)
          · have hf := hf_t e55_0 hf
            refine vXrq_29_0 (pc := 55) hx hb hK hP e55_0 dX6_judge_55 ?_
            refine lv_astore (pc := 56) hx hb (lv' := [(5, .ref (A 30)), (4, .int r30), (0, .ref (A 0)), (1, .int a1), (2, .int a2), (3, .int a3)]) dX6_judge_56 hl (by decide) rfl (fun ls hl => ?_)
            refine lv_aload_n (pc := 58) hx hb dX6_judge_58 rfl (lv_at hl 2 rfl) ?_
            refine lv_aload (pc := 59) hx hb dX6_judge_59 (lv_at hl 0 rfl) ?_
            obtain ⟨r61, hc61, hf⟩ := hf_b hf
            refine cl_V (pc := 61) (As := [.ref (A 30)]) (rest := []) hx hb hml hown hts (kX6_unreadable_30 l D A B _ S r61 hc61) (cwV 1 hts gwRX6_231 rfl rfl rfl hdX6_unreadable ⟨Nat.le_of_ble_eq_true rfl, Nat.le_of_ble_eq_true rfl⟩) hN hK hP hD hS hA (va_recv hK hP (ci := 6) (q0 := 0) rfl (eX_0 A B _)) rfl hl.1 rfl (Nat.le_of_ble_eq_true rfl) dX6_judge_61 (st1 := [.int r61]) rfl ⟨Nat.zero_le _, Nat.zero_le _⟩ (fun H locs hP hD hS => ?_)
            refine lv_istore (pc := 64) hx hb (lv' := [(6, .int r61), (5, .ref (A 30)), (4, .int r30), (0, .ref (A 0)), (1, .int a1), (2, .int a2), (3, .int a3)]) dX6_judge_64 hl (by decide) rfl (fun ls hl => ?_)
            refine lv_iload (pc := 66) hx hb dX6_judge_66 (lv_at hl 0 rfl) ?_
            refine lv_if_eq (pc := 68) hx hb (tgt := 74) dX6_judge_68 (by decide) (fun c_68 => ?_) (fun c_68 => ?_)
            · have hf := hf_t c_68 hf
              refine lv_aload_n (pc := 74) hx hb dX6_judge_74 rfl (lv_at hl 3 rfl) ?_
              refine lv_iload (pc := 75) hx hb dX6_judge_75 (lv_at hl 2 rfl) ?_
              refine lv_aload_n (pc := 77) hx hb dX6_judge_77 rfl (lv_at hl 3 rfl) ?_
              refine vXgRX6_10_0 (pc := 78) hx hb hts mU_16 inU6 hown hK hP dX6_judge_78 ?_
              refine lv_iload_n (pc := 81) hx hb dX6_judge_81 rfl (lv_at hl 4 rfl) ?_
              obtain ⟨r82, hc82, hf⟩ := hf_b hf
              refine cl_V (pc := 82) (As := [.int a1]) (rest := [.int r30, .ref (A 0)]) hx hb hml hown hts (kX4_shiftOf_1 l D A B _ S a1 r82 hc82) (cwV 1 hts gwRX6_131 rfl rfl rfl hdX4_shiftOf ⟨Nat.le_of_ble_eq_true rfl, Nat.le_of_ble_eq_true rfl⟩) hN hK hP hD hS hA (va_recv hK hP (ci := 4) (q0 := 1) rfl (eX_1 A B _)) rfl hl.1 rfl (Nat.le_of_ble_eq_true rfl) dX6_judge_82 (st1 := [.int r82, .int r30, .ref (A 0)]) rfl ⟨Nat.zero_le _, Nat.zero_le _⟩ (fun H locs hP hD hS => ?_)
              refine lv_aload (pc := 85) hx hb dX6_judge_85 (lv_at hl 1 rfl) ?_
              refine lv_iload_n (pc := 87) hx hb dX6_judge_87 rfl (lv_at hl 6 rfl) ?_
              obtain ⟨r88, hc88, hf⟩ := hf_b hf
              refine cl_V (pc := 88) (As := [.int r30, .int r82, .ref (A 30), .int a3]) (rest := []) hx hb hml hown hts (kX6_firstWrong_30 l D A B _ S r30 r82 a3 r88 hc88) (cwV 4 hts gwRX6_235 rfl rfl rfl hdX6_firstWrong ⟨Nat.le_of_ble_eq_true rfl, Nat.le_of_ble_eq_true rfl⟩) hN hK hP hD hS hA (va_recv hK hP (ci := 6) (q0 := 0) rfl (eX_0 A B _)) rfl hl.1 rfl (Nat.le_of_ble_eq_true rfl) dX6_judge_88 (st1 := [.int r88]) rfl ⟨Nat.zero_le _, Nat.zero_le _⟩ (fun H locs hP hD hS => ?_)
              refine lv_istore (pc := 91) hx hb (lv' := [(7, .int r88), (6, .int r61), (5, .ref (A 30)), (4, .int r30), (0, .ref (A 0)), (1, .int a1), (2, .int a2), (3, .int a3)]) dX6_judge_91 hl (by decide) rfl (fun ls hl => ?_)
              refine lv_iload (pc := 93) hx hb dX6_judge_93 (lv_at hl 0 rfl) ?_
              refine lv_aload_n (pc := 95) hx hb dX6_judge_95 rfl (lv_at hl 4 rfl) ?_
              refine vXgRX6_10_0 (pc := 96) hx hb hts mU_16 inU6 hown hK hP dX6_judge_96 ?_
              refine vXgRX6_60_1 (pc := 99) hx hb hts mU_111 inU4 hown hK hP (x := (gI S 0)) rfl dX6_judge_99 ?_
              refine lv_aload_n (pc := 102) hx hb dX6_judge_102 rfl (lv_at hl 4 rfl) ?_
              refine vXgRX6_10_0 (pc := 103) hx hb hts mU_16 inU6 hown hK hP dX6_judge_103 ?_
              refine vXgRX6_64_1 (pc := 106) hx hb hts mU_112 inU4 hown hK hP (x := (gI S 1)) rfl dX6_judge_106 ?_
              refine lv_imul (pc := 109) hx hb dX6_judge_109 ?_
              refine lv_icmp_ne (pc := 110) hx hb (tgt := 128) dX6_judge_110 (by decide) (fun c_110 => ?_) (fun c_110 => ?_)
              · have hf := hf_f c_110 hf
                refine lv_iconst (pc := 128) hx hb (v := 1) dX6_judge_128 (by decide) ?_
                refine lv_iload (pc := 129) hx hb dX6_judge_129 (lv_at hl 0 rfl) ?_
                refine lv_iadd (pc := 131) hx hb dX6_judge_131 ?_
                obtain rfl := Option.some.inj hf
                exact hR H locs 132 ls hP hD hS dX6_judge_132
              · have hf := hf_t c_110 hf
                refine lv_aload_n (pc := 113) hx hb dX6_judge_113 rfl (lv_at hl 4 rfl) ?_
                refine lv_iload (pc := 114) hx hb dX6_judge_114 (lv_at hl 3 rfl) ?_
                refine lv_aload (pc := 116) hx hb dX6_judge_116 (lv_at hl 2 rfl) ?_
                obtain ⟨r118, hc118, hf⟩ := hf_b hf
                refine cl_V (pc := 118) (As := [.int r30, .ref (A 30)]) (rest := []) hx hb hml hown hts (kX6_isOfShape_30 l D A B _ S r30 r118 hc118) (cwV 2 hts gwRX6_239 rfl rfl rfl hdX6_isOfShape ⟨Nat.le_of_ble_eq_true rfl, Nat.le_of_ble_eq_true rfl⟩) hN hK hP hD hS hA (va_recv hK hP (ci := 6) (q0 := 0) rfl (eX_0 A B _)) rfl hl.1 rfl (Nat.le_of_ble_eq_true rfl) dX6_judge_118 (st1 := [.int r118]) rfl ⟨Nat.zero_le _, Nat.zero_le _⟩ (fun H locs hP hD hS => ?_)
                refine lv_if_eq (pc := 121) hx hb (tgt := 128) dX6_judge_121 (by decide) (fun c_121 => ?_) (fun c_121 => ?_)
                · have hf := hf_t c_121 hf
                  refine lv_iconst (pc := 128) hx hb (v := 1) dX6_judge_128 (by decide) ?_
                  refine lv_iload (pc := 129) hx hb dX6_judge_129 (lv_at hl 0 rfl) ?_
                  refine lv_iadd (pc := 131) hx hb dX6_judge_131 ?_
                  obtain rfl := Option.some.inj hf
                  exact hR H locs 132 ls hP hD hS dX6_judge_132
                · have hf := hf_f c_121 hf
                  refine lv_iconst (pc := 124) hx hb (v := 0) dX6_judge_124 (by decide) ?_
                  refine lv_goto (pc := 125) hx hb (tgt := 132) dX6_judge_125 (by decide) ?_
                  obtain rfl := Option.some.inj hf
                  exact hR H locs 132 ls hP hD hS dX6_judge_132
            · have hf := hf_f c_68 hf
              refine lv_iload (pc := 71) hx hb dX6_judge_71 (lv_at hl 0 rfl) ?_
              obtain rfl := Option.some.inj hf
              exact hR H locs 73 ls hP hD hS dX6_judge_73
          · have hf := hf_f e55_0 hf
            by_cases e55_1 : a2 = (1 : Int32)
            · have hf := hf_t e55_1 hf
              refine vXrq_29_1 (pc := 55) hx hb hK hP e55_1 dX6_judge_55 ?_
              refine lv_astore (pc := 56) hx hb (lv' := [(5, .ref (A 32)), (4, .int r30), (0, .ref (A 0)), (1, .int a1), (2, .int a2), (3, .int a3)]) dX6_judge_56 hl (by decide) rfl (fun ls hl => ?_)
              refine lv_aload_n (pc := 58) hx hb dX6_judge_58 rfl (lv_at hl 2 rfl) ?_
              refine lv_aload (pc := 59) hx hb dX6_judge_59 (lv_at hl 0 rfl) ?_
              obtain ⟨r61, hc61, hf⟩ := hf_b hf
              refine cl_V (pc := 61) (As := [.ref (A 32)]) (rest := []) hx hb hml hown hts (kX6_unreadable_32 l D A B _ S r61 hc61) (cwV 1 hts gwRX6_231 rfl rfl rfl hdX6_unreadable ⟨Nat.le_of_ble_eq_true rfl, Nat.le_of_ble_eq_true rfl⟩) hN hK hP hD hS hA (va_recv hK hP (ci := 6) (q0 := 0) rfl (eX_0 A B _)) rfl hl.1 rfl (Nat.le_of_ble_eq_true rfl) dX6_judge_61 (st1 := [.int r61]) rfl ⟨Nat.zero_le _, Nat.zero_le _⟩ (fun H locs hP hD hS => ?_)
              refine lv_istore (pc := 64) hx hb (lv' := [(6, .int r61), (5, .ref (A 32)), (4, .int r30), (0, .ref (A 0)), (1, .int a1), (2, .int a2), (3, .int a3)]) dX6_judge_64 hl (by decide) rfl (fun ls hl => ?_)
              refine lv_iload (pc := 66) hx hb dX6_judge_66 (lv_at hl 0 rfl) ?_
              refine lv_if_eq (pc := 68) hx hb (tgt := 74) dX6_judge_68 (by decide) (fun c_68 => ?_) (fun c_68 => ?_)
              · have hf := hf_t c_68 hf
                refine lv_aload_n (pc := 74) hx hb dX6_judge_74 rfl (lv_at hl 3 rfl) ?_
                refine lv_iload (pc := 75) hx hb dX6_judge_75 (lv_at hl 2 rfl) ?_
                refine lv_aload_n (pc := 77) hx hb dX6_judge_77 rfl (lv_at hl 3 rfl) ?_
                refine vXgRX6_10_0 (pc := 78) hx hb hts mU_16 inU6 hown hK hP dX6_judge_78 ?_
                refine lv_iload_n (pc := 81) hx hb dX6_judge_81 rfl (lv_at hl 4 rfl) ?_
                obtain ⟨r82, hc82, hf⟩ := hf_b hf
                refine cl_V (pc := 82) (As := [.int a1]) (rest := [.int r30, .ref (A 0)]) hx hb hml hown hts (kX4_shiftOf_1 l D A B _ S a1 r82 hc82) (cwV 1 hts gwRX6_131 rfl rfl rfl hdX4_shiftOf ⟨Nat.le_of_ble_eq_true rfl, Nat.le_of_ble_eq_true rfl⟩) hN hK hP hD hS hA (va_recv hK hP (ci := 4) (q0 := 1) rfl (eX_1 A B _)) rfl hl.1 rfl (Nat.le_of_ble_eq_true rfl) dX6_judge_82 (st1 := [.int r82, .int r30, .ref (A 0)]) rfl ⟨Nat.zero_le _, Nat.zero_le _⟩ (fun H locs hP hD hS => ?_)
                refine lv_aload (pc := 85) hx hb dX6_judge_85 (lv_at hl 1 rfl) ?_
                refine lv_iload_n (pc := 87) hx hb dX6_judge_87 rfl (lv_at hl 6 rfl) ?_
                obtain ⟨r88, hc88, hf⟩ := hf_b hf
                refine cl_V (pc := 88) (As := [.int r30, .int r82, .ref (A 32), .int a3]) (rest := []) hx hb hml hown hts (kX6_firstWrong_32 l D A B _ S r30 r82 a3 r88 hc88) (cwV 4 hts gwRX6_235 rfl rfl rfl hdX6_firstWrong ⟨Nat.le_of_ble_eq_true rfl, Nat.le_of_ble_eq_true rfl⟩) hN hK hP hD hS hA (va_recv hK hP (ci := 6) (q0 := 0) rfl (eX_0 A B _)) rfl hl.1 rfl (Nat.le_of_ble_eq_true rfl) dX6_judge_88 (st1 := [.int r88]) rfl ⟨Nat.zero_le _, Nat.zero_le _⟩ (fun H locs hP hD hS => ?_)
                refine lv_istore (pc := 91) hx hb (lv' := [(7, .int r88), (6, .int r61), (5, .ref (A 32)), (4, .int r30), (0, .ref (A 0)), (1, .int a1), (2, .int a2), (3, .int a3)]) dX6_judge_91 hl (by decide) rfl (fun ls hl => ?_)
                refine lv_iload (pc := 93) hx hb dX6_judge_93 (lv_at hl 0 rfl) ?_
                refine lv_aload_n (pc := 95) hx hb dX6_judge_95 rfl (lv_at hl 4 rfl) ?_
                refine vXgRX6_10_0 (pc := 96) hx hb hts mU_16 inU6 hown hK hP dX6_judge_96 ?_
                refine vXgRX6_60_1 (pc := 99) hx hb hts mU_111 inU4 hown hK hP (x := (gI S 0)) rfl dX6_judge_99 ?_
                refine lv_aload_n (pc := 102) hx hb dX6_judge_102 rfl (lv_at hl 4 rfl) ?_
                refine vXgRX6_10_0 (pc := 103) hx hb hts mU_16 inU6 hown hK hP dX6_judge_103 ?_
                refine vXgRX6_64_1 (pc := 106) hx hb hts mU_112 inU4 hown hK hP (x := (gI S 1)) rfl dX6_judge_106 ?_
                refine lv_imul (pc := 109) hx hb dX6_judge_109 ?_
                refine lv_icmp_ne (pc := 110) hx hb (tgt := 128) dX6_judge_110 (by decide) (fun c_110 => ?_) (fun c_110 => ?_)
                · have hf := hf_f c_110 hf
                  refine lv_iconst (pc := 128) hx hb (v := 1) dX6_judge_128 (by decide) ?_
                  refine lv_iload (pc := 129) hx hb dX6_judge_129 (lv_at hl 0 rfl) ?_
                  refine lv_iadd (pc := 131) hx hb dX6_judge_131 ?_
                  obtain rfl := Option.some.inj hf
                  exact hR H locs 132 ls hP hD hS dX6_judge_132
                · have hf := hf_t c_110 hf
                  refine lv_aload_n (pc := 113) hx hb dX6_judge_113 rfl (lv_at hl 4 rfl) ?_
                  refine lv_iload (pc := 114) hx hb dX6_judge_114 (lv_at hl 3 rfl) ?_
                  refine lv_aload (pc := 116) hx hb dX6_judge_116 (lv_at hl 2 rfl) ?_
                  obtain ⟨r118, hc118, hf⟩ := hf_b hf
                  refine cl_V (pc := 118) (As := [.int r30, .ref (A 32)]) (rest := []) hx hb hml hown hts (kX6_isOfShape_32 l D A B _ S r30 r118 hc118) (cwV 2 hts gwRX6_239 rfl rfl rfl hdX6_isOfShape ⟨Nat.le_of_ble_eq_true rfl, Nat.le_of_ble_eq_true rfl⟩) hN hK hP hD hS hA (va_recv hK hP (ci := 6) (q0 := 0) rfl (eX_0 A B _)) rfl hl.1 rfl (Nat.le_of_ble_eq_true rfl) dX6_judge_118 (st1 := [.int r118]) rfl ⟨Nat.zero_le _, Nat.zero_le _⟩ (fun H locs hP hD hS => ?_)
                  refine lv_if_eq (pc := 121) hx hb (tgt := 128) dX6_judge_121 (by decide) (fun c_121 => ?_) (fun c_121 => ?_)
                  · have hf := hf_t c_121 hf
                    refine lv_iconst (pc := 128) hx hb (v := 1) dX6_judge_128 (by decide) ?_
                    refine lv_iload (pc := 129) hx hb dX6_judge_129 (lv_at hl 0 rfl) ?_
                    refine lv_iadd (pc := 131) hx hb dX6_judge_131 ?_
                    obtain rfl := Option.some.inj hf
                    exact hR H locs 132 ls hP hD hS dX6_judge_132
                  · have hf := hf_f c_121 hf
                    refine lv_iconst (pc := 124) hx hb (v := 0) dX6_judge_124 (by decide) ?_
                    refine lv_goto (pc := 125) hx hb (tgt := 132) dX6_judge_125 (by decide) ?_
                    obtain rfl := Option.some.inj hf
                    exact hR H locs 132 ls hP hD hS dX6_judge_132
              · have hf := hf_f c_68 hf
                refine lv_iload (pc := 71) hx hb dX6_judge_71 (lv_at hl 0 rfl) ?_
                obtain rfl := Option.some.inj hf
                exact hR H locs 73 ls hP hD hS dX6_judge_73
            · have hf := hf_f e55_1 hf
              by_cases e55_2 : a2 = (2 : Int32)
              · have hf := hf_t e55_2 hf
                refine vXrq_29_2 (pc := 55) hx hb hK hP e55_2 dX6_judge_55 ?_
                refine lv_astore (pc := 56) hx hb (lv' := [(5, .ref (A 34)), (4, .int r30), (0, .ref (A 0)), (1, .int a1), (2, .int a2), (3, .int a3)]) dX6_judge_56 hl (by decide) rfl (fun ls hl => ?_)
                refine lv_aload_n (pc := 58) hx hb dX6_judge_58 rfl (lv_at hl 2 rfl) ?_
                refine lv_aload (pc := 59) hx hb dX6_judge_59 (lv_at hl 0 rfl) ?_
                obtain ⟨r61, hc61, hf⟩ := hf_b hf
                refine cl_V (pc := 61) (As := [.ref (A 34)]) (rest := []) hx hb hml hown hts (kX6_unreadable_34 l D A B _ S r61 hc61) (cwV 1 hts gwRX6_231 rfl rfl rfl hdX6_unreadable ⟨Nat.le_of_ble_eq_true rfl, Nat.le_of_ble_eq_true rfl⟩) hN hK hP hD hS hA (va_recv hK hP (ci := 6) (q0 := 0) rfl (eX_0 A B _)) rfl hl.1 rfl (Nat.le_of_ble_eq_true rfl) dX6_judge_61 (st1 := [.int r61]) rfl ⟨Nat.zero_le _, Nat.zero_le _⟩ (fun H locs hP hD hS => ?_)
                refine lv_istore (pc := 64) hx hb (lv' := [(6, .int r61), (5, .ref (A 34)), (4, .int r30), (0, .ref (A 0)), (1, .int a1), (2, .int a2), (3, .int a3)]) dX6_judge_64 hl (by decide) rfl (fun ls hl => ?_)
                refine lv_iload (pc := 66) hx hb dX6_judge_66 (lv_at hl 0 rfl) ?_
                refine lv_if_eq (pc := 68) hx hb (tgt := 74) dX6_judge_68 (by decide) (fun c_68 => ?_) (fun c_68 => ?_)
                · have hf := hf_t c_68 hf
                  refine lv_aload_n (pc := 74) hx hb dX6_judge_74 rfl (lv_at hl 3 rfl) ?_
                  refine lv_iload (pc := 75) hx hb dX6_judge_75 (lv_at hl 2 rfl) ?_
                  refine lv_aload_n (pc := 77) hx hb dX6_judge_77 rfl (lv_at hl 3 rfl) ?_
                  refine vXgRX6_10_0 (pc := 78) hx hb hts mU_16 inU6 hown hK hP dX6_judge_78 ?_
                  refine lv_iload_n (pc := 81) hx hb dX6_judge_81 rfl (lv_at hl 4 rfl) ?_
                  obtain ⟨r82, hc82, hf⟩ := hf_b hf
                  refine cl_V (pc := 82) (As := [.int a1]) (rest := [.int r30, .ref (A 0)]) hx hb hml hown hts (kX4_shiftOf_1 l D A B _ S a1 r82 hc82) (cwV 1 hts gwRX6_131 rfl rfl rfl hdX4_shiftOf ⟨Nat.le_of_ble_eq_true rfl, Nat.le_of_ble_eq_true rfl⟩) hN hK hP hD hS hA (va_recv hK hP (ci := 4) (q0 := 1) rfl (eX_1 A B _)) rfl hl.1 rfl (Nat.le_of_ble_eq_true rfl) dX6_judge_82 (st1 := [.int r82, .int r30, .ref (A 0)]) rfl ⟨Nat.zero_le _, Nat.zero_le _⟩ (fun H locs hP hD hS => ?_)
                  refine lv_aload (pc := 85) hx hb dX6_judge_85 (lv_at hl 1 rfl) ?_
                  refine lv_iload_n (pc := 87) hx hb dX6_judge_87 rfl (lv_at hl 6 rfl) ?_
                  obtain ⟨r88, hc88, hf⟩ := hf_b hf
                  refine cl_V (pc := 88) (As := [.int r30, .int r82, .ref (A 34), .int a3]) (rest := []) hx hb hml hown hts (kX6_firstWrong_34 l D A B _ S r30 r82 a3 r88 hc88) (cwV 4 hts gwRX6_235 rfl rfl rfl hdX6_firstWrong ⟨Nat.le_of_ble_eq_true rfl, Nat.le_of_ble_eq_true rfl⟩) hN hK hP hD hS hA (va_recv hK hP (ci := 6) (q0 := 0) rfl (eX_0 A B _)) rfl hl.1 rfl (Nat.le_of_ble_eq_true rfl) dX6_judge_88 (st1 := [.int r88]) rfl ⟨Nat.zero_le _, Nat.zero_le _⟩ (fun H locs hP hD hS => ?_)
                  refine lv_istore (pc := 91) hx hb (lv' := [(7, .int r88), (6, .int r61), (5, .ref (A 34)), (4, .int r30), (0, .ref (A 0)), (1, .int a1), (2, .int a2), (3, .int a3)]) dX6_judge_91 hl (by decide) rfl (fun ls hl => ?_)
                  refine lv_iload (pc := 93) hx hb dX6_judge_93 (lv_at hl 0 rfl) ?_
                  refine lv_aload_n (pc := 95) hx hb dX6_judge_95 rfl (lv_at hl 4 rfl) ?_
                  refine vXgRX6_10_0 (pc := 96) hx hb hts mU_16 inU6 hown hK hP dX6_judge_96 ?_
                  refine vXgRX6_60_1 (pc := 99) hx hb hts mU_111 inU4 hown hK hP (x := (gI S 0)) rfl dX6_judge_99 ?_
                  refine lv_aload_n (pc := 102) hx hb dX6_judge_102 rfl (lv_at hl 4 rfl) ?_
                  refine vXgRX6_10_0 (pc := 103) hx hb hts mU_16 inU6 hown hK hP dX6_judge_103 ?_
                  refine vXgRX6_64_1 (pc := 106) hx hb hts mU_112 inU4 hown hK hP (x := (gI S 1)) rfl dX6_judge_106 ?_
                  refine lv_imul (pc := 109) hx hb dX6_judge_109 ?_
                  refine lv_icmp_ne (pc := 110) hx hb (tgt := 128) dX6_judge_110 (by decide) (fun c_110 => ?_) (fun c_110 => ?_)
                  · have hf := hf_f c_110 hf
                    refine lv_iconst (pc := 128) hx hb (v := 1) dX6_judge_128 (by decide) ?_
                    refine lv_iload (pc := 129) hx hb dX6_judge_129 (lv_at hl 0 rfl) ?_
                    refine lv_iadd (pc := 131) hx hb dX6_judge_131 ?_
                    obtain rfl := Option.some.inj hf
                    exact hR H locs 132 ls hP hD hS dX6_judge_132
                  · have hf := hf_t c_110 hf
                    refine lv_aload_n (pc := 113) hx hb dX6_judge_113 rfl (lv_at hl 4 rfl) ?_
                    refine lv_iload (pc := 114) hx hb dX6_judge_114 (lv_at hl 3 rfl) ?_
                    refine lv_aload (pc := 116) hx hb dX6_judge_116 (lv_at hl 2 rfl) ?_
                    obtain ⟨r118, hc118, hf⟩ := hf_b hf
                    refine cl_V (pc := 118) (As := [.int r30, .ref (A 34)]) (rest := []) hx hb hml hown hts (kX6_isOfShape_34 l D A B _ S r30 r118 hc118) (cwV 2 hts gwRX6_239 rfl rfl rfl hdX6_isOfShape ⟨Nat.le_of_ble_eq_true rfl, Nat.le_of_ble_eq_true rfl⟩) hN hK hP hD hS hA (va_recv hK hP (ci := 6) (q0 := 0) rfl (eX_0 A B _)) rfl hl.1 rfl (Nat.le_of_ble_eq_true rfl) dX6_judge_118 (st1 := [.int r118]) rfl ⟨Nat.zero_le _, Nat.zero_le _⟩ (fun H locs hP hD hS => ?_)
                    refine lv_if_eq (pc := 121) hx hb (tgt := 128) dX6_judge_121 (by decide) (fun c_121 => ?_) (fun c_121 => ?_)
                    · have hf := hf_t c_121 hf
                      refine lv_iconst (pc := 128) hx hb (v := 1) dX6_judge_128 (by decide) ?_
                      refine lv_iload (pc := 129) hx hb dX6_judge_129 (lv_at hl 0 rfl) ?_
                      refine lv_iadd (pc := 131) hx hb dX6_judge_131 ?_
                      obtain rfl := Option.some.inj hf
                      exact hR H locs 132 ls hP hD hS dX6_judge_132
                    · have hf := hf_f c_121 hf
                      refine lv_iconst (pc := 124) hx hb (v := 0) dX6_judge_124 (by decide) ?_
                      refine lv_goto (pc := 125) hx hb (tgt := 132) dX6_judge_125 (by decide) ?_
                      obtain rfl := Option.some.inj hf
                      exact hR H locs 132 ls hP hD hS dX6_judge_132
                · have hf := hf_f c_68 hf
                  refine lv_iload (pc := 71) hx hb dX6_judge_71 (lv_at hl 0 rfl) ?_
                  obtain rfl := Option.some.inj hf
                  exact hR H locs 73 ls hP hD hS dX6_judge_73
              · have hf := hf_f e55_2 hf
                by_cases e55_3 : a2 = (3 : Int32)
                · have hf := hf_t e55_3 hf
                  refine vXrq_29_3 (pc := 55) hx hb hK hP e55_3 dX6_judge_55 ?_
                  refine lv_astore (pc := 56) hx hb (lv' := [(5, .ref (A 36)), (4, .int r30), (0, .ref (A 0)), (1, .int a1), (2, .int a2), (3, .int a3)]) dX6_judge_56 hl (by decide) rfl (fun ls hl => ?_)
                  refine lv_aload_n (pc := 58) hx hb dX6_judge_58 rfl (lv_at hl 2 rfl) ?_
                  refine lv_aload (pc := 59) hx hb dX6_judge_59 (lv_at hl 0 rfl) ?_
                  obtain ⟨r61, hc61, hf⟩ := hf_b hf
                  refine cl_V (pc := 61) (As := [.ref (A 36)]) (rest := []) hx hb hml hown hts (kX6_unreadable_36 l D A B _ S r61 hc61) (cwV 1 hts gwRX6_231 rfl rfl rfl hdX6_unreadable ⟨Nat.le_of_ble_eq_true rfl, Nat.le_of_ble_eq_true rfl⟩) hN hK hP hD hS hA (va_recv hK hP (ci := 6) (q0 := 0) rfl (eX_0 A B _)) rfl hl.1 rfl (Nat.le_of_ble_eq_true rfl) dX6_judge_61 (st1 := [.int r61]) rfl ⟨Nat.zero_le _, Nat.zero_le _⟩ (fun H locs hP hD hS => ?_)
                  refine lv_istore (pc := 64) hx hb (lv' := [(6, .int r61), (5, .ref (A 36)), (4, .int r30), (0, .ref (A 0)), (1, .int a1), (2, .int a2), (3, .int a3)]) dX6_judge_64 hl (by decide) rfl (fun ls hl => ?_)
                  refine lv_iload (pc := 66) hx hb dX6_judge_66 (lv_at hl 0 rfl) ?_
                  refine lv_if_eq (pc := 68) hx hb (tgt := 74) dX6_judge_68 (by decide) (fun c_68 => ?_) (fun c_68 => ?_)
                  · have hf := hf_t c_68 hf
                    refine lv_aload_n (pc := 74) hx hb dX6_judge_74 rfl (lv_at hl 3 rfl) ?_
                    refine lv_iload (pc := 75) hx hb dX6_judge_75 (lv_at hl 2 rfl) ?_
                    refine lv_aload_n (pc := 77) hx hb dX6_judge_77 rfl (lv_at hl 3 rfl) ?_
                    refine vXgRX6_10_0 (pc := 78) hx hb hts mU_16 inU6 hown hK hP dX6_judge_78 ?_
                    refine lv_iload_n (pc := 81) hx hb dX6_judge_81 rfl (lv_at hl 4 rfl) ?_
                    obtain ⟨r82, hc82, hf⟩ := hf_b hf
                    refine cl_V (pc := 82) (As := [.int a1]) (rest := [.int r30, .ref (A 0)]) hx hb hml hown hts (kX4_shiftOf_1 l D A B _ S a1 r82 hc82) (cwV 1 hts gwRX6_131 rfl rfl rfl hdX4_shiftOf ⟨Nat.le_of_ble_eq_true rfl, Nat.le_of_ble_eq_true rfl⟩) hN hK hP hD hS hA (va_recv hK hP (ci := 4) (q0 := 1) rfl (eX_1 A B _)) rfl hl.1 rfl (Nat.le_of_ble_eq_true rfl) dX6_judge_82 (st1 := [.int r82, .int r30, .ref (A 0)]) rfl ⟨Nat.zero_le _, Nat.zero_le _⟩ (fun H locs hP hD hS => ?_)
                    refine lv_aload (pc := 85) hx hb dX6_judge_85 (lv_at hl 1 rfl) ?_
                    refine lv_iload_n (pc := 87) hx hb dX6_judge_87 rfl (lv_at hl 6 rfl) ?_
                    obtain ⟨r88, hc88, hf⟩ := hf_b hf
                    refine cl_V (pc := 88) (As := [.int r30, .int r82, .ref (A 36), .int a3]) (rest := []) hx hb hml hown hts (kX6_firstWrong_36 l D A B _ S r30 r82 a3 r88 hc88) (cwV 4 hts gwRX6_235 rfl rfl rfl hdX6_firstWrong ⟨Nat.le_of_ble_eq_true rfl, Nat.le_of_ble_eq_true rfl⟩) hN hK hP hD hS hA (va_recv hK hP (ci := 6) (q0 := 0) rfl (eX_0 A B _)) rfl hl.1 rfl (Nat.le_of_ble_eq_true rfl) dX6_judge_88 (st1 := [.int r88]) rfl ⟨Nat.zero_le _, Nat.zero_le _⟩ (fun H locs hP hD hS => ?_)
                    refine lv_istore (pc := 91) hx hb (lv' := [(7, .int r88), (6, .int r61), (5, .ref (A 36)), (4, .int r30), (0, .ref (A 0)), (1, .int a1), (2, .int a2), (3, .int a3)]) dX6_judge_91 hl (by decide) rfl (fun ls hl => ?_)
                    refine lv_iload (pc := 93) hx hb dX6_judge_93 (lv_at hl 0 rfl) ?_
                    refine lv_aload_n (pc := 95) hx hb dX6_judge_95 rfl (lv_at hl 4 rfl) ?_
                    refine vXgRX6_10_0 (pc := 96) hx hb hts mU_16 inU6 hown hK hP dX6_judge_96 ?_
                    refine vXgRX6_60_1 (pc := 99) hx hb hts mU_111 inU4 hown hK hP (x := (gI S 0)) rfl dX6_judge_99 ?_
                    refine lv_aload_n (pc := 102) hx hb dX6_judge_102 rfl (lv_at hl 4 rfl) ?_
                    refine vXgRX6_10_0 (pc := 103) hx hb hts mU_16 inU6 hown hK hP dX6_judge_103 ?_
                    refine vXgRX6_64_1 (pc := 106) hx hb hts mU_112 inU4 hown hK hP (x := (gI S 1)) rfl dX6_judge_106 ?_
                    refine lv_imul (pc := 109) hx hb dX6_judge_109 ?_
                    refine lv_icmp_ne (pc := 110) hx hb (tgt := 128) dX6_judge_110 (by decide) (fun c_110 => ?_) (fun c_110 => ?_)
                    · have hf := hf_f c_110 hf
                      refine lv_iconst (pc := 128) hx hb (v := 1) dX6_judge_128 (by decide) ?_
                      refine lv_iload (pc := 129) hx hb dX6_judge_129 (lv_at hl 0 rfl) ?_
                      refine lv_iadd (pc := 131) hx hb dX6_judge_131 ?_
                      obtain rfl := Option.some.inj hf
                      exact hR H locs 132 ls hP hD hS dX6_judge_132
                    · have hf := hf_t c_110 hf
                      refine lv_aload_n (pc := 113) hx hb dX6_judge_113 rfl (lv_at hl 4 rfl) ?_
                      refine lv_iload (pc := 114) hx hb dX6_judge_114 (lv_at hl 3 rfl) ?_
                      refine lv_aload (pc := 116) hx hb dX6_judge_116 (lv_at hl 2 rfl) ?_
                      obtain ⟨r118, hc118, hf⟩ := hf_b hf
                      refine cl_V (pc := 118) (As := [.int r30, .ref (A 36)]) (rest := []) hx hb hml hown hts (kX6_isOfShape_36 l D A B _ S r30 r118 hc118) (cwV 2 hts gwRX6_239 rfl rfl rfl hdX6_isOfShape ⟨Nat.le_of_ble_eq_true rfl, Nat.le_of_ble_eq_true rfl⟩) hN hK hP hD hS hA (va_recv hK hP (ci := 6) (q0 := 0) rfl (eX_0 A B _)) rfl hl.1 rfl (Nat.le_of_ble_eq_true rfl) dX6_judge_118 (st1 := [.int r118]) rfl ⟨Nat.zero_le _, Nat.zero_le _⟩ (fun H locs hP hD hS => ?_)
                      refine lv_if_eq (pc := 121) hx hb (tgt := 128) dX6_judge_121 (by decide) (fun c_121 => ?_) (fun c_121 => ?_)
                      · have hf := hf_t c_121 hf
                        refine lv_iconst (pc := 128) hx hb (v := 1) dX6_judge_128 (by decide) ?_
                        refine lv_iload (pc := 129) hx hb dX6_judge_129 (lv_at hl 0 rfl) ?_
                        refine lv_iadd (pc := 131) hx hb dX6_judge_131 ?_
                        obtain rfl := Option.some.inj hf
                        exact hR H locs 132 ls hP hD hS dX6_judge_132
                      · have hf := hf_f c_121 hf
                        refine lv_iconst (pc := 124) hx hb (v := 0) dX6_judge_124 (by decide) ?_
                        refine lv_goto (pc := 125) hx hb (tgt := 132) dX6_judge_125 (by decide) ?_
                        obtain rfl := Option.some.inj hf
                        exact hR H locs 132 ls hP hD hS dX6_judge_132
                  · have hf := hf_f c_68 hf
                    refine lv_iload (pc := 71) hx hb dX6_judge_71 (lv_at hl 0 rfl) ?_
                    obtain rfl := Option.some.inj hf
                    exact hR H locs 73 ls hP hD hS dX6_judge_73
                · have hf := hf_f e55_3 hf
                  exact hf_0 hf
        · have hf := hf_t c_44 hf
          refine lv_bipush (pc := 47) hx hb (v := (-4)) dX6_judge_47 (by decide) ?_
          obtain rfl := Option.some.inj hf
          exact hR H locs 49 ls hP hD hS dX6_judge_49
      · have hf := hf_f c_20 hf
        refine lv_iconst (pc := 23) hx hb (v := (-1)) dX6_judge_23 (by decide) ?_
        obtain rfl := Option.some.inj hf
        exact hR H locs 24 ls hP hD hS dX6_judge_24
set_option maxHeartbeats 4000000 in
set_option maxRecDepth 100000 in
theorem kX6_kinds (l : Launch) (D : va_G) (A : Nat → Nat) (B : Nat → ClassId) (sz : Nat) (S : w_S) (a1 : Int32) (a2 : Int32) (z : Int32) (hf : fX6_kinds S a1 a2 = some z) : MetW l yX6_kinds (wsO yX6_kinds cX6_kinds 7 (some .int)) rm_X6_kinds [.ref (A 0), .int a1, .int a2] D (tyB B) (wX A B S) (wX A B S) sz (some (.int z)) := by
  refine MetW.mkI (cc := cX6_kinds) (maxL := 7) (by decide) (Nat.le_of_ble_eq_true rfl) ?_
  intro p e s m args below meth c Ad Q hx hb hts hown hml hN hK hA hR H locs ls hP hD hS hl
  have hl : lv_has ls 7 [(0, .ref (A 0)), (1, .int a1), (2, .int a2)] := hl
  rw [fX6_kinds] at hf
  refine lv_iload_n (pc := 0) hx hb dX6_kinds_0 rfl (lv_at hl 1 rfl) ?_
  obtain ⟨r1, hc1, hf⟩ := hf_b hf
  refine cl_S (pc := 1) (As := [.int a1]) (rest := []) hx hb hml hown hts (kX6_isSheet l D A B _ S a1 r1 hc1) (va_cwS 1 hts gwRX6_214 rfl rfl rfl hdX6_isSheet ⟨Nat.le_of_ble_eq_true rfl, Nat.le_of_ble_eq_true rfl⟩) hN hK hP hD hS hA rfl hl.1 rfl (Nat.le_of_ble_eq_true rfl) dX6_kinds_1 (st1 := [.int r1]) rfl ⟨Nat.zero_le _, Nat.zero_le _⟩ (fun H locs hP hD hS => ?_)
  refine lv_if_eq (pc := 4) hx hb (tgt := 14) dX6_kinds_4 (by decide) (fun c_4 => ?_) (fun c_4 => ?_)
  · have hf := hf_t c_4 hf
    refine lv_iconst (pc := 14) hx hb (v := (-1)) dX6_kinds_14 (by decide) ?_
    obtain rfl := Option.some.inj hf
    exact hR H locs 15 ls hP hD hS dX6_kinds_15
  · have hf := hf_f c_4 hf
    refine lv_iload_n (pc := 7) hx hb dX6_kinds_7 rfl (lv_at hl 2 rfl) ?_
    obtain ⟨r8, hc8, hf⟩ := hf_b hf
    refine cl_S (pc := 8) (As := [.int a2]) (rest := []) hx hb hml hown hts (kX6_isShift l D A B _ S a2 r8 hc8) (va_cwS 1 hts gwRX6_117 rfl rfl rfl hdX6_isShift ⟨Nat.le_of_ble_eq_true rfl, Nat.le_of_ble_eq_true rfl⟩) hN hK hP hD hS hA rfl hl.1 rfl (Nat.le_of_ble_eq_true rfl) dX6_kinds_8 (st1 := [.int r8]) rfl ⟨Nat.zero_le _, Nat.zero_le _⟩ (fun H locs hP hD hS => ?_)
    refine lv_if_ne (pc := 11) hx hb (tgt := 16) dX6_kinds_11 (by decide) (fun c_11 => ?_) (fun c_11 => ?_)
    · have hf := hf_f c_11 hf
      refine lv_aload_n (pc := 16) hx hb dX6_kinds_16 rfl (lv_at hl 0 rfl) ?_
      refine vXgRX6_48_0 (pc := 17) hx hb hts mU_33 inU6 hown hK hP dX6_kinds_17 ?_
      refine lv_iload_n (pc := 20) hx hb dX6_kinds_20 rfl (lv_at hl 1 rfl) ?_
      by_cases e21_0 : a1 = (0 : Int32)
      · have hf := hf_t e21_0 hf
        refine vXrq_29_0 (pc := 21) hx hb hK hP e21_0 dX6_kinds_21 ?_
        refine lv_astore_n (pc := 22) hx hb (lv' := [(3, .ref (A 30)), (0, .ref (A 0)), (1, .int a1), (2, .int a2)]) dX6_kinds_22 rfl hl (by decide) rfl (fun ls hl => ?_)
        refine lv_aload_n (pc := 23) hx hb dX6_kinds_23 rfl (lv_at hl 1 rfl) ?_
        refine lv_aload_n (pc := 24) hx hb dX6_kinds_24 rfl (lv_at hl 0 rfl) ?_
        obtain ⟨r25, hc25, hf⟩ := hf_b hf
        refine cl_V (pc := 25) (As := [.ref (A 30)]) (rest := []) hx hb hml hown hts (kX6_unreadable_30 l D A B _ S r25 hc25) (cwV 1 hts gwRX6_231 rfl rfl rfl hdX6_unreadable ⟨Nat.le_of_ble_eq_true rfl, Nat.le_of_ble_eq_true rfl⟩) hN hK hP hD hS hA (va_recv hK hP (ci := 6) (q0 := 0) rfl (eX_0 A B _)) rfl hl.1 rfl (Nat.le_of_ble_eq_true rfl) dX6_kinds_25 (st1 := [.int r25]) rfl ⟨Nat.zero_le _, Nat.zero_le _⟩ (fun H locs hP hD hS => ?_)
        refine lv_istore (pc := 28) hx hb (lv' := [(4, .int r25), (3, .ref (A 30)), (0, .ref (A 0)), (1, .int a1), (2, .int a2)]) dX6_kinds_28 hl (by decide) rfl (fun ls hl => ?_)
        refine lv_iload (pc := 30) hx hb dX6_kinds_30 (lv_at hl 0 rfl) ?_
        refine lv_if_eq (pc := 32) hx hb (tgt := 38) dX6_kinds_32 (by decide) (fun c_32 => ?_) (fun c_32 => ?_)
        · have hf := hf_t c_32 hf
          refine lv_iconst (pc := 38) hx hb (v := 0) dX6_kinds_38 (by decide) ?_
          refine lv_istore (pc := 39) hx hb (lv' := [(5, .int 0), (4, .int r25), (3, .ref (A 30)), (0, .ref (A 0)), (1, .int a1), (2, .int a2)]) dX6_kinds_39 hl (by decide) rfl (fun ls hl => ?_)
          refine lv_iconst (pc := 41) hx hb (v := 0) dX6_kinds_41 (by decide) ?_
          refine lv_istore (pc := 42) hx hb (lv' := [(6, .int 0), (5, .int 0), (4, .int r25), (3, .ref (A 30)), (0, .ref (A 0)), (1, .int a1), (2, .int a2)]) dX6_kinds_42 hl (by decide) rfl (fun ls hl => ?_)
          obtain ⟨q44, hq44, hf⟩ := hf_b hf
          have hk44 : ∀ (H : Heap) (locs : List Loc) (ls : Array Slot), va_P D vwCl (wX A B S) H → va_D Ad (wX A B S) → va_S Ad s.heap H locs → lv_has ls 7 [(5, .int q44)] → W p l e rm_X6_kinds s m args below meth c H locs 0 0 Q (F0 m 115 ls []) := by
            intro H locs ls hP hD hS hl
            refine lv_iload (pc := 115) hx hb dX6_kinds_115 (lv_at hl 0 rfl) ?_
            obtain rfl := Option.some.inj hf
            exact hR H locs 117 ls hP hD hS dX6_kinds_117
          have lp44 : ∀ (n : Nat) (u5_44 : Int32) (u6_44 : Int32) (H : Heap) (locs : List Loc) (ls : Array Slot), fX6_kinds_L44_30 S a2 n u5_44 u6_44 = some q44 → va_P D vwCl (wX A B S) H → va_D Ad (wX A B S) → va_S Ad s.heap H locs → lv_has ls 7 [(0, .ref (A 0)), (2, .int a2), (3, .ref (A 30)), (5, .int u5_44), (6, .int u6_44)] → W p l e rm_X6_kinds s m args below meth c H locs 0 0 Q (F0 m 44 ls []) := by
            intro n44
            induction n44 with
            | zero => intro u5_44 u6_44 H locs ls hq44; exact hf_0 hq44
            | succ n44 ih44 =>
              intro u5_44 u6_44 H locs ls hq44 hP hD hS hl
              rw [fX6_kinds_L44_30] at hq44
              refine lv_iload (pc := 44) hx hb dX6_kinds_44 (lv_at hl 4 rfl) ?_
              refine lv_bipush (pc := 46) hx hb (v := 7) dX6_kinds_46 (by decide) ?_
              refine lv_icmp_ge (pc := 48) hx hb (tgt := 115) dX6_kinds_48 (by decide) (fun c_48 => ?_) (fun c_48 => ?_)
              · have hq44 := hf_t c_48 hq44
                obtain rfl := Option.some.inj hq44
                exact hk44 H locs ls hP hD hS (lv_sub hl [3] rfl)
              · have hq44 := hf_f c_48 hq44
                refine lv_aload_n (pc := 51) hx hb dX6_kinds_51 rfl (lv_at hl 0 rfl) ?_
                refine vXgRX6_10_0 (pc := 52) hx hb hts mU_16 inU6 hown hK hP dX6_kinds_52 ?_
                refine lv_iload (pc := 55) hx hb dX6_kinds_55 (lv_at hl 4 rfl) ?_
                obtain ⟨r57, hc57, hq44⟩ := hf_b hq44
                refine cl_V (pc := 57) (As := [.int u6_44]) (rest := []) hx hb hml hown hts (kX4_hasRight_1 l D A B _ S u6_44 r57 hc57) (cwV 1 hts gwRX6_137 rfl rfl rfl hdX4_hasRight ⟨Nat.le_of_ble_eq_true rfl, Nat.le_of_ble_eq_true rfl⟩) hN hK hP hD hS hA (va_recv hK hP (ci := 4) (q0 := 1) rfl (eX_1 A B _)) rfl hl.1 rfl (Nat.le_of_ble_eq_true rfl) dX6_kinds_57 (st1 := [.int r57]) rfl ⟨Nat.zero_le _, Nat.zero_le _⟩ (fun H locs hP hD hS => ?_)
                refine lv_if_eq (pc := 60) hx hb (tgt := 109) dX6_kinds_60 (by decide) (fun c_60 => ?_) (fun c_60 => ?_)
                · have hq44 := hf_t c_60 hq44
                  refine lv_iinc (pc := 109) hx hb (v := u6_44 + 1) (lv' := [(6, .int (u6_44 + 1)), (0, .ref (A 0)), (2, .int a2), (3, .ref (A 30)), (5, .int u5_44)]) dX6_kinds_109 hl (k := 4) rfl rfl (by decide) rfl (fun ls hl => ?_)
                  refine lv_goto (pc := 112) hx hb (tgt := 44) dX6_kinds_112 (by decide) ?_
                  exact ih44 u5_44 (u6_44 + 1) H locs ls hq44 hP hD hS (lv_sub hl [1, 2, 3, 4, 0] rfl)
                · have hq44 := hf_f c_60 hq44
                  refine lv_aload_n (pc := 63) hx hb dX6_kinds_63 rfl (lv_at hl 0 rfl) ?_
                  refine lv_iload (pc := 64) hx hb dX6_kinds_64 (lv_at hl 4 rfl) ?_
                  refine lv_aload_n (pc := 66) hx hb dX6_kinds_66 rfl (lv_at hl 2 rfl) ?_
                  obtain ⟨r67, hc67, hq44⟩ := hf_b hq44
                  refine cl_V (pc := 67) (As := [.int u6_44, .ref (A 30)]) (rest := []) hx hb hml hown hts (kX6_isOfShape_30 l D A B _ S u6_44 r67 hc67) (cwV 2 hts gwRX6_239 rfl rfl rfl hdX6_isOfShape ⟨Nat.le_of_ble_eq_true rfl, Nat.le_of_ble_eq_true rfl⟩) hN hK hP hD hS hA (va_recv hK hP (ci := 6) (q0 := 0) rfl (eX_0 A B _)) rfl hl.1 rfl (Nat.le_of_ble_eq_true rfl) dX6_kinds_67 (st1 := [.int r67]) rfl ⟨Nat.zero_le _, Nat.zero_le _⟩ (fun H locs hP hD hS => ?_)
                  refine lv_if_eq (pc := 70) hx hb (tgt := 109) dX6_kinds_70 (by decide) (fun c_70 => ?_) (fun c_70 => ?_)
                  · have hq44 := hf_t c_70 hq44
                    refine lv_iinc (pc := 109) hx hb (v := u6_44 + 1) (lv' := [(6, .int (u6_44 + 1)), (0, .ref (A 0)), (2, .int a2), (3, .ref (A 30)), (5, .int u5_44)]) dX6_kinds_109 hl (k := 4) rfl rfl (by decide) rfl (fun ls hl => ?_)
                    refine lv_goto (pc := 112) hx hb (tgt := 44) dX6_kinds_112 (by decide) ?_
                    exact ih44 u5_44 (u6_44 + 1) H locs ls hq44 hP hD hS (lv_sub hl [1, 2, 3, 4, 0] rfl)
                  · have hq44 := hf_f c_70 hq44
                    refine lv_aload_n (pc := 73) hx hb dX6_kinds_73 rfl (lv_at hl 0 rfl) ?_
                    refine lv_iload (pc := 74) hx hb dX6_kinds_74 (lv_at hl 4 rfl) ?_
                    refine lv_iload_n (pc := 76) hx hb dX6_kinds_76 rfl (lv_at hl 1 rfl) ?_
                    refine lv_aload_n (pc := 77) hx hb dX6_kinds_77 rfl (lv_at hl 2 rfl) ?_
                    refine lv_iconst (pc := 78) hx hb (v := 1) dX6_kinds_78 (by decide) ?_
                    obtain ⟨r79, hc79, hq44⟩ := hf_b hq44
                    refine cl_V (pc := 79) (As := [.int u6_44, .int a2, .ref (A 30), .int 1]) (rest := []) hx hb hml hown hts (kX6_firstWrong_30 l D A B _ S u6_44 a2 1 r79 hc79) (cwV 4 hts gwRX6_235 rfl rfl rfl hdX6_firstWrong ⟨Nat.le_of_ble_eq_true rfl, Nat.le_of_ble_eq_true rfl⟩) hN hK hP hD hS hA (va_recv hK hP (ci := 6) (q0 := 0) rfl (eX_0 A B _)) rfl hl.1 rfl (Nat.le_of_ble_eq_true rfl) dX6_kinds_79 (st1 := [.int r79]) rfl ⟨Nat.zero_le _, Nat.zero_le _⟩ (fun H locs hP hD hS => ?_)
                    refine lv_aload_n (pc := 82) hx hb dX6_kinds_82 rfl (lv_at hl 0 rfl) ?_
                    refine vXgRX6_10_0 (pc := 83) hx hb hts mU_16 inU6 hown hK hP dX6_kinds_83 ?_
                    refine vXgRX6_60_1 (pc := 86) hx hb hts mU_111 inU4 hown hK hP (x := (gI S 0)) rfl dX6_kinds_86 ?_
                    refine lv_aload_n (pc := 89) hx hb dX6_kinds_89 rfl (lv_at hl 0 rfl) ?_
                    refine vXgRX6_10_0 (pc := 90) hx hb hts mU_16 inU6 hown hK hP dX6_kinds_90 ?_
                    refine vXgRX6_64_1 (pc := 93) hx hb hts mU_112 inU4 hown hK hP (x := (gI S 1)) rfl dX6_kinds_93 ?_
                    refine lv_imul (pc := 96) hx hb dX6_kinds_96 ?_
                    refine lv_icmp_ne (pc := 97) hx hb (tgt := 109) dX6_kinds_97 (by decide) (fun c_97 => ?_) (fun c_97 => ?_)
                    · have hq44 := hf_f c_97 hq44
                      refine lv_iinc (pc := 109) hx hb (v := u6_44 + 1) (lv' := [(6, .int (u6_44 + 1)), (0, .ref (A 0)), (2, .int a2), (3, .ref (A 30)), (5, .int u5_44)]) dX6_kinds_109 hl (k := 4) rfl rfl (by decide) rfl (fun ls hl => ?_)
                      refine lv_goto (pc := 112) hx hb (tgt := 44) dX6_kinds_112 (by decide) ?_
                      exact ih44 u5_44 (u6_44 + 1) H locs ls hq44 hP hD hS (lv_sub hl [1, 2, 3, 4, 0] rfl)
                    · have hq44 := hf_t c_97 hq44
                      refine lv_iload (pc := 100) hx hb dX6_kinds_100 (lv_at hl 3 rfl) ?_
                      refine lv_iconst (pc := 102) hx hb (v := 1) dX6_kinds_102 (by decide) ?_
                      refine lv_iload (pc := 103) hx hb dX6_kinds_103 (lv_at hl 4 rfl) ?_
                      refine lv_ishl (pc := 105) hx hb dX6_kinds_105 ?_
                      refine lv_ior (pc := 106) hx hb dX6_kinds_106 ?_
                      refine lv_istore (pc := 107) hx hb (lv' := [(5, .int (u5_44 ||| (1 <<< (u6_44 &&& 31)))), (0, .ref (A 0)), (2, .int a2), (3, .ref (A 30)), (6, .int u6_44)]) dX6_kinds_107 hl (by decide) rfl (fun ls hl => ?_)
                      refine lv_iinc (pc := 109) hx hb (v := u6_44 + 1) (lv' := [(6, .int (u6_44 + 1)), (5, .int (u5_44 ||| (1 <<< (u6_44 &&& 31)))), (0, .ref (A 0)), (2, .int a2), (3, .ref (A 30))]) dX6_kinds_109 hl (k := 4) rfl rfl (by decide) rfl (fun ls hl => ?_)
                      refine lv_goto (pc := 112) hx hb (tgt := 44) dX6_kinds_112 (by decide) ?_
                      exact ih44 (u5_44 ||| (1 <<< (u6_44 &&& 31))) (u6_44 + 1) H locs ls hq44 hP hD hS (lv_sub hl [2, 3, 4, 1, 0] rfl)
          exact lp44 256 0 0 H locs ls hq44 hP hD hS (lv_sub hl [4, 6, 3, 1, 0] rfl)
        · have hf := hf_f c_32 hf
          refine lv_iload (pc := 35) hx hb dX6_kinds_35 (lv_at hl 0 rfl) ?_
          obtain rfl := Option.some.inj hf
          exact hR H locs 37 ls hP hD hS dX6_kinds_37
      · have hf := hf_f e21_0 hf
        by_cases e21_1 : a1 = (1 : Int32)
        · have hf := hf_t e21_1 hf
          refine vXrq_29_1 (pc := 21) hx hb hK hP e21_1 dX6_kinds_21 ?_
          refine lv_astore_n (pc := 22) hx hb (lv' := [(3, .ref (A 32)), (0, .ref (A 0)), (1, .int a1), (2, .int a2)]) dX6_kinds_22 rfl hl (by decide) rfl (fun ls hl => ?_)
          refine lv_aload_n (pc := 23) hx hb dX6_kinds_23 rfl (lv_at hl 1 rfl) ?_
          refine lv_aload_n (pc := 24) hx hb dX6_kinds_24 rfl (lv_at hl 0 rfl) ?_
          obtain ⟨r25, hc25, hf⟩ := hf_b hf
          refine cl_V (pc := 25) (As := [.ref (A 32)]) (rest := []) hx hb hml hown hts (kX6_unreadable_32 l D A B _ S r25 hc25) (cwV 1 hts gwRX6_231 rfl rfl rfl hdX6_unreadable ⟨Nat.le_of_ble_eq_true rfl, Nat.le_of_ble_eq_true rfl⟩) hN hK hP hD hS hA (va_recv hK hP (ci := 6) (q0 := 0) rfl (eX_0 A B _)) rfl hl.1 rfl (Nat.le_of_ble_eq_true rfl) dX6_kinds_25 (st1 := [.int r25]) rfl ⟨Nat.zero_le _, Nat.zero_le _⟩ (fun H locs hP hD hS => ?_)
          refine lv_istore (pc := 28) hx hb (lv' := [(4, .int r25), (3, .ref (A 32)), (0, .ref (A 0)), (1, .int a1), (2, .int a2)]) dX6_kinds_28 hl (by decide) rfl (fun ls hl => ?_)
          refine lv_iload (pc := 30) hx hb dX6_kinds_30 (lv_at hl 0 rfl) ?_
          refine lv_if_eq (pc := 32) hx hb (tgt := 38) dX6_kinds_32 (by decide) (fun c_32 => ?_) (fun c_32 => ?_)
          · have hf := hf_t c_32 hf
            refine lv_iconst (pc := 38) hx hb (v := 0) dX6_kinds_38 (by decide) ?_
            refine lv_istore (pc := 39) hx hb (lv' := [(5, .int 0), (4, .int r25), (3, .ref (A 32)), (0, .ref (A 0)), (1, .int a1), (2, .int a2)]) dX6_kinds_39 hl (by decide) rfl (fun ls hl => ?_)
            refine lv_iconst (pc := 41) hx hb (v := 0) dX6_kinds_41 (by decide) ?_
            refine lv_istore (pc := 42) hx hb (lv' := [(6, .int 0), (5, .int 0), (4, .int r25), (3, .ref (A 32)), (0, .ref (A 0)), (1, .int a1), (2, .int a2)]) dX6_kinds_42 hl (by decide) rfl (fun ls hl => ?_)
            obtain ⟨q44, hq44, hf⟩ := hf_b hf
            have hk44 : ∀ (H : Heap) (locs : List Loc) (ls : Array Slot), va_P D vwCl (wX A B S) H → va_D Ad (wX A B S) → va_S Ad s.heap H locs → lv_has ls 7 [(5, .int q44)] → W p l e rm_X6_kinds s m args below meth c H locs 0 0 Q (F0 m 115 ls []) := by
              intro H locs ls hP hD hS hl
              refine lv_iload (pc := 115) hx hb dX6_kinds_115 (lv_at hl 0 rfl) ?_
              obtain rfl := Option.some.inj hf
              exact hR H locs 117 ls hP hD hS dX6_kinds_117
            have lp44 : ∀ (n : Nat) (u5_44 : Int32) (u6_44 : Int32) (H : Heap) (locs : List Loc) (ls : Array Slot), fX6_kinds_L44_32 S a2 n u5_44 u6_44 = some q44 → va_P D vwCl (wX A B S) H → va_D Ad (wX A B S) → va_S Ad s.heap H locs → lv_has ls 7 [(0, .ref (A 0)), (2, .int a2), (3, .ref (A 32)), (5, .int u5_44), (6, .int u6_44)] → W p l e rm_X6_kinds s m args below meth c H locs 0 0 Q (F0 m 44 ls []) := by
              intro n44
              induction n44 with
              | zero => intro u5_44 u6_44 H locs ls hq44; exact hf_0 hq44
              | succ n44 ih44 =>
                intro u5_44 u6_44 H locs ls hq44 hP hD hS hl
                rw [fX6_kinds_L44_32] at hq44
                refine lv_iload (pc := 44) hx hb dX6_kinds_44 (lv_at hl 4 rfl) ?_
                refine lv_bipush (pc := 46) hx hb (v := 7) dX6_kinds_46 (by decide) ?_
                refine lv_icmp_ge (pc := 48) hx hb (tgt := 115) dX6_kinds_48 (by decide) (fun c_48 => ?_) (fun c_48 => ?_)
                · have hq44 := hf_t c_48 hq44
                  obtain rfl := Option.some.inj hq44
                  exact hk44 H locs ls hP hD hS (lv_sub hl [3] rfl)
                · have hq44 := hf_f c_48 hq44
                  refine lv_aload_n (pc := 51) hx hb dX6_kinds_51 rfl (lv_at hl 0 rfl) ?_
                  refine vXgRX6_10_0 (pc := 52) hx hb hts mU_16 inU6 hown hK hP dX6_kinds_52 ?_
                  refine lv_iload (pc := 55) hx hb dX6_kinds_55 (lv_at hl 4 rfl) ?_
                  obtain ⟨r57, hc57, hq44⟩ := hf_b hq44
                  refine cl_V (pc := 57) (As := [.int u6_44]) (rest := []) hx hb hml hown hts (kX4_hasRight_1 l D A B _ S u6_44 r57 hc57) (cwV 1 hts gwRX6_137 rfl rfl rfl hdX4_hasRight ⟨Nat.le_of_ble_eq_true rfl, Nat.le_of_ble_eq_true rfl⟩) hN hK hP hD hS hA (va_recv hK hP (ci := 4) (q0 := 1) rfl (eX_1 A B _)) rfl hl.1 rfl (Nat.le_of_ble_eq_true rfl) dX6_kinds_57 (st1 := [.int r57]) rfl ⟨Nat.zero_le _, Nat.zero_le _⟩ (fun H locs hP hD hS => ?_)
                  refine lv_if_eq (pc := 60) hx hb (tgt := 109) dX6_kinds_60 (by decide) (fun c_60 => ?_) (fun c_60 => ?_)
                  · have hq44 := hf_t c_60 hq44
                    refine lv_iinc (pc := 109) hx hb (v := u6_44 + 1) (lv' := [(6, .int (u6_44 + 1)), (0, .ref (A 0)), (2, .int a2), (3, .ref (A 32)), (5, .int u5_44)]) dX6_kinds_109 hl (k := 4) rfl rfl (by decide) rfl (fun ls hl => ?_)
                    refine lv_goto (pc := 112) hx hb (tgt := 44) dX6_kinds_112 (by decide) ?_
                    exact ih44 u5_44 (u6_44 + 1) H locs ls hq44 hP hD hS (lv_sub hl [1, 2, 3, 4, 0] rfl)
                  · have hq44 := hf_f c_60 hq44
                    refine lv_aload_n (pc := 63) hx hb dX6_kinds_63 rfl (lv_at hl 0 rfl) ?_
                    refine lv_iload (pc := 64) hx hb dX6_kinds_64 (lv_at hl 4 rfl) ?_
                    refine lv_aload_n (pc := 66) hx hb dX6_kinds_66 rfl (lv_at hl 2 rfl) ?_
                    obtain ⟨r67, hc67, hq44⟩ := hf_b hq44
                    refine cl_V (pc := 67) (As := [.int u6_44, .ref (A 32)]) (rest := []) hx hb hml hown hts (kX6_isOfShape_32 l D A B _ S u6_44 r67 hc67) (cwV 2 hts gwRX6_239 rfl rfl rfl hdX6_isOfShape ⟨Nat.le_of_ble_eq_true rfl, Nat.le_of_ble_eq_true rfl⟩) hN hK hP hD hS hA (va_recv hK hP (ci := 6) (q0 := 0) rfl (eX_0 A B _)) rfl hl.1 rfl (Nat.le_of_ble_eq_true rfl) dX6_kinds_67 (st1 := [.int r67]) rfl ⟨Nat.zero_le _, Nat.zero_le _⟩ (fun H locs hP hD hS => ?_)
                    refine lv_if_eq (pc := 70) hx hb (tgt := 109) dX6_kinds_70 (by decide) (fun c_70 => ?_) (fun c_70 => ?_)
                    · have hq44 := hf_t c_70 hq44
                      refine lv_iinc (pc := 109) hx hb (v := u6_44 + 1) (lv' := [(6, .int (u6_44 + 1)), (0, .ref (A 0)), (2, .int a2), (3, .ref (A 32)), (5, .int u5_44)]) dX6_kinds_109 hl (k := 4) rfl rfl (by decide) rfl (fun ls hl => ?_)
                      refine lv_goto (pc := 112) hx hb (tgt := 44) dX6_kinds_112 (by decide) ?_
                      exact ih44 u5_44 (u6_44 + 1) H locs ls hq44 hP hD hS (lv_sub hl [1, 2, 3, 4, 0] rfl)
                    · have hq44 := hf_f c_70 hq44
                      refine lv_aload_n (pc := 73) hx hb dX6_kinds_73 rfl (lv_at hl 0 rfl) ?_
                      refine lv_iload (pc := 74) hx hb dX6_kinds_74 (lv_at hl 4 rfl) ?_
                      refine lv_iload_n (pc := 76) hx hb dX6_kinds_76 rfl (lv_at hl 1 rfl) ?_
                      refine lv_aload_n (pc := 77) hx hb dX6_kinds_77 rfl (lv_at hl 2 rfl) ?_
                      refine lv_iconst (pc := 78) hx hb (v := 1) dX6_kinds_78 (by decide) ?_
                      obtain ⟨r79, hc79, hq44⟩ := hf_b hq44
                      refine cl_V (pc := 79) (As := [.int u6_44, .int a2, .ref (A 32), .int 1]) (rest := []) hx hb hml hown hts (kX6_firstWrong_32 l D A B _ S u6_44 a2 1 r79 hc79) (cwV 4 hts gwRX6_235 rfl rfl rfl hdX6_firstWrong ⟨Nat.le_of_ble_eq_true rfl, Nat.le_of_ble_eq_true rfl⟩) hN hK hP hD hS hA (va_recv hK hP (ci := 6) (q0 := 0) rfl (eX_0 A B _)) rfl hl.1 rfl (Nat.le_of_ble_eq_true rfl) dX6_kinds_79 (st1 := [.int r79]) rfl ⟨Nat.zero_le _, Nat.zero_le _⟩ (fun H locs hP hD hS => ?_)
                      refine lv_aload_n (pc := 82) hx hb dX6_kinds_82 rfl (lv_at hl 0 rfl) ?_
                      refine vXgRX6_10_0 (pc := 83) hx hb hts mU_16 inU6 hown hK hP dX6_kinds_83 ?_
                      refine vXgRX6_60_1 (pc := 86) hx hb hts mU_111 inU4 hown hK hP (x := (gI S 0)) rfl dX6_kinds_86 ?_
                      refine lv_aload_n (pc := 89) hx hb dX6_kinds_89 rfl (lv_at hl 0 rfl) ?_
                      refine vXgRX6_10_0 (pc := 90) hx hb hts mU_16 inU6 hown hK hP dX6_kinds_90 ?_
                      refine vXgRX6_64_1 (pc := 93) hx hb hts mU_112 inU4 hown hK hP (x := (gI S 1)) rfl dX6_kinds_93 ?_
                      refine lv_imul (pc := 96) hx hb dX6_kinds_96 ?_
                      refine lv_icmp_ne (pc := 97) hx hb (tgt := 109) dX6_kinds_97 (by decide) (fun c_97 => ?_) (fun c_97 => ?_)
                      · have hq44 := hf_f c_97 hq44
                        refine lv_iinc (pc := 109) hx hb (v := u6_44 + 1) (lv' := [(6, .int (u6_44 + 1)), (0, .ref (A 0)), (2, .int a2), (3, .ref (A 32)), (5, .int u5_44)]) dX6_kinds_109 hl (k := 4) rfl rfl (by decide) rfl (fun ls hl => ?_)
                        refine lv_goto (pc := 112) hx hb (tgt := 44) dX6_kinds_112 (by decide) ?_
                        exact ih44 u5_44 (u6_44 + 1) H locs ls hq44 hP hD hS (lv_sub hl [1, 2, 3, 4, 0] rfl)
                      · have hq44 := hf_t c_97 hq44
                        refine lv_iload (pc := 100) hx hb dX6_kinds_100 (lv_at hl 3 rfl) ?_
                        refine lv_iconst (pc := 102) hx hb (v := 1) dX6_kinds_102 (by decide) ?_
                        refine lv_iload (pc := 103) hx hb dX6_kinds_103 (lv_at hl 4 rfl) ?_
                        refine lv_ishl (pc := 105) hx hb dX6_kinds_105 ?_
                        refine lv_ior (pc := 106) hx hb dX6_kinds_106 ?_
                        refine lv_istore (pc := 107) hx hb (lv' := [(5, .int (u5_44 ||| (1 <<< (u6_44 &&& 31)))), (0, .ref (A 0)), (2, .int a2), (3, .ref (A 32)), (6, .int u6_44)]) dX6_kinds_107 hl (by decide) rfl (fun ls hl => ?_)
                        refine lv_iinc (pc := 109) hx hb (v := u6_44 + 1) (lv' := [(6, .int (u6_44 + 1)), (5, .int (u5_44 ||| (1 <<< (u6_44 &&& 31)))), (0, .ref (A 0)), (2, .int a2), (3, .ref (A 32))]) dX6_kinds_109 hl (k := 4) rfl rfl (by decide) rfl (fun ls hl => ?_)
                        refine lv_goto (pc := 112) hx hb (tgt := 44) dX6_kinds_112 (by decide) ?_
                        exact ih44 (u5_44 ||| (1 <<< (u6_44 &&& 31))) (u6_44 + 1) H locs ls hq44 hP hD hS (lv_sub hl [2, 3, 4, 1, 0] rfl)
            exact lp44 256 0 0 H locs ls hq44 hP hD hS (lv_sub hl [4, 6, 3, 1, 0] rfl)
          · have hf := hf_f c_32 hf
            refine lv_iload (pc := 35) hx hb dX6_kinds_35 (lv_at hl 0 rfl) ?_
            obtain rfl := Option.some.inj hf
            exact hR H locs 37 ls hP hD hS dX6_kinds_37
        · have hf := hf_f e21_1 hf
          by_cases e21_2 : a1 = (2 : Int32)
          · have hf := hf_t e21_2 hf
            refine vXrq_29_2 (pc := 21) hx hb hK hP e21_2 dX6_kinds_21 ?_
            refine lv_astore_n (pc := 22) hx hb (lv' := [(3, .ref (A 34)), (0, .ref (A 0)), (1, .int a1), (2, .int a2)]) dX6_kinds_22 rfl hl (by decide) rfl (fun ls hl => ?_)
            refine lv_aload_n (pc := 23) hx hb dX6_kinds_23 rfl (lv_at hl 1 rfl) ?_
            refine lv_aload_n (pc := 24) hx hb dX6_kinds_24 rfl (lv_at hl 0 rfl) ?_
            obtain ⟨r25, hc25, hf⟩ := hf_b hf
            refine cl_V (pc := 25) (As := [.ref (A 34)]) (rest := []) hx hb hml hown hts (kX6_unreadable_34 l D A B _ S r25 hc25) (cwV 1 hts gwRX6_231 rfl rfl rfl hdX6_unreadable ⟨Nat.le_of_ble_eq_true rfl, Nat.le_of_ble_eq_true rfl⟩) hN hK hP hD hS hA (va_recv hK hP (ci := 6) (q0 := 0) rfl (eX_0 A B _)) rfl hl.1 rfl (Nat.le_of_ble_eq_true rfl) dX6_kinds_25 (st1 := [.int r25]) rfl ⟨Nat.zero_le _, Nat.zero_le _⟩ (fun H locs hP hD hS => ?_)
            refine lv_istore (pc := 28) hx hb (lv' := [(4, .int r25), (3, .ref (A 34)), (0, .ref (A 0)), (1, .int a1), (2, .int a2)]) dX6_kinds_28 hl (by decide) rfl (fun ls hl => ?_)
            refine lv_iload (pc := 30) hx hb dX6_kinds_30 (lv_at hl 0 rfl) ?_
            refine lv_if_eq (pc := 32) hx hb (tgt := 38) dX6_kinds_32 (by decide) (fun c_32 => ?_) (fun c_32 => ?_)
            · have hf := hf_t c_32 hf
              refine lv_iconst (pc := 38) hx hb (v := 0) dX6_kinds_38 (by decide) ?_
              refine lv_istore (pc := 39) hx hb (lv' := [(5, .int 0), (4, .int r25), (3, .ref (A 34)), (0, .ref (A 0)), (1, .int a1), (2, .int a2)]) dX6_kinds_39 hl (by decide) rfl (fun ls hl => ?_)
              refine lv_iconst (pc := 41) hx hb (v := 0) dX6_kinds_41 (by decide) ?_
              refine lv_istore (pc := 42) hx hb (lv' := [(6, .int 0), (5, .int 0), (4, .int r25), (3, .ref (A 34)), (0, .ref (A 0)), (1, .int a1), (2, .int a2)]) dX6_kinds_42 hl (by decide) rfl (fun ls hl => ?_)
              obtain ⟨q44, hq44, hf⟩ := hf_b hf
              have hk44 : ∀ (H : Heap) (locs : List Loc) (ls : Array Slot), va_P D vwCl (wX A B S) H → va_D Ad (wX A B S) → va_S Ad s.heap H locs → lv_has ls 7 [(5, .int q44)] → W p l e rm_X6_kinds s m args below meth c H locs 0 0 Q (F0 m 115 ls []) := by
                intro H locs ls hP hD hS hl
                refine lv_iload (pc := 115) hx hb dX6_kinds_115 (lv_at hl 0 rfl) ?_
                obtain rfl := Option.some.inj hf
                exact hR H locs 117 ls hP hD hS dX6_kinds_117
              have lp44 : ∀ (n : Nat) (u5_44 : Int32) (u6_44 : Int32) (H : Heap) (locs : List Loc) (ls : Array Slot), fX6_kinds_L44_34 S a2 n u5_44 u6_44 = some q44 → va_P D vwCl (wX A B S) H → va_D Ad (wX A B S) → va_S Ad s.heap H locs → lv_has ls 7 [(0, .ref (A 0)), (2, .int a2), (3, .ref (A 34)), (5, .int u5_44), (6, .int u6_44)] → W p l e rm_X6_kinds s m args below meth c H locs 0 0 Q (F0 m 44 ls []) := by
                intro n44
                induction n44 with
                | zero => intro u5_44 u6_44 H locs ls hq44; exact hf_0 hq44
                | succ n44 ih44 =>
                  intro u5_44 u6_44 H locs ls hq44 hP hD hS hl
                  rw [fX6_kinds_L44_34] at hq44
                  refine lv_iload (pc := 44) hx hb dX6_kinds_44 (lv_at hl 4 rfl) ?_
                  refine lv_bipush (pc := 46) hx hb (v := 7) dX6_kinds_46 (by decide) ?_
                  refine lv_icmp_ge (pc := 48) hx hb (tgt := 115) dX6_kinds_48 (by decide) (fun c_48 => ?_) (fun c_48 => ?_)
                  · have hq44 := hf_t c_48 hq44
                    obtain rfl := Option.some.inj hq44
                    exact hk44 H locs ls hP hD hS (lv_sub hl [3] rfl)
                  · have hq44 := hf_f c_48 hq44
                    refine lv_aload_n (pc := 51) hx hb dX6_kinds_51 rfl (lv_at hl 0 rfl) ?_
                    refine vXgRX6_10_0 (pc := 52) hx hb hts mU_16 inU6 hown hK hP dX6_kinds_52 ?_
                    refine lv_iload (pc := 55) hx hb dX6_kinds_55 (lv_at hl 4 rfl) ?_
                    obtain ⟨r57, hc57, hq44⟩ := hf_b hq44
                    refine cl_V (pc := 57) (As := [.int u6_44]) (rest := []) hx hb hml hown hts (kX4_hasRight_1 l D A B _ S u6_44 r57 hc57) (cwV 1 hts gwRX6_137 rfl rfl rfl hdX4_hasRight ⟨Nat.le_of_ble_eq_true rfl, Nat.le_of_ble_eq_true rfl⟩) hN hK hP hD hS hA (va_recv hK hP (ci := 4) (q0 := 1) rfl (eX_1 A B _)) rfl hl.1 rfl (Nat.le_of_ble_eq_true rfl) dX6_kinds_57 (st1 := [.int r57]) rfl ⟨Nat.zero_le _, Nat.zero_le _⟩ (fun H locs hP hD hS => ?_)
                    refine lv_if_eq (pc := 60) hx hb (tgt := 109) dX6_kinds_60 (by decide) (fun c_60 => ?_) (fun c_60 => ?_)
                    · have hq44 := hf_t c_60 hq44
                      refine lv_iinc (pc := 109) hx hb (v := u6_44 + 1) (lv' := [(6, .int (u6_44 + 1)), (0, .ref (A 0)), (2, .int a2), (3, .ref (A 34)), (5, .int u5_44)]) dX6_kinds_109 hl (k := 4) rfl rfl (by decide) rfl (fun ls hl => ?_)
                      refine lv_goto (pc := 112) hx hb (tgt := 44) dX6_kinds_112 (by decide) ?_
                      exact ih44 u5_44 (u6_44 + 1) H locs ls hq44 hP hD hS (lv_sub hl [1, 2, 3, 4, 0] rfl)
                    · have hq44 := hf_f c_60 hq44
                      refine lv_aload_n (pc := 63) hx hb dX6_kinds_63 rfl (lv_at hl 0 rfl) ?_
                      refine lv_iload (pc := 64) hx hb dX6_kinds_64 (lv_at hl 4 rfl) ?_
                      refine lv_aload_n (pc := 66) hx hb dX6_kinds_66 rfl (lv_at hl 2 rfl) ?_
                      obtain ⟨r67, hc67, hq44⟩ := hf_b hq44
                      refine cl_V (pc := 67) (As := [.int u6_44, .ref (A 34)]) (rest := []) hx hb hml hown hts (kX6_isOfShape_34 l D A B _ S u6_44 r67 hc67) (cwV 2 hts gwRX6_239 rfl rfl rfl hdX6_isOfShape ⟨Nat.le_of_ble_eq_true rfl, Nat.le_of_ble_eq_true rfl⟩) hN hK hP hD hS hA (va_recv hK hP (ci := 6) (q0 := 0) rfl (eX_0 A B _)) rfl hl.1 rfl (Nat.le_of_ble_eq_true rfl) dX6_kinds_67 (st1 := [.int r67]) rfl ⟨Nat.zero_le _, Nat.zero_le _⟩ (fun H locs hP hD hS => ?_)
                      refine lv_if_eq (pc := 70) hx hb (tgt := 109) dX6_kinds_70 (by decide) (fun c_70 => ?_) (fun c_70 => ?_)
                      · have hq44 := hf_t c_70 hq44
                        refine lv_iinc (pc := 109) hx hb (v := u6_44 + 1) (lv' := [(6, .int (u6_44 + 1)), (0, .ref (A 0)), (2, .int a2), (3, .ref (A 34)), (5, .int u5_44)]) dX6_kinds_109 hl (k := 4) rfl rfl (by decide) rfl (fun ls hl => ?_)
                        refine lv_goto (pc := 112) hx hb (tgt := 44) dX6_kinds_112 (by decide) ?_
                        exact ih44 u5_44 (u6_44 + 1) H locs ls hq44 hP hD hS (lv_sub hl [1, 2, 3, 4, 0] rfl)
                      · have hq44 := hf_f c_70 hq44
                        refine lv_aload_n (pc := 73) hx hb dX6_kinds_73 rfl (lv_at hl 0 rfl) ?_
                        refine lv_iload (pc := 74) hx hb dX6_kinds_74 (lv_at hl 4 rfl) ?_
                        refine lv_iload_n (pc := 76) hx hb dX6_kinds_76 rfl (lv_at hl 1 rfl) ?_
                        refine lv_aload_n (pc := 77) hx hb dX6_kinds_77 rfl (lv_at hl 2 rfl) ?_
                        refine lv_iconst (pc := 78) hx hb (v := 1) dX6_kinds_78 (by decide) ?_
                        obtain ⟨r79, hc79, hq44⟩ := hf_b hq44
                        refine cl_V (pc := 79) (As := [.int u6_44, .int a2, .ref (A 34), .int 1]) (rest := []) hx hb hml hown hts (kX6_firstWrong_34 l D A B _ S u6_44 a2 1 r79 hc79) (cwV 4 hts gwRX6_235 rfl rfl rfl hdX6_firstWrong ⟨Nat.le_of_ble_eq_true rfl, Nat.le_of_ble_eq_true rfl⟩) hN hK hP hD hS hA (va_recv hK hP (ci := 6) (q0 := 0) rfl (eX_0 A B _)) rfl hl.1 rfl (Nat.le_of_ble_eq_true rfl) dX6_kinds_79 (st1 := [.int r79]) rfl ⟨Nat.zero_le _, Nat.zero_le _⟩ (fun H locs hP hD hS => ?_)
                        refine lv_aload_n (pc := 82) hx hb dX6_kinds_82 rfl (lv_at hl 0 rfl) ?_
                        refine vXgRX6_10_0 (pc := 83) hx hb hts mU_16 inU6 hown hK hP dX6_kinds_83 ?_
                        refine vXgRX6_60_1 (pc := 86) hx hb hts mU_111 inU4 hown hK hP (x := (gI S 0)) rfl dX6_kinds_86 ?_
                        refine lv_aload_n (pc := 89) hx hb dX6_kinds_89 rfl (lv_at hl 0 rfl) ?_
                        refine vXgRX6_10_0 (pc := 90) hx hb hts mU_16 inU6 hown hK hP dX6_kinds_90 ?_
                        refine vXgRX6_64_1 (pc := 93) hx hb hts mU_112 inU4 hown hK hP (x := (gI S 1)) rfl dX6_kinds_93 ?_
                        refine lv_imul (pc := 96) hx hb dX6_kinds_96 ?_
                        refine lv_icmp_ne (pc := 97) hx hb (tgt := 109) dX6_kinds_97 (by decide) (fun c_97 => ?_) (fun c_97 => ?_)
                        · have hq44 := hf_f c_97 hq44
                          refine lv_iinc (pc := 109) hx hb (v := u6_44 + 1) (lv' := [(6, .int (u6_44 + 1)), (0, .ref (A 0)), (2, .int a2), (3, .ref (A 34)), (5, .int u5_44)]) dX6_kinds_109 hl (k := 4) rfl rfl (by decide) rfl (fun ls hl => ?_)
                          refine lv_goto (pc := 112) hx hb (tgt := 44) dX6_kinds_112 (by decide) ?_
                          exact ih44 u5_44 (u6_44 + 1) H locs ls hq44 hP hD hS (lv_sub hl [1, 2, 3, 4, 0] rfl)
                        · have hq44 := hf_t c_97 hq44
                          refine lv_iload (pc := 100) hx hb dX6_kinds_100 (lv_at hl 3 rfl) ?_
                          refine lv_iconst (pc := 102) hx hb (v := 1) dX6_kinds_102 (by decide) ?_
                          refine lv_iload (pc := 103) hx hb dX6_kinds_103 (lv_at hl 4 rfl) ?_
                          refine lv_ishl (pc := 105) hx hb dX6_kinds_105 ?_
                          refine lv_ior (pc := 106) hx hb dX6_kinds_106 ?_
                          refine lv_istore (pc := 107) hx hb (lv' := [(5, .int (u5_44 ||| (1 <<< (u6_44 &&& 31)))), (0, .ref (A 0)), (2, .int a2), (3, .ref (A 34)), (6, .int u6_44)]) dX6_kinds_107 hl (by decide) rfl (fun ls hl => ?_)
                          refine lv_iinc (pc := 109) hx hb (v := u6_44 + 1) (lv' := [(6, .int (u6_44 + 1)), (5, .int (u5_44 ||| (1 <<< (u6_44 &&& 31)))), (0, .ref (A 0)), (2, .int a2), (3, .ref (A 34))]) dX6_kinds_109 hl (k := 4) rfl rfl (by decide) rfl (fun ls hl => ?_)
                          refine lv_goto (pc := 112) hx hb (tgt := 44) dX6_kinds_112 (by decide) ?_
                          exact ih44 (u5_44 ||| (1 <<< (u6_44 &&& 31))) (u6_44 + 1) H locs ls hq44 hP hD hS (lv_sub hl [2, 3, 4, 1, 0] rfl)
              exact lp44 256 0 0 H locs ls hq44 hP hD hS (lv_sub hl [4, 6, 3, 1, 0] rfl)
            · have hf := hf_f c_32 hf
              refine lv_iload (pc := 35) hx hb dX6_kinds_35 (lv_at hl 0 rfl) ?_
              obtain rfl := Option.some.inj hf
              exact hR H locs 37 ls hP hD hS dX6_kinds_37
          · have hf := hf_f e21_2 hf
            by_cases e21_3 : a1 = (3 : Int32)
            · have hf := hf_t e21_3 hf
              refine vXrq_29_3 (pc := 21) hx hb hK hP e21_3 dX6_kinds_21 ?_
              refine lv_astore_n (pc := 22) hx hb (lv' := [(3, .ref (A 36)), (0, .ref (A 0)), (1, .int a1), (2, .int a2)]) dX6_kinds_22 rfl hl (by decide) rfl (fun ls hl => ?_)
              refine lv_aload_n (pc := 23) hx hb dX6_kinds_23 rfl (lv_at hl 1 rfl) ?_
              refine lv_aload_n (pc := 24) hx hb dX6_kinds_24 rfl (lv_at hl 0 rfl) ?_
              obtain ⟨r25, hc25, hf⟩ := hf_b hf
              refine cl_V (pc := 25) (As := [.ref (A 36)]) (rest := []) hx hb hml hown hts (kX6_unreadable_36 l D A B _ S r25 hc25) (cwV 1 hts gwRX6_231 rfl rfl rfl hdX6_unreadable ⟨Nat.le_of_ble_eq_true rfl, Nat.le_of_ble_eq_true rfl⟩) hN hK hP hD hS hA (va_recv hK hP (ci := 6) (q0 := 0) rfl (eX_0 A B _)) rfl hl.1 rfl (Nat.le_of_ble_eq_true rfl) dX6_kinds_25 (st1 := [.int r25]) rfl ⟨Nat.zero_le _, Nat.zero_le _⟩ (fun H locs hP hD hS => ?_)
              refine lv_istore (pc := 28) hx hb (lv' := [(4, .int r25), (3, .ref (A 36)), (0, .ref (A 0)), (1, .int a1), (2, .int a2)]) dX6_kinds_28 hl (by decide) rfl (fun ls hl => ?_)
              refine lv_iload (pc := 30) hx hb dX6_kinds_30 (lv_at hl 0 rfl) ?_
              refine lv_if_eq (pc := 32) hx hb (tgt := 38) dX6_kinds_32 (by decide) (fun c_32 => ?_) (fun c_32 => ?_)
              · have hf := hf_t c_32 hf
                refine lv_iconst (pc := 38) hx hb (v := 0) dX6_kinds_38 (by decide) ?_
                refine lv_istore (pc := 39) hx hb (lv' := [(5, .int 0), (4, .int r25), (3, .ref (A 36)), (0, .ref (A 0)), (1, .int a1), (2, .int a2)]) dX6_kinds_39 hl (by decide) rfl (fun ls hl => ?_)
                refine lv_iconst (pc := 41) hx hb (v := 0) dX6_kinds_41 (by decide) ?_
                refine lv_istore (pc := 42) hx hb (lv' := [(6, .int 0), (5, .int 0), (4, .int r25), (3, .ref (A 36)), (0, .ref (A 0)), (1, .int a1), (2, .int a2)]) dX6_kinds_42 hl (by decide) rfl (fun ls hl => ?_)
                obtain ⟨q44, hq44, hf⟩ := hf_b hf
                have hk44 : ∀ (H : Heap) (locs : List Loc) (ls : Array Slot), va_P D vwCl (wX A B S) H → va_D Ad (wX A B S) → va_S Ad s.heap H locs → lv_has ls 7 [(5, .int q44)] → W p l e rm_X6_kinds s m args below meth c H locs 0 0 Q (F0 m 115 ls []) := by
                  intro H locs ls hP hD hS hl
                  refine lv_iload (pc := 115) hx hb dX6_kinds_115 (lv_at hl 0 rfl) ?_
                  obtain rfl := Option.some.inj hf
                  exact hR H locs 117 ls hP hD hS dX6_kinds_117
                have lp44 : ∀ (n : Nat) (u5_44 : Int32) (u6_44 : Int32) (H : Heap) (locs : List Loc) (ls : Array Slot), fX6_kinds_L44_36 S a2 n u5_44 u6_44 = some q44 → va_P D vwCl (wX A B S) H → va_D Ad (wX A B S) → va_S Ad s.heap H locs → lv_has ls 7 [(0, .ref (A 0)), (2, .int a2), (3, .ref (A 36)), (5, .int u5_44), (6, .int u6_44)] → W p l e rm_X6_kinds s m args below meth c H locs 0 0 Q (F0 m 44 ls []) := by
                  intro n44
                  induction n44 with
                  | zero => intro u5_44 u6_44 H locs ls hq44; exact hf_0 hq44
                  | succ n44 ih44 =>
                    intro u5_44 u6_44 H locs ls hq44 hP hD hS hl
                    rw [fX6_kinds_L44_36] at hq44
                    refine lv_iload (pc := 44) hx hb dX6_kinds_44 (lv_at hl 4 rfl) ?_
                    refine lv_bipush (pc := 46) hx hb (v := 7) dX6_kinds_46 (by decide) ?_
                    refine lv_icmp_ge (pc := 48) hx hb (tgt := 115) dX6_kinds_48 (by decide) (fun c_48 => ?_) (fun c_48 => ?_)
                    · have hq44 := hf_t c_48 hq44
                      obtain rfl := Option.some.inj hq44
                      exact hk44 H locs ls hP hD hS (lv_sub hl [3] rfl)
                    · have hq44 := hf_f c_48 hq44
                      refine lv_aload_n (pc := 51) hx hb dX6_kinds_51 rfl (lv_at hl 0 rfl) ?_
                      refine vXgRX6_10_0 (pc := 52) hx hb hts mU_16 inU6 hown hK hP dX6_kinds_52 ?_
                      refine lv_iload (pc := 55) hx hb dX6_kinds_55 (lv_at hl 4 rfl) ?_
                      obtain ⟨r57, hc57, hq44⟩ := hf_b hq44
                      refine cl_V (pc := 57) (As := [.int u6_44]) (rest := []) hx hb hml hown hts (kX4_hasRight_1 l D A B _ S u6_44 r57 hc57) (cwV 1 hts gwRX6_137 rfl rfl rfl hdX4_hasRight ⟨Nat.le_of_ble_eq_true rfl, Nat.le_of_ble_eq_true rfl⟩) hN hK hP hD hS hA (va_recv hK hP (ci := 4) (q0 := 1) rfl (eX_1 A B _)) rfl hl.1 rfl (Nat.le_of_ble_eq_true rfl) dX6_kinds_57 (st1 := [.int r57]) rfl ⟨Nat.zero_le _, Nat.zero_le _⟩ (fun H locs hP hD hS => ?_)
                      refine lv_if_eq (pc := 60) hx hb (tgt := 109) dX6_kinds_60 (by decide) (fun c_60 => ?_) (fun c_60 => ?_)
                      · have hq44 := hf_t c_60 hq44
                        refine lv_iinc (pc := 109) hx hb (v := u6_44 + 1) (lv' := [(6, .int (u6_44 + 1)), (0, .ref (A 0)), (2, .int a2), (3, .ref (A 36)), (5, .int u5_44)]) dX6_kinds_109 hl (k := 4) rfl rfl (by decide) rfl (fun ls hl => ?_)
                        refine lv_goto (pc := 112) hx hb (tgt := 44) dX6_kinds_112 (by decide) ?_
                        exact ih44 u5_44 (u6_44 + 1) H locs ls hq44 hP hD hS (lv_sub hl [1, 2, 3, 4, 0] rfl)
                      · have hq44 := hf_f c_60 hq44
                        refine lv_aload_n (pc := 63) hx hb dX6_kinds_63 rfl (lv_at hl 0 rfl) ?_
                        refine lv_iload (pc := 64) hx hb dX6_kinds_64 (lv_at hl 4 rfl) ?_
                        refine lv_aload_n (pc := 66) hx hb dX6_kinds_66 rfl (lv_at hl 2 rfl) ?_
                        obtain ⟨r67, hc67, hq44⟩ := hf_b hq44
                        refine cl_V (pc := 67) (As := [.int u6_44, .ref (A 36)]) (rest := []) hx hb hml hown hts (kX6_isOfShape_36 l D A B _ S u6_44 r67 hc67) (cwV 2 hts gwRX6_239 rfl rfl rfl hdX6_isOfShape ⟨Nat.le_of_ble_eq_true rfl, Nat.le_of_ble_eq_true rfl⟩) hN hK hP hD hS hA (va_recv hK hP (ci := 6) (q0 := 0) rfl (eX_0 A B _)) rfl hl.1 rfl (Nat.le_of_ble_eq_true rfl) dX6_kinds_67 (st1 := [.int r67]) rfl ⟨Nat.zero_le _, Nat.zero_le _⟩ (fun H locs hP hD hS => ?_)
                        refine lv_if_eq (pc := 70) hx hb (tgt := 109) dX6_kinds_70 (by decide) (fun c_70 => ?_) (fun c_70 => ?_)
                        · have hq44 := hf_t c_70 hq44
                          refine lv_iinc (pc := 109) hx hb (v := u6_44 + 1) (lv' := [(6, .int (u6_44 + 1)), (0, .ref (A 0)), (2, .int a2), (3, .ref (A 36)), (5, .int u5_44)]) dX6_kinds_109 hl (k := 4) rfl rfl (by decide) rfl (fun ls hl => ?_)
                          refine lv_goto (pc := 112) hx hb (tgt := 44) dX6_kinds_112 (by decide) ?_
                          exact ih44 u5_44 (u6_44 + 1) H locs ls hq44 hP hD hS (lv_sub hl [1, 2, 3, 4, 0] rfl)
                        · have hq44 := hf_f c_70 hq44
                          refine lv_aload_n (pc := 73) hx hb dX6_kinds_73 rfl (lv_at hl 0 rfl) ?_
                          refine lv_iload (pc := 74) hx hb dX6_kinds_74 (lv_at hl 4 rfl) ?_
                          refine lv_iload_n (pc := 76) hx hb dX6_kinds_76 rfl (lv_at hl 1 rfl) ?_
                          refine lv_aload_n (pc := 77) hx hb dX6_kinds_77 rfl (lv_at hl 2 rfl) ?_
                          refine lv_iconst (pc := 78) hx hb (v := 1) dX6_kinds_78 (by decide) ?_
                          obtain ⟨r79, hc79, hq44⟩ := hf_b hq44
                          refine cl_V (pc := 79) (As := [.int u6_44, .int a2, .ref (A 36), .int 1]) (rest := []) hx hb hml hown hts (kX6_firstWrong_36 l D A B _ S u6_44 a2 1 r79 hc79) (cwV 4 hts gwRX6_235 rfl rfl rfl hdX6_firstWrong ⟨Nat.le_of_ble_eq_true rfl, Nat.le_of_ble_eq_true rfl⟩) hN hK hP hD hS hA (va_recv hK hP (ci := 6) (q0 := 0) rfl (eX_0 A B _)) rfl hl.1 rfl (Nat.le_of_ble_eq_true rfl) dX6_kinds_79 (st1 := [.int r79]) rfl ⟨Nat.zero_le _, Nat.zero_le _⟩ (fun H locs hP hD hS => ?_)
                          refine lv_aload_n (pc := 82) hx hb dX6_kinds_82 rfl (lv_at hl 0 rfl) ?_
                          refine vXgRX6_10_0 (pc := 83) hx hb hts mU_16 inU6 hown hK hP dX6_kinds_83 ?_
                          refine vXgRX6_60_1 (pc := 86) hx hb hts mU_111 inU4 hown hK hP (x := (gI S 0)) rfl dX6_kinds_86 ?_
                          refine lv_aload_n (pc := 89) hx hb dX6_kinds_89 rfl (lv_at hl 0 rfl) ?_
                          refine vXgRX6_10_0 (pc := 90) hx hb hts mU_16 inU6 hown hK hP dX6_kinds_90 ?_
                          refine vXgRX6_64_1 (pc := 93) hx hb hts mU_112 inU4 hown hK hP (x := (gI S 1)) rfl dX6_kinds_93 ?_
                          refine lv_imul (pc := 96) hx hb dX6_kinds_96 ?_
                          refine lv_icmp_ne (pc := 97) hx hb (tgt := 109) dX6_kinds_97 (by decide) (fun c_97 => ?_) (fun c_97 => ?_)
                          · have hq44 := hf_f c_97 hq44
                            refine lv_iinc (pc := 109) hx hb (v := u6_44 + 1) (lv' := [(6, .int (u6_44 + 1)), (0, .ref (A 0)), (2, .int a2), (3, .ref (A 36)), (5, .int u5_44)]) dX6_kinds_109 hl (k := 4) rfl rfl (by decide) rfl (fun ls hl => ?_)
                            refine lv_goto (pc := 112) hx hb (tgt := 44) dX6_kinds_112 (by decide) ?_
                            exact ih44 u5_44 (u6_44 + 1) H locs ls hq44 hP hD hS (lv_sub hl [1, 2, 3, 4, 0] rfl)
                          · have hq44 := hf_t c_97 hq44
                            refine lv_iload (pc := 100) hx hb dX6_kinds_100 (lv_at hl 3 rfl) ?_
                            refine lv_iconst (pc := 102) hx hb (v := 1) dX6_kinds_102 (by decide) ?_
                            refine lv_iload (pc := 103) hx hb dX6_kinds_103 (lv_at hl 4 rfl) ?_
                            refine lv_ishl (pc := 105) hx hb dX6_kinds_105 ?_
                            refine lv_ior (pc := 106) hx hb dX6_kinds_106 ?_
                            refine lv_istore (pc := 107) hx hb (lv' := [(5, .int (u5_44 ||| (1 <<< (u6_44 &&& 31)))), (0, .ref (A 0)), (2, .int a2), (3, .ref (A 36)), (6, .int u6_44)]) dX6_kinds_107 hl (by decide) rfl (fun ls hl => ?_)
                            refine lv_iinc (pc := 109) hx hb (v := u6_44 + 1) (lv' := [(6, .int (u6_44 + 1)), (5, .int (u5_44 ||| (1 <<< (u6_44 &&& 31)))), (0, .ref (A 0)), (2, .int a2), (3, .ref (A 36))]) dX6_kinds_109 hl (k := 4) rfl rfl (by decide) rfl (fun ls hl => ?_)
                            refine lv_goto (pc := 112) hx hb (tgt := 44) dX6_kinds_112 (by decide) ?_
                            exact ih44 (u5_44 ||| (1 <<< (u6_44 &&& 31))) (u6_44 + 1) H locs ls hq44 hP hD hS (lv_sub hl [2, 3, 4, 1, 0] rfl)
                exact lp44 256 0 0 H locs ls hq44 hP hD hS (lv_sub hl [4, 6, 3, 1, 0] rfl)
              · have hf := hf_f c_32 hf
                refine lv_iload (pc := 35) hx hb dX6_kinds_35 (lv_at hl 0 rfl) ?_
                obtain rfl := Option.some.inj hf
                exact hR H locs 37 ls hP hD hS dX6_kinds_37
            · have hf := hf_f e21_3 hf
              exact hf_0 hf
    · have hf := hf_t c_11 hf
      refine lv_iconst (pc := 14) hx hb (v := (-1)) dX6_kinds_14 (by decide) ?_
      obtain rfl := Option.some.inj hf
      exact hR H locs 15 ls hP hD hS dX6_kinds_15
set_option maxHeartbeats 4000000 in
set_option maxRecDepth 100000 in
theorem kX6_ratio (l : Launch) (D : va_G) (A : Nat → Nat) (B : Nat → ClassId) (sz : Nat) (S : w_S) (a1 : Int64) (a3 : Int64) (a5 : Int32) (z : Int64) (hf : fX6_ratio a1 a3 a5 = some z) : MetW l yX6_ratio (wsO yX6_ratio cX6_ratio 6 (some .long)) rm_X6_ratio [.ref (A 0), .long a1, .long a3, .int a5] D (tyB B) (wX A B S) (wX A B S) sz (some (.long z)) := by
  refine MetW.mkL (cc := cX6_ratio) (maxL := 6) (by decide) (Nat.le_of_ble_eq_true rfl) ?_
  intro p e s m args below meth c Ad Q hx hb hts hown hml hN hK hA hR H locs ls hP hD hS hl
  have hl : lv_has ls 6 [(0, .ref (A 0)), (1, .long a1), (3, .long a3), (5, .int a5)] := hl
  rw [fX6_ratio] at hf
  refine lv_iload (pc := 0) hx hb dX6_ratio_0 (lv_at hl 3 rfl) ?_
  obtain ⟨r2, hc2, hf⟩ := hf_b hf
  refine cl_S (pc := 2) (As := [.int a5]) (rest := []) hx hb hml hown hts (kX6_isPart l D A B _ S a5 r2 hc2) (va_cwS 1 hts gwRX6_165 rfl rfl rfl hdX6_isPart ⟨Nat.le_of_ble_eq_true rfl, Nat.le_of_ble_eq_true rfl⟩) hN hK hP hD hS hA rfl hl.1 rfl (Nat.le_of_ble_eq_true rfl) dX6_ratio_2 (st1 := [.int r2]) rfl ⟨Nat.zero_le _, Nat.zero_le _⟩ (fun H locs hP hD hS => ?_)
  refine lv_if_ne (pc := 5) hx hb (tgt := 13) dX6_ratio_5 (by decide) (fun c_5 => ?_) (fun c_5 => ?_)
  · have hf := hf_f c_5 hf
    refine lv_lload_n (pc := 13) hx hb dX6_ratio_13 rfl (lv_at hl 1 rfl) ?_
    refine lv_lload_n (pc := 14) hx hb dX6_ratio_14 rfl (lv_at hl 2 rfl) ?_
    refine lv_iload (pc := 15) hx hb dX6_ratio_15 (lv_at hl 3 rfl) ?_
    obtain ⟨r17, hc17, hf⟩ := hf_b hf
    refine cl_S (pc := 17) (As := [.long a1, .long a3, .int a5]) (rest := []) hx hb hml hown hts (kX6_fractionPart l D A B _ S a1 a3 a5 r17 hc17) (va_cwS 3 hts gwRX6_176 rfl rfl rfl hdX6_fractionPart ⟨Nat.le_of_ble_eq_true rfl, Nat.le_of_ble_eq_true rfl⟩) hN hK hP hD hS hA rfl hl.1 rfl (Nat.le_of_ble_eq_true rfl) dX6_ratio_17 (st1 := [.long r17]) rfl ⟨Nat.zero_le _, Nat.zero_le _⟩ (fun H locs hP hD hS => ?_)
    obtain rfl := Option.some.inj hf
    exact hR H locs 20 ls hP hD hS dX6_ratio_20
  · have hf := hf_t c_5 hf
    refine lv_iconst (pc := 8) hx hb (v := (-1)) dX6_ratio_8 (by decide) ?_
    obtain ⟨r9, hc9, hf⟩ := hf_b hf
    refine cl_S (pc := 9) (As := [.int (-1)]) (rest := []) hx hb hml hown hts (kX6_far l D A B _ S (-1) r9 hc9) (va_cwS 1 hts gwRX6_87 rfl rfl rfl hdX6_far ⟨Nat.le_of_ble_eq_true rfl, Nat.le_of_ble_eq_true rfl⟩) hN hK hP hD hS hA rfl hl.1 rfl (Nat.le_of_ble_eq_true rfl) dX6_ratio_9 (st1 := [.long r9]) rfl ⟨Nat.zero_le _, Nat.zero_le _⟩ (fun H locs hP hD hS => ?_)
    obtain rfl := Option.some.inj hf
    exact hR H locs 12 ls hP hD hS dX6_ratio_12
set_option maxHeartbeats 4000000 in
set_option maxRecDepth 100000 in
theorem kX6_seed (l : Launch) (D : va_G) (A : Nat → Nat) (B : Nat → ClassId) (sz : Nat) (S : w_S) (a1 : Int32) (z : Int32 × w_S) (hf : fX6_seed S a1 = some z) : MetW l yX6_seed (wsO yX6_seed cX6_seed 3 (some .int)) rm_X6_seed [.ref (A 0), .int a1] D (tyB B) (wX A B S) (wX A B z.2) sz (some (.int z.1)) := by
  refine MetW.mkI (cc := cX6_seed) (maxL := 3) (by decide) (Nat.le_of_ble_eq_true rfl) ?_
  intro p e s m args below meth c Ad Q hx hb hts hown hml hN hK hA hR H locs ls hP hD hS hl
  have hl : lv_has ls 3 [(0, .ref (A 0)), (1, .int a1)] := hl
  rw [fX6_seed] at hf
  refine lv_aload_n (pc := 0) hx hb dX6_seed_0 rfl (lv_at hl 0 rfl) ?_
  refine vXgRX6_10_0 (pc := 1) hx hb hts mU_16 inU6 hown hK hP dX6_seed_1 ?_
  refine vXgRX6_243_1 (pc := 4) hx hb hts mU_852 inU4 hown hK hP (x := (gI S 2)) rfl dX6_seed_4 ?_
  refine lv_istore_n (pc := 7) hx hb (lv' := [(2, .int (gI S 2)), (0, .ref (A 0)), (1, .int a1)]) dX6_seed_7 rfl hl (by decide) rfl (fun ls hl => ?_)
  refine lv_aload_n (pc := 8) hx hb dX6_seed_8 rfl (lv_at hl 1 rfl) ?_
  refine vXgRX6_10_0 (pc := 9) hx hb hts mU_16 inU6 hown hK hP dX6_seed_9 ?_
  refine lv_iload_n (pc := 12) hx hb dX6_seed_12 rfl (lv_at hl 2 rfl) ?_
  refine vXpRX6_243_1 (pc := 13) hx hb hts mU_852 inU4 hown hK hP hD hS dX6_seed_13 (fun H locs hP hD hS => ?_)
  refine lv_iload_n (pc := 16) hx hb dX6_seed_16 rfl (lv_at hl 0 rfl) ?_
  obtain rfl := Option.some.inj hf
  exact hR H locs 17 ls hP hD hS dX6_seed_17
set_option maxHeartbeats 4000000 in
set_option maxRecDepth 100000 in
theorem kX4_drawTable_1 (l : Launch) (D : va_G) (A : Nat → Nat) (B : Nat → ClassId) (sz : Nat) (S : w_S) (a1 : Int32) (z : w_S) (hf : fX4_drawTable_1 S a1 = some z) : MetW l yX4_drawTable (wsO yX4_drawTable cX4_drawTable 4 none) rm_X4_drawTable [.ref (A 1), .int a1] D (tyB B) (wX A B S) (wX A B z) sz (none) := by
  refine MetW.mkV (cc := cX4_drawTable) (maxL := 4) (by decide) (Nat.le_of_ble_eq_true rfl) ?_
  intro p e s m args below meth c Ad Q hx hb hts hown hml hN hK hA hR H locs ls hP hD hS hl
  have hl : lv_has ls 4 [(0, .ref (A 1)), (1, .int a1)] := hl
  rw [fX4_drawTable_1] at hf
  refine lv_iconst (pc := 0) hx hb (v := 0) dX4_drawTable_0 (by decide) ?_
  refine lv_istore_n (pc := 1) hx hb (lv' := [(2, .int 0), (0, .ref (A 1)), (1, .int a1)]) dX4_drawTable_1 rfl hl (by decide) rfl (fun ls hl => ?_)
  obtain ⟨q2, hq2, hf⟩ := hf_b hf
  have hk2 : ∀ (H : Heap) (locs : List Loc) (ls : Array Slot), va_P D vwCl (wX A B q2) H → va_D Ad (wX A B q2) → va_S Ad s.heap H locs → lv_has ls 4 [] → W p l e rm_X4_drawTable s m args below meth c H locs 0 0 Q (F0 m 89 ls []) := by
    intro H locs ls hP hD hS hl
    obtain rfl := Option.some.inj hf
    exact hR H locs 89 ls hP hD hS dX4_drawTable_89
  have lp2 : ∀ (n : Nat) (T2 : w_S) (u2_2 : Int32) (H : Heap) (locs : List Loc) (ls : Array Slot), fX4_drawTable_1_L2 a1 n T2 u2_2 = some q2 → va_P D vwCl (wX A B T2) H → va_D Ad (wX A B T2) → va_S Ad s.heap H locs → lv_has ls 4 [(0, .ref (A 1)), (1, .int a1), (2, .int u2_2)] → W p l e rm_X4_drawTable s m args below meth c H locs 0 0 Q (F0 m 2 ls []) := by
    intro n2
    induction n2 with
    | zero => intro T2 u2_2 H locs ls hq2; exact hf_0 hq2
    | succ n2 ih2 =>
      intro T2 u2_2 H locs ls hq2 hP hD hS hl
      rw [fX4_drawTable_1_L2] at hq2
      refine lv_iload_n (pc := 2) hx hb dX4_drawTable_2 rfl (lv_at hl 2 rfl) ?_
      refine lv_aload_n (pc := 3) hx hb dX4_drawTable_3 rfl (lv_at hl 0 rfl) ?_
      refine lv_iload_n (pc := 4) hx hb dX4_drawTable_4 rfl (lv_at hl 1 rfl) ?_
      obtain ⟨r5, hc5, hq2⟩ := hf_b hq2
      refine cl_V (pc := 5) (As := [.int a1]) (rest := [.int u2_2]) hx hb hml hown hts (kX4_rows_1 l D A B _ T2 a1 r5 hc5) (cwV 1 hts gwRX4_52 rfl rfl rfl hdX4_rows ⟨Nat.le_of_ble_eq_true rfl, Nat.le_of_ble_eq_true rfl⟩) hN hK hP hD hS hA (va_recv hK hP (ci := 4) (q0 := 1) rfl (eX_1 A B _)) rfl hl.1 rfl (Nat.le_of_ble_eq_true rfl) dX4_drawTable_5 (st1 := [.int r5, .int u2_2]) rfl ⟨Nat.zero_le _, Nat.zero_le _⟩ (fun H locs hP hD hS => ?_)
      refine lv_icmp_ge (pc := 8) hx hb (tgt := 89) dX4_drawTable_8 (by decide) (fun c_8 => ?_) (fun c_8 => ?_)
      · have hq2 := hf_t c_8 hq2
        obtain rfl := Option.some.inj hq2
        exact hk2 H locs ls hP hD hS (lv_sub hl [] rfl)
      · have hq2 := hf_f c_8 hq2
        refine lv_iconst (pc := 11) hx hb (v := 0) dX4_drawTable_11 (by decide) ?_
        refine lv_istore_n (pc := 12) hx hb (lv' := [(3, .int 0), (0, .ref (A 1)), (1, .int a1), (2, .int u2_2)]) dX4_drawTable_12 rfl hl (by decide) rfl (fun ls hl => ?_)
        obtain ⟨q13, hq13, hq2⟩ := hf_b hq2
        have hk13 : ∀ (H : Heap) (locs : List Loc) (ls : Array Slot), va_P D vwCl (wX A B q13) H → va_D Ad (wX A B q13) → va_S Ad s.heap H locs → lv_has ls 4 [(0, .ref (A 1)), (1, .int a1), (2, .int u2_2)] → W p l e rm_X4_drawTable s m args below meth c H locs 0 0 Q (F0 m 83 ls []) := by
          intro H locs ls hP hD hS hl
          refine lv_iinc (pc := 83) hx hb (v := u2_2 + 1) (lv' := [(2, .int (u2_2 + 1)), (0, .ref (A 1)), (1, .int a1)]) dX4_drawTable_83 hl (k := 2) rfl rfl (by decide) rfl (fun ls hl => ?_)
          refine lv_goto (pc := 86) hx hb (tgt := 2) dX4_drawTable_86 (by decide) ?_
          exact ih2 q13 (u2_2 + 1) H locs ls hq2 hP hD hS (lv_sub hl [1, 2, 0] rfl)
        have lp13 : ∀ (n : Nat) (T13 : w_S) (u3_13 : Int32) (H : Heap) (locs : List Loc) (ls : Array Slot), fX4_drawTable_1_L13 a1 u2_2 n T13 u3_13 = some q13 → va_P D vwCl (wX A B T13) H → va_D Ad (wX A B T13) → va_S Ad s.heap H locs → lv_has ls 4 [(0, .ref (A 1)), (1, .int a1), (2, .int u2_2), (3, .int u3_13)] → W p l e rm_X4_drawTable s m args below meth c H locs 0 0 Q (F0 m 13 ls []) := by
          intro n13
          induction n13 with
          | zero => intro T13 u3_13 H locs ls hq13; exact hf_0 hq13
          | succ n13 ih13 =>
            intro T13 u3_13 H locs ls hq13 hP hD hS hl
            rw [fX4_drawTable_1_L13] at hq13
            refine lv_iload_n (pc := 13) hx hb dX4_drawTable_13 rfl (lv_at hl 3 rfl) ?_
            refine lv_aload_n (pc := 14) hx hb dX4_drawTable_14 rfl (lv_at hl 0 rfl) ?_
            refine lv_iload_n (pc := 15) hx hb dX4_drawTable_15 rfl (lv_at hl 1 rfl) ?_
            obtain ⟨r16, hc16, hq13⟩ := hf_b hq13
            refine cl_V (pc := 16) (As := [.int a1]) (rest := [.int u3_13]) hx hb hml hown hts (kX4_columns_1 l D A B _ T13 a1 r16 hc16) (cwV 1 hts gwRX4_56 rfl rfl rfl hdX4_columns ⟨Nat.le_of_ble_eq_true rfl, Nat.le_of_ble_eq_true rfl⟩) hN hK hP hD hS hA (va_recv hK hP (ci := 4) (q0 := 1) rfl (eX_1 A B _)) rfl hl.1 rfl (Nat.le_of_ble_eq_true rfl) dX4_drawTable_16 (st1 := [.int r16, .int u3_13]) rfl ⟨Nat.zero_le _, Nat.zero_le _⟩ (fun H locs hP hD hS => ?_)
            refine lv_icmp_ge (pc := 19) hx hb (tgt := 83) dX4_drawTable_19 (by decide) (fun c_19 => ?_) (fun c_19 => ?_)
            · have hq13 := hf_t c_19 hq13
              obtain rfl := Option.some.inj hq13
              exact hk13 H locs ls hP hD hS (lv_sub hl [0, 1, 2] rfl)
            · have hq13 := hf_f c_19 hq13
              refine lv_aload_n (pc := 22) hx hb dX4_drawTable_22 rfl (lv_at hl 0 rfl) ?_
              refine lv_aload_n (pc := 23) hx hb dX4_drawTable_23 rfl (lv_at hl 0 rfl) ?_
              refine vXgRX4_18_1 (pc := 24) hx hb hts mU_45 inU4 hown hK hP (x := (gI T13 2)) rfl dX4_drawTable_24 ?_
              refine lv_ldc (pc := 27) hx hb (v := 1103515245) hown (hts (.constant RX4 79 (1103515245)) mU_869) dX4_drawTable_27 ?_
              refine lv_imul (pc := 29) hx hb dX4_drawTable_29 ?_
              refine lv_sipush (pc := 30) hx hb (v := 12345) dX4_drawTable_30 (by decide) ?_
              refine lv_iadd (pc := 33) hx hb dX4_drawTable_33 ?_
              refine vXpRX4_18_1 (pc := 34) hx hb hts mU_45 inU4 hown hK hP hD hS dX4_drawTable_34 (fun H locs hP hD hS => ?_)
              refine lv_aload_n (pc := 37) hx hb dX4_drawTable_37 rfl (lv_at hl 0 rfl) ?_
              refine lv_iload_n (pc := 38) hx hb dX4_drawTable_38 rfl (lv_at hl 1 rfl) ?_
              refine lv_iload_n (pc := 39) hx hb dX4_drawTable_39 rfl (lv_at hl 2 rfl) ?_
              refine lv_iload_n (pc := 40) hx hb dX4_drawTable_40 rfl (lv_at hl 3 rfl) ?_
              refine lv_iload_n (pc := 41) hx hb dX4_drawTable_41 rfl (lv_at hl 1 rfl) ?_
              refine lv_iconst (pc := 42) hx hb (v := 2) dX4_drawTable_42 (by decide) ?_
              refine lv_icmp_ne (pc := 43) hx hb (tgt := 62) dX4_drawTable_43 (by decide) (fun c_43 => ?_) (fun c_43 => ?_)
              · have hq13 := hf_f c_43 hq13
                refine lv_aload_n (pc := 62) hx hb dX4_drawTable_62 rfl (lv_at hl 0 rfl) ?_
                refine vXgRX4_18_1 (pc := 63) hx hb hts mU_45 inU4 hown hK hP (x := ((gI T13 2) * 1103515245) + 12345) rfl dX4_drawTable_63 ?_
                refine lv_bipush (pc := 66) hx hb (v := 16) dX4_drawTable_66 (by decide) ?_
                refine lv_iushr (pc := 68) hx hb (v := ((((gI T13 2) * 1103515245) + 12345).toUInt32 >>> ((16 : Int32).toUInt32 &&& Int32.toUInt32 31)).toInt32) dX4_drawTable_68 rfl ?_
                refine lv_bipush (pc := 69) hx hb (v := 11) dX4_drawTable_69 (by decide) ?_
                refine lv_irem (pc := 71) hx hb dX4_drawTable_71 (by decide) ?_
                refine lv_iconst (pc := 72) hx hb (v := 5) dX4_drawTable_72 (by decide) ?_
                refine lv_isub (pc := 73) hx hb dX4_drawTable_73 ?_
                obtain ⟨r74, hc74, hq13⟩ := hf_b hq13
                refine cl_V (pc := 74) (As := [.int a1, .int u2_2, .int u3_13, .int (((((((gI T13 2) * 1103515245) + 12345).toUInt32 >>> ((16 : Int32).toUInt32 &&& Int32.toUInt32 31)).toInt32) - (((((gI T13 2) * 1103515245) + 12345).toUInt32 >>> ((16 : Int32).toUInt32 &&& Int32.toUInt32 31)).toInt32) / 11 * 11) - 5)]) (rest := []) hx hb hml hown hts (kX4_store_1 l D A B _ (sI T13 2 (((gI T13 2) * 1103515245) + 12345)) a1 u2_2 u3_13 (((((((gI T13 2) * 1103515245) + 12345).toUInt32 >>> ((16 : Int32).toUInt32 &&& Int32.toUInt32 31)).toInt32) - (((((gI T13 2) * 1103515245) + 12345).toUInt32 >>> ((16 : Int32).toUInt32 &&& Int32.toUInt32 31)).toInt32) / 11 * 11) - 5) r74 hc74) (cwV 4 hts gwRX4_80 rfl rfl rfl hdX4_store ⟨Nat.le_of_ble_eq_true rfl, Nat.le_of_ble_eq_true rfl⟩) hN hK hP hD hS hA (va_recv hK hP (ci := 4) (q0 := 1) rfl (eX_1 A B _)) rfl hl.1 rfl (Nat.le_of_ble_eq_true rfl) dX4_drawTable_74 (st1 := []) rfl ⟨Nat.zero_le _, Nat.zero_le _⟩ (fun H locs hP hD hS => ?_)
                refine lv_iinc (pc := 77) hx hb (v := u3_13 + 1) (lv' := [(3, .int (u3_13 + 1)), (0, .ref (A 1)), (1, .int a1), (2, .int u2_2)]) dX4_drawTable_77 hl (k := 3) rfl rfl (by decide) rfl (fun ls hl => ?_)
                refine lv_goto (pc := 80) hx hb (tgt := 13) dX4_drawTable_80 (by decide) ?_
                exact ih13 r74 (u3_13 + 1) H locs ls hq13 hP hD hS (lv_sub hl [1, 2, 3, 0] rfl)
              · have hq13 := hf_t c_43 hq13
                refine lv_aload_n (pc := 46) hx hb dX4_drawTable_46 rfl (lv_at hl 0 rfl) ?_
                refine vXgRX4_18_1 (pc := 47) hx hb hts mU_45 inU4 hown hK hP (x := ((gI T13 2) * 1103515245) + 12345) rfl dX4_drawTable_47 ?_
                refine lv_bipush (pc := 50) hx hb (v := 16) dX4_drawTable_50 (by decide) ?_
                refine lv_iushr (pc := 52) hx hb (v := ((((gI T13 2) * 1103515245) + 12345).toUInt32 >>> ((16 : Int32).toUInt32 &&& Int32.toUInt32 31)).toInt32) dX4_drawTable_52 rfl ?_
                refine lv_bipush (pc := 53) hx hb (v := 101) dX4_drawTable_53 (by decide) ?_
                refine lv_irem (pc := 55) hx hb dX4_drawTable_55 (by decide) ?_
                refine lv_bipush (pc := 56) hx hb (v := 50) dX4_drawTable_56 (by decide) ?_
                refine lv_isub (pc := 58) hx hb dX4_drawTable_58 ?_
                refine lv_goto (pc := 59) hx hb (tgt := 74) dX4_drawTable_59 (by decide) ?_
                obtain ⟨r74, hc74, hq13⟩ := hf_b hq13
                refine cl_V (pc := 74) (As := [.int a1, .int u2_2, .int u3_13, .int (((((((gI T13 2) * 1103515245) + 12345).toUInt32 >>> ((16 : Int32).toUInt32 &&& Int32.toUInt32 31)).toInt32) - (((((gI T13 2) * 1103515245) + 12345).toUInt32 >>> ((16 : Int32).toUInt32 &&& Int32.toUInt32 31)).toInt32) / 101 * 101) - 50)]) (rest := []) hx hb hml hown hts (kX4_store_1 l D A B _ (sI T13 2 (((gI T13 2) * 1103515245) + 12345)) a1 u2_2 u3_13 (((((((gI T13 2) * 1103515245) + 12345).toUInt32 >>> ((16 : Int32).toUInt32 &&& Int32.toUInt32 31)).toInt32) - (((((gI T13 2) * 1103515245) + 12345).toUInt32 >>> ((16 : Int32).toUInt32 &&& Int32.toUInt32 31)).toInt32) / 101 * 101) - 50) r74 hc74) (cwV 4 hts gwRX4_80 rfl rfl rfl hdX4_store ⟨Nat.le_of_ble_eq_true rfl, Nat.le_of_ble_eq_true rfl⟩) hN hK hP hD hS hA (va_recv hK hP (ci := 4) (q0 := 1) rfl (eX_1 A B _)) rfl hl.1 rfl (Nat.le_of_ble_eq_true rfl) dX4_drawTable_74 (st1 := []) rfl ⟨Nat.zero_le _, Nat.zero_le _⟩ (fun H locs hP hD hS => ?_)
                refine lv_iinc (pc := 77) hx hb (v := u3_13 + 1) (lv' := [(3, .int (u3_13 + 1)), (0, .ref (A 1)), (1, .int a1), (2, .int u2_2)]) dX4_drawTable_77 hl (k := 3) rfl rfl (by decide) rfl (fun ls hl => ?_)
                refine lv_goto (pc := 80) hx hb (tgt := 13) dX4_drawTable_80 (by decide) ?_
                exact ih13 r74 (u3_13 + 1) H locs ls hq13 hP hD hS (lv_sub hl [1, 2, 3, 0] rfl)
        exact lp13 256 T2 0 H locs ls hq13 hP hD hS (lv_sub hl [1, 2, 3, 0] rfl)
  exact lp2 256 S 0 H locs ls hq2 hP hD hS (lv_sub hl [1, 2, 0] rfl)
set_option maxHeartbeats 4000000 in
set_option maxRecDepth 100000 in
theorem kX4_draw_1 (l : Launch) (D : va_G) (A : Nat → Nat) (B : Nat → ClassId) (sz : Nat) (S : w_S) (z : w_S) (hf : fX4_draw_1 S = some z) : MetW l yX4_draw (wsO yX4_draw cX4_draw 1 none) rm_X4_draw [.ref (A 1)] D (tyB B) (wX A B S) (wX A B z) sz (none) := by
  refine MetW.mkV (cc := cX4_draw) (maxL := 1) (by decide) (Nat.le_of_ble_eq_true rfl) ?_
  intro p e s m args below meth c Ad Q hx hb hts hown hml hN hK hA hR H locs ls hP hD hS hl
  have hl : lv_has ls 1 [(0, .ref (A 1))] := hl
  rw [fX4_draw_1] at hf
  refine lv_aload_n (pc := 0) hx hb dX4_draw_0 rfl (lv_at hl 0 rfl) ?_
  refine lv_iconst (pc := 1) hx hb (v := 0) dX4_draw_1 (by decide) ?_
  obtain ⟨r2, hc2, hf⟩ := hf_b hf
  refine cl_V (pc := 2) (As := [.int 0]) (rest := []) hx hb hml hown hts (kX4_drawTable_1 l D A B _ S 0 r2 hc2) (cwV 1 hts gwRX4_75 rfl rfl rfl hdX4_drawTable ⟨Nat.le_of_ble_eq_true rfl, Nat.le_of_ble_eq_true rfl⟩) hN hK hP hD hS hA (va_recv hK hP (ci := 4) (q0 := 1) rfl (eX_1 A B _)) rfl hl.1 rfl (Nat.le_of_ble_eq_true rfl) dX4_draw_2 (st1 := []) rfl ⟨Nat.zero_le _, Nat.zero_le _⟩ (fun H locs hP hD hS => ?_)
  refine lv_aload_n (pc := 5) hx hb dX4_draw_5 rfl (lv_at hl 0 rfl) ?_
  refine lv_iconst (pc := 6) hx hb (v := 1) dX4_draw_6 (by decide) ?_
  obtain ⟨r7, hc7, hf⟩ := hf_b hf
  refine cl_V (pc := 7) (As := [.int 1]) (rest := []) hx hb hml hown hts (kX4_drawTable_1 l D A B _ r2 1 r7 hc7) (cwV 1 hts gwRX4_75 rfl rfl rfl hdX4_drawTable ⟨Nat.le_of_ble_eq_true rfl, Nat.le_of_ble_eq_true rfl⟩) hN hK hP hD hS hA (va_recv hK hP (ci := 4) (q0 := 1) rfl (eX_1 A B _)) rfl hl.1 rfl (Nat.le_of_ble_eq_true rfl) dX4_draw_7 (st1 := []) rfl ⟨Nat.zero_le _, Nat.zero_le _⟩ (fun H locs hP hD hS => ?_)
  refine lv_aload_n (pc := 10) hx hb dX4_draw_10 rfl (lv_at hl 0 rfl) ?_
  refine lv_iconst (pc := 11) hx hb (v := 2) dX4_draw_11 (by decide) ?_
  obtain ⟨r12, hc12, hf⟩ := hf_b hf
  refine cl_V (pc := 12) (As := [.int 2]) (rest := []) hx hb hml hown hts (kX4_drawTable_1 l D A B _ r7 2 r12 hc12) (cwV 1 hts gwRX4_75 rfl rfl rfl hdX4_drawTable ⟨Nat.le_of_ble_eq_true rfl, Nat.le_of_ble_eq_true rfl⟩) hN hK hP hD hS hA (va_recv hK hP (ci := 4) (q0 := 1) rfl (eX_1 A B _)) rfl hl.1 rfl (Nat.le_of_ble_eq_true rfl) dX4_draw_12 (st1 := []) rfl ⟨Nat.zero_le _, Nat.zero_le _⟩ (fun H locs hP hD hS => ?_)
  obtain rfl := Option.some.inj hf
  exact hR H locs 15 ls hP hD hS dX4_draw_15
set_option maxHeartbeats 4000000 in
set_option maxRecDepth 100000 in
theorem kX6_lot (l : Launch) (D : va_G) (A : Nat → Nat) (B : Nat → ClassId) (sz : Nat) (S : w_S) (z : Int32 × w_S) (hf : fX6_lot S = some z) : MetW l yX6_lot (wsO yX6_lot cX6_lot 1 (some .int)) rm_X6_lot [.ref (A 0)] D (tyB B) (wX A B S) (wX A B z.2) sz (some (.int z.1)) := by
  refine MetW.mkI (cc := cX6_lot) (maxL := 1) (by decide) (Nat.le_of_ble_eq_true rfl) ?_
  intro p e s m args below meth c Ad Q hx hb hts hown hml hN hK hA hR H locs ls hP hD hS hl
  have hl : lv_has ls 1 [(0, .ref (A 0))] := hl
  rw [fX6_lot] at hf
  refine lv_aload_n (pc := 0) hx hb dX6_lot_0 rfl (lv_at hl 0 rfl) ?_
  refine vXgRX6_10_0 (pc := 1) hx hb hts mU_16 inU6 hown hK hP dX6_lot_1 ?_
  obtain ⟨r4, hc4, hf⟩ := hf_b hf
  refine cl_V (pc := 4) (As := []) (rest := []) hx hb hml hown hts (kX4_draw_1 l D A B _ S r4 hc4) (cwV 0 hts gwRX6_246 rfl rfl rfl hdX4_draw ⟨Nat.le_of_ble_eq_true rfl, Nat.le_of_ble_eq_true rfl⟩) hN hK hP hD hS hA (va_recv hK hP (ci := 4) (q0 := 1) rfl (eX_1 A B _)) rfl hl.1 rfl (Nat.le_of_ble_eq_true rfl) dX6_lot_4 (st1 := []) rfl ⟨Nat.zero_le _, Nat.zero_le _⟩ (fun H locs hP hD hS => ?_)
  refine lv_bipush (pc := 7) hx hb (v := 100) dX6_lot_7 (by decide) ?_
  refine lv_aload_n (pc := 9) hx hb dX6_lot_9 rfl (lv_at hl 0 rfl) ?_
  refine vXgRX6_10_0 (pc := 10) hx hb hts mU_16 inU6 hown hK hP dX6_lot_10 ?_
  refine lv_iconst (pc := 13) hx hb (v := 2) dX6_lot_13 (by decide) ?_
  refine lv_iconst (pc := 14) hx hb (v := 0) dX6_lot_14 (by decide) ?_
  refine lv_iconst (pc := 15) hx hb (v := 0) dX6_lot_15 (by decide) ?_
  obtain ⟨r16, hc16, hf⟩ := hf_b hf
  refine cl_V (pc := 16) (As := [.int 2, .int 0, .int 0]) (rest := [.int 100]) hx hb hml hown hts (kX4_entry_1 l D A B _ r4 2 0 0 r16 hc16) (cwV 3 hts gwRX6_79 rfl rfl rfl hdX4_entry ⟨Nat.le_of_ble_eq_true rfl, Nat.le_of_ble_eq_true rfl⟩) hN hK hP hD hS hA (va_recv hK hP (ci := 4) (q0 := 1) rfl (eX_1 A B _)) rfl hl.1 rfl (Nat.le_of_ble_eq_true rfl) dX6_lot_16 (st1 := [.int r16, .int 100]) rfl ⟨Nat.zero_le _, Nat.zero_le _⟩ (fun H locs hP hD hS => ?_)
  refine lv_iadd (pc := 19) hx hb dX6_lot_19 ?_
  obtain rfl := Option.some.inj hf
  exact hR H locs 20 ls hP hD hS dX6_lot_20
set_option maxHeartbeats 4000000 in
set_option maxRecDepth 100000 in
theorem kX6_times (l : Launch) (D : va_G) (A : Nat → Nat) (B : Nat → ClassId) (sz : Nat) (S : w_S) (a1 : Int32) (a2 : Int32) (z : Int32 × w_S) (hf : fX6_times S a1 a2 = some z) : MetW l yX6_times (wsO yX6_times cX6_times 5 (some .int)) rm_X6_times [.ref (A 0), .int a1, .int a2] D (tyB B) (wX A B S) (wX A B z.2) sz (some (.int z.1)) := by
  refine MetW.mkI (cc := cX6_times) (maxL := 5) (by decide) (Nat.le_of_ble_eq_true rfl) ?_
  intro p e s m args below meth c Ad Q hx hb hts hown hml hN hK hA hR H locs ls hP hD hS hl
  have hl : lv_has ls 5 [(0, .ref (A 0)), (1, .int a1), (2, .int a2)] := hl
  rw [fX6_times] at hf
  refine lv_aload_n (pc := 0) hx hb dX6_times_0 rfl (lv_at hl 0 rfl) ?_
  refine vXgRX6_10_0 (pc := 1) hx hb hts mU_16 inU6 hown hK hP dX6_times_1 ?_
  refine lv_iload_n (pc := 4) hx hb dX6_times_4 rfl (lv_at hl 1 rfl) ?_
  obtain ⟨r5, hc5, hf⟩ := hf_b hf
  refine cl_V (pc := 5) (As := [.int a1]) (rest := []) hx hb hml hown hts (kX4_hasEquation_1 l D A B _ S a1 r5 hc5) (cwV 1 hts gwRX6_125 rfl rfl rfl hdX4_hasEquation ⟨Nat.le_of_ble_eq_true rfl, Nat.le_of_ble_eq_true rfl⟩) hN hK hP hD hS hA (va_recv hK hP (ci := 4) (q0 := 1) rfl (eX_1 A B _)) rfl hl.1 rfl (Nat.le_of_ble_eq_true rfl) dX6_times_5 (st1 := [.int r5]) rfl ⟨Nat.zero_le _, Nat.zero_le _⟩ (fun H locs hP hD hS => ?_)
  refine lv_if_eq (pc := 8) hx hb (tgt := 22) dX6_times_8 (by decide) (fun c_8 => ?_) (fun c_8 => ?_)
  · have hf := hf_t c_8 hf
    refine lv_iconst (pc := 22) hx hb (v := (-1)) dX6_times_22 (by decide) ?_
    obtain rfl := Option.some.inj hf
    exact hR H locs 23 ls hP hD hS dX6_times_23
  · have hf := hf_f c_8 hf
    refine lv_iload_n (pc := 11) hx hb dX6_times_11 rfl (lv_at hl 2 rfl) ?_
    refine lv_iconst (pc := 12) hx hb (v := 1) dX6_times_12 (by decide) ?_
    refine lv_icmp_lt (pc := 13) hx hb (tgt := 22) dX6_times_13 (by decide) (fun c_13 => ?_) (fun c_13 => ?_)
    · have hf := hf_t c_13 hf
      refine lv_iconst (pc := 22) hx hb (v := (-1)) dX6_times_22 (by decide) ?_
      obtain rfl := Option.some.inj hf
      exact hR H locs 23 ls hP hD hS dX6_times_23
    · have hf := hf_f c_13 hf
      refine lv_iload_n (pc := 16) hx hb dX6_times_16 rfl (lv_at hl 2 rfl) ?_
      refine lv_bipush (pc := 17) hx hb (v := 30) dX6_times_17 (by decide) ?_
      refine lv_icmp_le (pc := 19) hx hb (tgt := 24) dX6_times_19 (by decide) (fun c_19 => ?_) (fun c_19 => ?_)
      · have hf := hf_t c_19 hf
        refine lv_aload_n (pc := 24) hx hb dX6_times_24 rfl (lv_at hl 0 rfl) ?_
        refine vXgRX6_10_0 (pc := 25) hx hb hts mU_16 inU6 hown hK hP dX6_times_25 ?_
        refine lv_aload_n (pc := 28) hx hb dX6_times_28 rfl (lv_at hl 0 rfl) ?_
        refine vXgRX6_10_0 (pc := 29) hx hb hts mU_16 inU6 hown hK hP dX6_times_29 ?_
        refine lv_iload_n (pc := 32) hx hb dX6_times_32 rfl (lv_at hl 1 rfl) ?_
        obtain ⟨r33, hc33, hf⟩ := hf_b hf
        refine cl_V (pc := 33) (As := [.int a1]) (rest := [.ref (A 1)]) hx hb hml hown hts (kX4_kindOf_1 l D A B _ S a1 r33 hc33) (cwV 1 hts gwRX6_128 rfl rfl rfl hdX4_kindOf ⟨Nat.le_of_ble_eq_true rfl, Nat.le_of_ble_eq_true rfl⟩) hN hK hP hD hS hA (va_recv hK hP (ci := 4) (q0 := 1) rfl (eX_1 A B _)) rfl hl.1 rfl (Nat.le_of_ble_eq_true rfl) dX6_times_33 (st1 := [.int r33, .ref (A 1)]) rfl ⟨Nat.zero_le _, Nat.zero_le _⟩ (fun H locs hP hD hS => ?_)
        obtain ⟨r36, hc36, hf⟩ := hf_b hf
        refine cl_V (pc := 36) (As := [.int r33]) (rest := []) hx hb hml hown hts (kX4_fits_1 l D A B _ S r33 r36 hc36) (cwV 1 hts gwRX6_134 rfl rfl rfl hdX4_fits ⟨Nat.le_of_ble_eq_true rfl, Nat.le_of_ble_eq_true rfl⟩) hN hK hP hD hS hA (va_recv hK hP (ci := 4) (q0 := 1) rfl (eX_1 A B _)) rfl hl.1 rfl (Nat.le_of_ble_eq_true rfl) dX6_times_36 (st1 := [.int r36]) rfl ⟨Nat.zero_le _, Nat.zero_le _⟩ (fun H locs hP hD hS => ?_)
        refine lv_if_ne (pc := 39) hx hb (tgt := 45) dX6_times_39 (by decide) (fun c_39 => ?_) (fun c_39 => ?_)
        · have hf := hf_f c_39 hf
          refine lv_aload_n (pc := 45) hx hb dX6_times_45 rfl (lv_at hl 0 rfl) ?_
          refine vXgRX6_19_0 (pc := 46) hx hb hts mU_18 inU6 hown hK hP dX6_times_46 ?_
          refine lv_aload_n (pc := 49) hx hb dX6_times_49 rfl (lv_at hl 0 rfl) ?_
          refine vXgRX6_10_0 (pc := 50) hx hb hts mU_16 inU6 hown hK hP dX6_times_50 ?_
          obtain ⟨r53, hc53, hf⟩ := hf_b hf
          refine cl_V (pc := 53) (As := [.ref (A 1)]) (rest := []) hx hb hml hown hts (kX4_copyFrom_13_1 l D A B _ S r53 hc53) (cwV 1 hts gwRX6_105 rfl rfl rfl hdX4_copyFrom ⟨Nat.le_of_ble_eq_true rfl, Nat.le_of_ble_eq_true rfl⟩) hN hK hP hD hS hA (va_recv hK hP (ci := 4) (q0 := 13) rfl (eX_13 A B _)) rfl hl.1 rfl (Nat.le_of_ble_eq_true rfl) dX6_times_53 (st1 := []) rfl ⟨Nat.zero_le _, Nat.zero_le _⟩ (fun H locs hP hD hS => ?_)
          refine lv_iconst (pc := 56) hx hb (v := 0) dX6_times_56 (by decide) ?_
          refine lv_istore_n (pc := 57) hx hb (lv' := [(3, .int 0), (0, .ref (A 0)), (1, .int a1), (2, .int a2)]) dX6_times_57 rfl hl (by decide) rfl (fun ls hl => ?_)
          refine lv_iconst (pc := 58) hx hb (v := 0) dX6_times_58 (by decide) ?_
          refine lv_istore (pc := 59) hx hb (lv' := [(4, .int 0), (3, .int 0), (0, .ref (A 0)), (1, .int a1), (2, .int a2)]) dX6_times_59 hl (by decide) rfl (fun ls hl => ?_)
          obtain ⟨q61, hq61, hf⟩ := hf_b hf
          have hk61 : ∀ (H : Heap) (locs : List Loc) (ls : Array Slot), va_P D vwCl (wX A B q61.1) H → va_D Ad (wX A B q61.1) → va_S Ad s.heap H locs → lv_has ls 5 [(0, .ref (A 0)), (3, .int q61.2)] → W p l e rm_X6_times s m args below meth c H locs 0 0 Q (F0 m 98 ls []) := by
            intro H locs ls hP hD hS hl
            refine lv_aload_n (pc := 98) hx hb dX6_times_98 rfl (lv_at hl 0 rfl) ?_
            refine vXgRX6_19_0 (pc := 99) hx hb hts mU_18 inU6 hown hK hP dX6_times_99 ?_
            refine lv_aload_n (pc := 102) hx hb dX6_times_102 rfl (lv_at hl 0 rfl) ?_
            refine vXgRX6_10_0 (pc := 103) hx hb hts mU_16 inU6 hown hK hP dX6_times_103 ?_
            refine vXgRX6_243_1 (pc := 106) hx hb hts mU_852 inU4 hown hK hP (x := (gI q61.1 2)) rfl dX6_times_106 ?_
            refine vXpRX6_243_13 (pc := 109) hx hb hts mU_852 inU4 hown hK hP hD hS dX6_times_109 (fun H locs hP hD hS => ?_)
            refine lv_aload_n (pc := 112) hx hb dX6_times_112 rfl (lv_at hl 0 rfl) ?_
            refine vXgRX6_10_0 (pc := 113) hx hb hts mU_16 inU6 hown hK hP dX6_times_113 ?_
            refine lv_aload_n (pc := 116) hx hb dX6_times_116 rfl (lv_at hl 0 rfl) ?_
            refine vXgRX6_19_0 (pc := 117) hx hb hts mU_18 inU6 hown hK hP dX6_times_117 ?_
            obtain ⟨r120, hc120, hf⟩ := hf_b hf
            refine cl_V (pc := 120) (As := [.ref (A 13)]) (rest := []) hx hb hml hown hts (kX4_copyFrom_1_13 l D A B _ (sI q61.1 10 (gI q61.1 2)) r120 hc120) (cwV 1 hts gwRX6_105 rfl rfl rfl hdX4_copyFrom ⟨Nat.le_of_ble_eq_true rfl, Nat.le_of_ble_eq_true rfl⟩) hN hK hP hD hS hA (va_recv hK hP (ci := 4) (q0 := 1) rfl (eX_1 A B _)) rfl hl.1 rfl (Nat.le_of_ble_eq_true rfl) dX6_times_120 (st1 := []) rfl ⟨Nat.zero_le _, Nat.zero_le _⟩ (fun H locs hP hD hS => ?_)
            refine lv_iload_n (pc := 123) hx hb dX6_times_123 rfl (lv_at hl 1 rfl) ?_
            obtain rfl := Option.some.inj hf
            exact hR H locs 124 ls hP hD hS dX6_times_124
          have lp61 : ∀ (n : Nat) (T61 : w_S) (u3_61 : Int32) (u4_61 : Int32) (H : Heap) (locs : List Loc) (ls : Array Slot), fX6_times_L61 a1 a2 n T61 u3_61 u4_61 = some q61 → va_P D vwCl (wX A B T61) H → va_D Ad (wX A B T61) → va_S Ad s.heap H locs → lv_has ls 5 [(0, .ref (A 0)), (1, .int a1), (2, .int a2), (3, .int u3_61), (4, .int u4_61)] → W p l e rm_X6_times s m args below meth c H locs 0 0 Q (F0 m 61 ls []) := by
            intro n61
            induction n61 with
            | zero => intro T61 u3_61 u4_61 H locs ls hq61; exact hf_0 hq61
            | succ n61 ih61 =>
              intro T61 u3_61 u4_61 H locs ls hq61 hP hD hS hl
              rw [fX6_times_L61] at hq61
              refine lv_iload (pc := 61) hx hb dX6_times_61 (lv_at hl 4 rfl) ?_
              refine lv_iload_n (pc := 63) hx hb dX6_times_63 rfl (lv_at hl 2 rfl) ?_
              refine lv_icmp_ge (pc := 64) hx hb (tgt := 98) dX6_times_64 (by decide) (fun c_64 => ?_) (fun c_64 => ?_)
              · have hq61 := hf_t c_64 hq61
                obtain rfl := Option.some.inj hq61
                exact hk61 H locs ls hP hD hS (lv_sub hl [0, 3] rfl)
              · have hq61 := hf_f c_64 hq61
                refine lv_aload_n (pc := 67) hx hb dX6_times_67 rfl (lv_at hl 0 rfl) ?_
                refine vXgRX6_10_0 (pc := 68) hx hb hts mU_16 inU6 hown hK hP dX6_times_68 ?_
                obtain ⟨r71, hc71, hq61⟩ := hf_b hq61
                refine cl_V (pc := 71) (As := []) (rest := []) hx hb hml hown hts (kX4_draw_1 l D A B _ T61 r71 hc71) (cwV 0 hts gwRX6_246 rfl rfl rfl hdX4_draw ⟨Nat.le_of_ble_eq_true rfl, Nat.le_of_ble_eq_true rfl⟩) hN hK hP hD hS hA (va_recv hK hP (ci := 4) (q0 := 1) rfl (eX_1 A B _)) rfl hl.1 rfl (Nat.le_of_ble_eq_true rfl) dX6_times_71 (st1 := []) rfl ⟨Nat.zero_le _, Nat.zero_le _⟩ (fun H locs hP hD hS => ?_)
                refine lv_aload_n (pc := 74) hx hb dX6_times_74 rfl (lv_at hl 0 rfl) ?_
                refine lv_iload_n (pc := 75) hx hb dX6_times_75 rfl (lv_at hl 1 rfl) ?_
                obtain ⟨r76, hc76, hq61⟩ := hf_b hq61
                refine cl_V (pc := 76) (As := [.int a1]) (rest := []) hx hb hml hown hts (kX6_solve l D A B _ r71 a1 r76 hc76) (cwV 1 hts gwRX6_143 rfl rfl rfl hdX6_solve ⟨Nat.le_of_ble_eq_true rfl, Nat.le_of_ble_eq_true rfl⟩) hN hK hP hD hS hA (va_recv hK hP (ci := 6) (q0 := 0) rfl (eX_0 A B _)) rfl hl.1 rfl (Nat.le_of_ble_eq_true rfl) dX6_times_76 (st1 := []) rfl ⟨Nat.zero_le _, Nat.zero_le _⟩ (fun H locs hP hD hS => ?_)
                refine lv_iload_n (pc := 79) hx hb dX6_times_79 rfl (lv_at hl 3 rfl) ?_
                refine lv_aload_n (pc := 80) hx hb dX6_times_80 rfl (lv_at hl 0 rfl) ?_
                refine vXgRX6_25_0 (pc := 81) hx hb hts mU_22 inU6 hown hK hP dX6_times_81 ?_
                obtain ⟨r84, hc84, hq61⟩ := hf_b hq61
                refine cl_V (pc := 84) (As := []) (rest := [.int u3_61]) hx hb hml hown hts (kX1_isSolvable_19 l D A B _ r76 r84 hc84) (cwV 0 hts gwRX6_154 rfl rfl rfl hdX1_isSolvable ⟨Nat.le_of_ble_eq_true rfl, Nat.le_of_ble_eq_true rfl⟩) hN hK hP hD hS hA (va_recv hK hP (ci := 1) (q0 := 19) rfl (eX_19 A B _)) rfl hl.1 rfl (Nat.le_of_ble_eq_true rfl) dX6_times_84 (st1 := [.int r84, .int u3_61]) rfl ⟨Nat.zero_le _, Nat.zero_le _⟩ (fun H locs hP hD hS => ?_)
                obtain ⟨r87, hc87, hq61⟩ := hf_b hq61
                refine cl_S (pc := 87) (As := [.int r84]) (rest := [.int u3_61]) hx hb hml hown hts (kX6_oneIf l D A B _ r76 r84 r87 hc87) (va_cwS 1 hts gwRX6_158 rfl rfl rfl hdX6_oneIf ⟨Nat.le_of_ble_eq_true rfl, Nat.le_of_ble_eq_true rfl⟩) hN hK hP hD hS hA rfl hl.1 rfl (Nat.le_of_ble_eq_true rfl) dX6_times_87 (st1 := [.int r87, .int u3_61]) rfl ⟨Nat.zero_le _, Nat.zero_le _⟩ (fun H locs hP hD hS => ?_)
                refine lv_iadd (pc := 90) hx hb dX6_times_90 ?_
                refine lv_istore_n (pc := 91) hx hb (lv' := [(3, .int (u3_61 + r87)), (0, .ref (A 0)), (1, .int a1), (2, .int a2), (4, .int u4_61)]) dX6_times_91 rfl hl (by decide) rfl (fun ls hl => ?_)
                refine lv_iinc (pc := 92) hx hb (v := u4_61 + 1) (lv' := [(4, .int (u4_61 + 1)), (3, .int (u3_61 + r87)), (0, .ref (A 0)), (1, .int a1), (2, .int a2)]) dX6_times_92 hl (k := 4) rfl rfl (by decide) rfl (fun ls hl => ?_)
                refine lv_goto (pc := 95) hx hb (tgt := 61) dX6_times_95 (by decide) ?_
                exact ih61 r76 (u3_61 + r87) (u4_61 + 1) H locs ls hq61 hP hD hS (lv_sub hl [2, 3, 4, 1, 0] rfl)
          exact lp61 256 r53 0 0 H locs ls hq61 hP hD hS (lv_sub hl [2, 3, 4, 1, 0] rfl)
        · have hf := hf_t c_39 hf
          refine lv_bipush (pc := 42) hx hb (v := (-4)) dX6_times_42 (by decide) ?_
          obtain rfl := Option.some.inj hf
          exact hR H locs 44 ls hP hD hS dX6_times_44
      · have hf := hf_f c_19 hf
        refine lv_iconst (pc := 22) hx hb (v := (-1)) dX6_times_22 (by decide) ?_
        obtain rfl := Option.some.inj hf
        exact hR H locs 23 ls hP hD hS dX6_times_23
set_option maxHeartbeats 4000000 in
set_option maxRecDepth 100000 in
theorem kX6_isSort (l : Launch) (D : va_G) (A : Nat → Nat) (B : Nat → ClassId) (sz : Nat) (S : w_S) (a0 : Int32) (z : Int32) (hf : fX6_isSort a0 = some z) : MetW l yX6_isSort (wsO yX6_isSort cX6_isSort 1 (some .boolean)) rm_X6_isSort [.int a0] D (tyB B) (wX A B S) (wX A B S) sz (some (.int z)) := by
  refine MetW.mkZ (cc := cX6_isSort) (maxL := 1) (by decide) (Nat.le_of_ble_eq_true rfl) ?_
  intro p e s m args below meth c Ad Q hx hb hts hown hml hN hK hA hR H locs ls hP hD hS hl
  have hl : lv_has ls 1 [(0, .int a0)] := hl
  rw [fX6_isSort] at hf
  refine lv_iload_n (pc := 0) hx hb dX6_isSort_0 rfl (lv_at hl 0 rfl) ?_
  refine lv_if_lt (pc := 1) hx hb (tgt := 13) dX6_isSort_1 (by decide) (fun c_1 => ?_) (fun c_1 => ?_)
  · have hf := hf_t c_1 hf
    refine lv_iconst (pc := 13) hx hb (v := 0) dX6_isSort_13 (by decide) ?_
    obtain rfl := Option.some.inj hf
    exact hR H locs 14 ls hP hD hS (nz_of (.inl rfl)) dX6_isSort_14
  · have hf := hf_f c_1 hf
    refine lv_iload_n (pc := 4) hx hb dX6_isSort_4 rfl (lv_at hl 0 rfl) ?_
    refine lv_iconst (pc := 5) hx hb (v := 3) dX6_isSort_5 (by decide) ?_
    refine lv_icmp_gt (pc := 6) hx hb (tgt := 13) dX6_isSort_6 (by decide) (fun c_6 => ?_) (fun c_6 => ?_)
    · have hf := hf_t c_6 hf
      refine lv_iconst (pc := 13) hx hb (v := 0) dX6_isSort_13 (by decide) ?_
      obtain rfl := Option.some.inj hf
      exact hR H locs 14 ls hP hD hS (nz_of (.inl rfl)) dX6_isSort_14
    · have hf := hf_f c_6 hf
      refine lv_iconst (pc := 9) hx hb (v := 1) dX6_isSort_9 (by decide) ?_
      refine lv_goto (pc := 10) hx hb (tgt := 14) dX6_isSort_10 (by decide) ?_
      obtain rfl := Option.some.inj hf
      exact hR H locs 14 ls hP hD hS (nz_of (.inr rfl)) dX6_isSort_14
set_option maxHeartbeats 4000000 in
set_option maxRecDepth 100000 in
theorem kX6_sheet (l : Launch) (D : va_G) (A : Nat → Nat) (B : Nat → ClassId) (sz : Nat) (S : w_S) (a1 : Int32) (a2 : Int32) (a3 : Int32) (z : Int32 × w_S) (hf : fX6_sheet S a1 a2 a3 = some z) : MetW l yX6_sheet (wsO yX6_sheet cX6_sheet 4 (some .int)) rm_X6_sheet [.ref (A 0), .int a1, .int a2, .int a3] D (tyB B) (wX A B S) (wX A B z.2) sz (some (.int z.1)) := by
  refine MetW.mkI (cc := cX6_sheet) (maxL := 4) (by decide) (Nat.le_of_ble_eq_true rfl) ?_
  intro p e s m args below meth c Ad Q hx hb hts hown hml hN hK hA hR H locs ls hP hD hS hl
  have hl : lv_has ls 4 [(0, .ref (A 0)), (1, .int a1), (2, .int a2), (3, .int a3)] := hl
  rw [fX6_sheet] at hf
  refine lv_iload_n (pc := 0) hx hb dX6_sheet_0 rfl (lv_at hl 1 rfl) ?_
  obtain ⟨r1, hc1, hf⟩ := hf_b hf
  refine cl_S (pc := 1) (As := [.int a1]) (rest := []) hx hb hml hown hts (kX6_isSheet l D A B _ S a1 r1 hc1) (va_cwS 1 hts gwRX6_214 rfl rfl rfl hdX6_isSheet ⟨Nat.le_of_ble_eq_true rfl, Nat.le_of_ble_eq_true rfl⟩) hN hK hP hD hS hA rfl hl.1 rfl (Nat.le_of_ble_eq_true rfl) dX6_sheet_1 (st1 := [.int r1]) rfl ⟨Nat.zero_le _, Nat.zero_le _⟩ (fun H locs hP hD hS => ?_)
  refine lv_if_eq (pc := 4) hx hb (tgt := 25) dX6_sheet_4 (by decide) (fun c_4 => ?_) (fun c_4 => ?_)
  · have hf := hf_t c_4 hf
    refine lv_iconst (pc := 25) hx hb (v := (-1)) dX6_sheet_25 (by decide) ?_
    obtain rfl := Option.some.inj hf
    exact hR H locs 26 ls hP hD hS dX6_sheet_26
  · have hf := hf_f c_4 hf
    refine lv_iload_n (pc := 7) hx hb dX6_sheet_7 rfl (lv_at hl 2 rfl) ?_
    refine lv_iconst (pc := 8) hx hb (v := (-1)) dX6_sheet_8 (by decide) ?_
    refine lv_icmp_eq (pc := 9) hx hb (tgt := 27) dX6_sheet_9 (by decide) (fun c_9 => ?_) (fun c_9 => ?_)
    · have hf := hf_t c_9 hf
      refine lv_iload_n (pc := 27) hx hb dX6_sheet_27 rfl (lv_at hl 2 rfl) ?_
      refine lv_iconst (pc := 28) hx hb (v := (-1)) dX6_sheet_28 (by decide) ?_
      refine lv_icmp_eq (pc := 29) hx hb (tgt := 39) dX6_sheet_29 (by decide) (fun c_29 => ?_) (fun c_29 => ?_)
      · have hf := hf_t c_29 hf
        refine lv_aload_n (pc := 39) hx hb dX6_sheet_39 rfl (lv_at hl 0 rfl) ?_
        refine vXgRX6_48_0 (pc := 40) hx hb hts mU_33 inU6 hown hK hP dX6_sheet_40 ?_
        refine lv_iload_n (pc := 43) hx hb dX6_sheet_43 rfl (lv_at hl 1 rfl) ?_
        by_cases e44_0 : a1 = (0 : Int32)
        · have hf := hf_t e44_0 hf
          refine vXrq_29_0 (pc := 44) hx hb hK hP e44_0 dX6_sheet_44 ?_
          refine lv_iload_n (pc := 45) hx hb dX6_sheet_45 rfl (lv_at hl 2 rfl) ?_
          refine lv_iload_n (pc := 46) hx hb dX6_sheet_46 rfl (lv_at hl 2 rfl) ?_
          refine lv_iconst (pc := 47) hx hb (v := (-1)) dX6_sheet_47 (by decide) ?_
          refine lv_icmp_ne (pc := 48) hx hb (tgt := 55) dX6_sheet_48 (by decide) (fun c_48 => ?_) (fun c_48 => ?_)
          · have hf := hf_f c_48 hf
            refine lv_iload_n (pc := 55) hx hb dX6_sheet_55 rfl (lv_at hl 3 rfl) ?_
            obtain ⟨r56, hc56, hf⟩ := hf_b hf
            refine cl_V (pc := 56) (As := [.int a2, .int a3]) (rest := []) hx hb hml hown hts (kX2_renew_30 l D A B _ S a2 a3 r56 hc56) (cwV 2 hts gwRX6_224 rfl rfl rfl hdX2_renew ⟨Nat.le_of_ble_eq_true rfl, Nat.le_of_ble_eq_true rfl⟩) hN hK hP hD hS hA (va_recv hK hP (ci := 2) (q0 := 30) rfl (eX_30 A B _)) rfl hl.1 rfl (Nat.le_of_ble_eq_true rfl) dX6_sheet_56 (st1 := []) rfl ⟨Nat.zero_le _, Nat.zero_le _⟩ (fun H locs hP hD hS => ?_)
            refine lv_iconst (pc := 59) hx hb (v := 1) dX6_sheet_59 (by decide) ?_
            obtain rfl := Option.some.inj hf
            exact hR H locs 60 ls hP hD hS dX6_sheet_60
          · have hf := hf_t c_48 hf
            refine lv_iconst (pc := 51) hx hb (v := 0) dX6_sheet_51 (by decide) ?_
            refine lv_goto (pc := 52) hx hb (tgt := 56) dX6_sheet_52 (by decide) ?_
            obtain ⟨r56, hc56, hf⟩ := hf_b hf
            refine cl_V (pc := 56) (As := [.int a2, .int 0]) (rest := []) hx hb hml hown hts (kX2_renew_30 l D A B _ S a2 0 r56 hc56) (cwV 2 hts gwRX6_224 rfl rfl rfl hdX2_renew ⟨Nat.le_of_ble_eq_true rfl, Nat.le_of_ble_eq_true rfl⟩) hN hK hP hD hS hA (va_recv hK hP (ci := 2) (q0 := 30) rfl (eX_30 A B _)) rfl hl.1 rfl (Nat.le_of_ble_eq_true rfl) dX6_sheet_56 (st1 := []) rfl ⟨Nat.zero_le _, Nat.zero_le _⟩ (fun H locs hP hD hS => ?_)
            refine lv_iconst (pc := 59) hx hb (v := 1) dX6_sheet_59 (by decide) ?_
            obtain rfl := Option.some.inj hf
            exact hR H locs 60 ls hP hD hS dX6_sheet_60
        · have hf := hf_f e44_0 hf
          by_cases e44_1 : a1 = (1 : Int32)
          · have hf := hf_t e44_1 hf
            refine vXrq_29_1 (pc := 44) hx hb hK hP e44_1 dX6_sheet_44 ?_
            refine lv_iload_n (pc := 45) hx hb dX6_sheet_45 rfl (lv_at hl 2 rfl) ?_
            refine lv_iload_n (pc := 46) hx hb dX6_sheet_46 rfl (lv_at hl 2 rfl) ?_
            refine lv_iconst (pc := 47) hx hb (v := (-1)) dX6_sheet_47 (by decide) ?_
            refine lv_icmp_ne (pc := 48) hx hb (tgt := 55) dX6_sheet_48 (by decide) (fun c_48 => ?_) (fun c_48 => ?_)
            · have hf := hf_f c_48 hf
              refine lv_iload_n (pc := 55) hx hb dX6_sheet_55 rfl (lv_at hl 3 rfl) ?_
              obtain ⟨r56, hc56, hf⟩ := hf_b hf
              refine cl_V (pc := 56) (As := [.int a2, .int a3]) (rest := []) hx hb hml hown hts (kX2_renew_32 l D A B _ S a2 a3 r56 hc56) (cwV 2 hts gwRX6_224 rfl rfl rfl hdX2_renew ⟨Nat.le_of_ble_eq_true rfl, Nat.le_of_ble_eq_true rfl⟩) hN hK hP hD hS hA (va_recv hK hP (ci := 2) (q0 := 32) rfl (eX_32 A B _)) rfl hl.1 rfl (Nat.le_of_ble_eq_true rfl) dX6_sheet_56 (st1 := []) rfl ⟨Nat.zero_le _, Nat.zero_le _⟩ (fun H locs hP hD hS => ?_)
              refine lv_iconst (pc := 59) hx hb (v := 1) dX6_sheet_59 (by decide) ?_
              obtain rfl := Option.some.inj hf
              exact hR H locs 60 ls hP hD hS dX6_sheet_60
            · have hf := hf_t c_48 hf
              refine lv_iconst (pc := 51) hx hb (v := 0) dX6_sheet_51 (by decide) ?_
              refine lv_goto (pc := 52) hx hb (tgt := 56) dX6_sheet_52 (by decide) ?_
              obtain ⟨r56, hc56, hf⟩ := hf_b hf
              refine cl_V (pc := 56) (As := [.int a2, .int 0]) (rest := []) hx hb hml hown hts (kX2_renew_32 l D A B _ S a2 0 r56 hc56) (cwV 2 hts gwRX6_224 rfl rfl rfl hdX2_renew ⟨Nat.le_of_ble_eq_true rfl, Nat.le_of_ble_eq_true rfl⟩) hN hK hP hD hS hA (va_recv hK hP (ci := 2) (q0 := 32) rfl (eX_32 A B _)) rfl hl.1 rfl (Nat.le_of_ble_eq_true rfl) dX6_sheet_56 (st1 := []) rfl ⟨Nat.zero_le _, Nat.zero_le _⟩ (fun H locs hP hD hS => ?_)
              refine lv_iconst (pc := 59) hx hb (v := 1) dX6_sheet_59 (by decide) ?_
              obtain rfl := Option.some.inj hf
              exact hR H locs 60 ls hP hD hS dX6_sheet_60
          · have hf := hf_f e44_1 hf
            by_cases e44_2 : a1 = (2 : Int32)
            · have hf := hf_t e44_2 hf
              refine vXrq_29_2 (pc := 44) hx hb hK hP e44_2 dX6_sheet_44 ?_
              refine lv_iload_n (pc := 45) hx hb dX6_sheet_45 rfl (lv_at hl 2 rfl) ?_
              refine lv_iload_n (pc := 46) hx hb dX6_sheet_46 rfl (lv_at hl 2 rfl) ?_
              refine lv_iconst (pc := 47) hx hb (v := (-1)) dX6_sheet_47 (by decide) ?_
              refine lv_icmp_ne (pc := 48) hx hb (tgt := 55) dX6_sheet_48 (by decide) (fun c_48 => ?_) (fun c_48 => ?_)
              · have hf := hf_f c_48 hf
                refine lv_iload_n (pc := 55) hx hb dX6_sheet_55 rfl (lv_at hl 3 rfl) ?_
                obtain ⟨r56, hc56, hf⟩ := hf_b hf
                refine cl_V (pc := 56) (As := [.int a2, .int a3]) (rest := []) hx hb hml hown hts (kX2_renew_34 l D A B _ S a2 a3 r56 hc56) (cwV 2 hts gwRX6_224 rfl rfl rfl hdX2_renew ⟨Nat.le_of_ble_eq_true rfl, Nat.le_of_ble_eq_true rfl⟩) hN hK hP hD hS hA (va_recv hK hP (ci := 2) (q0 := 34) rfl (eX_34 A B _)) rfl hl.1 rfl (Nat.le_of_ble_eq_true rfl) dX6_sheet_56 (st1 := []) rfl ⟨Nat.zero_le _, Nat.zero_le _⟩ (fun H locs hP hD hS => ?_)
                refine lv_iconst (pc := 59) hx hb (v := 1) dX6_sheet_59 (by decide) ?_
                obtain rfl := Option.some.inj hf
                exact hR H locs 60 ls hP hD hS dX6_sheet_60
              · have hf := hf_t c_48 hf
                refine lv_iconst (pc := 51) hx hb (v := 0) dX6_sheet_51 (by decide) ?_
                refine lv_goto (pc := 52) hx hb (tgt := 56) dX6_sheet_52 (by decide) ?_
                obtain ⟨r56, hc56, hf⟩ := hf_b hf
                refine cl_V (pc := 56) (As := [.int a2, .int 0]) (rest := []) hx hb hml hown hts (kX2_renew_34 l D A B _ S a2 0 r56 hc56) (cwV 2 hts gwRX6_224 rfl rfl rfl hdX2_renew ⟨Nat.le_of_ble_eq_true rfl, Nat.le_of_ble_eq_true rfl⟩) hN hK hP hD hS hA (va_recv hK hP (ci := 2) (q0 := 34) rfl (eX_34 A B _)) rfl hl.1 rfl (Nat.le_of_ble_eq_true rfl) dX6_sheet_56 (st1 := []) rfl ⟨Nat.zero_le _, Nat.zero_le _⟩ (fun H locs hP hD hS => ?_)
                refine lv_iconst (pc := 59) hx hb (v := 1) dX6_sheet_59 (by decide) ?_
                obtain rfl := Option.some.inj hf
                exact hR H locs 60 ls hP hD hS dX6_sheet_60
            · have hf := hf_f e44_2 hf
              by_cases e44_3 : a1 = (3 : Int32)
              · have hf := hf_t e44_3 hf
                refine vXrq_29_3 (pc := 44) hx hb hK hP e44_3 dX6_sheet_44 ?_
                refine lv_iload_n (pc := 45) hx hb dX6_sheet_45 rfl (lv_at hl 2 rfl) ?_
                refine lv_iload_n (pc := 46) hx hb dX6_sheet_46 rfl (lv_at hl 2 rfl) ?_
                refine lv_iconst (pc := 47) hx hb (v := (-1)) dX6_sheet_47 (by decide) ?_
                refine lv_icmp_ne (pc := 48) hx hb (tgt := 55) dX6_sheet_48 (by decide) (fun c_48 => ?_) (fun c_48 => ?_)
                · have hf := hf_f c_48 hf
                  refine lv_iload_n (pc := 55) hx hb dX6_sheet_55 rfl (lv_at hl 3 rfl) ?_
                  obtain ⟨r56, hc56, hf⟩ := hf_b hf
                  refine cl_V (pc := 56) (As := [.int a2, .int a3]) (rest := []) hx hb hml hown hts (kX2_renew_36 l D A B _ S a2 a3 r56 hc56) (cwV 2 hts gwRX6_224 rfl rfl rfl hdX2_renew ⟨Nat.le_of_ble_eq_true rfl, Nat.le_of_ble_eq_true rfl⟩) hN hK hP hD hS hA (va_recv hK hP (ci := 2) (q0 := 36) rfl (eX_36 A B _)) rfl hl.1 rfl (Nat.le_of_ble_eq_true rfl) dX6_sheet_56 (st1 := []) rfl ⟨Nat.zero_le _, Nat.zero_le _⟩ (fun H locs hP hD hS => ?_)
                  refine lv_iconst (pc := 59) hx hb (v := 1) dX6_sheet_59 (by decide) ?_
                  obtain rfl := Option.some.inj hf
                  exact hR H locs 60 ls hP hD hS dX6_sheet_60
                · have hf := hf_t c_48 hf
                  refine lv_iconst (pc := 51) hx hb (v := 0) dX6_sheet_51 (by decide) ?_
                  refine lv_goto (pc := 52) hx hb (tgt := 56) dX6_sheet_52 (by decide) ?_
                  obtain ⟨r56, hc56, hf⟩ := hf_b hf
                  refine cl_V (pc := 56) (As := [.int a2, .int 0]) (rest := []) hx hb hml hown hts (kX2_renew_36 l D A B _ S a2 0 r56 hc56) (cwV 2 hts gwRX6_224 rfl rfl rfl hdX2_renew ⟨Nat.le_of_ble_eq_true rfl, Nat.le_of_ble_eq_true rfl⟩) hN hK hP hD hS hA (va_recv hK hP (ci := 2) (q0 := 36) rfl (eX_36 A B _)) rfl hl.1 rfl (Nat.le_of_ble_eq_true rfl) dX6_sheet_56 (st1 := []) rfl ⟨Nat.zero_le _, Nat.zero_le _⟩ (fun H locs hP hD hS => ?_)
                  refine lv_iconst (pc := 59) hx hb (v := 1) dX6_sheet_59 (by decide) ?_
                  obtain rfl := Option.some.inj hf
                  exact hR H locs 60 ls hP hD hS dX6_sheet_60
              · have hf := hf_f e44_3 hf
                exact hf_0 hf
      · have hf := hf_f c_29 hf
        refine lv_iload_n (pc := 32) hx hb dX6_sheet_32 rfl (lv_at hl 3 rfl) ?_
        refine lv_if_ge (pc := 33) hx hb (tgt := 39) dX6_sheet_33 (by decide) (fun c_33 => ?_) (fun c_33 => ?_)
        · have hf := hf_t c_33 hf
          refine lv_aload_n (pc := 39) hx hb dX6_sheet_39 rfl (lv_at hl 0 rfl) ?_
          refine vXgRX6_48_0 (pc := 40) hx hb hts mU_33 inU6 hown hK hP dX6_sheet_40 ?_
          refine lv_iload_n (pc := 43) hx hb dX6_sheet_43 rfl (lv_at hl 1 rfl) ?_
          by_cases e44_0 : a1 = (0 : Int32)
          · have hf := hf_t e44_0 hf
            refine vXrq_29_0 (pc := 44) hx hb hK hP e44_0 dX6_sheet_44 ?_
            refine lv_iload_n (pc := 45) hx hb dX6_sheet_45 rfl (lv_at hl 2 rfl) ?_
            refine lv_iload_n (pc := 46) hx hb dX6_sheet_46 rfl (lv_at hl 2 rfl) ?_
            refine lv_iconst (pc := 47) hx hb (v := (-1)) dX6_sheet_47 (by decide) ?_
            refine lv_icmp_ne (pc := 48) hx hb (tgt := 55) dX6_sheet_48 (by decide) (fun c_48 => ?_) (fun c_48 => ?_)
            · have hf := hf_f c_48 hf
              refine lv_iload_n (pc := 55) hx hb dX6_sheet_55 rfl (lv_at hl 3 rfl) ?_
              obtain ⟨r56, hc56, hf⟩ := hf_b hf
              refine cl_V (pc := 56) (As := [.int a2, .int a3]) (rest := []) hx hb hml hown hts (kX2_renew_30 l D A B _ S a2 a3 r56 hc56) (cwV 2 hts gwRX6_224 rfl rfl rfl hdX2_renew ⟨Nat.le_of_ble_eq_true rfl, Nat.le_of_ble_eq_true rfl⟩) hN hK hP hD hS hA (va_recv hK hP (ci := 2) (q0 := 30) rfl (eX_30 A B _)) rfl hl.1 rfl (Nat.le_of_ble_eq_true rfl) dX6_sheet_56 (st1 := []) rfl ⟨Nat.zero_le _, Nat.zero_le _⟩ (fun H locs hP hD hS => ?_)
              refine lv_iconst (pc := 59) hx hb (v := 1) dX6_sheet_59 (by decide) ?_
              obtain rfl := Option.some.inj hf
              exact hR H locs 60 ls hP hD hS dX6_sheet_60
            · have hf := hf_t c_48 hf
              refine lv_iconst (pc := 51) hx hb (v := 0) dX6_sheet_51 (by decide) ?_
              refine lv_goto (pc := 52) hx hb (tgt := 56) dX6_sheet_52 (by decide) ?_
              obtain ⟨r56, hc56, hf⟩ := hf_b hf
              refine cl_V (pc := 56) (As := [.int a2, .int 0]) (rest := []) hx hb hml hown hts (kX2_renew_30 l D A B _ S a2 0 r56 hc56) (cwV 2 hts gwRX6_224 rfl rfl rfl hdX2_renew ⟨Nat.le_of_ble_eq_true rfl, Nat.le_of_ble_eq_true rfl⟩) hN hK hP hD hS hA (va_recv hK hP (ci := 2) (q0 := 30) rfl (eX_30 A B _)) rfl hl.1 rfl (Nat.le_of_ble_eq_true rfl) dX6_sheet_56 (st1 := []) rfl ⟨Nat.zero_le _, Nat.zero_le _⟩ (fun H locs hP hD hS => ?_)
              refine lv_iconst (pc := 59) hx hb (v := 1) dX6_sheet_59 (by decide) ?_
              obtain rfl := Option.some.inj hf
              exact hR H locs 60 ls hP hD hS dX6_sheet_60
          · have hf := hf_f e44_0 hf
            by_cases e44_1 : a1 = (1 : Int32)
            · have hf := hf_t e44_1 hf
              refine vXrq_29_1 (pc := 44) hx hb hK hP e44_1 dX6_sheet_44 ?_
              refine lv_iload_n (pc := 45) hx hb dX6_sheet_45 rfl (lv_at hl 2 rfl) ?_
              refine lv_iload_n (pc := 46) hx hb dX6_sheet_46 rfl (lv_at hl 2 rfl) ?_
              refine lv_iconst (pc := 47) hx hb (v := (-1)) dX6_sheet_47 (by decide) ?_
              refine lv_icmp_ne (pc := 48) hx hb (tgt := 55) dX6_sheet_48 (by decide) (fun c_48 => ?_) (fun c_48 => ?_)
              · have hf := hf_f c_48 hf
                refine lv_iload_n (pc := 55) hx hb dX6_sheet_55 rfl (lv_at hl 3 rfl) ?_
                obtain ⟨r56, hc56, hf⟩ := hf_b hf
                refine cl_V (pc := 56) (As := [.int a2, .int a3]) (rest := []) hx hb hml hown hts (kX2_renew_32 l D A B _ S a2 a3 r56 hc56) (cwV 2 hts gwRX6_224 rfl rfl rfl hdX2_renew ⟨Nat.le_of_ble_eq_true rfl, Nat.le_of_ble_eq_true rfl⟩) hN hK hP hD hS hA (va_recv hK hP (ci := 2) (q0 := 32) rfl (eX_32 A B _)) rfl hl.1 rfl (Nat.le_of_ble_eq_true rfl) dX6_sheet_56 (st1 := []) rfl ⟨Nat.zero_le _, Nat.zero_le _⟩ (fun H locs hP hD hS => ?_)
                refine lv_iconst (pc := 59) hx hb (v := 1) dX6_sheet_59 (by decide) ?_
                obtain rfl := Option.some.inj hf
                exact hR H locs 60 ls hP hD hS dX6_sheet_60
              · have hf := hf_t c_48 hf
                refine lv_iconst (pc := 51) hx hb (v := 0) dX6_sheet_51 (by decide) ?_
                refine lv_goto (pc := 52) hx hb (tgt := 56) dX6_sheet_52 (by decide) ?_
                obtain ⟨r56, hc56, hf⟩ := hf_b hf
                refine cl_V (pc := 56) (As := [.int a2, .int 0]) (rest := []) hx hb hml hown hts (kX2_renew_32 l D A B _ S a2 0 r56 hc56) (cwV 2 hts gwRX6_224 rfl rfl rfl hdX2_renew ⟨Nat.le_of_ble_eq_true rfl, Nat.le_of_ble_eq_true rfl⟩) hN hK hP hD hS hA (va_recv hK hP (ci := 2) (q0 := 32) rfl (eX_32 A B _)) rfl hl.1 rfl (Nat.le_of_ble_eq_true rfl) dX6_sheet_56 (st1 := []) rfl ⟨Nat.zero_le _, Nat.zero_le _⟩ (fun H locs hP hD hS => ?_)
                refine lv_iconst (pc := 59) hx hb (v := 1) dX6_sheet_59 (by decide) ?_
                obtain rfl := Option.some.inj hf
                exact hR H locs 60 ls hP hD hS dX6_sheet_60
            · have hf := hf_f e44_1 hf
              by_cases e44_2 : a1 = (2 : Int32)
              · have hf := hf_t e44_2 hf
                refine vXrq_29_2 (pc := 44) hx hb hK hP e44_2 dX6_sheet_44 ?_
                refine lv_iload_n (pc := 45) hx hb dX6_sheet_45 rfl (lv_at hl 2 rfl) ?_
                refine lv_iload_n (pc := 46) hx hb dX6_sheet_46 rfl (lv_at hl 2 rfl) ?_
                refine lv_iconst (pc := 47) hx hb (v := (-1)) dX6_sheet_47 (by decide) ?_
                refine lv_icmp_ne (pc := 48) hx hb (tgt := 55) dX6_sheet_48 (by decide) (fun c_48 => ?_) (fun c_48 => ?_)
                · have hf := hf_f c_48 hf
                  refine lv_iload_n (pc := 55) hx hb dX6_sheet_55 rfl (lv_at hl 3 rfl) ?_
                  obtain ⟨r56, hc56, hf⟩ := hf_b hf
                  refine cl_V (pc := 56) (As := [.int a2, .int a3]) (rest := []) hx hb hml hown hts (kX2_renew_34 l D A B _ S a2 a3 r56 hc56) (cwV 2 hts gwRX6_224 rfl rfl rfl hdX2_renew ⟨Nat.le_of_ble_eq_true rfl, Nat.le_of_ble_eq_true rfl⟩) hN hK hP hD hS hA (va_recv hK hP (ci := 2) (q0 := 34) rfl (eX_34 A B _)) rfl hl.1 rfl (Nat.le_of_ble_eq_true rfl) dX6_sheet_56 (st1 := []) rfl ⟨Nat.zero_le _, Nat.zero_le _⟩ (fun H locs hP hD hS => ?_)
                  refine lv_iconst (pc := 59) hx hb (v := 1) dX6_sheet_59 (by decide) ?_
                  obtain rfl := Option.some.inj hf
                  exact hR H locs 60 ls hP hD hS dX6_sheet_60
                · have hf := hf_t c_48 hf
                  refine lv_iconst (pc := 51) hx hb (v := 0) dX6_sheet_51 (by decide) ?_
                  refine lv_goto (pc := 52) hx hb (tgt := 56) dX6_sheet_52 (by decide) ?_
                  obtain ⟨r56, hc56, hf⟩ := hf_b hf
                  refine cl_V (pc := 56) (As := [.int a2, .int 0]) (rest := []) hx hb hml hown hts (kX2_renew_34 l D A B _ S a2 0 r56 hc56) (cwV 2 hts gwRX6_224 rfl rfl rfl hdX2_renew ⟨Nat.le_of_ble_eq_true rfl, Nat.le_of_ble_eq_true rfl⟩) hN hK hP hD hS hA (va_recv hK hP (ci := 2) (q0 := 34) rfl (eX_34 A B _)) rfl hl.1 rfl (Nat.le_of_ble_eq_true rfl) dX6_sheet_56 (st1 := []) rfl ⟨Nat.zero_le _, Nat.zero_le _⟩ (fun H locs hP hD hS => ?_)
                  refine lv_iconst (pc := 59) hx hb (v := 1) dX6_sheet_59 (by decide) ?_
                  obtain rfl := Option.some.inj hf
                  exact hR H locs 60 ls hP hD hS dX6_sheet_60
              · have hf := hf_f e44_2 hf
                by_cases e44_3 : a1 = (3 : Int32)
                · have hf := hf_t e44_3 hf
                  refine vXrq_29_3 (pc := 44) hx hb hK hP e44_3 dX6_sheet_44 ?_
                  refine lv_iload_n (pc := 45) hx hb dX6_sheet_45 rfl (lv_at hl 2 rfl) ?_
                  refine lv_iload_n (pc := 46) hx hb dX6_sheet_46 rfl (lv_at hl 2 rfl) ?_
                  refine lv_iconst (pc := 47) hx hb (v := (-1)) dX6_sheet_47 (by decide) ?_
                  refine lv_icmp_ne (pc := 48) hx hb (tgt := 55) dX6_sheet_48 (by decide) (fun c_48 => ?_) (fun c_48 => ?_)
                  · have hf := hf_f c_48 hf
                    refine lv_iload_n (pc := 55) hx hb dX6_sheet_55 rfl (lv_at hl 3 rfl) ?_
                    obtain ⟨r56, hc56, hf⟩ := hf_b hf
                    refine cl_V (pc := 56) (As := [.int a2, .int a3]) (rest := []) hx hb hml hown hts (kX2_renew_36 l D A B _ S a2 a3 r56 hc56) (cwV 2 hts gwRX6_224 rfl rfl rfl hdX2_renew ⟨Nat.le_of_ble_eq_true rfl, Nat.le_of_ble_eq_true rfl⟩) hN hK hP hD hS hA (va_recv hK hP (ci := 2) (q0 := 36) rfl (eX_36 A B _)) rfl hl.1 rfl (Nat.le_of_ble_eq_true rfl) dX6_sheet_56 (st1 := []) rfl ⟨Nat.zero_le _, Nat.zero_le _⟩ (fun H locs hP hD hS => ?_)
                    refine lv_iconst (pc := 59) hx hb (v := 1) dX6_sheet_59 (by decide) ?_
                    obtain rfl := Option.some.inj hf
                    exact hR H locs 60 ls hP hD hS dX6_sheet_60
                  · have hf := hf_t c_48 hf
                    refine lv_iconst (pc := 51) hx hb (v := 0) dX6_sheet_51 (by decide) ?_
                    refine lv_goto (pc := 52) hx hb (tgt := 56) dX6_sheet_52 (by decide) ?_
                    obtain ⟨r56, hc56, hf⟩ := hf_b hf
                    refine cl_V (pc := 56) (As := [.int a2, .int 0]) (rest := []) hx hb hml hown hts (kX2_renew_36 l D A B _ S a2 0 r56 hc56) (cwV 2 hts gwRX6_224 rfl rfl rfl hdX2_renew ⟨Nat.le_of_ble_eq_true rfl, Nat.le_of_ble_eq_true rfl⟩) hN hK hP hD hS hA (va_recv hK hP (ci := 2) (q0 := 36) rfl (eX_36 A B _)) rfl hl.1 rfl (Nat.le_of_ble_eq_true rfl) dX6_sheet_56 (st1 := []) rfl ⟨Nat.zero_le _, Nat.zero_le _⟩ (fun H locs hP hD hS => ?_)
                    refine lv_iconst (pc := 59) hx hb (v := 1) dX6_sheet_59 (by decide) ?_
                    obtain rfl := Option.some.inj hf
                    exact hR H locs 60 ls hP hD hS dX6_sheet_60
                · have hf := hf_f e44_3 hf
                  exact hf_0 hf
        · have hf := hf_f c_33 hf
          refine lv_bipush (pc := 36) hx hb (v := (-14)) dX6_sheet_36 (by decide) ?_
          obtain rfl := Option.some.inj hf
          exact hR H locs 38 ls hP hD hS dX6_sheet_38
    · have hf := hf_f c_9 hf
      refine lv_iload_n (pc := 12) hx hb dX6_sheet_12 rfl (lv_at hl 2 rfl) ?_
      obtain ⟨r13, hc13, hf⟩ := hf_b hf
      refine cl_S (pc := 13) (As := [.int a2]) (rest := []) hx hb hml hown hts (kX6_isSort l D A B _ S a2 r13 hc13) (va_cwS 1 hts gwRX6_249 rfl rfl rfl hdX6_isSort ⟨Nat.le_of_ble_eq_true rfl, Nat.le_of_ble_eq_true rfl⟩) hN hK hP hD hS hA rfl hl.1 rfl (Nat.le_of_ble_eq_true rfl) dX6_sheet_13 (st1 := [.int r13]) rfl ⟨Nat.zero_le _, Nat.zero_le _⟩ (fun H locs hP hD hS => ?_)
      refine lv_if_eq (pc := 16) hx hb (tgt := 25) dX6_sheet_16 (by decide) (fun c_16 => ?_) (fun c_16 => ?_)
      · have hf := hf_t c_16 hf
        refine lv_iconst (pc := 25) hx hb (v := (-1)) dX6_sheet_25 (by decide) ?_
        obtain rfl := Option.some.inj hf
        exact hR H locs 26 ls hP hD hS dX6_sheet_26
      · have hf := hf_f c_16 hf
        refine lv_iload_n (pc := 19) hx hb dX6_sheet_19 rfl (lv_at hl 3 rfl) ?_
        refine lv_bipush (pc := 20) hx hb (v := 40) dX6_sheet_20 (by decide) ?_
        refine lv_icmp_le (pc := 22) hx hb (tgt := 27) dX6_sheet_22 (by decide) (fun c_22 => ?_) (fun c_22 => ?_)
        · have hf := hf_t c_22 hf
          refine lv_iload_n (pc := 27) hx hb dX6_sheet_27 rfl (lv_at hl 2 rfl) ?_
          refine lv_iconst (pc := 28) hx hb (v := (-1)) dX6_sheet_28 (by decide) ?_
          refine lv_icmp_eq (pc := 29) hx hb (tgt := 39) dX6_sheet_29 (by decide) (fun c_29 => ?_) (fun c_29 => ?_)
          · have hf := hf_t c_29 hf
            refine lv_aload_n (pc := 39) hx hb dX6_sheet_39 rfl (lv_at hl 0 rfl) ?_
            refine vXgRX6_48_0 (pc := 40) hx hb hts mU_33 inU6 hown hK hP dX6_sheet_40 ?_
            refine lv_iload_n (pc := 43) hx hb dX6_sheet_43 rfl (lv_at hl 1 rfl) ?_
            by_cases e44_0 : a1 = (0 : Int32)
            · have hf := hf_t e44_0 hf
              refine vXrq_29_0 (pc := 44) hx hb hK hP e44_0 dX6_sheet_44 ?_
              refine lv_iload_n (pc := 45) hx hb dX6_sheet_45 rfl (lv_at hl 2 rfl) ?_
              refine lv_iload_n (pc := 46) hx hb dX6_sheet_46 rfl (lv_at hl 2 rfl) ?_
              refine lv_iconst (pc := 47) hx hb (v := (-1)) dX6_sheet_47 (by decide) ?_
              refine lv_icmp_ne (pc := 48) hx hb (tgt := 55) dX6_sheet_48 (by decide) (fun c_48 => ?_) (fun c_48 => ?_)
              · have hf := hf_f c_48 hf
                refine lv_iload_n (pc := 55) hx hb dX6_sheet_55 rfl (lv_at hl 3 rfl) ?_
                obtain ⟨r56, hc56, hf⟩ := hf_b hf
                refine cl_V (pc := 56) (As := [.int a2, .int a3]) (rest := []) hx hb hml hown hts (kX2_renew_30 l D A B _ S a2 a3 r56 hc56) (cwV 2 hts gwRX6_224 rfl rfl rfl hdX2_renew ⟨Nat.le_of_ble_eq_true rfl, Nat.le_of_ble_eq_true rfl⟩) hN hK hP hD hS hA (va_recv hK hP (ci := 2) (q0 := 30) rfl (eX_30 A B _)) rfl hl.1 rfl (Nat.le_of_ble_eq_true rfl) dX6_sheet_56 (st1 := []) rfl ⟨Nat.zero_le _, Nat.zero_le _⟩ (fun H locs hP hD hS => ?_)
                refine lv_iconst (pc := 59) hx hb (v := 1) dX6_sheet_59 (by decide) ?_
                obtain rfl := Option.some.inj hf
                exact hR H locs 60 ls hP hD hS dX6_sheet_60
              · have hf := hf_t c_48 hf
                refine lv_iconst (pc := 51) hx hb (v := 0) dX6_sheet_51 (by decide) ?_
                refine lv_goto (pc := 52) hx hb (tgt := 56) dX6_sheet_52 (by decide) ?_
                obtain ⟨r56, hc56, hf⟩ := hf_b hf
                refine cl_V (pc := 56) (As := [.int a2, .int 0]) (rest := []) hx hb hml hown hts (kX2_renew_30 l D A B _ S a2 0 r56 hc56) (cwV 2 hts gwRX6_224 rfl rfl rfl hdX2_renew ⟨Nat.le_of_ble_eq_true rfl, Nat.le_of_ble_eq_true rfl⟩) hN hK hP hD hS hA (va_recv hK hP (ci := 2) (q0 := 30) rfl (eX_30 A B _)) rfl hl.1 rfl (Nat.le_of_ble_eq_true rfl) dX6_sheet_56 (st1 := []) rfl ⟨Nat.zero_le _, Nat.zero_le _⟩ (fun H locs hP hD hS => ?_)
                refine lv_iconst (pc := 59) hx hb (v := 1) dX6_sheet_59 (by decide) ?_
                obtain rfl := Option.some.inj hf
                exact hR H locs 60 ls hP hD hS dX6_sheet_60
            · have hf := hf_f e44_0 hf
              by_cases e44_1 : a1 = (1 : Int32)
              · have hf := hf_t e44_1 hf
                refine vXrq_29_1 (pc := 44) hx hb hK hP e44_1 dX6_sheet_44 ?_
                refine lv_iload_n (pc := 45) hx hb dX6_sheet_45 rfl (lv_at hl 2 rfl) ?_
                refine lv_iload_n (pc := 46) hx hb dX6_sheet_46 rfl (lv_at hl 2 rfl) ?_
                refine lv_iconst (pc := 47) hx hb (v := (-1)) dX6_sheet_47 (by decide) ?_
                refine lv_icmp_ne (pc := 48) hx hb (tgt := 55) dX6_sheet_48 (by decide) (fun c_48 => ?_) (fun c_48 => ?_)
                · have hf := hf_f c_48 hf
                  refine lv_iload_n (pc := 55) hx hb dX6_sheet_55 rfl (lv_at hl 3 rfl) ?_
                  obtain ⟨r56, hc56, hf⟩ := hf_b hf
                  refine cl_V (pc := 56) (As := [.int a2, .int a3]) (rest := []) hx hb hml hown hts (kX2_renew_32 l D A B _ S a2 a3 r56 hc56) (cwV 2 hts gwRX6_224 rfl rfl rfl hdX2_renew ⟨Nat.le_of_ble_eq_true rfl, Nat.le_of_ble_eq_true rfl⟩) hN hK hP hD hS hA (va_recv hK hP (ci := 2) (q0 := 32) rfl (eX_32 A B _)) rfl hl.1 rfl (Nat.le_of_ble_eq_true rfl) dX6_sheet_56 (st1 := []) rfl ⟨Nat.zero_le _, Nat.zero_le _⟩ (fun H locs hP hD hS => ?_)
                  refine lv_iconst (pc := 59) hx hb (v := 1) dX6_sheet_59 (by decide) ?_
                  obtain rfl := Option.some.inj hf
                  exact hR H locs 60 ls hP hD hS dX6_sheet_60
                · have hf := hf_t c_48 hf
                  refine lv_iconst (pc := 51) hx hb (v := 0) dX6_sheet_51 (by decide) ?_
                  refine lv_goto (pc := 52) hx hb (tgt := 56) dX6_sheet_52 (by decide) ?_
                  obtain ⟨r56, hc56, hf⟩ := hf_b hf
                  refine cl_V (pc := 56) (As := [.int a2, .int 0]) (rest := []) hx hb hml hown hts (kX2_renew_32 l D A B _ S a2 0 r56 hc56) (cwV 2 hts gwRX6_224 rfl rfl rfl hdX2_renew ⟨Nat.le_of_ble_eq_true rfl, Nat.le_of_ble_eq_true rfl⟩) hN hK hP hD hS hA (va_recv hK hP (ci := 2) (q0 := 32) rfl (eX_32 A B _)) rfl hl.1 rfl (Nat.le_of_ble_eq_true rfl) dX6_sheet_56 (st1 := []) rfl ⟨Nat.zero_le _, Nat.zero_le _⟩ (fun H locs hP hD hS => ?_)
                  refine lv_iconst (pc := 59) hx hb (v := 1) dX6_sheet_59 (by decide) ?_
                  obtain rfl := Option.some.inj hf
                  exact hR H locs 60 ls hP hD hS dX6_sheet_60
              · have hf := hf_f e44_1 hf
                by_cases e44_2 : a1 = (2 : Int32)
                · have hf := hf_t e44_2 hf
                  refine vXrq_29_2 (pc := 44) hx hb hK hP e44_2 dX6_sheet_44 ?_
                  refine lv_iload_n (pc := 45) hx hb dX6_sheet_45 rfl (lv_at hl 2 rfl) ?_
                  refine lv_iload_n (pc := 46) hx hb dX6_sheet_46 rfl (lv_at hl 2 rfl) ?_
                  refine lv_iconst (pc := 47) hx hb (v := (-1)) dX6_sheet_47 (by decide) ?_
                  refine lv_icmp_ne (pc := 48) hx hb (tgt := 55) dX6_sheet_48 (by decide) (fun c_48 => ?_) (fun c_48 => ?_)
                  · have hf := hf_f c_48 hf
                    refine lv_iload_n (pc := 55) hx hb dX6_sheet_55 rfl (lv_at hl 3 rfl) ?_
                    obtain ⟨r56, hc56, hf⟩ := hf_b hf
                    refine cl_V (pc := 56) (As := [.int a2, .int a3]) (rest := []) hx hb hml hown hts (kX2_renew_34 l D A B _ S a2 a3 r56 hc56) (cwV 2 hts gwRX6_224 rfl rfl rfl hdX2_renew ⟨Nat.le_of_ble_eq_true rfl, Nat.le_of_ble_eq_true rfl⟩) hN hK hP hD hS hA (va_recv hK hP (ci := 2) (q0 := 34) rfl (eX_34 A B _)) rfl hl.1 rfl (Nat.le_of_ble_eq_true rfl) dX6_sheet_56 (st1 := []) rfl ⟨Nat.zero_le _, Nat.zero_le _⟩ (fun H locs hP hD hS => ?_)
                    refine lv_iconst (pc := 59) hx hb (v := 1) dX6_sheet_59 (by decide) ?_
                    obtain rfl := Option.some.inj hf
                    exact hR H locs 60 ls hP hD hS dX6_sheet_60
                  · have hf := hf_t c_48 hf
                    refine lv_iconst (pc := 51) hx hb (v := 0) dX6_sheet_51 (by decide) ?_
                    refine lv_goto (pc := 52) hx hb (tgt := 56) dX6_sheet_52 (by decide) ?_
                    obtain ⟨r56, hc56, hf⟩ := hf_b hf
                    refine cl_V (pc := 56) (As := [.int a2, .int 0]) (rest := []) hx hb hml hown hts (kX2_renew_34 l D A B _ S a2 0 r56 hc56) (cwV 2 hts gwRX6_224 rfl rfl rfl hdX2_renew ⟨Nat.le_of_ble_eq_true rfl, Nat.le_of_ble_eq_true rfl⟩) hN hK hP hD hS hA (va_recv hK hP (ci := 2) (q0 := 34) rfl (eX_34 A B _)) rfl hl.1 rfl (Nat.le_of_ble_eq_true rfl) dX6_sheet_56 (st1 := []) rfl ⟨Nat.zero_le _, Nat.zero_le _⟩ (fun H locs hP hD hS => ?_)
                    refine lv_iconst (pc := 59) hx hb (v := 1) dX6_sheet_59 (by decide) ?_
                    obtain rfl := Option.some.inj hf
                    exact hR H locs 60 ls hP hD hS dX6_sheet_60
                · have hf := hf_f e44_2 hf
                  by_cases e44_3 : a1 = (3 : Int32)
                  · have hf := hf_t e44_3 hf
                    refine vXrq_29_3 (pc := 44) hx hb hK hP e44_3 dX6_sheet_44 ?_
                    refine lv_iload_n (pc := 45) hx hb dX6_sheet_45 rfl (lv_at hl 2 rfl) ?_
                    refine lv_iload_n (pc := 46) hx hb dX6_sheet_46 rfl (lv_at hl 2 rfl) ?_
                    refine lv_iconst (pc := 47) hx hb (v := (-1)) dX6_sheet_47 (by decide) ?_
                    refine lv_icmp_ne (pc := 48) hx hb (tgt := 55) dX6_sheet_48 (by decide) (fun c_48 => ?_) (fun c_48 => ?_)
                    · have hf := hf_f c_48 hf
                      refine lv_iload_n (pc := 55) hx hb dX6_sheet_55 rfl (lv_at hl 3 rfl) ?_
                      obtain ⟨r56, hc56, hf⟩ := hf_b hf
                      refine cl_V (pc := 56) (As := [.int a2, .int a3]) (rest := []) hx hb hml hown hts (kX2_renew_36 l D A B _ S a2 a3 r56 hc56) (cwV 2 hts gwRX6_224 rfl rfl rfl hdX2_renew ⟨Nat.le_of_ble_eq_true rfl, Nat.le_of_ble_eq_true rfl⟩) hN hK hP hD hS hA (va_recv hK hP (ci := 2) (q0 := 36) rfl (eX_36 A B _)) rfl hl.1 rfl (Nat.le_of_ble_eq_true rfl) dX6_sheet_56 (st1 := []) rfl ⟨Nat.zero_le _, Nat.zero_le _⟩ (fun H locs hP hD hS => ?_)
                      refine lv_iconst (pc := 59) hx hb (v := 1) dX6_sheet_59 (by decide) ?_
                      obtain rfl := Option.some.inj hf
                      exact hR H locs 60 ls hP hD hS dX6_sheet_60
                    · have hf := hf_t c_48 hf
                      refine lv_iconst (pc := 51) hx hb (v := 0) dX6_sheet_51 (by decide) ?_
                      refine lv_goto (pc := 52) hx hb (tgt := 56) dX6_sheet_52 (by decide) ?_
                      obtain ⟨r56, hc56, hf⟩ := hf_b hf
                      refine cl_V (pc := 56) (As := [.int a2, .int 0]) (rest := []) hx hb hml hown hts (kX2_renew_36 l D A B _ S a2 0 r56 hc56) (cwV 2 hts gwRX6_224 rfl rfl rfl hdX2_renew ⟨Nat.le_of_ble_eq_true rfl, Nat.le_of_ble_eq_true rfl⟩) hN hK hP hD hS hA (va_recv hK hP (ci := 2) (q0 := 36) rfl (eX_36 A B _)) rfl hl.1 rfl (Nat.le_of_ble_eq_true rfl) dX6_sheet_56 (st1 := []) rfl ⟨Nat.zero_le _, Nat.zero_le _⟩ (fun H locs hP hD hS => ?_)
                      refine lv_iconst (pc := 59) hx hb (v := 1) dX6_sheet_59 (by decide) ?_
                      obtain rfl := Option.some.inj hf
                      exact hR H locs 60 ls hP hD hS dX6_sheet_60
                  · have hf := hf_f e44_3 hf
                    exact hf_0 hf
          · have hf := hf_f c_29 hf
            refine lv_iload_n (pc := 32) hx hb dX6_sheet_32 rfl (lv_at hl 3 rfl) ?_
            refine lv_if_ge (pc := 33) hx hb (tgt := 39) dX6_sheet_33 (by decide) (fun c_33 => ?_) (fun c_33 => ?_)
            · have hf := hf_t c_33 hf
              refine lv_aload_n (pc := 39) hx hb dX6_sheet_39 rfl (lv_at hl 0 rfl) ?_
              refine vXgRX6_48_0 (pc := 40) hx hb hts mU_33 inU6 hown hK hP dX6_sheet_40 ?_
              refine lv_iload_n (pc := 43) hx hb dX6_sheet_43 rfl (lv_at hl 1 rfl) ?_
              by_cases e44_0 : a1 = (0 : Int32)
              · have hf := hf_t e44_0 hf
                refine vXrq_29_0 (pc := 44) hx hb hK hP e44_0 dX6_sheet_44 ?_
                refine lv_iload_n (pc := 45) hx hb dX6_sheet_45 rfl (lv_at hl 2 rfl) ?_
                refine lv_iload_n (pc := 46) hx hb dX6_sheet_46 rfl (lv_at hl 2 rfl) ?_
                refine lv_iconst (pc := 47) hx hb (v := (-1)) dX6_sheet_47 (by decide) ?_
                refine lv_icmp_ne (pc := 48) hx hb (tgt := 55) dX6_sheet_48 (by decide) (fun c_48 => ?_) (fun c_48 => ?_)
                · have hf := hf_f c_48 hf
                  refine lv_iload_n (pc := 55) hx hb dX6_sheet_55 rfl (lv_at hl 3 rfl) ?_
                  obtain ⟨r56, hc56, hf⟩ := hf_b hf
                  refine cl_V (pc := 56) (As := [.int a2, .int a3]) (rest := []) hx hb hml hown hts (kX2_renew_30 l D A B _ S a2 a3 r56 hc56) (cwV 2 hts gwRX6_224 rfl rfl rfl hdX2_renew ⟨Nat.le_of_ble_eq_true rfl, Nat.le_of_ble_eq_true rfl⟩) hN hK hP hD hS hA (va_recv hK hP (ci := 2) (q0 := 30) rfl (eX_30 A B _)) rfl hl.1 rfl (Nat.le_of_ble_eq_true rfl) dX6_sheet_56 (st1 := []) rfl ⟨Nat.zero_le _, Nat.zero_le _⟩ (fun H locs hP hD hS => ?_)
                  refine lv_iconst (pc := 59) hx hb (v := 1) dX6_sheet_59 (by decide) ?_
                  obtain rfl := Option.some.inj hf
                  exact hR H locs 60 ls hP hD hS dX6_sheet_60
                · have hf := hf_t c_48 hf
                  refine lv_iconst (pc := 51) hx hb (v := 0) dX6_sheet_51 (by decide) ?_
                  refine lv_goto (pc := 52) hx hb (tgt := 56) dX6_sheet_52 (by decide) ?_
                  obtain ⟨r56, hc56, hf⟩ := hf_b hf
                  refine cl_V (pc := 56) (As := [.int a2, .int 0]) (rest := []) hx hb hml hown hts (kX2_renew_30 l D A B _ S a2 0 r56 hc56) (cwV 2 hts gwRX6_224 rfl rfl rfl hdX2_renew ⟨Nat.le_of_ble_eq_true rfl, Nat.le_of_ble_eq_true rfl⟩) hN hK hP hD hS hA (va_recv hK hP (ci := 2) (q0 := 30) rfl (eX_30 A B _)) rfl hl.1 rfl (Nat.le_of_ble_eq_true rfl) dX6_sheet_56 (st1 := []) rfl ⟨Nat.zero_le _, Nat.zero_le _⟩ (fun H locs hP hD hS => ?_)
                  refine lv_iconst (pc := 59) hx hb (v := 1) dX6_sheet_59 (by decide) ?_
                  obtain rfl := Option.some.inj hf
                  exact hR H locs 60 ls hP hD hS dX6_sheet_60
              · have hf := hf_f e44_0 hf
                by_cases e44_1 : a1 = (1 : Int32)
                · have hf := hf_t e44_1 hf
                  refine vXrq_29_1 (pc := 44) hx hb hK hP e44_1 dX6_sheet_44 ?_
                  refine lv_iload_n (pc := 45) hx hb dX6_sheet_45 rfl (lv_at hl 2 rfl) ?_
                  refine lv_iload_n (pc := 46) hx hb dX6_sheet_46 rfl (lv_at hl 2 rfl) ?_
                  refine lv_iconst (pc := 47) hx hb (v := (-1)) dX6_sheet_47 (by decide) ?_
                  refine lv_icmp_ne (pc := 48) hx hb (tgt := 55) dX6_sheet_48 (by decide) (fun c_48 => ?_) (fun c_48 => ?_)
                  · have hf := hf_f c_48 hf
                    refine lv_iload_n (pc := 55) hx hb dX6_sheet_55 rfl (lv_at hl 3 rfl) ?_
                    obtain ⟨r56, hc56, hf⟩ := hf_b hf
                    refine cl_V (pc := 56) (As := [.int a2, .int a3]) (rest := []) hx hb hml hown hts (kX2_renew_32 l D A B _ S a2 a3 r56 hc56) (cwV 2 hts gwRX6_224 rfl rfl rfl hdX2_renew ⟨Nat.le_of_ble_eq_true rfl, Nat.le_of_ble_eq_true rfl⟩) hN hK hP hD hS hA (va_recv hK hP (ci := 2) (q0 := 32) rfl (eX_32 A B _)) rfl hl.1 rfl (Nat.le_of_ble_eq_true rfl) dX6_sheet_56 (st1 := []) rfl ⟨Nat.zero_le _, Nat.zero_le _⟩ (fun H locs hP hD hS => ?_)
                    refine lv_iconst (pc := 59) hx hb (v := 1) dX6_sheet_59 (by decide) ?_
                    obtain rfl := Option.some.inj hf
                    exact hR H locs 60 ls hP hD hS dX6_sheet_60
                  · have hf := hf_t c_48 hf
                    refine lv_iconst (pc := 51) hx hb (v := 0) dX6_sheet_51 (by decide) ?_
                    refine lv_goto (pc := 52) hx hb (tgt := 56) dX6_sheet_52 (by decide) ?_
                    obtain ⟨r56, hc56, hf⟩ := hf_b hf
                    refine cl_V (pc := 56) (As := [.int a2, .int 0]) (rest := []) hx hb hml hown hts (kX2_renew_32 l D A B _ S a2 0 r56 hc56) (cwV 2 hts gwRX6_224 rfl rfl rfl hdX2_renew ⟨Nat.le_of_ble_eq_true rfl, Nat.le_of_ble_eq_true rfl⟩) hN hK hP hD hS hA (va_recv hK hP (ci := 2) (q0 := 32) rfl (eX_32 A B _)) rfl hl.1 rfl (Nat.le_of_ble_eq_true rfl) dX6_sheet_56 (st1 := []) rfl ⟨Nat.zero_le _, Nat.zero_le _⟩ (fun H locs hP hD hS => ?_)
                    refine lv_iconst (pc := 59) hx hb (v := 1) dX6_sheet_59 (by decide) ?_
                    obtain rfl := Option.some.inj hf
                    exact hR H locs 60 ls hP hD hS dX6_sheet_60
                · have hf := hf_f e44_1 hf
                  by_cases e44_2 : a1 = (2 : Int32)
                  · have hf := hf_t e44_2 hf
                    refine vXrq_29_2 (pc := 44) hx hb hK hP e44_2 dX6_sheet_44 ?_
                    refine lv_iload_n (pc := 45) hx hb dX6_sheet_45 rfl (lv_at hl 2 rfl) ?_
                    refine lv_iload_n (pc := 46) hx hb dX6_sheet_46 rfl (lv_at hl 2 rfl) ?_
                    refine lv_iconst (pc := 47) hx hb (v := (-1)) dX6_sheet_47 (by decide) ?_
                    refine lv_icmp_ne (pc := 48) hx hb (tgt := 55) dX6_sheet_48 (by decide) (fun c_48 => ?_) (fun c_48 => ?_)
                    · have hf := hf_f c_48 hf
                      refine lv_iload_n (pc := 55) hx hb dX6_sheet_55 rfl (lv_at hl 3 rfl) ?_
                      obtain ⟨r56, hc56, hf⟩ := hf_b hf
                      refine cl_V (pc := 56) (As := [.int a2, .int a3]) (rest := []) hx hb hml hown hts (kX2_renew_34 l D A B _ S a2 a3 r56 hc56) (cwV 2 hts gwRX6_224 rfl rfl rfl hdX2_renew ⟨Nat.le_of_ble_eq_true rfl, Nat.le_of_ble_eq_true rfl⟩) hN hK hP hD hS hA (va_recv hK hP (ci := 2) (q0 := 34) rfl (eX_34 A B _)) rfl hl.1 rfl (Nat.le_of_ble_eq_true rfl) dX6_sheet_56 (st1 := []) rfl ⟨Nat.zero_le _, Nat.zero_le _⟩ (fun H locs hP hD hS => ?_)
                      refine lv_iconst (pc := 59) hx hb (v := 1) dX6_sheet_59 (by decide) ?_
                      obtain rfl := Option.some.inj hf
                      exact hR H locs 60 ls hP hD hS dX6_sheet_60
                    · have hf := hf_t c_48 hf
                      refine lv_iconst (pc := 51) hx hb (v := 0) dX6_sheet_51 (by decide) ?_
                      refine lv_goto (pc := 52) hx hb (tgt := 56) dX6_sheet_52 (by decide) ?_
                      obtain ⟨r56, hc56, hf⟩ := hf_b hf
                      refine cl_V (pc := 56) (As := [.int a2, .int 0]) (rest := []) hx hb hml hown hts (kX2_renew_34 l D A B _ S a2 0 r56 hc56) (cwV 2 hts gwRX6_224 rfl rfl rfl hdX2_renew ⟨Nat.le_of_ble_eq_true rfl, Nat.le_of_ble_eq_true rfl⟩) hN hK hP hD hS hA (va_recv hK hP (ci := 2) (q0 := 34) rfl (eX_34 A B _)) rfl hl.1 rfl (Nat.le_of_ble_eq_true rfl) dX6_sheet_56 (st1 := []) rfl ⟨Nat.zero_le _, Nat.zero_le _⟩ (fun H locs hP hD hS => ?_)
                      refine lv_iconst (pc := 59) hx hb (v := 1) dX6_sheet_59 (by decide) ?_
                      obtain rfl := Option.some.inj hf
                      exact hR H locs 60 ls hP hD hS dX6_sheet_60
                  · have hf := hf_f e44_2 hf
                    by_cases e44_3 : a1 = (3 : Int32)
                    · have hf := hf_t e44_3 hf
                      refine vXrq_29_3 (pc := 44) hx hb hK hP e44_3 dX6_sheet_44 ?_
                      refine lv_iload_n (pc := 45) hx hb dX6_sheet_45 rfl (lv_at hl 2 rfl) ?_
                      refine lv_iload_n (pc := 46) hx hb dX6_sheet_46 rfl (lv_at hl 2 rfl) ?_
                      refine lv_iconst (pc := 47) hx hb (v := (-1)) dX6_sheet_47 (by decide) ?_
                      refine lv_icmp_ne (pc := 48) hx hb (tgt := 55) dX6_sheet_48 (by decide) (fun c_48 => ?_) (fun c_48 => ?_)
                      · have hf := hf_f c_48 hf
                        refine lv_iload_n (pc := 55) hx hb dX6_sheet_55 rfl (lv_at hl 3 rfl) ?_
                        obtain ⟨r56, hc56, hf⟩ := hf_b hf
                        refine cl_V (pc := 56) (As := [.int a2, .int a3]) (rest := []) hx hb hml hown hts (kX2_renew_36 l D A B _ S a2 a3 r56 hc56) (cwV 2 hts gwRX6_224 rfl rfl rfl hdX2_renew ⟨Nat.le_of_ble_eq_true rfl, Nat.le_of_ble_eq_true rfl⟩) hN hK hP hD hS hA (va_recv hK hP (ci := 2) (q0 := 36) rfl (eX_36 A B _)) rfl hl.1 rfl (Nat.le_of_ble_eq_true rfl) dX6_sheet_56 (st1 := []) rfl ⟨Nat.zero_le _, Nat.zero_le _⟩ (fun H locs hP hD hS => ?_)
                        refine lv_iconst (pc := 59) hx hb (v := 1) dX6_sheet_59 (by decide) ?_
                        obtain rfl := Option.some.inj hf
                        exact hR H locs 60 ls hP hD hS dX6_sheet_60
                      · have hf := hf_t c_48 hf
                        refine lv_iconst (pc := 51) hx hb (v := 0) dX6_sheet_51 (by decide) ?_
                        refine lv_goto (pc := 52) hx hb (tgt := 56) dX6_sheet_52 (by decide) ?_
                        obtain ⟨r56, hc56, hf⟩ := hf_b hf
                        refine cl_V (pc := 56) (As := [.int a2, .int 0]) (rest := []) hx hb hml hown hts (kX2_renew_36 l D A B _ S a2 0 r56 hc56) (cwV 2 hts gwRX6_224 rfl rfl rfl hdX2_renew ⟨Nat.le_of_ble_eq_true rfl, Nat.le_of_ble_eq_true rfl⟩) hN hK hP hD hS hA (va_recv hK hP (ci := 2) (q0 := 36) rfl (eX_36 A B _)) rfl hl.1 rfl (Nat.le_of_ble_eq_true rfl) dX6_sheet_56 (st1 := []) rfl ⟨Nat.zero_le _, Nat.zero_le _⟩ (fun H locs hP hD hS => ?_)
                        refine lv_iconst (pc := 59) hx hb (v := 1) dX6_sheet_59 (by decide) ?_
                        obtain rfl := Option.some.inj hf
                        exact hR H locs 60 ls hP hD hS dX6_sheet_60
                    · have hf := hf_f e44_3 hf
                      exact hf_0 hf
            · have hf := hf_f c_33 hf
              refine lv_bipush (pc := 36) hx hb (v := (-14)) dX6_sheet_36 (by decide) ?_
              obtain rfl := Option.some.inj hf
              exact hR H locs 38 ls hP hD hS dX6_sheet_38
        · have hf := hf_f c_22 hf
          refine lv_iconst (pc := 25) hx hb (v := (-1)) dX6_sheet_25 (by decide) ?_
          obtain rfl := Option.some.inj hf
          exact hR H locs 26 ls hP hD hS dX6_sheet_26
