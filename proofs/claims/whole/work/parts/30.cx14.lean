set_option maxHeartbeats 4000000 in
set_option maxRecDepth 100000 in
theorem kX6_act (l : Launch) (D : va_G) (A : Nat → Nat) (B : Nat → ClassId) (sz : Nat) (S : w_S) (a1 : Int32) (a2 : Int32) (a3 : Int32) (z : Int32 × w_S) (hf : fX6_act S a1 a2 a3 = some z) : MetW l yX6_act (wsO yX6_act cX6_act 5 (some .int)) rm_X6_act [.ref (A 0), .int a1, .int a2, .int a3] D (tyB B) (wX A B S) (wX A B z.2) sz (some (.int z.1)) := by
  refine MetW.mkI (cc := cX6_act) (maxL := 5) (by decide) (Nat.le_of_ble_eq_true rfl) ?_
  intro p e s m args below meth c Ad Q hx hb hts hown hml hN hK hA hR H locs ls hP hD hS hl
  have hl : lv_has ls 5 [(0, .ref (A 0)), (1, .int a1), (2, .int a2), (3, .int a3)] := hl
  rw [fX6_act] at hf
  refine lv_aload_n (pc := 0) hx hb dX6_act_0 rfl (lv_at hl 0 rfl) ?_
  refine vXgRX6_42_0 (pc := 1) hx hb hts mU_31 inU6 hown hK hP dX6_act_1 ?_
  obtain ⟨r4, hc4, hf⟩ := hf_b hf
  refine cl_V (pc := 4) (As := []) (rest := []) hx hb hml hown hts (kX0_forget_27 l D A B _ S r4 hc4) (cwV 0 hts gwRX6_292 rfl rfl rfl hdX0_forget ⟨Nat.le_of_ble_eq_true rfl, Nat.le_of_ble_eq_true rfl⟩) hN hK hP hD hS hA (va_recv hK hP (ci := 0) (q0 := 27) rfl (eX_27 A B _)) rfl hl.1 rfl (Nat.le_of_ble_eq_true rfl) dX6_act_4 (st1 := []) rfl ⟨Nat.zero_le _, Nat.zero_le _⟩ (fun H locs hP hD hS => ?_)
  refine lv_iload_n (pc := 7) hx hb dX6_act_7 rfl (lv_at hl 1 rfl) ?_
  obtain ⟨r8, hc8, hf⟩ := hf_b hf
  refine cl_S (pc := 8) (As := [.int a1]) (rest := []) hx hb hml hown hts (kX6_isShelf l D A B _ r4 a1 r8 hc8) (va_cwS 1 hts gwRX6_275 rfl rfl rfl hdX6_isShelf ⟨Nat.le_of_ble_eq_true rfl, Nat.le_of_ble_eq_true rfl⟩) hN hK hP hD hS hA rfl hl.1 rfl (Nat.le_of_ble_eq_true rfl) dX6_act_8 (st1 := [.int r8]) rfl ⟨Nat.zero_le _, Nat.zero_le _⟩ (fun H locs hP hD hS => ?_)
  refine lv_if_eq (pc := 11) hx hb (tgt := 36) dX6_act_11 (by decide) (fun c_11 => ?_) (fun c_11 => ?_)
  · have hf := hf_t c_11 hf
    refine lv_iconst (pc := 36) hx hb (v := 0) dX6_act_36 (by decide) ?_
    obtain rfl := Option.some.inj hf
    exact hR H locs 37 ls hP hD hS dX6_act_37
  · have hf := hf_f c_11 hf
    refine lv_iload_n (pc := 14) hx hb dX6_act_14 rfl (lv_at hl 2 rfl) ?_
    refine lv_if_lt (pc := 15) hx hb (tgt := 36) dX6_act_15 (by decide) (fun c_15 => ?_) (fun c_15 => ?_)
    · have hf := hf_t c_15 hf
      refine lv_iconst (pc := 36) hx hb (v := 0) dX6_act_36 (by decide) ?_
      obtain rfl := Option.some.inj hf
      exact hR H locs 37 ls hP hD hS dX6_act_37
    · have hf := hf_f c_15 hf
      refine lv_iload_n (pc := 18) hx hb dX6_act_18 rfl (lv_at hl 2 rfl) ?_
      refine lv_iconst (pc := 19) hx hb (v := 3) dX6_act_19 (by decide) ?_
      refine lv_icmp_gt (pc := 20) hx hb (tgt := 36) dX6_act_20 (by decide) (fun c_20 => ?_) (fun c_20 => ?_)
      · have hf := hf_t c_20 hf
        refine lv_iconst (pc := 36) hx hb (v := 0) dX6_act_36 (by decide) ?_
        obtain rfl := Option.some.inj hf
        exact hR H locs 37 ls hP hD hS dX6_act_37
      · have hf := hf_f c_20 hf
        refine lv_aload_n (pc := 23) hx hb dX6_act_23 rfl (lv_at hl 0 rfl) ?_
        refine lv_aload_n (pc := 24) hx hb dX6_act_24 rfl (lv_at hl 0 rfl) ?_
        refine vXgRX6_54_0 (pc := 25) hx hb hts mU_35 inU6 hown hK hP dX6_act_25 ?_
        refine lv_iload_n (pc := 28) hx hb dX6_act_28 rfl (lv_at hl 1 rfl) ?_
        by_cases e29_0 : a1 = (0 : Int32)
        · have hf := hf_t e29_0 hf
          refine vXrq_38_0 (pc := 29) hx hb hK hP e29_0 dX6_act_29 ?_
          obtain ⟨r30, hc30, hf⟩ := hf_b hf
          refine cl_V (pc := 30) (As := [.ref (A 39)]) (rest := []) hx hb hml hown hts (kX6_heldNow_39 l D A B _ r4 r30 hc30) (cwV 1 hts gwRX6_281 rfl rfl rfl hdX6_heldNow ⟨Nat.le_of_ble_eq_true rfl, Nat.le_of_ble_eq_true rfl⟩) hN hK hP hD hS hA (va_recv hK hP (ci := 6) (q0 := 0) rfl (eX_0 A B _)) rfl hl.1 rfl (Nat.le_of_ble_eq_true rfl) dX6_act_30 (st1 := [.int r30]) rfl ⟨Nat.zero_le _, Nat.zero_le _⟩ (fun H locs hP hD hS => ?_)
          refine lv_if_eq (pc := 33) hx hb (tgt := 38) dX6_act_33 (by decide) (fun c_33 => ?_) (fun c_33 => ?_)
          · have hf := hf_t c_33 hf
            refine lv_aload_n (pc := 38) hx hb dX6_act_38 rfl (lv_at hl 0 rfl) ?_
            refine vXgRX6_54_0 (pc := 39) hx hb hts mU_35 inU6 hown hK hP dX6_act_39 ?_
            refine lv_iload_n (pc := 42) hx hb dX6_act_42 rfl (lv_at hl 1 rfl) ?_
            by_cases e43_0 : a1 = (0 : Int32)
            · have hf := hf_t e43_0 hf
              refine vXrq_38_0 (pc := 43) hx hb hK hP e43_0 dX6_act_43 ?_
              refine vXgRX6_286_39 (pc := 44) hx hb hts mU_958 inU3 hown hK hP (x := (gI r4 37)) rfl dX6_act_44 ?_
              refine lv_istore (pc := 47) hx hb (lv' := [(4, .int (gI r4 37)), (0, .ref (A 0)), (1, .int a1), (2, .int a2), (3, .int a3)]) dX6_act_47 hl (by decide) rfl (fun ls hl => ?_)
              refine lv_aload_n (pc := 49) hx hb dX6_act_49 rfl (lv_at hl 1 rfl) ?_
              refine vXgRX6_42_0 (pc := 50) hx hb hts mU_31 inU6 hown hK hP dX6_act_50 ?_
              refine lv_aload_n (pc := 53) hx hb dX6_act_53 rfl (lv_at hl 1 rfl) ?_
              refine vXgRX6_10_0 (pc := 54) hx hb hts mU_16 inU6 hown hK hP dX6_act_54 ?_
              refine lv_iload (pc := 57) hx hb dX6_act_57 (lv_at hl 0 rfl) ?_
              obtain ⟨r59, hc59, hf⟩ := hf_b hf
              refine cl_V (pc := 59) (As := [.int (gI r4 37)]) (rest := [.ref (A 27)]) hx hb hml hown hts (kX4_kindOf_1 l D A B _ r4 (gI r4 37) r59 hc59) (cwV 1 hts gwRX6_128 rfl rfl rfl hdX4_kindOf ⟨Nat.le_of_ble_eq_true rfl, Nat.le_of_ble_eq_true rfl⟩) hN hK hP hD hS hA (va_recv hK hP (ci := 4) (q0 := 1) rfl (eX_1 A B _)) rfl hl.1 rfl (Nat.le_of_ble_eq_true rfl) dX6_act_59 (st1 := [.int r59, .ref (A 27)]) rfl ⟨Nat.zero_le _, Nat.zero_le _⟩ (fun H locs hP hD hS => ?_)
              refine vXpRX6_295_27 (pc := 62) hx hb hts mU_987 inU0 hown hK hP hD hS dX6_act_62 (fun H locs hP hD hS => ?_)
              refine lv_aload_n (pc := 65) hx hb dX6_act_65 rfl (lv_at hl 1 rfl) ?_
              refine vXgRX6_42_0 (pc := 66) hx hb hts mU_31 inU6 hown hK hP dX6_act_66 ?_
              refine lv_iload (pc := 69) hx hb dX6_act_69 (lv_at hl 0 rfl) ?_
              refine vXpRX6_298_27 (pc := 71) hx hb hts mU_988 inU0 hown hK hP hD hS dX6_act_71 (fun H locs hP hD hS => ?_)
              refine lv_aload_n (pc := 74) hx hb dX6_act_74 rfl (lv_at hl 1 rfl) ?_
              refine vXgRX6_42_0 (pc := 75) hx hb hts mU_31 inU6 hown hK hP dX6_act_75 ?_
              refine lv_aload_n (pc := 78) hx hb dX6_act_78 rfl (lv_at hl 1 rfl) ?_
              refine vXgRX6_10_0 (pc := 79) hx hb hts mU_16 inU6 hown hK hP dX6_act_79 ?_
              refine lv_iload (pc := 82) hx hb dX6_act_82 (lv_at hl 0 rfl) ?_
              obtain ⟨r84, hc84, hf⟩ := hf_b hf
              refine cl_V (pc := 84) (As := [.int (gI r4 37)]) (rest := [.ref (A 27)]) hx hb hml hown hts (kX4_shiftOf_1 l D A B _ (sI (sI r4 23 r59) 24 (gI r4 37)) (gI r4 37) r84 hc84) (cwV 1 hts gwRX6_131 rfl rfl rfl hdX4_shiftOf ⟨Nat.le_of_ble_eq_true rfl, Nat.le_of_ble_eq_true rfl⟩) hN hK hP hD hS hA (va_recv hK hP (ci := 4) (q0 := 1) rfl (eX_1 A B _)) rfl hl.1 rfl (Nat.le_of_ble_eq_true rfl) dX6_act_84 (st1 := [.int r84, .ref (A 27)]) rfl ⟨Nat.zero_le _, Nat.zero_le _⟩ (fun H locs hP hD hS => ?_)
              refine vXpRX6_299_27 (pc := 87) hx hb hts mU_989 inU0 hown hK hP hD hS dX6_act_87 (fun H locs hP hD hS => ?_)
              refine lv_aload_n (pc := 90) hx hb dX6_act_90 rfl (lv_at hl 1 rfl) ?_
              refine vXgRX6_42_0 (pc := 91) hx hb hts mU_31 inU6 hown hK hP dX6_act_91 ?_
              refine lv_iload_n (pc := 94) hx hb dX6_act_94 rfl (lv_at hl 3 rfl) ?_
              refine lv_iload_n (pc := 95) hx hb dX6_act_95 rfl (lv_at hl 4 rfl) ?_
              obtain ⟨r96, hc96, hf⟩ := hf_b hf
              refine cl_V (pc := 96) (As := [.int a2, .int a3]) (rest := []) hx hb hml hown hts (kX0_run_27 l D A B _ (sI (sI (sI r4 23 r59) 24 (gI r4 37)) 25 r84) a2 a3 r96 hc96) (cwV 2 hts gwRX6_302 rfl rfl rfl hdX0_run ⟨Nat.le_of_ble_eq_true rfl, Nat.le_of_ble_eq_true rfl⟩) hN hK hP hD hS hA (va_recv hK hP (ci := 0) (q0 := 27) rfl (eX_27 A B _)) rfl hl.1 rfl (Nat.le_of_ble_eq_true rfl) dX6_act_96 (st1 := [.int r96.1]) rfl ⟨Nat.zero_le _, Nat.zero_le _⟩ (fun H locs hP hD hS => ?_)
              obtain rfl := Option.some.inj hf
              exact hR H locs 99 ls hP hD hS dX6_act_99
            · have hf := hf_f e43_0 hf
              by_cases e43_1 : a1 = (1 : Int32)
              · have hf := hf_t e43_1 hf
                refine vXrq_38_1 (pc := 43) hx hb hK hP e43_1 dX6_act_43 ?_
                refine vXgRX6_286_40 (pc := 44) hx hb hts mU_958 inU3 hown hK hP (x := (gI r4 40)) rfl dX6_act_44 ?_
                refine lv_istore (pc := 47) hx hb (lv' := [(4, .int (gI r4 40)), (0, .ref (A 0)), (1, .int a1), (2, .int a2), (3, .int a3)]) dX6_act_47 hl (by decide) rfl (fun ls hl => ?_)
                refine lv_aload_n (pc := 49) hx hb dX6_act_49 rfl (lv_at hl 1 rfl) ?_
                refine vXgRX6_42_0 (pc := 50) hx hb hts mU_31 inU6 hown hK hP dX6_act_50 ?_
                refine lv_aload_n (pc := 53) hx hb dX6_act_53 rfl (lv_at hl 1 rfl) ?_
                refine vXgRX6_10_0 (pc := 54) hx hb hts mU_16 inU6 hown hK hP dX6_act_54 ?_
                refine lv_iload (pc := 57) hx hb dX6_act_57 (lv_at hl 0 rfl) ?_
                obtain ⟨r59, hc59, hf⟩ := hf_b hf
                refine cl_V (pc := 59) (As := [.int (gI r4 40)]) (rest := [.ref (A 27)]) hx hb hml hown hts (kX4_kindOf_1 l D A B _ r4 (gI r4 40) r59 hc59) (cwV 1 hts gwRX6_128 rfl rfl rfl hdX4_kindOf ⟨Nat.le_of_ble_eq_true rfl, Nat.le_of_ble_eq_true rfl⟩) hN hK hP hD hS hA (va_recv hK hP (ci := 4) (q0 := 1) rfl (eX_1 A B _)) rfl hl.1 rfl (Nat.le_of_ble_eq_true rfl) dX6_act_59 (st1 := [.int r59, .ref (A 27)]) rfl ⟨Nat.zero_le _, Nat.zero_le _⟩ (fun H locs hP hD hS => ?_)
                refine vXpRX6_295_27 (pc := 62) hx hb hts mU_987 inU0 hown hK hP hD hS dX6_act_62 (fun H locs hP hD hS => ?_)
                refine lv_aload_n (pc := 65) hx hb dX6_act_65 rfl (lv_at hl 1 rfl) ?_
                refine vXgRX6_42_0 (pc := 66) hx hb hts mU_31 inU6 hown hK hP dX6_act_66 ?_
                refine lv_iload (pc := 69) hx hb dX6_act_69 (lv_at hl 0 rfl) ?_
                refine vXpRX6_298_27 (pc := 71) hx hb hts mU_988 inU0 hown hK hP hD hS dX6_act_71 (fun H locs hP hD hS => ?_)
                refine lv_aload_n (pc := 74) hx hb dX6_act_74 rfl (lv_at hl 1 rfl) ?_
                refine vXgRX6_42_0 (pc := 75) hx hb hts mU_31 inU6 hown hK hP dX6_act_75 ?_
                refine lv_aload_n (pc := 78) hx hb dX6_act_78 rfl (lv_at hl 1 rfl) ?_
                refine vXgRX6_10_0 (pc := 79) hx hb hts mU_16 inU6 hown hK hP dX6_act_79 ?_
                refine lv_iload (pc := 82) hx hb dX6_act_82 (lv_at hl 0 rfl) ?_
                obtain ⟨r84, hc84, hf⟩ := hf_b hf
                refine cl_V (pc := 84) (As := [.int (gI r4 40)]) (rest := [.ref (A 27)]) hx hb hml hown hts (kX4_shiftOf_1 l D A B _ (sI (sI r4 23 r59) 24 (gI r4 40)) (gI r4 40) r84 hc84) (cwV 1 hts gwRX6_131 rfl rfl rfl hdX4_shiftOf ⟨Nat.le_of_ble_eq_true rfl, Nat.le_of_ble_eq_true rfl⟩) hN hK hP hD hS hA (va_recv hK hP (ci := 4) (q0 := 1) rfl (eX_1 A B _)) rfl hl.1 rfl (Nat.le_of_ble_eq_true rfl) dX6_act_84 (st1 := [.int r84, .ref (A 27)]) rfl ⟨Nat.zero_le _, Nat.zero_le _⟩ (fun H locs hP hD hS => ?_)
                refine vXpRX6_299_27 (pc := 87) hx hb hts mU_989 inU0 hown hK hP hD hS dX6_act_87 (fun H locs hP hD hS => ?_)
                refine lv_aload_n (pc := 90) hx hb dX6_act_90 rfl (lv_at hl 1 rfl) ?_
                refine vXgRX6_42_0 (pc := 91) hx hb hts mU_31 inU6 hown hK hP dX6_act_91 ?_
                refine lv_iload_n (pc := 94) hx hb dX6_act_94 rfl (lv_at hl 3 rfl) ?_
                refine lv_iload_n (pc := 95) hx hb dX6_act_95 rfl (lv_at hl 4 rfl) ?_
                obtain ⟨r96, hc96, hf⟩ := hf_b hf
                refine cl_V (pc := 96) (As := [.int a2, .int a3]) (rest := []) hx hb hml hown hts (kX0_run_27 l D A B _ (sI (sI (sI r4 23 r59) 24 (gI r4 40)) 25 r84) a2 a3 r96 hc96) (cwV 2 hts gwRX6_302 rfl rfl rfl hdX0_run ⟨Nat.le_of_ble_eq_true rfl, Nat.le_of_ble_eq_true rfl⟩) hN hK hP hD hS hA (va_recv hK hP (ci := 0) (q0 := 27) rfl (eX_27 A B _)) rfl hl.1 rfl (Nat.le_of_ble_eq_true rfl) dX6_act_96 (st1 := [.int r96.1]) rfl ⟨Nat.zero_le _, Nat.zero_le _⟩ (fun H locs hP hD hS => ?_)
                obtain rfl := Option.some.inj hf
                exact hR H locs 99 ls hP hD hS dX6_act_99
              · have hf := hf_f e43_1 hf
                by_cases e43_2 : a1 = (2 : Int32)
                · have hf := hf_t e43_2 hf
                  refine vXrq_38_2 (pc := 43) hx hb hK hP e43_2 dX6_act_43 ?_
                  refine vXgRX6_286_41 (pc := 44) hx hb hts mU_958 inU3 hown hK hP (x := (gI r4 43)) rfl dX6_act_44 ?_
                  refine lv_istore (pc := 47) hx hb (lv' := [(4, .int (gI r4 43)), (0, .ref (A 0)), (1, .int a1), (2, .int a2), (3, .int a3)]) dX6_act_47 hl (by decide) rfl (fun ls hl => ?_)
                  refine lv_aload_n (pc := 49) hx hb dX6_act_49 rfl (lv_at hl 1 rfl) ?_
                  refine vXgRX6_42_0 (pc := 50) hx hb hts mU_31 inU6 hown hK hP dX6_act_50 ?_
                  refine lv_aload_n (pc := 53) hx hb dX6_act_53 rfl (lv_at hl 1 rfl) ?_
                  refine vXgRX6_10_0 (pc := 54) hx hb hts mU_16 inU6 hown hK hP dX6_act_54 ?_
                  refine lv_iload (pc := 57) hx hb dX6_act_57 (lv_at hl 0 rfl) ?_
                  obtain ⟨r59, hc59, hf⟩ := hf_b hf
                  refine cl_V (pc := 59) (As := [.int (gI r4 43)]) (rest := [.ref (A 27)]) hx hb hml hown hts (kX4_kindOf_1 l D A B _ r4 (gI r4 43) r59 hc59) (cwV 1 hts gwRX6_128 rfl rfl rfl hdX4_kindOf ⟨Nat.le_of_ble_eq_true rfl, Nat.le_of_ble_eq_true rfl⟩) hN hK hP hD hS hA (va_recv hK hP (ci := 4) (q0 := 1) rfl (eX_1 A B _)) rfl hl.1 rfl (Nat.le_of_ble_eq_true rfl) dX6_act_59 (st1 := [.int r59, .ref (A 27)]) rfl ⟨Nat.zero_le _, Nat.zero_le _⟩ (fun H locs hP hD hS => ?_)
                  refine vXpRX6_295_27 (pc := 62) hx hb hts mU_987 inU0 hown hK hP hD hS dX6_act_62 (fun H locs hP hD hS => ?_)
                  refine lv_aload_n (pc := 65) hx hb dX6_act_65 rfl (lv_at hl 1 rfl) ?_
                  refine vXgRX6_42_0 (pc := 66) hx hb hts mU_31 inU6 hown hK hP dX6_act_66 ?_
                  refine lv_iload (pc := 69) hx hb dX6_act_69 (lv_at hl 0 rfl) ?_
                  refine vXpRX6_298_27 (pc := 71) hx hb hts mU_988 inU0 hown hK hP hD hS dX6_act_71 (fun H locs hP hD hS => ?_)
                  refine lv_aload_n (pc := 74) hx hb dX6_act_74 rfl (lv_at hl 1 rfl) ?_
                  refine vXgRX6_42_0 (pc := 75) hx hb hts mU_31 inU6 hown hK hP dX6_act_75 ?_
                  refine lv_aload_n (pc := 78) hx hb dX6_act_78 rfl (lv_at hl 1 rfl) ?_
                  refine vXgRX6_10_0 (pc := 79) hx hb hts mU_16 inU6 hown hK hP dX6_act_79 ?_
                  refine lv_iload (pc := 82) hx hb dX6_act_82 (lv_at hl 0 rfl) ?_
                  obtain ⟨r84, hc84, hf⟩ := hf_b hf
                  refine cl_V (pc := 84) (As := [.int (gI r4 43)]) (rest := [.ref (A 27)]) hx hb hml hown hts (kX4_shiftOf_1 l D A B _ (sI (sI r4 23 r59) 24 (gI r4 43)) (gI r4 43) r84 hc84) (cwV 1 hts gwRX6_131 rfl rfl rfl hdX4_shiftOf ⟨Nat.le_of_ble_eq_true rfl, Nat.le_of_ble_eq_true rfl⟩) hN hK hP hD hS hA (va_recv hK hP (ci := 4) (q0 := 1) rfl (eX_1 A B _)) rfl hl.1 rfl (Nat.le_of_ble_eq_true rfl) dX6_act_84 (st1 := [.int r84, .ref (A 27)]) rfl ⟨Nat.zero_le _, Nat.zero_le _⟩ (fun H locs hP hD hS => ?_)
                  refine vXpRX6_299_27 (pc := 87) hx hb hts mU_989 inU0 hown hK hP hD hS dX6_act_87 (fun H locs hP hD hS => ?_)
                  refine lv_aload_n (pc := 90) hx hb dX6_act_90 rfl (lv_at hl 1 rfl) ?_
                  refine vXgRX6_42_0 (pc := 91) hx hb hts mU_31 inU6 hown hK hP dX6_act_91 ?_
                  refine lv_iload_n (pc := 94) hx hb dX6_act_94 rfl (lv_at hl 3 rfl) ?_
                  refine lv_iload_n (pc := 95) hx hb dX6_act_95 rfl (lv_at hl 4 rfl) ?_
                  obtain ⟨r96, hc96, hf⟩ := hf_b hf
                  refine cl_V (pc := 96) (As := [.int a2, .int a3]) (rest := []) hx hb hml hown hts (kX0_run_27 l D A B _ (sI (sI (sI r4 23 r59) 24 (gI r4 43)) 25 r84) a2 a3 r96 hc96) (cwV 2 hts gwRX6_302 rfl rfl rfl hdX0_run ⟨Nat.le_of_ble_eq_true rfl, Nat.le_of_ble_eq_true rfl⟩) hN hK hP hD hS hA (va_recv hK hP (ci := 0) (q0 := 27) rfl (eX_27 A B _)) rfl hl.1 rfl (Nat.le_of_ble_eq_true rfl) dX6_act_96 (st1 := [.int r96.1]) rfl ⟨Nat.zero_le _, Nat.zero_le _⟩ (fun H locs hP hD hS => ?_)
                  obtain rfl := Option.some.inj hf
                  exact hR H locs 99 ls hP hD hS dX6_act_99
                · have hf := hf_f e43_2 hf
                  by_cases e43_3 : a1 = (3 : Int32)
                  · have hf := hf_t e43_3 hf
                    refine vXrq_38_3 (pc := 43) hx hb hK hP e43_3 dX6_act_43 ?_
                    refine vXgRX6_286_42 (pc := 44) hx hb hts mU_958 inU3 hown hK hP (x := (gI r4 46)) rfl dX6_act_44 ?_
                    refine lv_istore (pc := 47) hx hb (lv' := [(4, .int (gI r4 46)), (0, .ref (A 0)), (1, .int a1), (2, .int a2), (3, .int a3)]) dX6_act_47 hl (by decide) rfl (fun ls hl => ?_)
                    refine lv_aload_n (pc := 49) hx hb dX6_act_49 rfl (lv_at hl 1 rfl) ?_
                    refine vXgRX6_42_0 (pc := 50) hx hb hts mU_31 inU6 hown hK hP dX6_act_50 ?_
                    refine lv_aload_n (pc := 53) hx hb dX6_act_53 rfl (lv_at hl 1 rfl) ?_
                    refine vXgRX6_10_0 (pc := 54) hx hb hts mU_16 inU6 hown hK hP dX6_act_54 ?_
                    refine lv_iload (pc := 57) hx hb dX6_act_57 (lv_at hl 0 rfl) ?_
                    obtain ⟨r59, hc59, hf⟩ := hf_b hf
                    refine cl_V (pc := 59) (As := [.int (gI r4 46)]) (rest := [.ref (A 27)]) hx hb hml hown hts (kX4_kindOf_1 l D A B _ r4 (gI r4 46) r59 hc59) (cwV 1 hts gwRX6_128 rfl rfl rfl hdX4_kindOf ⟨Nat.le_of_ble_eq_true rfl, Nat.le_of_ble_eq_true rfl⟩) hN hK hP hD hS hA (va_recv hK hP (ci := 4) (q0 := 1) rfl (eX_1 A B _)) rfl hl.1 rfl (Nat.le_of_ble_eq_true rfl) dX6_act_59 (st1 := [.int r59, .ref (A 27)]) rfl ⟨Nat.zero_le _, Nat.zero_le _⟩ (fun H locs hP hD hS => ?_)
                    refine vXpRX6_295_27 (pc := 62) hx hb hts mU_987 inU0 hown hK hP hD hS dX6_act_62 (fun H locs hP hD hS => ?_)
                    refine lv_aload_n (pc := 65) hx hb dX6_act_65 rfl (lv_at hl 1 rfl) ?_
                    refine vXgRX6_42_0 (pc := 66) hx hb hts mU_31 inU6 hown hK hP dX6_act_66 ?_
                    refine lv_iload (pc := 69) hx hb dX6_act_69 (lv_at hl 0 rfl) ?_
                    refine vXpRX6_298_27 (pc := 71) hx hb hts mU_988 inU0 hown hK hP hD hS dX6_act_71 (fun H locs hP hD hS => ?_)
                    refine lv_aload_n (pc := 74) hx hb dX6_act_74 rfl (lv_at hl 1 rfl) ?_
                    refine vXgRX6_42_0 (pc := 75) hx hb hts mU_31 inU6 hown hK hP dX6_act_75 ?_
                    refine lv_aload_n (pc := 78) hx hb dX6_act_78 rfl (lv_at hl 1 rfl) ?_
                    refine vXgRX6_10_0 (pc := 79) hx hb hts mU_16 inU6 hown hK hP dX6_act_79 ?_
                    refine lv_iload (pc := 82) hx hb dX6_act_82 (lv_at hl 0 rfl) ?_
                    obtain ⟨r84, hc84, hf⟩ := hf_b hf
                    refine cl_V (pc := 84) (As := [.int (gI r4 46)]) (rest := [.ref (A 27)]) hx hb hml hown hts (kX4_shiftOf_1 l D A B _ (sI (sI r4 23 r59) 24 (gI r4 46)) (gI r4 46) r84 hc84) (cwV 1 hts gwRX6_131 rfl rfl rfl hdX4_shiftOf ⟨Nat.le_of_ble_eq_true rfl, Nat.le_of_ble_eq_true rfl⟩) hN hK hP hD hS hA (va_recv hK hP (ci := 4) (q0 := 1) rfl (eX_1 A B _)) rfl hl.1 rfl (Nat.le_of_ble_eq_true rfl) dX6_act_84 (st1 := [.int r84, .ref (A 27)]) rfl ⟨Nat.zero_le _, Nat.zero_le _⟩ (fun H locs hP hD hS => ?_)
                    refine vXpRX6_299_27 (pc := 87) hx hb hts mU_989 inU0 hown hK hP hD hS dX6_act_87 (fun H locs hP hD hS => ?_)
                    refine lv_aload_n (pc := 90) hx hb dX6_act_90 rfl (lv_at hl 1 rfl) ?_
                    refine vXgRX6_42_0 (pc := 91) hx hb hts mU_31 inU6 hown hK hP dX6_act_91 ?_
                    refine lv_iload_n (pc := 94) hx hb dX6_act_94 rfl (lv_at hl 3 rfl) ?_
                    refine lv_iload_n (pc := 95) hx hb dX6_act_95 rfl (lv_at hl 4 rfl) ?_
                    obtain ⟨r96, hc96, hf⟩ := hf_b hf
                    refine cl_V (pc := 96) (As := [.int a2, .int a3]) (rest := []) hx hb hml hown hts (kX0_run_27 l D A B _ (sI (sI (sI r4 23 r59) 24 (gI r4 46)) 25 r84) a2 a3 r96 hc96) (cwV 2 hts gwRX6_302 rfl rfl rfl hdX0_run ⟨Nat.le_of_ble_eq_true rfl, Nat.le_of_ble_eq_true rfl⟩) hN hK hP hD hS hA (va_recv hK hP (ci := 0) (q0 := 27) rfl (eX_27 A B _)) rfl hl.1 rfl (Nat.le_of_ble_eq_true rfl) dX6_act_96 (st1 := [.int r96.1]) rfl ⟨Nat.zero_le _, Nat.zero_le _⟩ (fun H locs hP hD hS => ?_)
                    obtain rfl := Option.some.inj hf
                    exact hR H locs 99 ls hP hD hS dX6_act_99
                  · have hf := hf_f e43_3 hf
                    exact hf_0 hf
          · have hf := hf_f c_33 hf
            refine lv_iconst (pc := 36) hx hb (v := 0) dX6_act_36 (by decide) ?_
            obtain rfl := Option.some.inj hf
            exact hR H locs 37 ls hP hD hS dX6_act_37
        · have hf := hf_f e29_0 hf
          by_cases e29_1 : a1 = (1 : Int32)
          · have hf := hf_t e29_1 hf
            refine vXrq_38_1 (pc := 29) hx hb hK hP e29_1 dX6_act_29 ?_
            obtain ⟨r30, hc30, hf⟩ := hf_b hf
            refine cl_V (pc := 30) (As := [.ref (A 40)]) (rest := []) hx hb hml hown hts (kX6_heldNow_40 l D A B _ r4 r30 hc30) (cwV 1 hts gwRX6_281 rfl rfl rfl hdX6_heldNow ⟨Nat.le_of_ble_eq_true rfl, Nat.le_of_ble_eq_true rfl⟩) hN hK hP hD hS hA (va_recv hK hP (ci := 6) (q0 := 0) rfl (eX_0 A B _)) rfl hl.1 rfl (Nat.le_of_ble_eq_true rfl) dX6_act_30 (st1 := [.int r30]) rfl ⟨Nat.zero_le _, Nat.zero_le _⟩ (fun H locs hP hD hS => ?_)
            refine lv_if_eq (pc := 33) hx hb (tgt := 38) dX6_act_33 (by decide) (fun c_33 => ?_) (fun c_33 => ?_)
            · have hf := hf_t c_33 hf
              refine lv_aload_n (pc := 38) hx hb dX6_act_38 rfl (lv_at hl 0 rfl) ?_
              refine vXgRX6_54_0 (pc := 39) hx hb hts mU_35 inU6 hown hK hP dX6_act_39 ?_
              refine lv_iload_n (pc := 42) hx hb dX6_act_42 rfl (lv_at hl 1 rfl) ?_
              by_cases e43_0 : a1 = (0 : Int32)
              · have hf := hf_t e43_0 hf
                refine vXrq_38_0 (pc := 43) hx hb hK hP e43_0 dX6_act_43 ?_
                refine vXgRX6_286_39 (pc := 44) hx hb hts mU_958 inU3 hown hK hP (x := (gI r4 37)) rfl dX6_act_44 ?_
                refine lv_istore (pc := 47) hx hb (lv' := [(4, .int (gI r4 37)), (0, .ref (A 0)), (1, .int a1), (2, .int a2), (3, .int a3)]) dX6_act_47 hl (by decide) rfl (fun ls hl => ?_)
                refine lv_aload_n (pc := 49) hx hb dX6_act_49 rfl (lv_at hl 1 rfl) ?_
                refine vXgRX6_42_0 (pc := 50) hx hb hts mU_31 inU6 hown hK hP dX6_act_50 ?_
                refine lv_aload_n (pc := 53) hx hb dX6_act_53 rfl (lv_at hl 1 rfl) ?_
                refine vXgRX6_10_0 (pc := 54) hx hb hts mU_16 inU6 hown hK hP dX6_act_54 ?_
                refine lv_iload (pc := 57) hx hb dX6_act_57 (lv_at hl 0 rfl) ?_
                obtain ⟨r59, hc59, hf⟩ := hf_b hf
                refine cl_V (pc := 59) (As := [.int (gI r4 37)]) (rest := [.ref (A 27)]) hx hb hml hown hts (kX4_kindOf_1 l D A B _ r4 (gI r4 37) r59 hc59) (cwV 1 hts gwRX6_128 rfl rfl rfl hdX4_kindOf ⟨Nat.le_of_ble_eq_true rfl, Nat.le_of_ble_eq_true rfl⟩) hN hK hP hD hS hA (va_recv hK hP (ci := 4) (q0 := 1) rfl (eX_1 A B _)) rfl hl.1 rfl (Nat.le_of_ble_eq_true rfl) dX6_act_59 (st1 := [.int r59, .ref (A 27)]) rfl ⟨Nat.zero_le _, Nat.zero_le _⟩ (fun H locs hP hD hS => ?_)
                refine vXpRX6_295_27 (pc := 62) hx hb hts mU_987 inU0 hown hK hP hD hS dX6_act_62 (fun H locs hP hD hS => ?_)
                refine lv_aload_n (pc := 65) hx hb dX6_act_65 rfl (lv_at hl 1 rfl) ?_
                refine vXgRX6_42_0 (pc := 66) hx hb hts mU_31 inU6 hown hK hP dX6_act_66 ?_
                refine lv_iload (pc := 69) hx hb dX6_act_69 (lv_at hl 0 rfl) ?_
                refine vXpRX6_298_27 (pc := 71) hx hb hts mU_988 inU0 hown hK hP hD hS dX6_act_71 (fun H locs hP hD hS => ?_)
                refine lv_aload_n (pc := 74) hx hb dX6_act_74 rfl (lv_at hl 1 rfl) ?_
                refine vXgRX6_42_0 (pc := 75) hx hb hts mU_31 inU6 hown hK hP dX6_act_75 ?_
                refine lv_aload_n (pc := 78) hx hb dX6_act_78 rfl (lv_at hl 1 rfl) ?_
                refine vXgRX6_10_0 (pc := 79) hx hb hts mU_16 inU6 hown hK hP dX6_act_79 ?_
                refine lv_iload (pc := 82) hx hb dX6_act_82 (lv_at hl 0 rfl) ?_
                obtain ⟨r84, hc84, hf⟩ := hf_b hf
                refine cl_V (pc := 84) (As := [.int (gI r4 37)]) (rest := [.ref (A 27)]) hx hb hml hown hts (kX4_shiftOf_1 l D A B _ (sI (sI r4 23 r59) 24 (gI r4 37)) (gI r4 37) r84 hc84) (cwV 1 hts gwRX6_131 rfl rfl rfl hdX4_shiftOf ⟨Nat.le_of_ble_eq_true rfl, Nat.le_of_ble_eq_true rfl⟩) hN hK hP hD hS hA (va_recv hK hP (ci := 4) (q0 := 1) rfl (eX_1 A B _)) rfl hl.1 rfl (Nat.le_of_ble_eq_true rfl) dX6_act_84 (st1 := [.int r84, .ref (A 27)]) rfl ⟨Nat.zero_le _, Nat.zero_le _⟩ (fun H locs hP hD hS => ?_)
                refine vXpRX6_299_27 (pc := 87) hx hb hts mU_989 inU0 hown hK hP hD hS dX6_act_87 (fun H locs hP hD hS => ?_)
                refine lv_aload_n (pc := 90) hx hb dX6_act_90 rfl (lv_at hl 1 rfl) ?_
                refine vXgRX6_42_0 (pc := 91) hx hb hts mU_31 inU6 hown hK hP dX6_act_91 ?_
                refine lv_iload_n (pc := 94) hx hb dX6_act_94 rfl (lv_at hl 3 rfl) ?_
                refine lv_iload_n (pc := 95) hx hb dX6_act_95 rfl (lv_at hl 4 rfl) ?_
                obtain ⟨r96, hc96, hf⟩ := hf_b hf
                refine cl_V (pc := 96) (As := [.int a2, .int a3]) (rest := []) hx hb hml hown hts (kX0_run_27 l D A B _ (sI (sI (sI r4 23 r59) 24 (gI r4 37)) 25 r84) a2 a3 r96 hc96) (cwV 2 hts gwRX6_302 rfl rfl rfl hdX0_run ⟨Nat.le_of_ble_eq_true rfl, Nat.le_of_ble_eq_true rfl⟩) hN hK hP hD hS hA (va_recv hK hP (ci := 0) (q0 := 27) rfl (eX_27 A B _)) rfl hl.1 rfl (Nat.le_of_ble_eq_true rfl) dX6_act_96 (st1 := [.int r96.1]) rfl ⟨Nat.zero_le _, Nat.zero_le _⟩ (fun H locs hP hD hS => ?_)
                obtain rfl := Option.some.inj hf
                exact hR H locs 99 ls hP hD hS dX6_act_99
              · have hf := hf_f e43_0 hf
                by_cases e43_1 : a1 = (1 : Int32)
                · have hf := hf_t e43_1 hf
                  refine vXrq_38_1 (pc := 43) hx hb hK hP e43_1 dX6_act_43 ?_
                  refine vXgRX6_286_40 (pc := 44) hx hb hts mU_958 inU3 hown hK hP (x := (gI r4 40)) rfl dX6_act_44 ?_
                  refine lv_istore (pc := 47) hx hb (lv' := [(4, .int (gI r4 40)), (0, .ref (A 0)), (1, .int a1), (2, .int a2), (3, .int a3)]) dX6_act_47 hl (by decide) rfl (fun ls hl => ?_)
                  refine lv_aload_n (pc := 49) hx hb dX6_act_49 rfl (lv_at hl 1 rfl) ?_
                  refine vXgRX6_42_0 (pc := 50) hx hb hts mU_31 inU6 hown hK hP dX6_act_50 ?_
                  refine lv_aload_n (pc := 53) hx hb dX6_act_53 rfl (lv_at hl 1 rfl) ?_
                  refine vXgRX6_10_0 (pc := 54) hx hb hts mU_16 inU6 hown hK hP dX6_act_54 ?_
                  refine lv_iload (pc := 57) hx hb dX6_act_57 (lv_at hl 0 rfl) ?_
                  obtain ⟨r59, hc59, hf⟩ := hf_b hf
                  refine cl_V (pc := 59) (As := [.int (gI r4 40)]) (rest := [.ref (A 27)]) hx hb hml hown hts (kX4_kindOf_1 l D A B _ r4 (gI r4 40) r59 hc59) (cwV 1 hts gwRX6_128 rfl rfl rfl hdX4_kindOf ⟨Nat.le_of_ble_eq_true rfl, Nat.le_of_ble_eq_true rfl⟩) hN hK hP hD hS hA (va_recv hK hP (ci := 4) (q0 := 1) rfl (eX_1 A B _)) rfl hl.1 rfl (Nat.le_of_ble_eq_true rfl) dX6_act_59 (st1 := [.int r59, .ref (A 27)]) rfl ⟨Nat.zero_le _, Nat.zero_le _⟩ (fun H locs hP hD hS => ?_)
                  refine vXpRX6_295_27 (pc := 62) hx hb hts mU_987 inU0 hown hK hP hD hS dX6_act_62 (fun H locs hP hD hS => ?_)
                  refine lv_aload_n (pc := 65) hx hb dX6_act_65 rfl (lv_at hl 1 rfl) ?_
                  refine vXgRX6_42_0 (pc := 66) hx hb hts mU_31 inU6 hown hK hP dX6_act_66 ?_
                  refine lv_iload (pc := 69) hx hb dX6_act_69 (lv_at hl 0 rfl) ?_
                  refine vXpRX6_298_27 (pc := 71) hx hb hts mU_988 inU0 hown hK hP hD hS dX6_act_71 (fun H locs hP hD hS => ?_)
                  refine lv_aload_n (pc := 74) hx hb dX6_act_74 rfl (lv_at hl 1 rfl) ?_
                  refine vXgRX6_42_0 (pc := 75) hx hb hts mU_31 inU6 hown hK hP dX6_act_75 ?_
                  refine lv_aload_n (pc := 78) hx hb dX6_act_78 rfl (lv_at hl 1 rfl) ?_
                  refine vXgRX6_10_0 (pc := 79) hx hb hts mU_16 inU6 hown hK hP dX6_act_79 ?_
                  refine lv_iload (pc := 82) hx hb dX6_act_82 (lv_at hl 0 rfl) ?_
                  obtain ⟨r84, hc84, hf⟩ := hf_b hf
                  refine cl_V (pc := 84) (As := [.int (gI r4 40)]) (rest := [.ref (A 27)]) hx hb hml hown hts (kX4_shiftOf_1 l D A B _ (sI (sI r4 23 r59) 24 (gI r4 40)) (gI r4 40) r84 hc84) (cwV 1 hts gwRX6_131 rfl rfl rfl hdX4_shiftOf ⟨Nat.le_of_ble_eq_true rfl, Nat.le_of_ble_eq_true rfl⟩) hN hK hP hD hS hA (va_recv hK hP (ci := 4) (q0 := 1) rfl (eX_1 A B _)) rfl hl.1 rfl (Nat.le_of_ble_eq_true rfl) dX6_act_84 (st1 := [.int r84, .ref (A 27)]) rfl ⟨Nat.zero_le _, Nat.zero_le _⟩ (fun H locs hP hD hS => ?_)
                  refine vXpRX6_299_27 (pc := 87) hx hb hts mU_989 inU0 hown hK hP hD hS dX6_act_87 (fun H locs hP hD hS => ?_)
                  refine lv_aload_n (pc := 90) hx hb dX6_act_90 rfl (lv_at hl 1 rfl) ?_
                  refine vXgRX6_42_0 (pc := 91) hx hb hts mU_31 inU6 hown hK hP dX6_act_91 ?_
                  refine lv_iload_n (pc := 94) hx hb dX6_act_94 rfl (lv_at hl 3 rfl) ?_
                  refine lv_iload_n (pc := 95) hx hb dX6_act_95 rfl (lv_at hl 4 rfl) ?_
                  obtain ⟨r96, hc96, hf⟩ := hf_b hf
                  refine cl_V (pc := 96) (As := [.int a2, .int a3]) (rest := []) hx hb hml hown hts (kX0_run_27 l D A B _ (sI (sI (sI r4 23 r59) 24 (gI r4 40)) 25 r84) a2 a3 r96 hc96) (cwV 2 hts gwRX6_302 rfl rfl rfl hdX0_run ⟨Nat.le_of_ble_eq_true rfl, Nat.le_of_ble_eq_true rfl⟩) hN hK hP hD hS hA (va_recv hK hP (ci := 0) (q0 := 27) rfl (eX_27 A B _)) rfl hl.1 rfl (Nat.le_of_ble_eq_true rfl) dX6_act_96 (st1 := [.int r96.1]) rfl ⟨Nat.zero_le _, Nat.zero_le _⟩ (fun H locs hP hD hS => ?_)
                  obtain rfl := Option.some.inj hf
                  exact hR H locs 99 ls hP hD hS dX6_act_99
                · have hf := hf_f e43_1 hf
                  by_cases e43_2 : a1 = (2 : Int32)
                  · have hf := hf_t e43_2 hf
                    refine vXrq_38_2 (pc := 43) hx hb hK hP e43_2 dX6_act_43 ?_
                    refine vXgRX6_286_41 (pc := 44) hx hb hts mU_958 inU3 hown hK hP (x := (gI r4 43)) rfl dX6_act_44 ?_
                    refine lv_istore (pc := 47) hx hb (lv' := [(4, .int (gI r4 43)), (0, .ref (A 0)), (1, .int a1), (2, .int a2), (3, .int a3)]) dX6_act_47 hl (by decide) rfl (fun ls hl => ?_)
                    refine lv_aload_n (pc := 49) hx hb dX6_act_49 rfl (lv_at hl 1 rfl) ?_
                    refine vXgRX6_42_0 (pc := 50) hx hb hts mU_31 inU6 hown hK hP dX6_act_50 ?_
                    refine lv_aload_n (pc := 53) hx hb dX6_act_53 rfl (lv_at hl 1 rfl) ?_
                    refine vXgRX6_10_0 (pc := 54) hx hb hts mU_16 inU6 hown hK hP dX6_act_54 ?_
                    refine lv_iload (pc := 57) hx hb dX6_act_57 (lv_at hl 0 rfl) ?_
                    obtain ⟨r59, hc59, hf⟩ := hf_b hf
                    refine cl_V (pc := 59) (As := [.int (gI r4 43)]) (rest := [.ref (A 27)]) hx hb hml hown hts (kX4_kindOf_1 l D A B _ r4 (gI r4 43) r59 hc59) (cwV 1 hts gwRX6_128 rfl rfl rfl hdX4_kindOf ⟨Nat.le_of_ble_eq_true rfl, Nat.le_of_ble_eq_true rfl⟩) hN hK hP hD hS hA (va_recv hK hP (ci := 4) (q0 := 1) rfl (eX_1 A B _)) rfl hl.1 rfl (Nat.le_of_ble_eq_true rfl) dX6_act_59 (st1 := [.int r59, .ref (A 27)]) rfl ⟨Nat.zero_le _, Nat.zero_le _⟩ (fun H locs hP hD hS => ?_)
                    refine vXpRX6_295_27 (pc := 62) hx hb hts mU_987 inU0 hown hK hP hD hS dX6_act_62 (fun H locs hP hD hS => ?_)
                    refine lv_aload_n (pc := 65) hx hb dX6_act_65 rfl (lv_at hl 1 rfl) ?_
                    refine vXgRX6_42_0 (pc := 66) hx hb hts mU_31 inU6 hown hK hP dX6_act_66 ?_
                    refine lv_iload (pc := 69) hx hb dX6_act_69 (lv_at hl 0 rfl) ?_
                    refine vXpRX6_298_27 (pc := 71) hx hb hts mU_988 inU0 hown hK hP hD hS dX6_act_71 (fun H locs hP hD hS => ?_)
                    refine lv_aload_n (pc := 74) hx hb dX6_act_74 rfl (lv_at hl 1 rfl) ?_
                    refine vXgRX6_42_0 (pc := 75) hx hb hts mU_31 inU6 hown hK hP dX6_act_75 ?_
                    refine lv_aload_n (pc := 78) hx hb dX6_act_78 rfl (lv_at hl 1 rfl) ?_
                    refine vXgRX6_10_0 (pc := 79) hx hb hts mU_16 inU6 hown hK hP dX6_act_79 ?_
                    refine lv_iload (pc := 82) hx hb dX6_act_82 (lv_at hl 0 rfl) ?_
                    obtain ⟨r84, hc84, hf⟩ := hf_b hf
                    refine cl_V (pc := 84) (As := [.int (gI r4 43)]) (rest := [.ref (A 27)]) hx hb hml hown hts (kX4_shiftOf_1 l D A B _ (sI (sI r4 23 r59) 24 (gI r4 43)) (gI r4 43) r84 hc84) (cwV 1 hts gwRX6_131 rfl rfl rfl hdX4_shiftOf ⟨Nat.le_of_ble_eq_true rfl, Nat.le_of_ble_eq_true rfl⟩) hN hK hP hD hS hA (va_recv hK hP (ci := 4) (q0 := 1) rfl (eX_1 A B _)) rfl hl.1 rfl (Nat.le_of_ble_eq_true rfl) dX6_act_84 (st1 := [.int r84, .ref (A 27)]) rfl ⟨Nat.zero_le _, Nat.zero_le _⟩ (fun H locs hP hD hS => ?_)
                    refine vXpRX6_299_27 (pc := 87) hx hb hts mU_989 inU0 hown hK hP hD hS dX6_act_87 (fun H locs hP hD hS => ?_)
                    refine lv_aload_n (pc := 90) hx hb dX6_act_90 rfl (lv_at hl 1 rfl) ?_
                    refine vXgRX6_42_0 (pc := 91) hx hb hts mU_31 inU6 hown hK hP dX6_act_91 ?_
                    refine lv_iload_n (pc := 94) hx hb dX6_act_94 rfl (lv_at hl 3 rfl) ?_
                    refine lv_iload_n (pc := 95) hx hb dX6_act_95 rfl (lv_at hl 4 rfl) ?_
                    obtain ⟨r96, hc96, hf⟩ := hf_b hf
                    refine cl_V (pc := 96) (As := [.int a2, .int a3]) (rest := []) hx hb hml hown hts (kX0_run_27 l D A B _ (sI (sI (sI r4 23 r59) 24 (gI r4 43)) 25 r84) a2 a3 r96 hc96) (cwV 2 hts gwRX6_302 rfl rfl rfl hdX0_run ⟨Nat.le_of_ble_eq_true rfl, Nat.le_of_ble_eq_true rfl⟩) hN hK hP hD hS hA (va_recv hK hP (ci := 0) (q0 := 27) rfl (eX_27 A B _)) rfl hl.1 rfl (Nat.le_of_ble_eq_true rfl) dX6_act_96 (st1 := [.int r96.1]) rfl ⟨Nat.zero_le _, Nat.zero_le _⟩ (fun H locs hP hD hS => ?_)
                    obtain rfl := Option.some.inj hf
                    exact hR H locs 99 ls hP hD hS dX6_act_99
                  · have hf := hf_f e43_2 hf
                    by_cases e43_3 : a1 = (3 : Int32)
                    · have hf := hf_t e43_3 hf
                      refine vXrq_38_3 (pc := 43) hx hb hK hP e43_3 dX6_act_43 ?_
                      refine vXgRX6_286_42 (pc := 44) hx hb hts mU_958 inU3 hown hK hP (x := (gI r4 46)) rfl dX6_act_44 ?_
                      refine lv_istore (pc := 47) hx hb (lv' := [(4, .int (gI r4 46)), (0, .ref (A 0)), (1, .int a1), (2, .int a2), (3, .int a3)]) dX6_act_47 hl (by decide) rfl (fun ls hl => ?_)
                      refine lv_aload_n (pc := 49) hx hb dX6_act_49 rfl (lv_at hl 1 rfl) ?_
                      refine vXgRX6_42_0 (pc := 50) hx hb hts mU_31 inU6 hown hK hP dX6_act_50 ?_
                      refine lv_aload_n (pc := 53) hx hb dX6_act_53 rfl (lv_at hl 1 rfl) ?_
                      refine vXgRX6_10_0 (pc := 54) hx hb hts mU_16 inU6 hown hK hP dX6_act_54 ?_
                      refine lv_iload (pc := 57) hx hb dX6_act_57 (lv_at hl 0 rfl) ?_
                      obtain ⟨r59, hc59, hf⟩ := hf_b hf
                      refine cl_V (pc := 59) (As := [.int (gI r4 46)]) (rest := [.ref (A 27)]) hx hb hml hown hts (kX4_kindOf_1 l D A B _ r4 (gI r4 46) r59 hc59) (cwV 1 hts gwRX6_128 rfl rfl rfl hdX4_kindOf ⟨Nat.le_of_ble_eq_true rfl, Nat.le_of_ble_eq_true rfl⟩) hN hK hP hD hS hA (va_recv hK hP (ci := 4) (q0 := 1) rfl (eX_1 A B _)) rfl hl.1 rfl (Nat.le_of_ble_eq_true rfl) dX6_act_59 (st1 := [.int r59, .ref (A 27)]) rfl ⟨Nat.zero_le _, Nat.zero_le _⟩ (fun H locs hP hD hS => ?_)
                      refine vXpRX6_295_27 (pc := 62) hx hb hts mU_987 inU0 hown hK hP hD hS dX6_act_62 (fun H locs hP hD hS => ?_)
                      refine lv_aload_n (pc := 65) hx hb dX6_act_65 rfl (lv_at hl 1 rfl) ?_
                      refine vXgRX6_42_0 (pc := 66) hx hb hts mU_31 inU6 hown hK hP dX6_act_66 ?_
                      refine lv_iload (pc := 69) hx hb dX6_act_69 (lv_at hl 0 rfl) ?_
                      refine vXpRX6_298_27 (pc := 71) hx hb hts mU_988 inU0 hown hK hP hD hS dX6_act_71 (fun H locs hP hD hS => ?_)
                      refine lv_aload_n (pc := 74) hx hb dX6_act_74 rfl (lv_at hl 1 rfl) ?_
                      refine vXgRX6_42_0 (pc := 75) hx hb hts mU_31 inU6 hown hK hP dX6_act_75 ?_
                      refine lv_aload_n (pc := 78) hx hb dX6_act_78 rfl (lv_at hl 1 rfl) ?_
                      refine vXgRX6_10_0 (pc := 79) hx hb hts mU_16 inU6 hown hK hP dX6_act_79 ?_
                      refine lv_iload (pc := 82) hx hb dX6_act_82 (lv_at hl 0 rfl) ?_
                      obtain ⟨r84, hc84, hf⟩ := hf_b hf
                      refine cl_V (pc := 84) (As := [.int (gI r4 46)]) (rest := [.ref (A 27)]) hx hb hml hown hts (kX4_shiftOf_1 l D A B _ (sI (sI r4 23 r59) 24 (gI r4 46)) (gI r4 46) r84 hc84) (cwV 1 hts gwRX6_131 rfl rfl rfl hdX4_shiftOf ⟨Nat.le_of_ble_eq_true rfl, Nat.le_of_ble_eq_true rfl⟩) hN hK hP hD hS hA (va_recv hK hP (ci := 4) (q0 := 1) rfl (eX_1 A B _)) rfl hl.1 rfl (Nat.le_of_ble_eq_true rfl) dX6_act_84 (st1 := [.int r84, .ref (A 27)]) rfl ⟨Nat.zero_le _, Nat.zero_le _⟩ (fun H locs hP hD hS => ?_)
                      refine vXpRX6_299_27 (pc := 87) hx hb hts mU_989 inU0 hown hK hP hD hS dX6_act_87 (fun H locs hP hD hS => ?_)
                      refine lv_aload_n (pc := 90) hx hb dX6_act_90 rfl (lv_at hl 1 rfl) ?_
                      refine vXgRX6_42_0 (pc := 91) hx hb hts mU_31 inU6 hown hK hP dX6_act_91 ?_
                      refine lv_iload_n (pc := 94) hx hb dX6_act_94 rfl (lv_at hl 3 rfl) ?_
                      refine lv_iload_n (pc := 95) hx hb dX6_act_95 rfl (lv_at hl 4 rfl) ?_
                      obtain ⟨r96, hc96, hf⟩ := hf_b hf
                      refine cl_V (pc := 96) (As := [.int a2, .int a3]) (rest := []) hx hb hml hown hts (kX0_run_27 l D A B _ (sI (sI (sI r4 23 r59) 24 (gI r4 46)) 25 r84) a2 a3 r96 hc96) (cwV 2 hts gwRX6_302 rfl rfl rfl hdX0_run ⟨Nat.le_of_ble_eq_true rfl, Nat.le_of_ble_eq_true rfl⟩) hN hK hP hD hS hA (va_recv hK hP (ci := 0) (q0 := 27) rfl (eX_27 A B _)) rfl hl.1 rfl (Nat.le_of_ble_eq_true rfl) dX6_act_96 (st1 := [.int r96.1]) rfl ⟨Nat.zero_le _, Nat.zero_le _⟩ (fun H locs hP hD hS => ?_)
                      obtain rfl := Option.some.inj hf
                      exact hR H locs 99 ls hP hD hS dX6_act_99
                    · have hf := hf_f e43_3 hf
                      exact hf_0 hf
            · have hf := hf_f c_33 hf
              refine lv_iconst (pc := 36) hx hb (v := 0) dX6_act_36 (by decide) ?_
              obtain rfl := Option.some.inj hf
              exact hR H locs 37 ls hP hD hS dX6_act_37
          · have hf := hf_f e29_1 hf
            by_cases e29_2 : a1 = (2 : Int32)
            · have hf := hf_t e29_2 hf
              refine vXrq_38_2 (pc := 29) hx hb hK hP e29_2 dX6_act_29 ?_
              obtain ⟨r30, hc30, hf⟩ := hf_b hf
              refine cl_V (pc := 30) (As := [.ref (A 41)]) (rest := []) hx hb hml hown hts (kX6_heldNow_41 l D A B _ r4 r30 hc30) (cwV 1 hts gwRX6_281 rfl rfl rfl hdX6_heldNow ⟨Nat.le_of_ble_eq_true rfl, Nat.le_of_ble_eq_true rfl⟩) hN hK hP hD hS hA (va_recv hK hP (ci := 6) (q0 := 0) rfl (eX_0 A B _)) rfl hl.1 rfl (Nat.le_of_ble_eq_true rfl) dX6_act_30 (st1 := [.int r30]) rfl ⟨Nat.zero_le _, Nat.zero_le _⟩ (fun H locs hP hD hS => ?_)
              refine lv_if_eq (pc := 33) hx hb (tgt := 38) dX6_act_33 (by decide) (fun c_33 => ?_) (fun c_33 => ?_)
              · have hf := hf_t c_33 hf
                refine lv_aload_n (pc := 38) hx hb dX6_act_38 rfl (lv_at hl 0 rfl) ?_
                refine vXgRX6_54_0 (pc := 39) hx hb hts mU_35 inU6 hown hK hP dX6_act_39 ?_
                refine lv_iload_n (pc := 42) hx hb dX6_act_42 rfl (lv_at hl 1 rfl) ?_
                by_cases e43_0 : a1 = (0 : Int32)
                · have hf := hf_t e43_0 hf
                  refine vXrq_38_0 (pc := 43) hx hb hK hP e43_0 dX6_act_43 ?_
                  refine vXgRX6_286_39 (pc := 44) hx hb hts mU_958 inU3 hown hK hP (x := (gI r4 37)) rfl dX6_act_44 ?_
                  refine lv_istore (pc := 47) hx hb (lv' := [(4, .int (gI r4 37)), (0, .ref (A 0)), (1, .int a1), (2, .int a2), (3, .int a3)]) dX6_act_47 hl (by decide) rfl (fun ls hl => ?_)
                  refine lv_aload_n (pc := 49) hx hb dX6_act_49 rfl (lv_at hl 1 rfl) ?_
                  refine vXgRX6_42_0 (pc := 50) hx hb hts mU_31 inU6 hown hK hP dX6_act_50 ?_
                  refine lv_aload_n (pc := 53) hx hb dX6_act_53 rfl (lv_at hl 1 rfl) ?_
                  refine vXgRX6_10_0 (pc := 54) hx hb hts mU_16 inU6 hown hK hP dX6_act_54 ?_
                  refine lv_iload (pc := 57) hx hb dX6_act_57 (lv_at hl 0 rfl) ?_
                  obtain ⟨r59, hc59, hf⟩ := hf_b hf
                  refine cl_V (pc := 59) (As := [.int (gI r4 37)]) (rest := [.ref (A 27)]) hx hb hml hown hts (kX4_kindOf_1 l D A B _ r4 (gI r4 37) r59 hc59) (cwV 1 hts gwRX6_128 rfl rfl rfl hdX4_kindOf ⟨Nat.le_of_ble_eq_true rfl, Nat.le_of_ble_eq_true rfl⟩) hN hK hP hD hS hA (va_recv hK hP (ci := 4) (q0 := 1) rfl (eX_1 A B _)) rfl hl.1 rfl (Nat.le_of_ble_eq_true rfl) dX6_act_59 (st1 := [.int r59, .ref (A 27)]) rfl ⟨Nat.zero_le _, Nat.zero_le _⟩ (fun H locs hP hD hS => ?_)
                  refine vXpRX6_295_27 (pc := 62) hx hb hts mU_987 inU0 hown hK hP hD hS dX6_act_62 (fun H locs hP hD hS => ?_)
                  refine lv_aload_n (pc := 65) hx hb dX6_act_65 rfl (lv_at hl 1 rfl) ?_
                  refine vXgRX6_42_0 (pc := 66) hx hb hts mU_31 inU6 hown hK hP dX6_act_66 ?_
                  refine lv_iload (pc := 69) hx hb dX6_act_69 (lv_at hl 0 rfl) ?_
                  refine vXpRX6_298_27 (pc := 71) hx hb hts mU_988 inU0 hown hK hP hD hS dX6_act_71 (fun H locs hP hD hS => ?_)
                  refine lv_aload_n (pc := 74) hx hb dX6_act_74 rfl (lv_at hl 1 rfl) ?_
                  refine vXgRX6_42_0 (pc := 75) hx hb hts mU_31 inU6 hown hK hP dX6_act_75 ?_
                  refine lv_aload_n (pc := 78) hx hb dX6_act_78 rfl (lv_at hl 1 rfl) ?_
                  refine vXgRX6_10_0 (pc := 79) hx hb hts mU_16 inU6 hown hK hP dX6_act_79 ?_
                  refine lv_iload (pc := 82) hx hb dX6_act_82 (lv_at hl 0 rfl) ?_
                  obtain ⟨r84, hc84, hf⟩ := hf_b hf
                  refine cl_V (pc := 84) (As := [.int (gI r4 37)]) (rest := [.ref (A 27)]) hx hb hml hown hts (kX4_shiftOf_1 l D A B _ (sI (sI r4 23 r59) 24 (gI r4 37)) (gI r4 37) r84 hc84) (cwV 1 hts gwRX6_131 rfl rfl rfl hdX4_shiftOf ⟨Nat.le_of_ble_eq_true rfl, Nat.le_of_ble_eq_true rfl⟩) hN hK hP hD hS hA (va_recv hK hP (ci := 4) (q0 := 1) rfl (eX_1 A B _)) rfl hl.1 rfl (Nat.le_of_ble_eq_true rfl) dX6_act_84 (st1 := [.int r84, .ref (A 27)]) rfl ⟨Nat.zero_le _, Nat.zero_le _⟩ (fun H locs hP hD hS => ?_)
                  refine vXpRX6_299_27 (pc := 87) hx hb hts mU_989 inU0 hown hK hP hD hS dX6_act_87 (fun H locs hP hD hS => ?_)
                  refine lv_aload_n (pc := 90) hx hb dX6_act_90 rfl (lv_at hl 1 rfl) ?_
                  refine vXgRX6_42_0 (pc := 91) hx hb hts mU_31 inU6 hown hK hP dX6_act_91 ?_
                  refine lv_iload_n (pc := 94) hx hb dX6_act_94 rfl (lv_at hl 3 rfl) ?_
                  refine lv_iload_n (pc := 95) hx hb dX6_act_95 rfl (lv_at hl 4 rfl) ?_
                  obtain ⟨r96, hc96, hf⟩ := hf_b hf
                  refine cl_V (pc := 96) (As := [.int a2, .int a3]) (rest := []) hx hb hml hown hts (kX0_run_27 l D A B _ (sI (sI (sI r4 23 r59) 24 (gI r4 37)) 25 r84) a2 a3 r96 hc96) (cwV 2 hts gwRX6_302 rfl rfl rfl hdX0_run ⟨Nat.le_of_ble_eq_true rfl, Nat.le_of_ble_eq_true rfl⟩) hN hK hP hD hS hA (va_recv hK hP (ci := 0) (q0 := 27) rfl (eX_27 A B _)) rfl hl.1 rfl (Nat.le_of_ble_eq_true rfl) dX6_act_96 (st1 := [.int r96.1]) rfl ⟨Nat.zero_le _, Nat.zero_le _⟩ (fun H locs hP hD hS => ?_)
                  obtain rfl := Option.some.inj hf
                  exact hR H locs 99 ls hP hD hS dX6_act_99
                · have hf := hf_f e43_0 hf
                  by_cases e43_1 : a1 = (1 : Int32)
                  · have hf := hf_t e43_1 hf
                    refine vXrq_38_1 (pc := 43) hx hb hK hP e43_1 dX6_act_43 ?_
                    refine vXgRX6_286_40 (pc := 44) hx hb hts mU_958 inU3 hown hK hP (x := (gI r4 40)) rfl dX6_act_44 ?_
                    refine lv_istore (pc := 47) hx hb (lv' := [(4, .int (gI r4 40)), (0, .ref (A 0)), (1, .int a1), (2, .int a2), (3, .int a3)]) dX6_act_47 hl (by decide) rfl (fun ls hl => ?_)
                    refine lv_aload_n (pc := 49) hx hb dX6_act_49 rfl (lv_at hl 1 rfl) ?_
                    refine vXgRX6_42_0 (pc := 50) hx hb hts mU_31 inU6 hown hK hP dX6_act_50 ?_
                    refine lv_aload_n (pc := 53) hx hb dX6_act_53 rfl (lv_at hl 1 rfl) ?_
                    refine vXgRX6_10_0 (pc := 54) hx hb hts mU_16 inU6 hown hK hP dX6_act_54 ?_
                    refine lv_iload (pc := 57) hx hb dX6_act_57 (lv_at hl 0 rfl) ?_
                    obtain ⟨r59, hc59, hf⟩ := hf_b hf
                    refine cl_V (pc := 59) (As := [.int (gI r4 40)]) (rest := [.ref (A 27)]) hx hb hml hown hts (kX4_kindOf_1 l D A B _ r4 (gI r4 40) r59 hc59) (cwV 1 hts gwRX6_128 rfl rfl rfl hdX4_kindOf ⟨Nat.le_of_ble_eq_true rfl, Nat.le_of_ble_eq_true rfl⟩) hN hK hP hD hS hA (va_recv hK hP (ci := 4) (q0 := 1) rfl (eX_1 A B _)) rfl hl.1 rfl (Nat.le_of_ble_eq_true rfl) dX6_act_59 (st1 := [.int r59, .ref (A 27)]) rfl ⟨Nat.zero_le _, Nat.zero_le _⟩ (fun H locs hP hD hS => ?_)
                    refine vXpRX6_295_27 (pc := 62) hx hb hts mU_987 inU0 hown hK hP hD hS dX6_act_62 (fun H locs hP hD hS => ?_)
                    refine lv_aload_n (pc := 65) hx hb dX6_act_65 rfl (lv_at hl 1 rfl) ?_
                    refine vXgRX6_42_0 (pc := 66) hx hb hts mU_31 inU6 hown hK hP dX6_act_66 ?_
                    refine lv_iload (pc := 69) hx hb dX6_act_69 (lv_at hl 0 rfl) ?_
                    refine vXpRX6_298_27 (pc := 71) hx hb hts mU_988 inU0 hown hK hP hD hS dX6_act_71 (fun H locs hP hD hS => ?_)
                    refine lv_aload_n (pc := 74) hx hb dX6_act_74 rfl (lv_at hl 1 rfl) ?_
                    refine vXgRX6_42_0 (pc := 75) hx hb hts mU_31 inU6 hown hK hP dX6_act_75 ?_
                    refine lv_aload_n (pc := 78) hx hb dX6_act_78 rfl (lv_at hl 1 rfl) ?_
                    refine vXgRX6_10_0 (pc := 79) hx hb hts mU_16 inU6 hown hK hP dX6_act_79 ?_
                    refine lv_iload (pc := 82) hx hb dX6_act_82 (lv_at hl 0 rfl) ?_
                    obtain ⟨r84, hc84, hf⟩ := hf_b hf
                    refine cl_V (pc := 84) (As := [.int (gI r4 40)]) (rest := [.ref (A 27)]) hx hb hml hown hts (kX4_shiftOf_1 l D A B _ (sI (sI r4 23 r59) 24 (gI r4 40)) (gI r4 40) r84 hc84) (cwV 1 hts gwRX6_131 rfl rfl rfl hdX4_shiftOf ⟨Nat.le_of_ble_eq_true rfl, Nat.le_of_ble_eq_true rfl⟩) hN hK hP hD hS hA (va_recv hK hP (ci := 4) (q0 := 1) rfl (eX_1 A B _)) rfl hl.1 rfl (Nat.le_of_ble_eq_true rfl) dX6_act_84 (st1 := [.int r84, .ref (A 27)]) rfl ⟨Nat.zero_le _, Nat.zero_le _⟩ (fun H locs hP hD hS => ?_)
                    refine vXpRX6_299_27 (pc := 87) hx hb hts mU_989 inU0 hown hK hP hD hS dX6_act_87 (fun H locs hP hD hS => ?_)
                    refine lv_aload_n (pc := 90) hx hb dX6_act_90 rfl (lv_at hl 1 rfl) ?_
                    refine vXgRX6_42_0 (pc := 91) hx hb hts mU_31 inU6 hown hK hP dX6_act_91 ?_
                    refine lv_iload_n (pc := 94) hx hb dX6_act_94 rfl (lv_at hl 3 rfl) ?_
                    refine lv_iload_n (pc := 95) hx hb dX6_act_95 rfl (lv_at hl 4 rfl) ?_
                    obtain ⟨r96, hc96, hf⟩ := hf_b hf
                    refine cl_V (pc := 96) (As := [.int a2, .int a3]) (rest := []) hx hb hml hown hts (kX0_run_27 l D A B _ (sI (sI (sI r4 23 r59) 24 (gI r4 40)) 25 r84) a2 a3 r96 hc96) (cwV 2 hts gwRX6_302 rfl rfl rfl hdX0_run ⟨Nat.le_of_ble_eq_true rfl, Nat.le_of_ble_eq_true rfl⟩) hN hK hP hD hS hA (va_recv hK hP (ci := 0) (q0 := 27) rfl (eX_27 A B _)) rfl hl.1 rfl (Nat.le_of_ble_eq_true rfl) dX6_act_96 (st1 := [.int r96.1]) rfl ⟨Nat.zero_le _, Nat.zero_le _⟩ (fun H locs hP hD hS => ?_)
                    obtain rfl := Option.some.inj hf
                    exact hR H locs 99 ls hP hD hS dX6_act_99
                  · have hf := hf_f e43_1 hf
                    by_cases e43_2 : a1 = (2 : Int32)
                    · have hf := hf_t e43_2 hf
                      refine vXrq_38_2 (pc := 43) hx hb hK hP e43_2 dX6_act_43 ?_
                      refine vXgRX6_286_41 (pc := 44) hx hb hts mU_958 inU3 hown hK hP (x := (gI r4 43)) rfl dX6_act_44 ?_
                      refine lv_istore (pc := 47) hx hb (lv' := [(4, .int (gI r4 43)), (0, .ref (A 0)), (1, .int a1), (2, .int a2), (3, .int a3)]) dX6_act_47 hl (by decide) rfl (fun ls hl => ?_)
                      refine lv_aload_n (pc := 49) hx hb dX6_act_49 rfl (lv_at hl 1 rfl) ?_
                      refine vXgRX6_42_0 (pc := 50) hx hb hts mU_31 inU6 hown hK hP dX6_act_50 ?_
                      refine lv_aload_n (pc := 53) hx hb dX6_act_53 rfl (lv_at hl 1 rfl) ?_
                      refine vXgRX6_10_0 (pc := 54) hx hb hts mU_16 inU6 hown hK hP dX6_act_54 ?_
                      refine lv_iload (pc := 57) hx hb dX6_act_57 (lv_at hl 0 rfl) ?_
                      obtain ⟨r59, hc59, hf⟩ := hf_b hf
                      refine cl_V (pc := 59) (As := [.int (gI r4 43)]) (rest := [.ref (A 27)]) hx hb hml hown hts (kX4_kindOf_1 l D A B _ r4 (gI r4 43) r59 hc59) (cwV 1 hts gwRX6_128 rfl rfl rfl hdX4_kindOf ⟨Nat.le_of_ble_eq_true rfl, Nat.le_of_ble_eq_true rfl⟩) hN hK hP hD hS hA (va_recv hK hP (ci := 4) (q0 := 1) rfl (eX_1 A B _)) rfl hl.1 rfl (Nat.le_of_ble_eq_true rfl) dX6_act_59 (st1 := [.int r59, .ref (A 27)]) rfl ⟨Nat.zero_le _, Nat.zero_le _⟩ (fun H locs hP hD hS => ?_)
                      refine vXpRX6_295_27 (pc := 62) hx hb hts mU_987 inU0 hown hK hP hD hS dX6_act_62 (fun H locs hP hD hS => ?_)
                      refine lv_aload_n (pc := 65) hx hb dX6_act_65 rfl (lv_at hl 1 rfl) ?_
                      refine vXgRX6_42_0 (pc := 66) hx hb hts mU_31 inU6 hown hK hP dX6_act_66 ?_
                      refine lv_iload (pc := 69) hx hb dX6_act_69 (lv_at hl 0 rfl) ?_
                      refine vXpRX6_298_27 (pc := 71) hx hb hts mU_988 inU0 hown hK hP hD hS dX6_act_71 (fun H locs hP hD hS => ?_)
                      refine lv_aload_n (pc := 74) hx hb dX6_act_74 rfl (lv_at hl 1 rfl) ?_
                      refine vXgRX6_42_0 (pc := 75) hx hb hts mU_31 inU6 hown hK hP dX6_act_75 ?_
                      refine lv_aload_n (pc := 78) hx hb dX6_act_78 rfl (lv_at hl 1 rfl) ?_
                      refine vXgRX6_10_0 (pc := 79) hx hb hts mU_16 inU6 hown hK hP dX6_act_79 ?_
                      refine lv_iload (pc := 82) hx hb dX6_act_82 (lv_at hl 0 rfl) ?_
                      obtain ⟨r84, hc84, hf⟩ := hf_b hf
                      refine cl_V (pc := 84) (As := [.int (gI r4 43)]) (rest := [.ref (A 27)]) hx hb hml hown hts (kX4_shiftOf_1 l D A B _ (sI (sI r4 23 r59) 24 (gI r4 43)) (gI r4 43) r84 hc84) (cwV 1 hts gwRX6_131 rfl rfl rfl hdX4_shiftOf ⟨Nat.le_of_ble_eq_true rfl, Nat.le_of_ble_eq_true rfl⟩) hN hK hP hD hS hA (va_recv hK hP (ci := 4) (q0 := 1) rfl (eX_1 A B _)) rfl hl.1 rfl (Nat.le_of_ble_eq_true rfl) dX6_act_84 (st1 := [.int r84, .ref (A 27)]) rfl ⟨Nat.zero_le _, Nat.zero_le _⟩ (fun H locs hP hD hS => ?_)
                      refine vXpRX6_299_27 (pc := 87) hx hb hts mU_989 inU0 hown hK hP hD hS dX6_act_87 (fun H locs hP hD hS => ?_)
                      refine lv_aload_n (pc := 90) hx hb dX6_act_90 rfl (lv_at hl 1 rfl) ?_
                      refine vXgRX6_42_0 (pc := 91) hx hb hts mU_31 inU6 hown hK hP dX6_act_91 ?_
                      refine lv_iload_n (pc := 94) hx hb dX6_act_94 rfl (lv_at hl 3 rfl) ?_
                      refine lv_iload_n (pc := 95) hx hb dX6_act_95 rfl (lv_at hl 4 rfl) ?_
                      obtain ⟨r96, hc96, hf⟩ := hf_b hf
                      refine cl_V (pc := 96) (As := [.int a2, .int a3]) (rest := []) hx hb hml hown hts (kX0_run_27 l D A B _ (sI (sI (sI r4 23 r59) 24 (gI r4 43)) 25 r84) a2 a3 r96 hc96) (cwV 2 hts gwRX6_302 rfl rfl rfl hdX0_run ⟨Nat.le_of_ble_eq_true rfl, Nat.le_of_ble_eq_true rfl⟩) hN hK hP hD hS hA (va_recv hK hP (ci := 0) (q0 := 27) rfl (eX_27 A B _)) rfl hl.1 rfl (Nat.le_of_ble_eq_true rfl) dX6_act_96 (st1 := [.int r96.1]) rfl ⟨Nat.zero_le _, Nat.zero_le _⟩ (fun H locs hP hD hS => ?_)
                      obtain rfl := Option.some.inj hf
                      exact hR H locs 99 ls hP hD hS dX6_act_99
                    · have hf := hf_f e43_2 hf
                      by_cases e43_3 : a1 = (3 : Int32)
                      · have hf := hf_t e43_3 hf
                        refine vXrq_38_3 (pc := 43) hx hb hK hP e43_3 dX6_act_43 ?_
                        refine vXgRX6_286_42 (pc := 44) hx hb hts mU_958 inU3 hown hK hP (x := (gI r4 46)) rfl dX6_act_44 ?_
                        refine lv_istore (pc := 47) hx hb (lv' := [(4, .int (gI r4 46)), (0, .ref (A 0)), (1, .int a1), (2, .int a2), (3, .int a3)]) dX6_act_47 hl (by decide) rfl (fun ls hl => ?_)
                        refine lv_aload_n (pc := 49) hx hb dX6_act_49 rfl (lv_at hl 1 rfl) ?_
                        refine vXgRX6_42_0 (pc := 50) hx hb hts mU_31 inU6 hown hK hP dX6_act_50 ?_
                        refine lv_aload_n (pc := 53) hx hb dX6_act_53 rfl (lv_at hl 1 rfl) ?_
                        refine vXgRX6_10_0 (pc := 54) hx hb hts mU_16 inU6 hown hK hP dX6_act_54 ?_
                        refine lv_iload (pc := 57) hx hb dX6_act_57 (lv_at hl 0 rfl) ?_
                        obtain ⟨r59, hc59, hf⟩ := hf_b hf
                        refine cl_V (pc := 59) (As := [.int (gI r4 46)]) (rest := [.ref (A 27)]) hx hb hml hown hts (kX4_kindOf_1 l D A B _ r4 (gI r4 46) r59 hc59) (cwV 1 hts gwRX6_128 rfl rfl rfl hdX4_kindOf ⟨Nat.le_of_ble_eq_true rfl, Nat.le_of_ble_eq_true rfl⟩) hN hK hP hD hS hA (va_recv hK hP (ci := 4) (q0 := 1) rfl (eX_1 A B _)) rfl hl.1 rfl (Nat.le_of_ble_eq_true rfl) dX6_act_59 (st1 := [.int r59, .ref (A 27)]) rfl ⟨Nat.zero_le _, Nat.zero_le _⟩ (fun H locs hP hD hS => ?_)
                        refine vXpRX6_295_27 (pc := 62) hx hb hts mU_987 inU0 hown hK hP hD hS dX6_act_62 (fun H locs hP hD hS => ?_)
                        refine lv_aload_n (pc := 65) hx hb dX6_act_65 rfl (lv_at hl 1 rfl) ?_
                        refine vXgRX6_42_0 (pc := 66) hx hb hts mU_31 inU6 hown hK hP dX6_act_66 ?_
                        refine lv_iload (pc := 69) hx hb dX6_act_69 (lv_at hl 0 rfl) ?_
                        refine vXpRX6_298_27 (pc := 71) hx hb hts mU_988 inU0 hown hK hP hD hS dX6_act_71 (fun H locs hP hD hS => ?_)
                        refine lv_aload_n (pc := 74) hx hb dX6_act_74 rfl (lv_at hl 1 rfl) ?_
                        refine vXgRX6_42_0 (pc := 75) hx hb hts mU_31 inU6 hown hK hP dX6_act_75 ?_
                        refine lv_aload_n (pc := 78) hx hb dX6_act_78 rfl (lv_at hl 1 rfl) ?_
                        refine vXgRX6_10_0 (pc := 79) hx hb hts mU_16 inU6 hown hK hP dX6_act_79 ?_
                        refine lv_iload (pc := 82) hx hb dX6_act_82 (lv_at hl 0 rfl) ?_
                        obtain ⟨r84, hc84, hf⟩ := hf_b hf
                        refine cl_V (pc := 84) (As := [.int (gI r4 46)]) (rest := [.ref (A 27)]) hx hb hml hown hts (kX4_shiftOf_1 l D A B _ (sI (sI r4 23 r59) 24 (gI r4 46)) (gI r4 46) r84 hc84) (cwV 1 hts gwRX6_131 rfl rfl rfl hdX4_shiftOf ⟨Nat.le_of_ble_eq_true rfl, Nat.le_of_ble_eq_true rfl⟩) hN hK hP hD hS hA (va_recv hK hP (ci := 4) (q0 := 1) rfl (eX_1 A B _)) rfl hl.1 rfl (Nat.le_of_ble_eq_true rfl) dX6_act_84 (st1 := [.int r84, .ref (A 27)]) rfl ⟨Nat.zero_le _, Nat.zero_le _⟩ (fun H locs hP hD hS => ?_)
                        refine vXpRX6_299_27 (pc := 87) hx hb hts mU_989 inU0 hown hK hP hD hS dX6_act_87 (fun H locs hP hD hS => ?_)
                        refine lv_aload_n (pc := 90) hx hb dX6_act_90 rfl (lv_at hl 1 rfl) ?_
                        refine vXgRX6_42_0 (pc := 91) hx hb hts mU_31 inU6 hown hK hP dX6_act_91 ?_
                        refine lv_iload_n (pc := 94) hx hb dX6_act_94 rfl (lv_at hl 3 rfl) ?_
                        refine lv_iload_n (pc := 95) hx hb dX6_act_95 rfl (lv_at hl 4 rfl) ?_
                        obtain ⟨r96, hc96, hf⟩ := hf_b hf
                        refine cl_V (pc := 96) (As := [.int a2, .int a3]) (rest := []) hx hb hml hown hts (kX0_run_27 l D A B _ (sI (sI (sI r4 23 r59) 24 (gI r4 46)) 25 r84) a2 a3 r96 hc96) (cwV 2 hts gwRX6_302 rfl rfl rfl hdX0_run ⟨Nat.le_of_ble_eq_true rfl, Nat.le_of_ble_eq_true rfl⟩) hN hK hP hD hS hA (va_recv hK hP (ci := 0) (q0 := 27) rfl (eX_27 A B _)) rfl hl.1 rfl (Nat.le_of_ble_eq_true rfl) dX6_act_96 (st1 := [.int r96.1]) rfl ⟨Nat.zero_le _, Nat.zero_le _⟩ (fun H locs hP hD hS => ?_)
                        obtain rfl := Option.some.inj hf
                        exact hR H locs 99 ls hP hD hS dX6_act_99
                      · have hf := hf_f e43_3 hf
                        exact hf_0 hf
              · have hf := hf_f c_33 hf
                refine lv_iconst (pc := 36) hx hb (v := 0) dX6_act_36 (by decide) ?_
                obtain rfl := Option.some.inj hf
                exact hR H locs 37 ls hP hD hS dX6_act_37
            · have hf := hf_f e29_2 hf
              by_cases e29_3 : a1 = (3 : Int32)
              · have hf := hf_t e29_3 hf
                refine vXrq_38_3 (pc := 29) hx hb hK hP e29_3 dX6_act_29 ?_
                obtain ⟨r30, hc30, hf⟩ := hf_b hf
                refine cl_V (pc := 30) (As := [.ref (A 42)]) (rest := []) hx hb hml hown hts (kX6_heldNow_42 l D A B _ r4 r30 hc30) (cwV 1 hts gwRX6_281 rfl rfl rfl hdX6_heldNow ⟨Nat.le_of_ble_eq_true rfl, Nat.le_of_ble_eq_true rfl⟩) hN hK hP hD hS hA (va_recv hK hP (ci := 6) (q0 := 0) rfl (eX_0 A B _)) rfl hl.1 rfl (Nat.le_of_ble_eq_true rfl) dX6_act_30 (st1 := [.int r30]) rfl ⟨Nat.zero_le _, Nat.zero_le _⟩ (fun H locs hP hD hS => ?_)
                refine lv_if_eq (pc := 33) hx hb (tgt := 38) dX6_act_33 (by decide) (fun c_33 => ?_) (fun c_33 => ?_)
                · have hf := hf_t c_33 hf
                  refine lv_aload_n (pc := 38) hx hb dX6_act_38 rfl (lv_at hl 0 rfl) ?_
                  refine vXgRX6_54_0 (pc := 39) hx hb hts mU_35 inU6 hown hK hP dX6_act_39 ?_
                  refine lv_iload_n (pc := 42) hx hb dX6_act_42 rfl (lv_at hl 1 rfl) ?_
                  by_cases e43_0 : a1 = (0 : Int32)
                  · have hf := hf_t e43_0 hf
                    refine vXrq_38_0 (pc := 43) hx hb hK hP e43_0 dX6_act_43 ?_
                    refine vXgRX6_286_39 (pc := 44) hx hb hts mU_958 inU3 hown hK hP (x := (gI r4 37)) rfl dX6_act_44 ?_
                    refine lv_istore (pc := 47) hx hb (lv' := [(4, .int (gI r4 37)), (0, .ref (A 0)), (1, .int a1), (2, .int a2), (3, .int a3)]) dX6_act_47 hl (by decide) rfl (fun ls hl => ?_)
                    refine lv_aload_n (pc := 49) hx hb dX6_act_49 rfl (lv_at hl 1 rfl) ?_
                    refine vXgRX6_42_0 (pc := 50) hx hb hts mU_31 inU6 hown hK hP dX6_act_50 ?_
                    refine lv_aload_n (pc := 53) hx hb dX6_act_53 rfl (lv_at hl 1 rfl) ?_
                    refine vXgRX6_10_0 (pc := 54) hx hb hts mU_16 inU6 hown hK hP dX6_act_54 ?_
                    refine lv_iload (pc := 57) hx hb dX6_act_57 (lv_at hl 0 rfl) ?_
                    obtain ⟨r59, hc59, hf⟩ := hf_b hf
                    refine cl_V (pc := 59) (As := [.int (gI r4 37)]) (rest := [.ref (A 27)]) hx hb hml hown hts (kX4_kindOf_1 l D A B _ r4 (gI r4 37) r59 hc59) (cwV 1 hts gwRX6_128 rfl rfl rfl hdX4_kindOf ⟨Nat.le_of_ble_eq_true rfl, Nat.le_of_ble_eq_true rfl⟩) hN hK hP hD hS hA (va_recv hK hP (ci := 4) (q0 := 1) rfl (eX_1 A B _)) rfl hl.1 rfl (Nat.le_of_ble_eq_true rfl) dX6_act_59 (st1 := [.int r59, .ref (A 27)]) rfl ⟨Nat.zero_le _, Nat.zero_le _⟩ (fun H locs hP hD hS => ?_)
                    refine vXpRX6_295_27 (pc := 62) hx hb hts mU_987 inU0 hown hK hP hD hS dX6_act_62 (fun H locs hP hD hS => ?_)
                    refine lv_aload_n (pc := 65) hx hb dX6_act_65 rfl (lv_at hl 1 rfl) ?_
                    refine vXgRX6_42_0 (pc := 66) hx hb hts mU_31 inU6 hown hK hP dX6_act_66 ?_
                    refine lv_iload (pc := 69) hx hb dX6_act_69 (lv_at hl 0 rfl) ?_
                    refine vXpRX6_298_27 (pc := 71) hx hb hts mU_988 inU0 hown hK hP hD hS dX6_act_71 (fun H locs hP hD hS => ?_)
                    refine lv_aload_n (pc := 74) hx hb dX6_act_74 rfl (lv_at hl 1 rfl) ?_
                    refine vXgRX6_42_0 (pc := 75) hx hb hts mU_31 inU6 hown hK hP dX6_act_75 ?_
                    refine lv_aload_n (pc := 78) hx hb dX6_act_78 rfl (lv_at hl 1 rfl) ?_
                    refine vXgRX6_10_0 (pc := 79) hx hb hts mU_16 inU6 hown hK hP dX6_act_79 ?_
                    refine lv_iload (pc := 82) hx hb dX6_act_82 (lv_at hl 0 rfl) ?_
                    obtain ⟨r84, hc84, hf⟩ := hf_b hf
                    refine cl_V (pc := 84) (As := [.int (gI r4 37)]) (rest := [.ref (A 27)]) hx hb hml hown hts (kX4_shiftOf_1 l D A B _ (sI (sI r4 23 r59) 24 (gI r4 37)) (gI r4 37) r84 hc84) (cwV 1 hts gwRX6_131 rfl rfl rfl hdX4_shiftOf ⟨Nat.le_of_ble_eq_true rfl, Nat.le_of_ble_eq_true rfl⟩) hN hK hP hD hS hA (va_recv hK hP (ci := 4) (q0 := 1) rfl (eX_1 A B _)) rfl hl.1 rfl (Nat.le_of_ble_eq_true rfl) dX6_act_84 (st1 := [.int r84, .ref (A 27)]) rfl ⟨Nat.zero_le _, Nat.zero_le _⟩ (fun H locs hP hD hS => ?_)
                    refine vXpRX6_299_27 (pc := 87) hx hb hts mU_989 inU0 hown hK hP hD hS dX6_act_87 (fun H locs hP hD hS => ?_)
                    refine lv_aload_n (pc := 90) hx hb dX6_act_90 rfl (lv_at hl 1 rfl) ?_
                    refine vXgRX6_42_0 (pc := 91) hx hb hts mU_31 inU6 hown hK hP dX6_act_91 ?_
                    refine lv_iload_n (pc := 94) hx hb dX6_act_94 rfl (lv_at hl 3 rfl) ?_
                    refine lv_iload_n (pc := 95) hx hb dX6_act_95 rfl (lv_at hl 4 rfl) ?_
                    obtain ⟨r96, hc96, hf⟩ := hf_b hf
                    refine cl_V (pc := 96) (As := [.int a2, .int a3]) (rest := []) hx hb hml hown hts (kX0_run_27 l D A B _ (sI (sI (sI r4 23 r59) 24 (gI r4 37)) 25 r84) a2 a3 r96 hc96) (cwV 2 hts gwRX6_302 rfl rfl rfl hdX0_run ⟨Nat.le_of_ble_eq_true rfl, Nat.le_of_ble_eq_true rfl⟩) hN hK hP hD hS hA (va_recv hK hP (ci := 0) (q0 := 27) rfl (eX_27 A B _)) rfl hl.1 rfl (Nat.le_of_ble_eq_true rfl) dX6_act_96 (st1 := [.int r96.1]) rfl ⟨Nat.zero_le _, Nat.zero_le _⟩ (fun H locs hP hD hS => ?_)
                    obtain rfl := Option.some.inj hf
                    exact hR H locs 99 ls hP hD hS dX6_act_99
                  · have hf := hf_f e43_0 hf
                    by_cases e43_1 : a1 = (1 : Int32)
                    · have hf := hf_t e43_1 hf
                      refine vXrq_38_1 (pc := 43) hx hb hK hP e43_1 dX6_act_43 ?_
                      refine vXgRX6_286_40 (pc := 44) hx hb hts mU_958 inU3 hown hK hP (x := (gI r4 40)) rfl dX6_act_44 ?_
                      refine lv_istore (pc := 47) hx hb (lv' := [(4, .int (gI r4 40)), (0, .ref (A 0)), (1, .int a1), (2, .int a2), (3, .int a3)]) dX6_act_47 hl (by decide) rfl (fun ls hl => ?_)
                      refine lv_aload_n (pc := 49) hx hb dX6_act_49 rfl (lv_at hl 1 rfl) ?_
                      refine vXgRX6_42_0 (pc := 50) hx hb hts mU_31 inU6 hown hK hP dX6_act_50 ?_
                      refine lv_aload_n (pc := 53) hx hb dX6_act_53 rfl (lv_at hl 1 rfl) ?_
                      refine vXgRX6_10_0 (pc := 54) hx hb hts mU_16 inU6 hown hK hP dX6_act_54 ?_
                      refine lv_iload (pc := 57) hx hb dX6_act_57 (lv_at hl 0 rfl) ?_
                      obtain ⟨r59, hc59, hf⟩ := hf_b hf
                      refine cl_V (pc := 59) (As := [.int (gI r4 40)]) (rest := [.ref (A 27)]) hx hb hml hown hts (kX4_kindOf_1 l D A B _ r4 (gI r4 40) r59 hc59) (cwV 1 hts gwRX6_128 rfl rfl rfl hdX4_kindOf ⟨Nat.le_of_ble_eq_true rfl, Nat.le_of_ble_eq_true rfl⟩) hN hK hP hD hS hA (va_recv hK hP (ci := 4) (q0 := 1) rfl (eX_1 A B _)) rfl hl.1 rfl (Nat.le_of_ble_eq_true rfl) dX6_act_59 (st1 := [.int r59, .ref (A 27)]) rfl ⟨Nat.zero_le _, Nat.zero_le _⟩ (fun H locs hP hD hS => ?_)
                      refine vXpRX6_295_27 (pc := 62) hx hb hts mU_987 inU0 hown hK hP hD hS dX6_act_62 (fun H locs hP hD hS => ?_)
                      refine lv_aload_n (pc := 65) hx hb dX6_act_65 rfl (lv_at hl 1 rfl) ?_
                      refine vXgRX6_42_0 (pc := 66) hx hb hts mU_31 inU6 hown hK hP dX6_act_66 ?_
                      refine lv_iload (pc := 69) hx hb dX6_act_69 (lv_at hl 0 rfl) ?_
                      refine vXpRX6_298_27 (pc := 71) hx hb hts mU_988 inU0 hown hK hP hD hS dX6_act_71 (fun H locs hP hD hS => ?_)
                      refine lv_aload_n (pc := 74) hx hb dX6_act_74 rfl (lv_at hl 1 rfl) ?_
                      refine vXgRX6_42_0 (pc := 75) hx hb hts mU_31 inU6 hown hK hP dX6_act_75 ?_
                      refine lv_aload_n (pc := 78) hx hb dX6_act_78 rfl (lv_at hl 1 rfl) ?_
                      refine vXgRX6_10_0 (pc := 79) hx hb hts mU_16 inU6 hown hK hP dX6_act_79 ?_
                      refine lv_iload (pc := 82) hx hb dX6_act_82 (lv_at hl 0 rfl) ?_
                      obtain ⟨r84, hc84, hf⟩ := hf_b hf
                      refine cl_V (pc := 84) (As := [.int (gI r4 40)]) (rest := [.ref (A 27)]) hx hb hml hown hts (kX4_shiftOf_1 l D A B _ (sI (sI r4 23 r59) 24 (gI r4 40)) (gI r4 40) r84 hc84) (cwV 1 hts gwRX6_131 rfl rfl rfl hdX4_shiftOf ⟨Nat.le_of_ble_eq_true rfl, Nat.le_of_ble_eq_true rfl⟩) hN hK hP hD hS hA (va_recv hK hP (ci := 4) (q0 := 1) rfl (eX_1 A B _)) rfl hl.1 rfl (Nat.le_of_ble_eq_true rfl) dX6_act_84 (st1 := [.int r84, .ref (A 27)]) rfl ⟨Nat.zero_le _, Nat.zero_le _⟩ (fun H locs hP hD hS => ?_)
                      refine vXpRX6_299_27 (pc := 87) hx hb hts mU_989 inU0 hown hK hP hD hS dX6_act_87 (fun H locs hP hD hS => ?_)
                      refine lv_aload_n (pc := 90) hx hb dX6_act_90 rfl (lv_at hl 1 rfl) ?_
                      refine vXgRX6_42_0 (pc := 91) hx hb hts mU_31 inU6 hown hK hP dX6_act_91 ?_
                      refine lv_iload_n (pc := 94) hx hb dX6_act_94 rfl (lv_at hl 3 rfl) ?_
                      refine lv_iload_n (pc := 95) hx hb dX6_act_95 rfl (lv_at hl 4 rfl) ?_
                      obtain ⟨r96, hc96, hf⟩ := hf_b hf
                      refine cl_V (pc := 96) (As := [.int a2, .int a3]) (rest := []) hx hb hml hown hts (kX0_run_27 l D A B _ (sI (sI (sI r4 23 r59) 24 (gI r4 40)) 25 r84) a2 a3 r96 hc96) (cwV 2 hts gwRX6_302 rfl rfl rfl hdX0_run ⟨Nat.le_of_ble_eq_true rfl, Nat.le_of_ble_eq_true rfl⟩) hN hK hP hD hS hA (va_recv hK hP (ci := 0) (q0 := 27) rfl (eX_27 A B _)) rfl hl.1 rfl (Nat.le_of_ble_eq_true rfl) dX6_act_96 (st1 := [.int r96.1]) rfl ⟨Nat.zero_le _, Nat.zero_le _⟩ (fun H locs hP hD hS => ?_)
                      obtain rfl := Option.some.inj hf
                      exact hR H locs 99 ls hP hD hS dX6_act_99
                    · have hf := hf_f e43_1 hf
                      by_cases e43_2 : a1 = (2 : Int32)
                      · have hf := hf_t e43_2 hf
                        refine vXrq_38_2 (pc := 43) hx hb hK hP e43_2 dX6_act_43 ?_
                        refine vXgRX6_286_41 (pc := 44) hx hb hts mU_958 inU3 hown hK hP (x := (gI r4 43)) rfl dX6_act_44 ?_
                        refine lv_istore (pc := 47) hx hb (lv' := [(4, .int (gI r4 43)), (0, .ref (A 0)), (1, .int a1), (2, .int a2), (3, .int a3)]) dX6_act_47 hl (by decide) rfl (fun ls hl => ?_)
                        refine lv_aload_n (pc := 49) hx hb dX6_act_49 rfl (lv_at hl 1 rfl) ?_
                        refine vXgRX6_42_0 (pc := 50) hx hb hts mU_31 inU6 hown hK hP dX6_act_50 ?_
                        refine lv_aload_n (pc := 53) hx hb dX6_act_53 rfl (lv_at hl 1 rfl) ?_
                        refine vXgRX6_10_0 (pc := 54) hx hb hts mU_16 inU6 hown hK hP dX6_act_54 ?_
                        refine lv_iload (pc := 57) hx hb dX6_act_57 (lv_at hl 0 rfl) ?_
                        obtain ⟨r59, hc59, hf⟩ := hf_b hf
                        refine cl_V (pc := 59) (As := [.int (gI r4 43)]) (rest := [.ref (A 27)]) hx hb hml hown hts (kX4_kindOf_1 l D A B _ r4 (gI r4 43) r59 hc59) (cwV 1 hts gwRX6_128 rfl rfl rfl hdX4_kindOf ⟨Nat.le_of_ble_eq_true rfl, Nat.le_of_ble_eq_true rfl⟩) hN hK hP hD hS hA (va_recv hK hP (ci := 4) (q0 := 1) rfl (eX_1 A B _)) rfl hl.1 rfl (Nat.le_of_ble_eq_true rfl) dX6_act_59 (st1 := [.int r59, .ref (A 27)]) rfl ⟨Nat.zero_le _, Nat.zero_le _⟩ (fun H locs hP hD hS => ?_)
                        refine vXpRX6_295_27 (pc := 62) hx hb hts mU_987 inU0 hown hK hP hD hS dX6_act_62 (fun H locs hP hD hS => ?_)
                        refine lv_aload_n (pc := 65) hx hb dX6_act_65 rfl (lv_at hl 1 rfl) ?_
                        refine vXgRX6_42_0 (pc := 66) hx hb hts mU_31 inU6 hown hK hP dX6_act_66 ?_
                        refine lv_iload (pc := 69) hx hb dX6_act_69 (lv_at hl 0 rfl) ?_
                        refine vXpRX6_298_27 (pc := 71) hx hb hts mU_988 inU0 hown hK hP hD hS dX6_act_71 (fun H locs hP hD hS => ?_)
                        refine lv_aload_n (pc := 74) hx hb dX6_act_74 rfl (lv_at hl 1 rfl) ?_
                        refine vXgRX6_42_0 (pc := 75) hx hb hts mU_31 inU6 hown hK hP dX6_act_75 ?_
                        refine lv_aload_n (pc := 78) hx hb dX6_act_78 rfl (lv_at hl 1 rfl) ?_
                        refine vXgRX6_10_0 (pc := 79) hx hb hts mU_16 inU6 hown hK hP dX6_act_79 ?_
                        refine lv_iload (pc := 82) hx hb dX6_act_82 (lv_at hl 0 rfl) ?_
                        obtain ⟨r84, hc84, hf⟩ := hf_b hf
                        refine cl_V (pc := 84) (As := [.int (gI r4 43)]) (rest := [.ref (A 27)]) hx hb hml hown hts (kX4_shiftOf_1 l D A B _ (sI (sI r4 23 r59) 24 (gI r4 43)) (gI r4 43) r84 hc84) (cwV 1 hts gwRX6_131 rfl rfl rfl hdX4_shiftOf ⟨Nat.le_of_ble_eq_true rfl, Nat.le_of_ble_eq_true rfl⟩) hN hK hP hD hS hA (va_recv hK hP (ci := 4) (q0 := 1) rfl (eX_1 A B _)) rfl hl.1 rfl (Nat.le_of_ble_eq_true rfl) dX6_act_84 (st1 := [.int r84, .ref (A 27)]) rfl ⟨Nat.zero_le _, Nat.zero_le _⟩ (fun H locs hP hD hS => ?_)
                        refine vXpRX6_299_27 (pc := 87) hx hb hts mU_989 inU0 hown hK hP hD hS dX6_act_87 (fun H locs hP hD hS => ?_)
                        refine lv_aload_n (pc := 90) hx hb dX6_act_90 rfl (lv_at hl 1 rfl) ?_
                        refine vXgRX6_42_0 (pc := 91) hx hb hts mU_31 inU6 hown hK hP dX6_act_91 ?_
                        refine lv_iload_n (pc := 94) hx hb dX6_act_94 rfl (lv_at hl 3 rfl) ?_
                        refine lv_iload_n (pc := 95) hx hb dX6_act_95 rfl (lv_at hl 4 rfl) ?_
                        obtain ⟨r96, hc96, hf⟩ := hf_b hf
                        refine cl_V (pc := 96) (As := [.int a2, .int a3]) (rest := []) hx hb hml hown hts (kX0_run_27 l D A B _ (sI (sI (sI r4 23 r59) 24 (gI r4 43)) 25 r84) a2 a3 r96 hc96) (cwV 2 hts gwRX6_302 rfl rfl rfl hdX0_run ⟨Nat.le_of_ble_eq_true rfl, Nat.le_of_ble_eq_true rfl⟩) hN hK hP hD hS hA (va_recv hK hP (ci := 0) (q0 := 27) rfl (eX_27 A B _)) rfl hl.1 rfl (Nat.le_of_ble_eq_true rfl) dX6_act_96 (st1 := [.int r96.1]) rfl ⟨Nat.zero_le _, Nat.zero_le _⟩ (fun H locs hP hD hS => ?_)
                        obtain rfl := Option.some.inj hf
                        exact hR H locs 99 ls hP hD hS dX6_act_99
                      · have hf := hf_f e43_2 hf
                        by_cases e43_3 : a1 = (3 : Int32)
                        · have hf := hf_t e43_3 hf
                          refine vXrq_38_3 (pc := 43) hx hb hK hP e43_3 dX6_act_43 ?_
                          refine vXgRX6_286_42 (pc := 44) hx hb hts mU_958 inU3 hown hK hP (x := (gI r4 46)) rfl dX6_act_44 ?_
                          refine lv_istore (pc := 47) hx hb (lv' := [(4, .int (gI r4 46)), (0, .ref (A 0)), (1, .int a1), (2, .int a2), (3, .int a3)]) dX6_act_47 hl (by decide) rfl (fun ls hl => ?_)
                          refine lv_aload_n (pc := 49) hx hb dX6_act_49 rfl (lv_at hl 1 rfl) ?_
                          refine vXgRX6_42_0 (pc := 50) hx hb hts mU_31 inU6 hown hK hP dX6_act_50 ?_
                          refine lv_aload_n (pc := 53) hx hb dX6_act_53 rfl (lv_at hl 1 rfl) ?_
                          refine vXgRX6_10_0 (pc := 54) hx hb hts mU_16 inU6 hown hK hP dX6_act_54 ?_
                          refine lv_iload (pc := 57) hx hb dX6_act_57 (lv_at hl 0 rfl) ?_
                          obtain ⟨r59, hc59, hf⟩ := hf_b hf
                          refine cl_V (pc := 59) (As := [.int (gI r4 46)]) (rest := [.ref (A 27)]) hx hb hml hown hts (kX4_kindOf_1 l D A B _ r4 (gI r4 46) r59 hc59) (cwV 1 hts gwRX6_128 rfl rfl rfl hdX4_kindOf ⟨Nat.le_of_ble_eq_true rfl, Nat.le_of_ble_eq_true rfl⟩) hN hK hP hD hS hA (va_recv hK hP (ci := 4) (q0 := 1) rfl (eX_1 A B _)) rfl hl.1 rfl (Nat.le_of_ble_eq_true rfl) dX6_act_59 (st1 := [.int r59, .ref (A 27)]) rfl ⟨Nat.zero_le _, Nat.zero_le _⟩ (fun H locs hP hD hS => ?_)
                          refine vXpRX6_295_27 (pc := 62) hx hb hts mU_987 inU0 hown hK hP hD hS dX6_act_62 (fun H locs hP hD hS => ?_)
                          refine lv_aload_n (pc := 65) hx hb dX6_act_65 rfl (lv_at hl 1 rfl) ?_
                          refine vXgRX6_42_0 (pc := 66) hx hb hts mU_31 inU6 hown hK hP dX6_act_66 ?_
                          refine lv_iload (pc := 69) hx hb dX6_act_69 (lv_at hl 0 rfl) ?_
                          refine vXpRX6_298_27 (pc := 71) hx hb hts mU_988 inU0 hown hK hP hD hS dX6_act_71 (fun H locs hP hD hS => ?_)
                          refine lv_aload_n (pc := 74) hx hb dX6_act_74 rfl (lv_at hl 1 rfl) ?_
                          refine vXgRX6_42_0 (pc := 75) hx hb hts mU_31 inU6 hown hK hP dX6_act_75 ?_
                          refine lv_aload_n (pc := 78) hx hb dX6_act_78 rfl (lv_at hl 1 rfl) ?_
                          refine vXgRX6_10_0 (pc := 79) hx hb hts mU_16 inU6 hown hK hP dX6_act_79 ?_
                          refine lv_iload (pc := 82) hx hb dX6_act_82 (lv_at hl 0 rfl) ?_
                          obtain ⟨r84, hc84, hf⟩ := hf_b hf
                          refine cl_V (pc := 84) (As := [.int (gI r4 46)]) (rest := [.ref (A 27)]) hx hb hml hown hts (kX4_shiftOf_1 l D A B _ (sI (sI r4 23 r59) 24 (gI r4 46)) (gI r4 46) r84 hc84) (cwV 1 hts gwRX6_131 rfl rfl rfl hdX4_shiftOf ⟨Nat.le_of_ble_eq_true rfl, Nat.le_of_ble_eq_true rfl⟩) hN hK hP hD hS hA (va_recv hK hP (ci := 4) (q0 := 1) rfl (eX_1 A B _)) rfl hl.1 rfl (Nat.le_of_ble_eq_true rfl) dX6_act_84 (st1 := [.int r84, .ref (A 27)]) rfl ⟨Nat.zero_le _, Nat.zero_le _⟩ (fun H locs hP hD hS => ?_)
                          refine vXpRX6_299_27 (pc := 87) hx hb hts mU_989 inU0 hown hK hP hD hS dX6_act_87 (fun H locs hP hD hS => ?_)
                          refine lv_aload_n (pc := 90) hx hb dX6_act_90 rfl (lv_at hl 1 rfl) ?_
                          refine vXgRX6_42_0 (pc := 91) hx hb hts mU_31 inU6 hown hK hP dX6_act_91 ?_
                          refine lv_iload_n (pc := 94) hx hb dX6_act_94 rfl (lv_at hl 3 rfl) ?_
                          refine lv_iload_n (pc := 95) hx hb dX6_act_95 rfl (lv_at hl 4 rfl) ?_
                          obtain ⟨r96, hc96, hf⟩ := hf_b hf
                          refine cl_V (pc := 96) (As := [.int a2, .int a3]) (rest := []) hx hb hml hown hts (kX0_run_27 l D A B _ (sI (sI (sI r4 23 r59) 24 (gI r4 46)) 25 r84) a2 a3 r96 hc96) (cwV 2 hts gwRX6_302 rfl rfl rfl hdX0_run ⟨Nat.le_of_ble_eq_true rfl, Nat.le_of_ble_eq_true rfl⟩) hN hK hP hD hS hA (va_recv hK hP (ci := 0) (q0 := 27) rfl (eX_27 A B _)) rfl hl.1 rfl (Nat.le_of_ble_eq_true rfl) dX6_act_96 (st1 := [.int r96.1]) rfl ⟨Nat.zero_le _, Nat.zero_le _⟩ (fun H locs hP hD hS => ?_)
                          obtain rfl := Option.some.inj hf
                          exact hR H locs 99 ls hP hD hS dX6_act_99
                        · have hf := hf_f e43_3 hf
                          exact hf_0 hf
                · have hf := hf_f c_33 hf
                  refine lv_iconst (pc := 36) hx hb (v := 0) dX6_act_36 (by decide) ?_
                  obtain rfl := Option.some.inj hf
                  exact hR H locs 37 ls hP hD hS dX6_act_37
              · have hf := hf_f e29_3 hf
                exact hf_0 hf
set_option maxHeartbeats 4000000 in
set_option maxRecDepth 100000 in
theorem kX6_trace (l : Launch) (D : va_G) (A : Nat → Nat) (B : Nat → ClassId) (sz : Nat) (S : w_S) (a1 : Int32) (z : Int32) (hf : fX6_trace S a1 = some z) : MetW l yX6_trace (wsO yX6_trace cX6_trace 2 (some .int)) rm_X6_trace [.ref (A 0), .int a1] D (tyB B) (wX A B S) (wX A B S) sz (some (.int z)) := by
  refine MetW.mkI (cc := cX6_trace) (maxL := 2) (by decide) (Nat.le_of_ble_eq_true rfl) ?_
  intro p e s m args below meth c Ad Q hx hb hts hown hml hN hK hA hR H locs ls hP hD hS hl
  have hl : lv_has ls 2 [(0, .ref (A 0)), (1, .int a1)] := hl
  rw [fX6_trace] at hf
  refine lv_iload_n (pc := 0) hx hb dX6_trace_0 rfl (lv_at hl 1 rfl) ?_
  refine lv_if_lt (pc := 1) hx hb (tgt := 33) dX6_trace_1 (by decide) (fun c_1 => ?_) (fun c_1 => ?_)
  · have hf := hf_t c_1 hf
    refine lv_bipush (pc := 33) hx hb (v := (-3)) dX6_trace_33 (by decide) ?_
    obtain rfl := Option.some.inj hf
    exact hR H locs 35 ls hP hD hS dX6_trace_35
  · have hf := hf_f c_1 hf
    refine lv_iload_n (pc := 4) hx hb dX6_trace_4 rfl (lv_at hl 1 rfl) ?_
    refine lv_aload_n (pc := 5) hx hb dX6_trace_5 rfl (lv_at hl 0 rfl) ?_
    refine vXgRX6_42_0 (pc := 6) hx hb hts mU_31 inU6 hown hK hP dX6_trace_6 ?_
    refine vXgRX6_306_27 (pc := 9) hx hb hts mU_1080 inU0 hown hK hP (x := (gI S 26)) rfl dX6_trace_9 ?_
    refine lv_icmp_ge (pc := 12) hx hb (tgt := 33) dX6_trace_12 (by decide) (fun c_12 => ?_) (fun c_12 => ?_)
    · have hf := hf_t c_12 hf
      refine lv_bipush (pc := 33) hx hb (v := (-3)) dX6_trace_33 (by decide) ?_
      obtain rfl := Option.some.inj hf
      exact hR H locs 35 ls hP hD hS dX6_trace_35
    · have hf := hf_f c_12 hf
      refine lv_iload_n (pc := 15) hx hb dX6_trace_15 rfl (lv_at hl 1 rfl) ?_
      refine lv_bipush (pc := 16) hx hb (v := 30) dX6_trace_16 (by decide) ?_
      refine lv_icmp_ge (pc := 18) hx hb (tgt := 33) dX6_trace_18 (by decide) (fun c_18 => ?_) (fun c_18 => ?_)
      · have hf := hf_t c_18 hf
        refine lv_bipush (pc := 33) hx hb (v := (-3)) dX6_trace_33 (by decide) ?_
        obtain rfl := Option.some.inj hf
        exact hR H locs 35 ls hP hD hS dX6_trace_35
      · have hf := hf_f c_18 hf
        refine lv_aload_n (pc := 21) hx hb dX6_trace_21 rfl (lv_at hl 0 rfl) ?_
        refine vXgRX6_42_0 (pc := 22) hx hb hts mU_31 inU6 hown hK hP dX6_trace_22 ?_
        refine vXgRX6_307_27 (pc := 25) hx hb hts mU_1081 inU0 hown hK hP dX6_trace_25 ?_
        refine lv_iload_n (pc := 28) hx hb dX6_trace_28 rfl (lv_at hl 1 rfl) ?_
        obtain ⟨hg29, hf⟩ := hf_g hf
        refine vXra_28 (pc := 29) hx hb hK hP (f := (gA S 18)) rfl hg29 dX6_trace_29 ?_
        refine lv_goto (pc := 30) hx hb (tgt := 35) dX6_trace_30 (by decide) ?_
        obtain rfl := Option.some.inj hf
        exact hR H locs 35 ls hP hD hS dX6_trace_35
set_option maxHeartbeats 4000000 in
set_option maxRecDepth 100000 in
theorem kX4_fittingSet_1 (l : Launch) (D : va_G) (A : Nat → Nat) (B : Nat → ClassId) (sz : Nat) (S : w_S) (z : Int32) (hf : fX4_fittingSet_1 S = some z) : MetW l yX4_fittingSet (wsO yX4_fittingSet cX4_fittingSet 3 (some .int)) rm_X4_fittingSet [.ref (A 1)] D (tyB B) (wX A B S) (wX A B S) sz (some (.int z)) := by
  refine MetW.mkI (cc := cX4_fittingSet) (maxL := 3) (by decide) (Nat.le_of_ble_eq_true rfl) ?_
  intro p e s m args below meth c Ad Q hx hb hts hown hml hN hK hA hR H locs ls hP hD hS hl
  have hl : lv_has ls 3 [(0, .ref (A 1))] := hl
  rw [fX4_fittingSet_1] at hf
  refine lv_iconst (pc := 0) hx hb (v := 0) dX4_fittingSet_0 (by decide) ?_
  refine lv_istore_n (pc := 1) hx hb (lv' := [(1, .int 0), (0, .ref (A 1))]) dX4_fittingSet_1 rfl hl (by decide) rfl (fun ls hl => ?_)
  refine lv_iconst (pc := 2) hx hb (v := 0) dX4_fittingSet_2 (by decide) ?_
  refine lv_istore_n (pc := 3) hx hb (lv' := [(2, .int 0), (1, .int 0), (0, .ref (A 1))]) dX4_fittingSet_3 rfl hl (by decide) rfl (fun ls hl => ?_)
  obtain ⟨q4, hq4, hf⟩ := hf_b hf
  have hk4 : ∀ (H : Heap) (locs : List Loc) (ls : Array Slot), va_P D vwCl (wX A B S) H → va_D Ad (wX A B S) → va_S Ad s.heap H locs → lv_has ls 3 [(1, .int q4)] → W p l e rm_X4_fittingSet s m args below meth c H locs 0 0 Q (F0 m 40 ls []) := by
    intro H locs ls hP hD hS hl
    refine lv_iload_n (pc := 40) hx hb dX4_fittingSet_40 rfl (lv_at hl 0 rfl) ?_
    obtain rfl := Option.some.inj hf
    exact hR H locs 41 ls hP hD hS dX4_fittingSet_41
  have lp4 : ∀ (n : Nat) (u1_4 : Int32) (u2_4 : Int32) (H : Heap) (locs : List Loc) (ls : Array Slot), fX4_fittingSet_1_L4 S n u1_4 u2_4 = some q4 → va_P D vwCl (wX A B S) H → va_D Ad (wX A B S) → va_S Ad s.heap H locs → lv_has ls 3 [(0, .ref (A 1)), (1, .int u1_4), (2, .int u2_4)] → W p l e rm_X4_fittingSet s m args below meth c H locs 0 0 Q (F0 m 4 ls []) := by
    intro n4
    induction n4 with
    | zero => intro u1_4 u2_4 H locs ls hq4; exact hf_0 hq4
    | succ n4 ih4 =>
      intro u1_4 u2_4 H locs ls hq4 hP hD hS hl
      rw [fX4_fittingSet_1_L4] at hq4
      refine lv_iload_n (pc := 4) hx hb dX4_fittingSet_4 rfl (lv_at hl 2 rfl) ?_
      refine lv_aload_n (pc := 5) hx hb dX4_fittingSet_5 rfl (lv_at hl 0 rfl) ?_
      refine vXgRX4_37_1 (pc := 6) hx hb hts mU_281 inU4 hown hK hP (x := (gI S 3)) rfl dX4_fittingSet_6 ?_
      refine lv_icmp_ge (pc := 9) hx hb (tgt := 40) dX4_fittingSet_9 (by decide) (fun c_9 => ?_) (fun c_9 => ?_)
      · have hq4 := hf_t c_9 hq4
        obtain rfl := Option.some.inj hq4
        exact hk4 H locs ls hP hD hS (lv_sub hl [1] rfl)
      · have hq4 := hf_f c_9 hq4
        refine lv_iload_n (pc := 12) hx hb dX4_fittingSet_12 rfl (lv_at hl 1 rfl) ?_
        refine lv_aload_n (pc := 13) hx hb dX4_fittingSet_13 rfl (lv_at hl 0 rfl) ?_
        refine lv_aload_n (pc := 14) hx hb dX4_fittingSet_14 rfl (lv_at hl 0 rfl) ?_
        refine lv_iload_n (pc := 15) hx hb dX4_fittingSet_15 rfl (lv_at hl 2 rfl) ?_
        obtain ⟨r16, hc16, hq4⟩ := hf_b hq4
        refine cl_V (pc := 16) (As := [.int u2_4]) (rest := [.ref (A 1), .int u1_4]) hx hb hml hown hts (kX4_kindOf_1 l D A B _ S u2_4 r16 hc16) (cwV 1 hts gwRX4_94 rfl rfl rfl hdX4_kindOf ⟨Nat.le_of_ble_eq_true rfl, Nat.le_of_ble_eq_true rfl⟩) hN hK hP hD hS hA (va_recv hK hP (ci := 4) (q0 := 1) rfl (eX_1 A B _)) rfl hl.1 rfl (Nat.le_of_ble_eq_true rfl) dX4_fittingSet_16 (st1 := [.int r16, .ref (A 1), .int u1_4]) rfl ⟨Nat.zero_le _, Nat.zero_le _⟩ (fun H locs hP hD hS => ?_)
        obtain ⟨r19, hc19, hq4⟩ := hf_b hq4
        refine cl_V (pc := 19) (As := [.int r16]) (rest := [.int u1_4]) hx hb hml hown hts (kX4_fits_1 l D A B _ S r16 r19 hc19) (cwV 1 hts gwRX4_97 rfl rfl rfl hdX4_fits ⟨Nat.le_of_ble_eq_true rfl, Nat.le_of_ble_eq_true rfl⟩) hN hK hP hD hS hA (va_recv hK hP (ci := 4) (q0 := 1) rfl (eX_1 A B _)) rfl hl.1 rfl (Nat.le_of_ble_eq_true rfl) dX4_fittingSet_19 (st1 := [.int r19, .int u1_4]) rfl ⟨Nat.zero_le _, Nat.zero_le _⟩ (fun H locs hP hD hS => ?_)
        refine lv_if_eq (pc := 22) hx hb (tgt := 31) dX4_fittingSet_22 (by decide) (fun c_22 => ?_) (fun c_22 => ?_)
        · have hq4 := hf_t c_22 hq4
          refine lv_iconst (pc := 31) hx hb (v := 0) dX4_fittingSet_31 (by decide) ?_
          refine lv_ior (pc := 32) hx hb dX4_fittingSet_32 ?_
          refine lv_istore_n (pc := 33) hx hb (lv' := [(1, .int (u1_4 ||| 0)), (0, .ref (A 1)), (2, .int u2_4)]) dX4_fittingSet_33 rfl hl (by decide) rfl (fun ls hl => ?_)
          refine lv_iinc (pc := 34) hx hb (v := u2_4 + 1) (lv' := [(2, .int (u2_4 + 1)), (1, .int (u1_4 ||| 0)), (0, .ref (A 1))]) dX4_fittingSet_34 hl (k := 2) rfl rfl (by decide) rfl (fun ls hl => ?_)
          refine lv_goto (pc := 37) hx hb (tgt := 4) dX4_fittingSet_37 (by decide) ?_
          exact ih4 (u1_4 ||| 0) (u2_4 + 1) H locs ls hq4 hP hD hS (lv_sub hl [2, 1, 0] rfl)
        · have hq4 := hf_f c_22 hq4
          refine lv_iconst (pc := 25) hx hb (v := 1) dX4_fittingSet_25 (by decide) ?_
          refine lv_iload_n (pc := 26) hx hb dX4_fittingSet_26 rfl (lv_at hl 2 rfl) ?_
          refine lv_ishl (pc := 27) hx hb dX4_fittingSet_27 ?_
          refine lv_goto (pc := 28) hx hb (tgt := 32) dX4_fittingSet_28 (by decide) ?_
          refine lv_ior (pc := 32) hx hb dX4_fittingSet_32 ?_
          refine lv_istore_n (pc := 33) hx hb (lv' := [(1, .int (u1_4 ||| (1 <<< (u2_4 &&& 31)))), (0, .ref (A 1)), (2, .int u2_4)]) dX4_fittingSet_33 rfl hl (by decide) rfl (fun ls hl => ?_)
          refine lv_iinc (pc := 34) hx hb (v := u2_4 + 1) (lv' := [(2, .int (u2_4 + 1)), (1, .int (u1_4 ||| (1 <<< (u2_4 &&& 31)))), (0, .ref (A 1))]) dX4_fittingSet_34 hl (k := 2) rfl rfl (by decide) rfl (fun ls hl => ?_)
          refine lv_goto (pc := 37) hx hb (tgt := 4) dX4_fittingSet_37 (by decide) ?_
          exact ih4 (u1_4 ||| (1 <<< (u2_4 &&& 31))) (u2_4 + 1) H locs ls hq4 hP hD hS (lv_sub hl [2, 1, 0] rfl)
  exact lp4 256 0 0 H locs ls hq4 hP hD hS (lv_sub hl [2, 1, 0] rfl)
set_option maxHeartbeats 4000000 in
set_option maxRecDepth 100000 in
theorem kX4_splitSet_1 (l : Launch) (D : va_G) (A : Nat → Nat) (B : Nat → ClassId) (sz : Nat) (S : w_S) (z : Int32) (hf : fX4_splitSet_1 S = some z) : MetW l yX4_splitSet (wsO yX4_splitSet cX4_splitSet 3 (some .int)) rm_X4_splitSet [.ref (A 1)] D (tyB B) (wX A B S) (wX A B S) sz (some (.int z)) := by
  refine MetW.mkI (cc := cX4_splitSet) (maxL := 3) (by decide) (Nat.le_of_ble_eq_true rfl) ?_
  intro p e s m args below meth c Ad Q hx hb hts hown hml hN hK hA hR H locs ls hP hD hS hl
  have hl : lv_has ls 3 [(0, .ref (A 1))] := hl
  rw [fX4_splitSet_1] at hf
  refine lv_iconst (pc := 0) hx hb (v := 0) dX4_splitSet_0 (by decide) ?_
  refine lv_istore_n (pc := 1) hx hb (lv' := [(1, .int 0), (0, .ref (A 1))]) dX4_splitSet_1 rfl hl (by decide) rfl (fun ls hl => ?_)
  refine lv_iconst (pc := 2) hx hb (v := 1) dX4_splitSet_2 (by decide) ?_
  refine lv_istore_n (pc := 3) hx hb (lv' := [(2, .int 1), (1, .int 0), (0, .ref (A 1))]) dX4_splitSet_3 rfl hl (by decide) rfl (fun ls hl => ?_)
  obtain ⟨q4, hq4, hf⟩ := hf_b hf
  have hk4 : ∀ (H : Heap) (locs : List Loc) (ls : Array Slot), va_P D vwCl (wX A B S) H → va_D Ad (wX A B S) → va_S Ad s.heap H locs → lv_has ls 3 [(1, .int q4)] → W p l e rm_X4_splitSet s m args below meth c H locs 0 0 Q (F0 m 36 ls []) := by
    intro H locs ls hP hD hS hl
    refine lv_iload_n (pc := 36) hx hb dX4_splitSet_36 rfl (lv_at hl 0 rfl) ?_
    obtain rfl := Option.some.inj hf
    exact hR H locs 37 ls hP hD hS dX4_splitSet_37
  have lp4 : ∀ (n : Nat) (u1_4 : Int32) (u2_4 : Int32) (H : Heap) (locs : List Loc) (ls : Array Slot), fX4_splitSet_1_L4 S n u1_4 u2_4 = some q4 → va_P D vwCl (wX A B S) H → va_D Ad (wX A B S) → va_S Ad s.heap H locs → lv_has ls 3 [(0, .ref (A 1)), (1, .int u1_4), (2, .int u2_4)] → W p l e rm_X4_splitSet s m args below meth c H locs 0 0 Q (F0 m 4 ls []) := by
    intro n4
    induction n4 with
    | zero => intro u1_4 u2_4 H locs ls hq4; exact hf_0 hq4
    | succ n4 ih4 =>
      intro u1_4 u2_4 H locs ls hq4 hP hD hS hl
      rw [fX4_splitSet_1_L4] at hq4
      refine lv_iload_n (pc := 4) hx hb dX4_splitSet_4 rfl (lv_at hl 2 rfl) ?_
      refine lv_aload_n (pc := 5) hx hb dX4_splitSet_5 rfl (lv_at hl 0 rfl) ?_
      refine vXgRX4_9_1 (pc := 6) hx hb hts mU_43 inU4 hown hK hP (x := (gI S 0)) rfl dX4_splitSet_6 ?_
      refine lv_icmp_ge (pc := 9) hx hb (tgt := 36) dX4_splitSet_9 (by decide) (fun c_9 => ?_) (fun c_9 => ?_)
      · have hq4 := hf_t c_9 hq4
        obtain rfl := Option.some.inj hq4
        exact hk4 H locs ls hP hD hS (lv_sub hl [1] rfl)
      · have hq4 := hf_f c_9 hq4
        refine lv_iload_n (pc := 12) hx hb dX4_splitSet_12 rfl (lv_at hl 1 rfl) ?_
        refine lv_aload_n (pc := 13) hx hb dX4_splitSet_13 rfl (lv_at hl 0 rfl) ?_
        refine lv_iload_n (pc := 14) hx hb dX4_splitSet_14 rfl (lv_at hl 2 rfl) ?_
        obtain ⟨r15, hc15, hq4⟩ := hf_b hq4
        refine cl_V (pc := 15) (As := [.int u2_4]) (rest := [.int u1_4]) hx hb hml hown hts (kX4_splits_1 l D A B _ S u2_4 r15 hc15) (cwV 1 hts gwRX4_100 rfl rfl rfl hdX4_splits ⟨Nat.le_of_ble_eq_true rfl, Nat.le_of_ble_eq_true rfl⟩) hN hK hP hD hS hA (va_recv hK hP (ci := 4) (q0 := 1) rfl (eX_1 A B _)) rfl hl.1 rfl (Nat.le_of_ble_eq_true rfl) dX4_splitSet_15 (st1 := [.int r15, .int u1_4]) rfl ⟨Nat.zero_le _, Nat.zero_le _⟩ (fun H locs hP hD hS => ?_)
        refine lv_if_eq (pc := 18) hx hb (tgt := 27) dX4_splitSet_18 (by decide) (fun c_18 => ?_) (fun c_18 => ?_)
        · have hq4 := hf_t c_18 hq4
          refine lv_iconst (pc := 27) hx hb (v := 0) dX4_splitSet_27 (by decide) ?_
          refine lv_ior (pc := 28) hx hb dX4_splitSet_28 ?_
          refine lv_istore_n (pc := 29) hx hb (lv' := [(1, .int (u1_4 ||| 0)), (0, .ref (A 1)), (2, .int u2_4)]) dX4_splitSet_29 rfl hl (by decide) rfl (fun ls hl => ?_)
          refine lv_iinc (pc := 30) hx hb (v := u2_4 + 1) (lv' := [(2, .int (u2_4 + 1)), (1, .int (u1_4 ||| 0)), (0, .ref (A 1))]) dX4_splitSet_30 hl (k := 2) rfl rfl (by decide) rfl (fun ls hl => ?_)
          refine lv_goto (pc := 33) hx hb (tgt := 4) dX4_splitSet_33 (by decide) ?_
          exact ih4 (u1_4 ||| 0) (u2_4 + 1) H locs ls hq4 hP hD hS (lv_sub hl [2, 1, 0] rfl)
        · have hq4 := hf_f c_18 hq4
          refine lv_iconst (pc := 21) hx hb (v := 1) dX4_splitSet_21 (by decide) ?_
          refine lv_iload_n (pc := 22) hx hb dX4_splitSet_22 rfl (lv_at hl 2 rfl) ?_
          refine lv_ishl (pc := 23) hx hb dX4_splitSet_23 ?_
          refine lv_goto (pc := 24) hx hb (tgt := 28) dX4_splitSet_24 (by decide) ?_
          refine lv_ior (pc := 28) hx hb dX4_splitSet_28 ?_
          refine lv_istore_n (pc := 29) hx hb (lv' := [(1, .int (u1_4 ||| (1 <<< (u2_4 &&& 31)))), (0, .ref (A 1)), (2, .int u2_4)]) dX4_splitSet_29 rfl hl (by decide) rfl (fun ls hl => ?_)
          refine lv_iinc (pc := 30) hx hb (v := u2_4 + 1) (lv' := [(2, .int (u2_4 + 1)), (1, .int (u1_4 ||| (1 <<< (u2_4 &&& 31)))), (0, .ref (A 1))]) dX4_splitSet_30 hl (k := 2) rfl rfl (by decide) rfl (fun ls hl => ?_)
          refine lv_goto (pc := 33) hx hb (tgt := 4) dX4_splitSet_33 (by decide) ?_
          exact ih4 (u1_4 ||| (1 <<< (u2_4 &&& 31))) (u2_4 + 1) H locs ls hq4 hP hD hS (lv_sub hl [2, 1, 0] rfl)
  exact lp4 256 0 1 H locs ls hq4 hP hD hS (lv_sub hl [2, 1, 0] rfl)
set_option maxHeartbeats 4000000 in
set_option maxRecDepth 100000 in
theorem kX6_many (l : Launch) (D : va_G) (A : Nat → Nat) (B : Nat → ClassId) (sz : Nat) (S : w_S) (a1 : Int32) (z : Int32) (hf : fX6_many S a1 = some z) : MetW l yX6_many (wsO yX6_many cX6_many 2 (some .int)) rm_X6_many [.ref (A 0), .int a1] D (tyB B) (wX A B S) (wX A B S) sz (some (.int z)) := by
  refine MetW.mkI (cc := cX6_many) (maxL := 2) (by decide) (Nat.le_of_ble_eq_true rfl) ?_
  intro p e s m args below meth c Ad Q hx hb hts hown hml hN hK hA hR H locs ls hP hD hS hl
  have hl : lv_has ls 2 [(0, .ref (A 0)), (1, .int a1)] := hl
  rw [fX6_many] at hf
  refine lv_iload_n (pc := 0) hx hb dX6_many_0 rfl (lv_at hl 1 rfl) ?_
  by_cases e1_0 : a1 = (0 : Int32)
  · have hf := hf_t e1_0 hf
    refine lv_tableIn (pc := 1) hx hb (off := 43) (tgt := 44) dX6_many_1 (by rw [e1_0]; decide) (by rw [e1_0]; decide) (by rw [e1_0]; rfl) (by decide) ?_
    refine lv_aload_n (pc := 44) hx hb dX6_many_44 rfl (lv_at hl 0 rfl) ?_
    refine vXgRX6_10_0 (pc := 45) hx hb hts mU_16 inU6 hown hK hP dX6_many_45 ?_
    refine vXgRX6_60_1 (pc := 48) hx hb hts mU_111 inU4 hown hK hP (x := (gI S 0)) rfl dX6_many_48 ?_
    obtain rfl := Option.some.inj hf
    exact hR H locs 51 ls hP hD hS dX6_many_51
  · have hf := hf_f e1_0 hf
    by_cases e1_1 : a1 = (1 : Int32)
    · have hf := hf_t e1_1 hf
      refine lv_tableIn (pc := 1) hx hb (off := 51) (tgt := 52) dX6_many_1 (by rw [e1_1]; decide) (by rw [e1_1]; decide) (by rw [e1_1]; rfl) (by decide) ?_
      refine lv_aload_n (pc := 52) hx hb dX6_many_52 rfl (lv_at hl 0 rfl) ?_
      refine vXgRX6_10_0 (pc := 53) hx hb hts mU_16 inU6 hown hK hP dX6_many_53 ?_
      refine vXgRX6_64_1 (pc := 56) hx hb hts mU_112 inU4 hown hK hP (x := (gI S 1)) rfl dX6_many_56 ?_
      obtain rfl := Option.some.inj hf
      exact hR H locs 59 ls hP hD hS dX6_many_59
    · have hf := hf_f e1_1 hf
      by_cases e1_2 : a1 = (2 : Int32)
      · have hf := hf_t e1_2 hf
        refine lv_tableIn (pc := 1) hx hb (off := 59) (tgt := 60) dX6_many_1 (by rw [e1_2]; decide) (by rw [e1_2]; decide) (by rw [e1_2]; rfl) (by decide) ?_
        refine lv_aload_n (pc := 60) hx hb dX6_many_60 rfl (lv_at hl 0 rfl) ?_
        refine vXgRX6_10_0 (pc := 61) hx hb hts mU_16 inU6 hown hK hP dX6_many_61 ?_
        refine vXgRX6_120_1 (pc := 64) hx hb hts mU_364 inU4 hown hK hP (x := (gI S 3)) rfl dX6_many_64 ?_
        obtain rfl := Option.some.inj hf
        exact hR H locs 67 ls hP hD hS dX6_many_67
      · have hf := hf_f e1_2 hf
        by_cases e1_3 : a1 = (3 : Int32)
        · have hf := hf_t e1_3 hf
          refine lv_tableIn (pc := 1) hx hb (off := 67) (tgt := 68) dX6_many_1 (by rw [e1_3]; decide) (by rw [e1_3]; decide) (by rw [e1_3]; rfl) (by decide) ?_
          refine lv_aload_n (pc := 68) hx hb dX6_many_68 rfl (lv_at hl 0 rfl) ?_
          refine vXgRX6_35_0 (pc := 69) hx hb hts mU_27 inU6 hown hK hP dX6_many_69 ?_
          refine vXgRX6_98_25 (pc := 72) hx hb hts mU_261 inU5 hown hK hP (x := (gI S 21)) rfl dX6_many_72 ?_
          obtain rfl := Option.some.inj hf
          exact hR H locs 75 ls hP hD hS dX6_many_75
        · have hf := hf_f e1_3 hf
          by_cases e1_4 : a1 = (4 : Int32)
          · have hf := hf_t e1_4 hf
            refine lv_tableIn (pc := 1) hx hb (off := 75) (tgt := 76) dX6_many_1 (by rw [e1_4]; decide) (by rw [e1_4]; decide) (by rw [e1_4]; rfl) (by decide) ?_
            refine lv_aload_n (pc := 76) hx hb dX6_many_76 rfl (lv_at hl 0 rfl) ?_
            refine vXgRX6_42_0 (pc := 77) hx hb hts mU_31 inU6 hown hK hP dX6_many_77 ?_
            refine vXgRX6_306_27 (pc := 80) hx hb hts mU_1080 inU0 hown hK hP (x := (gI S 26)) rfl dX6_many_80 ?_
            obtain rfl := Option.some.inj hf
            exact hR H locs 83 ls hP hD hS dX6_many_83
          · have hf := hf_f e1_4 hf
            by_cases e1_5 : a1 = (5 : Int32)
            · have hf := hf_t e1_5 hf
              refine lv_tableIn (pc := 1) hx hb (off := 83) (tgt := 84) dX6_many_1 (by rw [e1_5]; decide) (by rw [e1_5]; decide) (by rw [e1_5]; rfl) (by decide) ?_
              refine lv_aload_n (pc := 84) hx hb dX6_many_84 rfl (lv_at hl 0 rfl) ?_
              refine vXgRX6_10_0 (pc := 85) hx hb hts mU_16 inU6 hown hK hP dX6_many_85 ?_
              obtain ⟨r88, hc88, hf⟩ := hf_b hf
              refine cl_V (pc := 88) (As := []) (rest := []) hx hb hml hown hts (kX4_fittingSet_1 l D A B _ S r88 hc88) (cwV 0 hts gwRX6_311 rfl rfl rfl hdX4_fittingSet ⟨Nat.le_of_ble_eq_true rfl, Nat.le_of_ble_eq_true rfl⟩) hN hK hP hD hS hA (va_recv hK hP (ci := 4) (q0 := 1) rfl (eX_1 A B _)) rfl hl.1 rfl (Nat.le_of_ble_eq_true rfl) dX6_many_88 (st1 := [.int r88]) rfl ⟨Nat.zero_le _, Nat.zero_le _⟩ (fun H locs hP hD hS => ?_)
              obtain rfl := Option.some.inj hf
              exact hR H locs 91 ls hP hD hS dX6_many_91
            · have hf := hf_f e1_5 hf
              by_cases e1_6 : a1 = (6 : Int32)
              · have hf := hf_t e1_6 hf
                refine lv_tableIn (pc := 1) hx hb (off := 91) (tgt := 92) dX6_many_1 (by rw [e1_6]; decide) (by rw [e1_6]; decide) (by rw [e1_6]; rfl) (by decide) ?_
                refine lv_aload_n (pc := 92) hx hb dX6_many_92 rfl (lv_at hl 0 rfl) ?_
                refine vXgRX6_10_0 (pc := 93) hx hb hts mU_16 inU6 hown hK hP dX6_many_93 ?_
                obtain ⟨r96, hc96, hf⟩ := hf_b hf
                refine cl_V (pc := 96) (As := []) (rest := []) hx hb hml hown hts (kX4_splitSet_1 l D A B _ S r96 hc96) (cwV 0 hts gwRX6_314 rfl rfl rfl hdX4_splitSet ⟨Nat.le_of_ble_eq_true rfl, Nat.le_of_ble_eq_true rfl⟩) hN hK hP hD hS hA (va_recv hK hP (ci := 4) (q0 := 1) rfl (eX_1 A B _)) rfl hl.1 rfl (Nat.le_of_ble_eq_true rfl) dX6_many_96 (st1 := [.int r96]) rfl ⟨Nat.zero_le _, Nat.zero_le _⟩ (fun H locs hP hD hS => ?_)
                obtain rfl := Option.some.inj hf
                exact hR H locs 99 ls hP hD hS dX6_many_99
              · have hf := hf_f e1_6 hf
                have n1_0 := lv_neT (a := 0) e1_0 rfl
                have n1_1 := lv_neT (a := 1) e1_1 rfl
                have n1_2 := lv_neT (a := 2) e1_2 rfl
                have n1_3 := lv_neT (a := 3) e1_3 rfl
                have n1_4 := lv_neT (a := 4) e1_4 rfl
                have n1_5 := lv_neT (a := 5) e1_5 rfl
                have n1_6 := lv_neT (a := 6) e1_6 rfl
                refine lv_tableOut (pc := 1) hx hb (tgt := 100) dX6_many_1 (by omega) (by decide) ?_
                refine lv_iconst (pc := 100) hx hb (v := (-1)) dX6_many_100 (by decide) ?_
                obtain rfl := Option.some.inj hf
                exact hR H locs 101 ls hP hD hS dX6_many_101
set_option maxHeartbeats 4000000 in
set_option maxRecDepth 100000 in
theorem kX4_copyFrom_7_1 (l : Launch) (D : va_G) (A : Nat → Nat) (B : Nat → ClassId) (sz : Nat) (S : w_S) (z : w_S) (hf : fX4_copyFrom_7_1 S = some z) : MetW l yX4_copyFrom (wsO yX4_copyFrom cX4_copyFrom 2 none) rm_X4_copyFrom [.ref (A 7), .ref (A 1)] D (tyB B) (wX A B S) (wX A B z) sz (none) := by
  refine MetW.mkV (cc := cX4_copyFrom) (maxL := 2) (by decide) (Nat.le_of_ble_eq_true rfl) ?_
  intro p e s m args below meth c Ad Q hx hb hts hown hml hN hK hA hR H locs ls hP hD hS hl
  have hl : lv_has ls 2 [(0, .ref (A 7)), (1, .ref (A 1))] := hl
  rw [fX4_copyFrom_7_1] at hf
  refine lv_aload_n (pc := 0) hx hb dX4_copyFrom_0 rfl (lv_at hl 0 rfl) ?_
  refine lv_aload_n (pc := 1) hx hb dX4_copyFrom_1 rfl (lv_at hl 1 rfl) ?_
  refine vXgRX4_9_1 (pc := 2) hx hb hts mU_43 inU4 hown hK hP (x := (gI S 0)) rfl dX4_copyFrom_2 ?_
  refine vXpRX4_9_7 (pc := 5) hx hb hts mU_43 inU4 hown hK hP hD hS dX4_copyFrom_5 (fun H locs hP hD hS => ?_)
  refine lv_aload_n (pc := 8) hx hb dX4_copyFrom_8 rfl (lv_at hl 0 rfl) ?_
  refine lv_aload_n (pc := 9) hx hb dX4_copyFrom_9 rfl (lv_at hl 1 rfl) ?_
  refine vXgRX4_15_1 (pc := 10) hx hb hts mU_44 inU4 hown hK hP (x := (gI S 1)) rfl dX4_copyFrom_10 ?_
  refine vXpRX4_15_7 (pc := 13) hx hb hts mU_44 inU4 hown hK hP hD hS dX4_copyFrom_13 (fun H locs hP hD hS => ?_)
  refine lv_aload_n (pc := 16) hx hb dX4_copyFrom_16 rfl (lv_at hl 0 rfl) ?_
  refine lv_aload_n (pc := 17) hx hb dX4_copyFrom_17 rfl (lv_at hl 1 rfl) ?_
  refine vXgRX4_18_1 (pc := 18) hx hb hts mU_45 inU4 hown hK hP (x := (gI S 2)) rfl dX4_copyFrom_18 ?_
  refine vXpRX4_18_7 (pc := 21) hx hb hts mU_45 inU4 hown hK hP hD hS dX4_copyFrom_21 (fun H locs hP hD hS => ?_)
  refine lv_aload_n (pc := 24) hx hb dX4_copyFrom_24 rfl (lv_at hl 0 rfl) ?_
  refine lv_aload_n (pc := 25) hx hb dX4_copyFrom_25 rfl (lv_at hl 1 rfl) ?_
  refine vXgRX4_37_1 (pc := 26) hx hb hts mU_281 inU4 hown hK hP (x := (gI S 3)) rfl dX4_copyFrom_26 ?_
  refine vXpRX4_37_7 (pc := 29) hx hb hts mU_281 inU4 hown hK hP hD hS dX4_copyFrom_29 (fun H locs hP hD hS => ?_)
  refine lv_aload_n (pc := 32) hx hb dX4_copyFrom_32 rfl (lv_at hl 1 rfl) ?_
  refine vXgRX4_21_1 (pc := 33) hx hb hts mU_47 inU4 hown hK hP dX4_copyFrom_33 ?_
  refine lv_iconst (pc := 36) hx hb (v := 0) dX4_copyFrom_36 (by decide) ?_
  refine lv_aload_n (pc := 37) hx hb dX4_copyFrom_37 rfl (lv_at hl 0 rfl) ?_
  refine vXgRX4_21_7 (pc := 38) hx hb hts mU_47 inU4 hown hK hP dX4_copyFrom_38 ?_
  refine lv_iconst (pc := 41) hx hb (v := 0) dX4_copyFrom_41 (by decide) ?_
  refine lv_bipush (pc := 42) hx hb (v := 9) dX4_copyFrom_42 (by decide) ?_
  refine va_copyi (pc := 44) hx hb (hml.trans hl.1.symm) hown (hts (.methodLink RX4 40 arraycopyName) mU_282) (hts (.native arraycopyName) mU_283) (hts (.static arraycopyName) mU_284) (hts (.initialized "java/lang/System") mU_285) hK hP hD hS 2 8 1 1 (f := (gA S 0)) (g := (gA S 5)) (eX_2 A B (sI (sI (sI (sI S 4 (gI S 0)) 5 (gI S 1)) 6 (gI S 2)) 7 (gI S 3))) (eX_8 A B (sI (sI (sI (sI S 4 (gI S 0)) 5 (gI S 1)) 6 (gI S 2)) 7 (gI S 3))) (ty := .int) rfl rfl rfl (sp := 0) (dp := 0) (n := 9) (by decide) (by decide) (by decide) (by decide) (by decide) (fun _ _ => rfl) (Nat.le_of_ble_eq_true rfl) (Nat.le_of_ble_eq_true rfl) dX4_copyFrom_44 (fun H locs hP hD hS => ?_)
  rw [tX_8] at hP hD
  refine lv_aload_n (pc := 47) hx hb dX4_copyFrom_47 rfl (lv_at hl 1 rfl) ?_
  refine vXgRX4_25_1 (pc := 48) hx hb hts mU_48 inU4 hown hK hP dX4_copyFrom_48 ?_
  refine lv_iconst (pc := 51) hx hb (v := 0) dX4_copyFrom_51 (by decide) ?_
  refine lv_aload_n (pc := 52) hx hb dX4_copyFrom_52 rfl (lv_at hl 0 rfl) ?_
  refine vXgRX4_25_7 (pc := 53) hx hb hts mU_48 inU4 hown hK hP dX4_copyFrom_53 ?_
  refine lv_iconst (pc := 56) hx hb (v := 0) dX4_copyFrom_56 (by decide) ?_
  refine lv_bipush (pc := 57) hx hb (v := 9) dX4_copyFrom_57 (by decide) ?_
  refine va_copyi (pc := 59) hx hb (hml.trans hl.1.symm) hown (hts (.methodLink RX4 40 arraycopyName) mU_282) (hts (.native arraycopyName) mU_283) (hts (.static arraycopyName) mU_284) (hts (.initialized "java/lang/System") mU_285) hK hP hD hS 3 9 1 1 (f := (gA S 1)) (g := (gA S 6)) (eX_3 A B (sA (sI (sI (sI (sI S 4 (gI S 0)) 5 (gI S 1)) 6 (gI S 2)) 7 (gI S 3)) 5 (va_cpy (gA S 0) (gA S 5) (0 : Int32).toNatClampNeg (0 : Int32).toNatClampNeg (9 : Int32).toNatClampNeg))) (eX_9 A B (sA (sI (sI (sI (sI S 4 (gI S 0)) 5 (gI S 1)) 6 (gI S 2)) 7 (gI S 3)) 5 (va_cpy (gA S 0) (gA S 5) (0 : Int32).toNatClampNeg (0 : Int32).toNatClampNeg (9 : Int32).toNatClampNeg))) (ty := .int) rfl rfl rfl (sp := 0) (dp := 0) (n := 9) (by decide) (by decide) (by decide) (by decide) (by decide) (fun _ _ => rfl) (Nat.le_of_ble_eq_true rfl) (Nat.le_of_ble_eq_true rfl) dX4_copyFrom_59 (fun H locs hP hD hS => ?_)
  rw [tX_9] at hP hD
  refine lv_aload_n (pc := 62) hx hb dX4_copyFrom_62 rfl (lv_at hl 1 rfl) ?_
  refine vXgRX4_28_1 (pc := 63) hx hb hts mU_49 inU4 hown hK hP dX4_copyFrom_63 ?_
  refine lv_iconst (pc := 66) hx hb (v := 0) dX4_copyFrom_66 (by decide) ?_
  refine lv_aload_n (pc := 67) hx hb dX4_copyFrom_67 rfl (lv_at hl 0 rfl) ?_
  refine vXgRX4_28_7 (pc := 68) hx hb hts mU_49 inU4 hown hK hP dX4_copyFrom_68 ?_
  refine lv_iconst (pc := 71) hx hb (v := 0) dX4_copyFrom_71 (by decide) ?_
  refine lv_bipush (pc := 72) hx hb (v := 9) dX4_copyFrom_72 (by decide) ?_
  refine va_copyi (pc := 74) hx hb (hml.trans hl.1.symm) hown (hts (.methodLink RX4 40 arraycopyName) mU_282) (hts (.native arraycopyName) mU_283) (hts (.static arraycopyName) mU_284) (hts (.initialized "java/lang/System") mU_285) hK hP hD hS 4 10 1 1 (f := (gA S 2)) (g := (gA S 7)) (eX_4 A B (sA (sA (sI (sI (sI (sI S 4 (gI S 0)) 5 (gI S 1)) 6 (gI S 2)) 7 (gI S 3)) 5 (va_cpy (gA S 0) (gA S 5) (0 : Int32).toNatClampNeg (0 : Int32).toNatClampNeg (9 : Int32).toNatClampNeg)) 6 (va_cpy (gA S 1) (gA S 6) (0 : Int32).toNatClampNeg (0 : Int32).toNatClampNeg (9 : Int32).toNatClampNeg))) (eX_10 A B (sA (sA (sI (sI (sI (sI S 4 (gI S 0)) 5 (gI S 1)) 6 (gI S 2)) 7 (gI S 3)) 5 (va_cpy (gA S 0) (gA S 5) (0 : Int32).toNatClampNeg (0 : Int32).toNatClampNeg (9 : Int32).toNatClampNeg)) 6 (va_cpy (gA S 1) (gA S 6) (0 : Int32).toNatClampNeg (0 : Int32).toNatClampNeg (9 : Int32).toNatClampNeg))) (ty := .int) rfl rfl rfl (sp := 0) (dp := 0) (n := 9) (by decide) (by decide) (by decide) (by decide) (by decide) (fun _ _ => rfl) (Nat.le_of_ble_eq_true rfl) (Nat.le_of_ble_eq_true rfl) dX4_copyFrom_74 (fun H locs hP hD hS => ?_)
  rw [tX_10] at hP hD
  refine lv_aload_n (pc := 77) hx hb dX4_copyFrom_77 rfl (lv_at hl 1 rfl) ?_
  refine vXgRX4_31_1 (pc := 78) hx hb hts mU_50 inU4 hown hK hP dX4_copyFrom_78 ?_
  refine lv_iconst (pc := 81) hx hb (v := 0) dX4_copyFrom_81 (by decide) ?_
  refine lv_aload_n (pc := 82) hx hb dX4_copyFrom_82 rfl (lv_at hl 0 rfl) ?_
  refine vXgRX4_31_7 (pc := 83) hx hb hts mU_50 inU4 hown hK hP dX4_copyFrom_83 ?_
  refine lv_iconst (pc := 86) hx hb (v := 0) dX4_copyFrom_86 (by decide) ?_
  refine lv_bipush (pc := 87) hx hb (v := 6) dX4_copyFrom_87 (by decide) ?_
  refine va_copyi (pc := 89) hx hb (hml.trans hl.1.symm) hown (hts (.methodLink RX4 40 arraycopyName) mU_282) (hts (.native arraycopyName) mU_283) (hts (.static arraycopyName) mU_284) (hts (.initialized "java/lang/System") mU_285) hK hP hD hS 5 11 1 1 (f := (gA S 3)) (g := (gA S 8)) (eX_5 A B (sA (sA (sA (sI (sI (sI (sI S 4 (gI S 0)) 5 (gI S 1)) 6 (gI S 2)) 7 (gI S 3)) 5 (va_cpy (gA S 0) (gA S 5) (0 : Int32).toNatClampNeg (0 : Int32).toNatClampNeg (9 : Int32).toNatClampNeg)) 6 (va_cpy (gA S 1) (gA S 6) (0 : Int32).toNatClampNeg (0 : Int32).toNatClampNeg (9 : Int32).toNatClampNeg)) 7 (va_cpy (gA S 2) (gA S 7) (0 : Int32).toNatClampNeg (0 : Int32).toNatClampNeg (9 : Int32).toNatClampNeg))) (eX_11 A B (sA (sA (sA (sI (sI (sI (sI S 4 (gI S 0)) 5 (gI S 1)) 6 (gI S 2)) 7 (gI S 3)) 5 (va_cpy (gA S 0) (gA S 5) (0 : Int32).toNatClampNeg (0 : Int32).toNatClampNeg (9 : Int32).toNatClampNeg)) 6 (va_cpy (gA S 1) (gA S 6) (0 : Int32).toNatClampNeg (0 : Int32).toNatClampNeg (9 : Int32).toNatClampNeg)) 7 (va_cpy (gA S 2) (gA S 7) (0 : Int32).toNatClampNeg (0 : Int32).toNatClampNeg (9 : Int32).toNatClampNeg))) (ty := .int) rfl rfl rfl (sp := 0) (dp := 0) (n := 6) (by decide) (by decide) (by decide) (by decide) (by decide) (fun _ _ => rfl) (Nat.le_of_ble_eq_true rfl) (Nat.le_of_ble_eq_true rfl) dX4_copyFrom_89 (fun H locs hP hD hS => ?_)
  rw [tX_11] at hP hD
  refine lv_aload_n (pc := 92) hx hb dX4_copyFrom_92 rfl (lv_at hl 1 rfl) ?_
  refine vXgRX4_34_1 (pc := 93) hx hb hts mU_51 inU4 hown hK hP dX4_copyFrom_93 ?_
  refine lv_iconst (pc := 96) hx hb (v := 0) dX4_copyFrom_96 (by decide) ?_
  refine lv_aload_n (pc := 97) hx hb dX4_copyFrom_97 rfl (lv_at hl 0 rfl) ?_
  refine vXgRX4_34_7 (pc := 98) hx hb hts mU_51 inU4 hown hK hP dX4_copyFrom_98 ?_
  refine lv_iconst (pc := 101) hx hb (v := 0) dX4_copyFrom_101 (by decide) ?_
  refine lv_bipush (pc := 102) hx hb (v := 6) dX4_copyFrom_102 (by decide) ?_
  refine va_copyi (pc := 104) hx hb (hml.trans hl.1.symm) hown (hts (.methodLink RX4 40 arraycopyName) mU_282) (hts (.native arraycopyName) mU_283) (hts (.static arraycopyName) mU_284) (hts (.initialized "java/lang/System") mU_285) hK hP hD hS 6 12 1 1 (f := (gA S 4)) (g := (gA S 9)) (eX_6 A B (sA (sA (sA (sA (sI (sI (sI (sI S 4 (gI S 0)) 5 (gI S 1)) 6 (gI S 2)) 7 (gI S 3)) 5 (va_cpy (gA S 0) (gA S 5) (0 : Int32).toNatClampNeg (0 : Int32).toNatClampNeg (9 : Int32).toNatClampNeg)) 6 (va_cpy (gA S 1) (gA S 6) (0 : Int32).toNatClampNeg (0 : Int32).toNatClampNeg (9 : Int32).toNatClampNeg)) 7 (va_cpy (gA S 2) (gA S 7) (0 : Int32).toNatClampNeg (0 : Int32).toNatClampNeg (9 : Int32).toNatClampNeg)) 8 (va_cpy (gA S 3) (gA S 8) (0 : Int32).toNatClampNeg (0 : Int32).toNatClampNeg (6 : Int32).toNatClampNeg))) (eX_12 A B (sA (sA (sA (sA (sI (sI (sI (sI S 4 (gI S 0)) 5 (gI S 1)) 6 (gI S 2)) 7 (gI S 3)) 5 (va_cpy (gA S 0) (gA S 5) (0 : Int32).toNatClampNeg (0 : Int32).toNatClampNeg (9 : Int32).toNatClampNeg)) 6 (va_cpy (gA S 1) (gA S 6) (0 : Int32).toNatClampNeg (0 : Int32).toNatClampNeg (9 : Int32).toNatClampNeg)) 7 (va_cpy (gA S 2) (gA S 7) (0 : Int32).toNatClampNeg (0 : Int32).toNatClampNeg (9 : Int32).toNatClampNeg)) 8 (va_cpy (gA S 3) (gA S 8) (0 : Int32).toNatClampNeg (0 : Int32).toNatClampNeg (6 : Int32).toNatClampNeg))) (ty := .int) rfl rfl rfl (sp := 0) (dp := 0) (n := 6) (by decide) (by decide) (by decide) (by decide) (by decide) (fun _ _ => rfl) (Nat.le_of_ble_eq_true rfl) (Nat.le_of_ble_eq_true rfl) dX4_copyFrom_104 (fun H locs hP hD hS => ?_)
  rw [tX_12] at hP hD
  obtain rfl := Option.some.inj hf
  exact hR H locs 107 ls hP hD hS dX4_copyFrom_107
set_option maxHeartbeats 4000000 in
set_option maxRecDepth 100000 in
theorem kX6_keep (l : Launch) (D : va_G) (A : Nat → Nat) (B : Nat → ClassId) (sz : Nat) (S : w_S) (z : Int32 × w_S) (hf : fX6_keep S = some z) : MetW l yX6_keep (wsO yX6_keep cX6_keep 1 (some .int)) rm_X6_keep [.ref (A 0)] D (tyB B) (wX A B S) (wX A B z.2) sz (some (.int z.1)) := by
  refine MetW.mkI (cc := cX6_keep) (maxL := 1) (by decide) (Nat.le_of_ble_eq_true rfl) ?_
  intro p e s m args below meth c Ad Q hx hb hts hown hml hN hK hA hR H locs ls hP hD hS hl
  have hl : lv_has ls 1 [(0, .ref (A 0))] := hl
  rw [fX6_keep] at hf
  refine lv_aload_n (pc := 0) hx hb dX6_keep_0 rfl (lv_at hl 0 rfl) ?_
  refine vXgRX6_16_0 (pc := 1) hx hb hts mU_17 inU6 hown hK hP dX6_keep_1 ?_
  refine lv_aload_n (pc := 4) hx hb dX6_keep_4 rfl (lv_at hl 0 rfl) ?_
  refine vXgRX6_10_0 (pc := 5) hx hb hts mU_16 inU6 hown hK hP dX6_keep_5 ?_
  obtain ⟨r8, hc8, hf⟩ := hf_b hf
  refine cl_V (pc := 8) (As := [.ref (A 1)]) (rest := []) hx hb hml hown hts (kX4_copyFrom_7_1 l D A B _ S r8 hc8) (cwV 1 hts gwRX6_105 rfl rfl rfl hdX4_copyFrom ⟨Nat.le_of_ble_eq_true rfl, Nat.le_of_ble_eq_true rfl⟩) hN hK hP hD hS hA (va_recv hK hP (ci := 4) (q0 := 7) rfl (eX_7 A B _)) rfl hl.1 rfl (Nat.le_of_ble_eq_true rfl) dX6_keep_8 (st1 := []) rfl ⟨Nat.zero_le _, Nat.zero_le _⟩ (fun H locs hP hD hS => ?_)
  refine lv_aload_n (pc := 11) hx hb dX6_keep_11 rfl (lv_at hl 0 rfl) ?_
  refine lv_iconst (pc := 12) hx hb (v := 1) dX6_keep_12 (by decide) ?_
  refine vXpRX6_317_0 (pc := 13) hx hb hts mU_1117 inU6 hown hK hP hD hS (by decide) dX6_keep_13 (fun H locs hP hD hS => ?_)
  refine lv_iconst (pc := 16) hx hb (v := 1) dX6_keep_16 (by decide) ?_
  obtain rfl := Option.some.inj hf
  exact hR H locs 17 ls hP hD hS dX6_keep_17
set_option maxHeartbeats 4000000 in
set_option maxRecDepth 100000 in
theorem kX4_copyFrom_1_7 (l : Launch) (D : va_G) (A : Nat → Nat) (B : Nat → ClassId) (sz : Nat) (S : w_S) (z : w_S) (hf : fX4_copyFrom_1_7 S = some z) : MetW l yX4_copyFrom (wsO yX4_copyFrom cX4_copyFrom 2 none) rm_X4_copyFrom [.ref (A 1), .ref (A 7)] D (tyB B) (wX A B S) (wX A B z) sz (none) := by
  refine MetW.mkV (cc := cX4_copyFrom) (maxL := 2) (by decide) (Nat.le_of_ble_eq_true rfl) ?_
  intro p e s m args below meth c Ad Q hx hb hts hown hml hN hK hA hR H locs ls hP hD hS hl
  have hl : lv_has ls 2 [(0, .ref (A 1)), (1, .ref (A 7))] := hl
  rw [fX4_copyFrom_1_7] at hf
  refine lv_aload_n (pc := 0) hx hb dX4_copyFrom_0 rfl (lv_at hl 0 rfl) ?_
  refine lv_aload_n (pc := 1) hx hb dX4_copyFrom_1 rfl (lv_at hl 1 rfl) ?_
  refine vXgRX4_9_7 (pc := 2) hx hb hts mU_43 inU4 hown hK hP (x := (gI S 4)) rfl dX4_copyFrom_2 ?_
  refine vXpRX4_9_1 (pc := 5) hx hb hts mU_43 inU4 hown hK hP hD hS dX4_copyFrom_5 (fun H locs hP hD hS => ?_)
  refine lv_aload_n (pc := 8) hx hb dX4_copyFrom_8 rfl (lv_at hl 0 rfl) ?_
  refine lv_aload_n (pc := 9) hx hb dX4_copyFrom_9 rfl (lv_at hl 1 rfl) ?_
  refine vXgRX4_15_7 (pc := 10) hx hb hts mU_44 inU4 hown hK hP (x := (gI S 5)) rfl dX4_copyFrom_10 ?_
  refine vXpRX4_15_1 (pc := 13) hx hb hts mU_44 inU4 hown hK hP hD hS dX4_copyFrom_13 (fun H locs hP hD hS => ?_)
  refine lv_aload_n (pc := 16) hx hb dX4_copyFrom_16 rfl (lv_at hl 0 rfl) ?_
  refine lv_aload_n (pc := 17) hx hb dX4_copyFrom_17 rfl (lv_at hl 1 rfl) ?_
  refine vXgRX4_18_7 (pc := 18) hx hb hts mU_45 inU4 hown hK hP (x := (gI S 6)) rfl dX4_copyFrom_18 ?_
  refine vXpRX4_18_1 (pc := 21) hx hb hts mU_45 inU4 hown hK hP hD hS dX4_copyFrom_21 (fun H locs hP hD hS => ?_)
  refine lv_aload_n (pc := 24) hx hb dX4_copyFrom_24 rfl (lv_at hl 0 rfl) ?_
  refine lv_aload_n (pc := 25) hx hb dX4_copyFrom_25 rfl (lv_at hl 1 rfl) ?_
  refine vXgRX4_37_7 (pc := 26) hx hb hts mU_281 inU4 hown hK hP (x := (gI S 7)) rfl dX4_copyFrom_26 ?_
  refine vXpRX4_37_1 (pc := 29) hx hb hts mU_281 inU4 hown hK hP hD hS dX4_copyFrom_29 (fun H locs hP hD hS => ?_)
  refine lv_aload_n (pc := 32) hx hb dX4_copyFrom_32 rfl (lv_at hl 1 rfl) ?_
  refine vXgRX4_21_7 (pc := 33) hx hb hts mU_47 inU4 hown hK hP dX4_copyFrom_33 ?_
  refine lv_iconst (pc := 36) hx hb (v := 0) dX4_copyFrom_36 (by decide) ?_
  refine lv_aload_n (pc := 37) hx hb dX4_copyFrom_37 rfl (lv_at hl 0 rfl) ?_
  refine vXgRX4_21_1 (pc := 38) hx hb hts mU_47 inU4 hown hK hP dX4_copyFrom_38 ?_
  refine lv_iconst (pc := 41) hx hb (v := 0) dX4_copyFrom_41 (by decide) ?_
  refine lv_bipush (pc := 42) hx hb (v := 9) dX4_copyFrom_42 (by decide) ?_
  refine va_copyi (pc := 44) hx hb (hml.trans hl.1.symm) hown (hts (.methodLink RX4 40 arraycopyName) mU_282) (hts (.native arraycopyName) mU_283) (hts (.static arraycopyName) mU_284) (hts (.initialized "java/lang/System") mU_285) hK hP hD hS 8 2 1 1 (f := (gA S 5)) (g := (gA S 0)) (eX_8 A B (sI (sI (sI (sI S 0 (gI S 4)) 1 (gI S 5)) 2 (gI S 6)) 3 (gI S 7))) (eX_2 A B (sI (sI (sI (sI S 0 (gI S 4)) 1 (gI S 5)) 2 (gI S 6)) 3 (gI S 7))) (ty := .int) rfl rfl rfl (sp := 0) (dp := 0) (n := 9) (by decide) (by decide) (by decide) (by decide) (by decide) (fun _ _ => rfl) (Nat.le_of_ble_eq_true rfl) (Nat.le_of_ble_eq_true rfl) dX4_copyFrom_44 (fun H locs hP hD hS => ?_)
  rw [tX_2] at hP hD
  refine lv_aload_n (pc := 47) hx hb dX4_copyFrom_47 rfl (lv_at hl 1 rfl) ?_
  refine vXgRX4_25_7 (pc := 48) hx hb hts mU_48 inU4 hown hK hP dX4_copyFrom_48 ?_
  refine lv_iconst (pc := 51) hx hb (v := 0) dX4_copyFrom_51 (by decide) ?_
  refine lv_aload_n (pc := 52) hx hb dX4_copyFrom_52 rfl (lv_at hl 0 rfl) ?_
  refine vXgRX4_25_1 (pc := 53) hx hb hts mU_48 inU4 hown hK hP dX4_copyFrom_53 ?_
  refine lv_iconst (pc := 56) hx hb (v := 0) dX4_copyFrom_56 (by decide) ?_
  refine lv_bipush (pc := 57) hx hb (v := 9) dX4_copyFrom_57 (by decide) ?_
  refine va_copyi (pc := 59) hx hb (hml.trans hl.1.symm) hown (hts (.methodLink RX4 40 arraycopyName) mU_282) (hts (.native arraycopyName) mU_283) (hts (.static arraycopyName) mU_284) (hts (.initialized "java/lang/System") mU_285) hK hP hD hS 9 3 1 1 (f := (gA S 6)) (g := (gA S 1)) (eX_9 A B (sA (sI (sI (sI (sI S 0 (gI S 4)) 1 (gI S 5)) 2 (gI S 6)) 3 (gI S 7)) 0 (va_cpy (gA S 5) (gA S 0) (0 : Int32).toNatClampNeg (0 : Int32).toNatClampNeg (9 : Int32).toNatClampNeg))) (eX_3 A B (sA (sI (sI (sI (sI S 0 (gI S 4)) 1 (gI S 5)) 2 (gI S 6)) 3 (gI S 7)) 0 (va_cpy (gA S 5) (gA S 0) (0 : Int32).toNatClampNeg (0 : Int32).toNatClampNeg (9 : Int32).toNatClampNeg))) (ty := .int) rfl rfl rfl (sp := 0) (dp := 0) (n := 9) (by decide) (by decide) (by decide) (by decide) (by decide) (fun _ _ => rfl) (Nat.le_of_ble_eq_true rfl) (Nat.le_of_ble_eq_true rfl) dX4_copyFrom_59 (fun H locs hP hD hS => ?_)
  rw [tX_3] at hP hD
  refine lv_aload_n (pc := 62) hx hb dX4_copyFrom_62 rfl (lv_at hl 1 rfl) ?_
  refine vXgRX4_28_7 (pc := 63) hx hb hts mU_49 inU4 hown hK hP dX4_copyFrom_63 ?_
  refine lv_iconst (pc := 66) hx hb (v := 0) dX4_copyFrom_66 (by decide) ?_
  refine lv_aload_n (pc := 67) hx hb dX4_copyFrom_67 rfl (lv_at hl 0 rfl) ?_
  refine vXgRX4_28_1 (pc := 68) hx hb hts mU_49 inU4 hown hK hP dX4_copyFrom_68 ?_
  refine lv_iconst (pc := 71) hx hb (v := 0) dX4_copyFrom_71 (by decide) ?_
  refine lv_bipush (pc := 72) hx hb (v := 9) dX4_copyFrom_72 (by decide) ?_
  refine va_copyi (pc := 74) hx hb (hml.trans hl.1.symm) hown (hts (.methodLink RX4 40 arraycopyName) mU_282) (hts (.native arraycopyName) mU_283) (hts (.static arraycopyName) mU_284) (hts (.initialized "java/lang/System") mU_285) hK hP hD hS 10 4 1 1 (f := (gA S 7)) (g := (gA S 2)) (eX_10 A B (sA (sA (sI (sI (sI (sI S 0 (gI S 4)) 1 (gI S 5)) 2 (gI S 6)) 3 (gI S 7)) 0 (va_cpy (gA S 5) (gA S 0) (0 : Int32).toNatClampNeg (0 : Int32).toNatClampNeg (9 : Int32).toNatClampNeg)) 1 (va_cpy (gA S 6) (gA S 1) (0 : Int32).toNatClampNeg (0 : Int32).toNatClampNeg (9 : Int32).toNatClampNeg))) (eX_4 A B (sA (sA (sI (sI (sI (sI S 0 (gI S 4)) 1 (gI S 5)) 2 (gI S 6)) 3 (gI S 7)) 0 (va_cpy (gA S 5) (gA S 0) (0 : Int32).toNatClampNeg (0 : Int32).toNatClampNeg (9 : Int32).toNatClampNeg)) 1 (va_cpy (gA S 6) (gA S 1) (0 : Int32).toNatClampNeg (0 : Int32).toNatClampNeg (9 : Int32).toNatClampNeg))) (ty := .int) rfl rfl rfl (sp := 0) (dp := 0) (n := 9) (by decide) (by decide) (by decide) (by decide) (by decide) (fun _ _ => rfl) (Nat.le_of_ble_eq_true rfl) (Nat.le_of_ble_eq_true rfl) dX4_copyFrom_74 (fun H locs hP hD hS => ?_)
  rw [tX_4] at hP hD
  refine lv_aload_n (pc := 77) hx hb dX4_copyFrom_77 rfl (lv_at hl 1 rfl) ?_
  refine vXgRX4_31_7 (pc := 78) hx hb hts mU_50 inU4 hown hK hP dX4_copyFrom_78 ?_
  refine lv_iconst (pc := 81) hx hb (v := 0) dX4_copyFrom_81 (by decide) ?_
  refine lv_aload_n (pc := 82) hx hb dX4_copyFrom_82 rfl (lv_at hl 0 rfl) ?_
  refine vXgRX4_31_1 (pc := 83) hx hb hts mU_50 inU4 hown hK hP dX4_copyFrom_83 ?_
  refine lv_iconst (pc := 86) hx hb (v := 0) dX4_copyFrom_86 (by decide) ?_
  refine lv_bipush (pc := 87) hx hb (v := 6) dX4_copyFrom_87 (by decide) ?_
  refine va_copyi (pc := 89) hx hb (hml.trans hl.1.symm) hown (hts (.methodLink RX4 40 arraycopyName) mU_282) (hts (.native arraycopyName) mU_283) (hts (.static arraycopyName) mU_284) (hts (.initialized "java/lang/System") mU_285) hK hP hD hS 11 5 1 1 (f := (gA S 8)) (g := (gA S 3)) (eX_11 A B (sA (sA (sA (sI (sI (sI (sI S 0 (gI S 4)) 1 (gI S 5)) 2 (gI S 6)) 3 (gI S 7)) 0 (va_cpy (gA S 5) (gA S 0) (0 : Int32).toNatClampNeg (0 : Int32).toNatClampNeg (9 : Int32).toNatClampNeg)) 1 (va_cpy (gA S 6) (gA S 1) (0 : Int32).toNatClampNeg (0 : Int32).toNatClampNeg (9 : Int32).toNatClampNeg)) 2 (va_cpy (gA S 7) (gA S 2) (0 : Int32).toNatClampNeg (0 : Int32).toNatClampNeg (9 : Int32).toNatClampNeg))) (eX_5 A B (sA (sA (sA (sI (sI (sI (sI S 0 (gI S 4)) 1 (gI S 5)) 2 (gI S 6)) 3 (gI S 7)) 0 (va_cpy (gA S 5) (gA S 0) (0 : Int32).toNatClampNeg (0 : Int32).toNatClampNeg (9 : Int32).toNatClampNeg)) 1 (va_cpy (gA S 6) (gA S 1) (0 : Int32).toNatClampNeg (0 : Int32).toNatClampNeg (9 : Int32).toNatClampNeg)) 2 (va_cpy (gA S 7) (gA S 2) (0 : Int32).toNatClampNeg (0 : Int32).toNatClampNeg (9 : Int32).toNatClampNeg))) (ty := .int) rfl rfl rfl (sp := 0) (dp := 0) (n := 6) (by decide) (by decide) (by decide) (by decide) (by decide) (fun _ _ => rfl) (Nat.le_of_ble_eq_true rfl) (Nat.le_of_ble_eq_true rfl) dX4_copyFrom_89 (fun H locs hP hD hS => ?_)
  rw [tX_5] at hP hD
  refine lv_aload_n (pc := 92) hx hb dX4_copyFrom_92 rfl (lv_at hl 1 rfl) ?_
  refine vXgRX4_34_7 (pc := 93) hx hb hts mU_51 inU4 hown hK hP dX4_copyFrom_93 ?_
  refine lv_iconst (pc := 96) hx hb (v := 0) dX4_copyFrom_96 (by decide) ?_
  refine lv_aload_n (pc := 97) hx hb dX4_copyFrom_97 rfl (lv_at hl 0 rfl) ?_
  refine vXgRX4_34_1 (pc := 98) hx hb hts mU_51 inU4 hown hK hP dX4_copyFrom_98 ?_
  refine lv_iconst (pc := 101) hx hb (v := 0) dX4_copyFrom_101 (by decide) ?_
  refine lv_bipush (pc := 102) hx hb (v := 6) dX4_copyFrom_102 (by decide) ?_
  refine va_copyi (pc := 104) hx hb (hml.trans hl.1.symm) hown (hts (.methodLink RX4 40 arraycopyName) mU_282) (hts (.native arraycopyName) mU_283) (hts (.static arraycopyName) mU_284) (hts (.initialized "java/lang/System") mU_285) hK hP hD hS 12 6 1 1 (f := (gA S 9)) (g := (gA S 4)) (eX_12 A B (sA (sA (sA (sA (sI (sI (sI (sI S 0 (gI S 4)) 1 (gI S 5)) 2 (gI S 6)) 3 (gI S 7)) 0 (va_cpy (gA S 5) (gA S 0) (0 : Int32).toNatClampNeg (0 : Int32).toNatClampNeg (9 : Int32).toNatClampNeg)) 1 (va_cpy (gA S 6) (gA S 1) (0 : Int32).toNatClampNeg (0 : Int32).toNatClampNeg (9 : Int32).toNatClampNeg)) 2 (va_cpy (gA S 7) (gA S 2) (0 : Int32).toNatClampNeg (0 : Int32).toNatClampNeg (9 : Int32).toNatClampNeg)) 3 (va_cpy (gA S 8) (gA S 3) (0 : Int32).toNatClampNeg (0 : Int32).toNatClampNeg (6 : Int32).toNatClampNeg))) (eX_6 A B (sA (sA (sA (sA (sI (sI (sI (sI S 0 (gI S 4)) 1 (gI S 5)) 2 (gI S 6)) 3 (gI S 7)) 0 (va_cpy (gA S 5) (gA S 0) (0 : Int32).toNatClampNeg (0 : Int32).toNatClampNeg (9 : Int32).toNatClampNeg)) 1 (va_cpy (gA S 6) (gA S 1) (0 : Int32).toNatClampNeg (0 : Int32).toNatClampNeg (9 : Int32).toNatClampNeg)) 2 (va_cpy (gA S 7) (gA S 2) (0 : Int32).toNatClampNeg (0 : Int32).toNatClampNeg (9 : Int32).toNatClampNeg)) 3 (va_cpy (gA S 8) (gA S 3) (0 : Int32).toNatClampNeg (0 : Int32).toNatClampNeg (6 : Int32).toNatClampNeg))) (ty := .int) rfl rfl rfl (sp := 0) (dp := 0) (n := 6) (by decide) (by decide) (by decide) (by decide) (by decide) (fun _ _ => rfl) (Nat.le_of_ble_eq_true rfl) (Nat.le_of_ble_eq_true rfl) dX4_copyFrom_104 (fun H locs hP hD hS => ?_)
  rw [tX_6] at hP hD
  obtain rfl := Option.some.inj hf
  exact hR H locs 107 ls hP hD hS dX4_copyFrom_107
set_option maxHeartbeats 4000000 in
set_option maxRecDepth 100000 in
theorem kX6_again (l : Launch) (D : va_G) (A : Nat → Nat) (B : Nat → ClassId) (sz : Nat) (S : w_S) (z : Int32 × w_S) (hf : fX6_again S = some z) : MetW l yX6_again (wsO yX6_again cX6_again 1 (some .int)) rm_X6_again [.ref (A 0)] D (tyB B) (wX A B S) (wX A B z.2) sz (some (.int z.1)) := by
  refine MetW.mkI (cc := cX6_again) (maxL := 1) (by decide) (Nat.le_of_ble_eq_true rfl) ?_
  intro p e s m args below meth c Ad Q hx hb hts hown hml hN hK hA hR H locs ls hP hD hS hl
  have hl : lv_has ls 1 [(0, .ref (A 0))] := hl
  rw [fX6_again] at hf
  refine lv_aload_n (pc := 0) hx hb dX6_again_0 rfl (lv_at hl 0 rfl) ?_
  refine vXgRX6_317_0 (pc := 1) hx hb hts mU_1117 inU6 hown hK hP (x := (gI S 12)) rfl dX6_again_1 ?_
  refine lv_if_ne (pc := 4) hx hb (tgt := 10) dX6_again_4 (by decide) (fun c_4 => ?_) (fun c_4 => ?_)
  · have hf := hf_f c_4 hf
    refine lv_aload_n (pc := 10) hx hb dX6_again_10 rfl (lv_at hl 0 rfl) ?_
    refine vXgRX6_10_0 (pc := 11) hx hb hts mU_16 inU6 hown hK hP dX6_again_11 ?_
    refine lv_aload_n (pc := 14) hx hb dX6_again_14 rfl (lv_at hl 0 rfl) ?_
    refine vXgRX6_16_0 (pc := 15) hx hb hts mU_17 inU6 hown hK hP dX6_again_15 ?_
    obtain ⟨r18, hc18, hf⟩ := hf_b hf
    refine cl_V (pc := 18) (As := [.ref (A 7)]) (rest := []) hx hb hml hown hts (kX4_copyFrom_1_7 l D A B _ S r18 hc18) (cwV 1 hts gwRX6_105 rfl rfl rfl hdX4_copyFrom ⟨Nat.le_of_ble_eq_true rfl, Nat.le_of_ble_eq_true rfl⟩) hN hK hP hD hS hA (va_recv hK hP (ci := 4) (q0 := 1) rfl (eX_1 A B _)) rfl hl.1 rfl (Nat.le_of_ble_eq_true rfl) dX6_again_18 (st1 := []) rfl ⟨Nat.zero_le _, Nat.zero_le _⟩ (fun H locs hP hD hS => ?_)
    refine lv_aload_n (pc := 21) hx hb dX6_again_21 rfl (lv_at hl 0 rfl) ?_
    refine vXgRX6_10_0 (pc := 22) hx hb hts mU_16 inU6 hown hK hP dX6_again_22 ?_
    refine vXgRX6_120_1 (pc := 25) hx hb hts mU_364 inU4 hown hK hP (x := (gI r18 3)) rfl dX6_again_25 ?_
    obtain rfl := Option.some.inj hf
    exact hR H locs 28 ls hP hD hS dX6_again_28
  · have hf := hf_t c_4 hf
    refine lv_bipush (pc := 7) hx hb (v := (-3)) dX6_again_7 (by decide) ?_
    obtain rfl := Option.some.inj hf
    exact hR H locs 9 ls hP hD hS dX6_again_9
