set_option maxHeartbeats 4000000 in
set_option maxRecDepth 100000 in
theorem kX0_weighs_27_D3 (l : Launch) (D : va_G) (A : Nat → Nat) (B : Nat → ClassId) (sz : Nat) (S : w_S) (a1 : Int32) (a2 : Int32) (z : Int32 × w_S) (hf : fX0_weighs_27_D3 S a1 a2 = some z) : MetW l yX0_weighs (wsO yX0_weighs cX0_weighs 3 (some .int)) rm_X0_weighs_D3 [.ref (A 27), .int a1, .int a2] D (tyB B) (wX A B S) (wX A B z.2) sz (some (.int z.1)) := by
  refine MetW.mkI (cc := cX0_weighs) (maxL := 3) (by decide) (Nat.le_of_ble_eq_true rfl) ?_
  intro p e s m args below meth c Ad Q hx hb hts hown hml hN hK hA hR H locs ls hP hD hS hl
  have hl : lv_has ls 3 [(0, .ref (A 27)), (1, .int a1), (2, .int a2)] := hl
  rw [fX0_weighs_27_D3] at hf
  refine lv_iload_n (pc := 0) hx hb dX0_weighs_0 rfl (lv_at hl 1 rfl) ?_
  by_cases e1_1 : a1 = (1 : Int32)
  · have hf := hf_t e1_1 hf
    refine lv_tableIn (pc := 1) hx hb (off := 39) (tgt := 40) dX0_weighs_1 (by rw [e1_1]; decide) (by rw [e1_1]; decide) (by rw [e1_1]; rfl) (by decide) ?_
    refine lv_aload_n (pc := 40) hx hb dX0_weighs_40 rfl (lv_at hl 0 rfl) ?_
    refine lv_bipush (pc := 41) hx hb (v := 20) dX0_weighs_41 (by decide) ?_
    obtain ⟨r43, hc43, hf⟩ := hf_b hf
    refine cl_V (pc := 43) (As := [.int 20]) (rest := []) hx hb hml hown hts (kX0_begin_27 l D A B _ S 20 r43 hc43) (cwV 1 hts gwRX0_39 rfl rfl rfl hdX0_begin ⟨Nat.le_of_ble_eq_true rfl, Nat.le_of_ble_eq_true rfl⟩) hN hK hP hD hS hA (va_recv hK hP (ci := 0) (q0 := 27) rfl (eX_27 A B _)) rfl hl.1 rfl (Nat.le_of_ble_eq_true rfl) dX0_weighs_43 (st1 := []) rfl ⟨Nat.zero_le _, Nat.zero_le _⟩ (fun H locs hP hD hS => ?_)
    refine lv_aload_n (pc := 46) hx hb dX0_weighs_46 rfl (lv_at hl 0 rfl) ?_
    refine lv_iconst (pc := 47) hx hb (v := 0) dX0_weighs_47 (by decide) ?_
    refine lv_iload_n (pc := 48) hx hb dX0_weighs_48 rfl (lv_at hl 2 rfl) ?_
    obtain ⟨r49, hc49, hf⟩ := hf_b hf
    refine cl_V (pc := 49) (As := [.int 0, .int a2]) (rest := []) hx hb hml hown hts (kX0_weighs_27_D2 l D A B _ r43 0 a2 r49 hc49) (cwV 2 hts gwRX0_26 rfl rfl rfl hdX0_weighs ⟨Nat.le_of_ble_eq_true rfl, Nat.le_of_ble_eq_true rfl⟩) hN hK hP hD hS hA (va_recv hK hP (ci := 0) (q0 := 27) rfl (eX_27 A B _)) rfl hl.1 rfl (Nat.le_of_ble_eq_true rfl) dX0_weighs_49 (st1 := [.int r49.1]) rfl ⟨Nat.zero_le _, Nat.zero_le _⟩ (fun H locs hP hD hS => ?_)
    refine lv_iconst (pc := 52) hx hb (v := 4) dX0_weighs_52 (by decide) ?_
    refine lv_iadd (pc := 53) hx hb dX0_weighs_53 ?_
    obtain rfl := Option.some.inj hf
    exact hR H locs 54 ls hP hD hS dX0_weighs_54
  · have hf := hf_f e1_1 hf
    by_cases e1_2 : a1 = (2 : Int32)
    · have hf := hf_t e1_2 hf
      refine lv_tableIn (pc := 1) hx hb (off := 89) (tgt := 90) dX0_weighs_1 (by rw [e1_2]; decide) (by rw [e1_2]; decide) (by rw [e1_2]; rfl) (by decide) ?_
      refine lv_aload_n (pc := 90) hx hb dX0_weighs_90 rfl (lv_at hl 0 rfl) ?_
      refine lv_bipush (pc := 91) hx hb (v := 10) dX0_weighs_91 (by decide) ?_
      obtain ⟨r93, hc93, hf⟩ := hf_b hf
      refine cl_V (pc := 93) (As := [.int 10]) (rest := []) hx hb hml hown hts (kX0_begin_27 l D A B _ S 10 r93 hc93) (cwV 1 hts gwRX0_39 rfl rfl rfl hdX0_begin ⟨Nat.le_of_ble_eq_true rfl, Nat.le_of_ble_eq_true rfl⟩) hN hK hP hD hS hA (va_recv hK hP (ci := 0) (q0 := 27) rfl (eX_27 A B _)) rfl hl.1 rfl (Nat.le_of_ble_eq_true rfl) dX0_weighs_93 (st1 := []) rfl ⟨Nat.zero_le _, Nat.zero_le _⟩ (fun H locs hP hD hS => ?_)
      refine lv_iload_n (pc := 96) hx hb dX0_weighs_96 rfl (lv_at hl 2 rfl) ?_
      refine lv_bipush (pc := 97) hx hb (v := 7) dX0_weighs_97 (by decide) ?_
      refine lv_imul (pc := 99) hx hb dX0_weighs_99 ?_
      refine lv_aload_n (pc := 100) hx hb dX0_weighs_100 rfl (lv_at hl 0 rfl) ?_
      refine vXgRX0_46_27 (pc := 101) hx hb hts mU_1006 inU0 hown hK hP (x := (gI r93 24)) rfl dX0_weighs_101 ?_
      refine lv_iadd (pc := 104) hx hb dX0_weighs_104 ?_
      obtain rfl := Option.some.inj hf
      exact hR H locs 105 ls hP hD hS dX0_weighs_105
    · have hf := hf_f e1_2 hf
      by_cases e1_3 : a1 = (3 : Int32)
      · have hf := hf_t e1_3 hf
        refine lv_tableIn (pc := 1) hx hb (off := 54) (tgt := 55) dX0_weighs_1 (by rw [e1_3]; decide) (by rw [e1_3]; decide) (by rw [e1_3]; rfl) (by decide) ?_
        refine lv_aload_n (pc := 55) hx hb dX0_weighs_55 rfl (lv_at hl 0 rfl) ?_
        refine lv_bipush (pc := 56) hx hb (v := 40) dX0_weighs_56 (by decide) ?_
        obtain ⟨r58, hc58, hf⟩ := hf_b hf
        refine cl_V (pc := 58) (As := [.int 40]) (rest := []) hx hb hml hown hts (kX0_begin_27 l D A B _ S 40 r58 hc58) (cwV 1 hts gwRX0_39 rfl rfl rfl hdX0_begin ⟨Nat.le_of_ble_eq_true rfl, Nat.le_of_ble_eq_true rfl⟩) hN hK hP hD hS hA (va_recv hK hP (ci := 0) (q0 := 27) rfl (eX_27 A B _)) rfl hl.1 rfl (Nat.le_of_ble_eq_true rfl) dX0_weighs_58 (st1 := []) rfl ⟨Nat.zero_le _, Nat.zero_le _⟩ (fun H locs hP hD hS => ?_)
        refine lv_aload_n (pc := 61) hx hb dX0_weighs_61 rfl (lv_at hl 0 rfl) ?_
        refine lv_iconst (pc := 62) hx hb (v := 0) dX0_weighs_62 (by decide) ?_
        refine lv_iload_n (pc := 63) hx hb dX0_weighs_63 rfl (lv_at hl 2 rfl) ?_
        refine lv_iconst (pc := 64) hx hb (v := 1) dX0_weighs_64 (by decide) ?_
        refine lv_isub (pc := 65) hx hb dX0_weighs_65 ?_
        obtain ⟨r66, hc66, hf⟩ := hf_b hf
        refine cl_V (pc := 66) (As := [.int 0, .int (a2 - 1)]) (rest := []) hx hb hml hown hts (kX0_weighs_27_D2 l D A B _ r58 0 (a2 - 1) r66 hc66) (cwV 2 hts gwRX0_26 rfl rfl rfl hdX0_weighs ⟨Nat.le_of_ble_eq_true rfl, Nat.le_of_ble_eq_true rfl⟩) hN hK hP hD hS hA (va_recv hK hP (ci := 0) (q0 := 27) rfl (eX_27 A B _)) rfl hl.1 rfl (Nat.le_of_ble_eq_true rfl) dX0_weighs_66 (st1 := [.int r66.1]) rfl ⟨Nat.zero_le _, Nat.zero_le _⟩ (fun H locs hP hD hS => ?_)
        refine lv_iconst (pc := 69) hx hb (v := 2) dX0_weighs_69 (by decide) ?_
        refine lv_imul (pc := 70) hx hb dX0_weighs_70 ?_
        obtain rfl := Option.some.inj hf
        exact hR H locs 71 ls hP hD hS dX0_weighs_71
      · have hf := hf_f e1_3 hf
        by_cases e1_4 : a1 = (4 : Int32)
        · have hf := hf_t e1_4 hf
          refine lv_tableIn (pc := 1) hx hb (off := 89) (tgt := 90) dX0_weighs_1 (by rw [e1_4]; decide) (by rw [e1_4]; decide) (by rw [e1_4]; rfl) (by decide) ?_
          refine lv_aload_n (pc := 90) hx hb dX0_weighs_90 rfl (lv_at hl 0 rfl) ?_
          refine lv_bipush (pc := 91) hx hb (v := 10) dX0_weighs_91 (by decide) ?_
          obtain ⟨r93, hc93, hf⟩ := hf_b hf
          refine cl_V (pc := 93) (As := [.int 10]) (rest := []) hx hb hml hown hts (kX0_begin_27 l D A B _ S 10 r93 hc93) (cwV 1 hts gwRX0_39 rfl rfl rfl hdX0_begin ⟨Nat.le_of_ble_eq_true rfl, Nat.le_of_ble_eq_true rfl⟩) hN hK hP hD hS hA (va_recv hK hP (ci := 0) (q0 := 27) rfl (eX_27 A B _)) rfl hl.1 rfl (Nat.le_of_ble_eq_true rfl) dX0_weighs_93 (st1 := []) rfl ⟨Nat.zero_le _, Nat.zero_le _⟩ (fun H locs hP hD hS => ?_)
          refine lv_iload_n (pc := 96) hx hb dX0_weighs_96 rfl (lv_at hl 2 rfl) ?_
          refine lv_bipush (pc := 97) hx hb (v := 7) dX0_weighs_97 (by decide) ?_
          refine lv_imul (pc := 99) hx hb dX0_weighs_99 ?_
          refine lv_aload_n (pc := 100) hx hb dX0_weighs_100 rfl (lv_at hl 0 rfl) ?_
          refine vXgRX0_46_27 (pc := 101) hx hb hts mU_1006 inU0 hown hK hP (x := (gI r93 24)) rfl dX0_weighs_101 ?_
          refine lv_iadd (pc := 104) hx hb dX0_weighs_104 ?_
          obtain rfl := Option.some.inj hf
          exact hR H locs 105 ls hP hD hS dX0_weighs_105
        · have hf := hf_f e1_4 hf
          by_cases e1_5 : a1 = (5 : Int32)
          · have hf := hf_t e1_5 hf
            refine lv_tableIn (pc := 1) hx hb (off := 54) (tgt := 55) dX0_weighs_1 (by rw [e1_5]; decide) (by rw [e1_5]; decide) (by rw [e1_5]; rfl) (by decide) ?_
            refine lv_aload_n (pc := 55) hx hb dX0_weighs_55 rfl (lv_at hl 0 rfl) ?_
            refine lv_bipush (pc := 56) hx hb (v := 40) dX0_weighs_56 (by decide) ?_
            obtain ⟨r58, hc58, hf⟩ := hf_b hf
            refine cl_V (pc := 58) (As := [.int 40]) (rest := []) hx hb hml hown hts (kX0_begin_27 l D A B _ S 40 r58 hc58) (cwV 1 hts gwRX0_39 rfl rfl rfl hdX0_begin ⟨Nat.le_of_ble_eq_true rfl, Nat.le_of_ble_eq_true rfl⟩) hN hK hP hD hS hA (va_recv hK hP (ci := 0) (q0 := 27) rfl (eX_27 A B _)) rfl hl.1 rfl (Nat.le_of_ble_eq_true rfl) dX0_weighs_58 (st1 := []) rfl ⟨Nat.zero_le _, Nat.zero_le _⟩ (fun H locs hP hD hS => ?_)
            refine lv_aload_n (pc := 61) hx hb dX0_weighs_61 rfl (lv_at hl 0 rfl) ?_
            refine lv_iconst (pc := 62) hx hb (v := 0) dX0_weighs_62 (by decide) ?_
            refine lv_iload_n (pc := 63) hx hb dX0_weighs_63 rfl (lv_at hl 2 rfl) ?_
            refine lv_iconst (pc := 64) hx hb (v := 1) dX0_weighs_64 (by decide) ?_
            refine lv_isub (pc := 65) hx hb dX0_weighs_65 ?_
            obtain ⟨r66, hc66, hf⟩ := hf_b hf
            refine cl_V (pc := 66) (As := [.int 0, .int (a2 - 1)]) (rest := []) hx hb hml hown hts (kX0_weighs_27_D2 l D A B _ r58 0 (a2 - 1) r66 hc66) (cwV 2 hts gwRX0_26 rfl rfl rfl hdX0_weighs ⟨Nat.le_of_ble_eq_true rfl, Nat.le_of_ble_eq_true rfl⟩) hN hK hP hD hS hA (va_recv hK hP (ci := 0) (q0 := 27) rfl (eX_27 A B _)) rfl hl.1 rfl (Nat.le_of_ble_eq_true rfl) dX0_weighs_66 (st1 := [.int r66.1]) rfl ⟨Nat.zero_le _, Nat.zero_le _⟩ (fun H locs hP hD hS => ?_)
            refine lv_iconst (pc := 69) hx hb (v := 2) dX0_weighs_69 (by decide) ?_
            refine lv_imul (pc := 70) hx hb dX0_weighs_70 ?_
            obtain rfl := Option.some.inj hf
            exact hR H locs 71 ls hP hD hS dX0_weighs_71
          · have hf := hf_f e1_5 hf
            by_cases e1_6 : a1 = (6 : Int32)
            · have hf := hf_t e1_6 hf
              refine lv_tableIn (pc := 1) hx hb (off := 71) (tgt := 72) dX0_weighs_1 (by rw [e1_6]; decide) (by rw [e1_6]; decide) (by rw [e1_6]; rfl) (by decide) ?_
              refine lv_aload_n (pc := 72) hx hb dX0_weighs_72 rfl (lv_at hl 0 rfl) ?_
              refine lv_bipush (pc := 73) hx hb (v := 70) dX0_weighs_73 (by decide) ?_
              obtain ⟨r75, hc75, hf⟩ := hf_b hf
              refine cl_V (pc := 75) (As := [.int 70]) (rest := []) hx hb hml hown hts (kX0_begin_27 l D A B _ S 70 r75 hc75) (cwV 1 hts gwRX0_39 rfl rfl rfl hdX0_begin ⟨Nat.le_of_ble_eq_true rfl, Nat.le_of_ble_eq_true rfl⟩) hN hK hP hD hS hA (va_recv hK hP (ci := 0) (q0 := 27) rfl (eX_27 A B _)) rfl hl.1 rfl (Nat.le_of_ble_eq_true rfl) dX0_weighs_75 (st1 := []) rfl ⟨Nat.zero_le _, Nat.zero_le _⟩ (fun H locs hP hD hS => ?_)
              refine lv_aload_n (pc := 78) hx hb dX0_weighs_78 rfl (lv_at hl 0 rfl) ?_
              refine lv_iconst (pc := 79) hx hb (v := 5) dX0_weighs_79 (by decide) ?_
              refine lv_iload_n (pc := 80) hx hb dX0_weighs_80 rfl (lv_at hl 2 rfl) ?_
              obtain ⟨r81, hc81, hf⟩ := hf_b hf
              refine cl_V (pc := 81) (As := [.int 5, .int a2]) (rest := []) hx hb hml hown hts (kX0_weighs_27_D2 l D A B _ r75 5 a2 r81 hc81) (cwV 2 hts gwRX0_26 rfl rfl rfl hdX0_weighs ⟨Nat.le_of_ble_eq_true rfl, Nat.le_of_ble_eq_true rfl⟩) hN hK hP hD hS hA (va_recv hK hP (ci := 0) (q0 := 27) rfl (eX_27 A B _)) rfl hl.1 rfl (Nat.le_of_ble_eq_true rfl) dX0_weighs_81 (st1 := [.int r81.1]) rfl ⟨Nat.zero_le _, Nat.zero_le _⟩ (fun H locs hP hD hS => ?_)
              refine lv_aload_n (pc := 84) hx hb dX0_weighs_84 rfl (lv_at hl 0 rfl) ?_
              refine vXgRX0_43_27 (pc := 85) hx hb hts mU_1005 inU0 hown hK hP (x := (gI r81.2 25)) rfl dX0_weighs_85 ?_
              refine lv_ixor (pc := 88) hx hb dX0_weighs_88 ?_
              obtain rfl := Option.some.inj hf
              exact hR H locs 89 ls hP hD hS dX0_weighs_89
            · have hf := hf_f e1_6 hf
              have n1_1 := lv_neT (a := 1) e1_1 rfl
              have n1_2 := lv_neT (a := 2) e1_2 rfl
              have n1_3 := lv_neT (a := 3) e1_3 rfl
              have n1_4 := lv_neT (a := 4) e1_4 rfl
              have n1_5 := lv_neT (a := 5) e1_5 rfl
              have n1_6 := lv_neT (a := 6) e1_6 rfl
              refine lv_tableOut (pc := 1) hx hb (tgt := 90) dX0_weighs_1 (by omega) (by decide) ?_
              refine lv_aload_n (pc := 90) hx hb dX0_weighs_90 rfl (lv_at hl 0 rfl) ?_
              refine lv_bipush (pc := 91) hx hb (v := 10) dX0_weighs_91 (by decide) ?_
              obtain ⟨r93, hc93, hf⟩ := hf_b hf
              refine cl_V (pc := 93) (As := [.int 10]) (rest := []) hx hb hml hown hts (kX0_begin_27 l D A B _ S 10 r93 hc93) (cwV 1 hts gwRX0_39 rfl rfl rfl hdX0_begin ⟨Nat.le_of_ble_eq_true rfl, Nat.le_of_ble_eq_true rfl⟩) hN hK hP hD hS hA (va_recv hK hP (ci := 0) (q0 := 27) rfl (eX_27 A B _)) rfl hl.1 rfl (Nat.le_of_ble_eq_true rfl) dX0_weighs_93 (st1 := []) rfl ⟨Nat.zero_le _, Nat.zero_le _⟩ (fun H locs hP hD hS => ?_)
              refine lv_iload_n (pc := 96) hx hb dX0_weighs_96 rfl (lv_at hl 2 rfl) ?_
              refine lv_bipush (pc := 97) hx hb (v := 7) dX0_weighs_97 (by decide) ?_
              refine lv_imul (pc := 99) hx hb dX0_weighs_99 ?_
              refine lv_aload_n (pc := 100) hx hb dX0_weighs_100 rfl (lv_at hl 0 rfl) ?_
              refine vXgRX0_46_27 (pc := 101) hx hb hts mU_1006 inU0 hown hK hP (x := (gI r93 24)) rfl dX0_weighs_101 ?_
              refine lv_iadd (pc := 104) hx hb dX0_weighs_104 ?_
              obtain rfl := Option.some.inj hf
              exact hR H locs 105 ls hP hD hS dX0_weighs_105
set_option maxHeartbeats 4000000 in
set_option maxRecDepth 100000 in
theorem kX0_parts_27_D1 (l : Launch) (D : va_G) (A : Nat → Nat) (B : Nat → ClassId) (sz : Nat) (S : w_S) (a1 : Int32) (a2 : Int32) (z : Int32 × w_S) (hf : fX0_parts_27_D1 S a1 a2 = some z) : MetW l yX0_parts (wsO yX0_parts cX0_parts 4 (some .int)) rm_X0_parts_D1 [.ref (A 27), .int a1, .int a2] D (tyB B) (wX A B S) (wX A B z.2) sz (some (.int z.1)) := by
  refine MetW.mkI (cc := cX0_parts) (maxL := 4) (by decide) (Nat.le_of_ble_eq_true rfl) ?_
  intro p e s m args below meth c Ad Q hx hb hts hown hml hN hK hA hR H locs ls hP hD hS hl
  have hl : lv_has ls 4 [(0, .ref (A 27)), (1, .int a1), (2, .int a2)] := hl
  rw [fX0_parts_27_D1] at hf
  refine lv_iload_n (pc := 0) hx hb dX0_parts_0 rfl (lv_at hl 1 rfl) ?_
  by_cases e1_3 : a1 = (3 : Int32)
  · have hf := hf_t e1_3 hf
    refine lv_tableIn (pc := 1) hx hb (off := 31) (tgt := 32) dX0_parts_1 (by rw [e1_3]; decide) (by rw [e1_3]; decide) (by rw [e1_3]; rfl) (by decide) ?_
    refine lv_aload_n (pc := 32) hx hb dX0_parts_32 rfl (lv_at hl 0 rfl) ?_
    refine lv_bipush (pc := 33) hx hb (v := 41) dX0_parts_33 (by decide) ?_
    obtain ⟨r35, hc35, hf⟩ := hf_b hf
    refine cl_V (pc := 35) (As := [.int 41]) (rest := []) hx hb hml hown hts (kX0_begin_27 l D A B _ S 41 r35 hc35) (cwV 1 hts gwRX0_39 rfl rfl rfl hdX0_begin ⟨Nat.le_of_ble_eq_true rfl, Nat.le_of_ble_eq_true rfl⟩) hN hK hP hD hS hA (va_recv hK hP (ci := 0) (q0 := 27) rfl (eX_27 A B _)) rfl hl.1 rfl (Nat.le_of_ble_eq_true rfl) dX0_parts_35 (st1 := []) rfl ⟨Nat.zero_le _, Nat.zero_le _⟩ (fun H locs hP hD hS => ?_)
    refine lv_aload_n (pc := 38) hx hb dX0_parts_38 rfl (lv_at hl 0 rfl) ?_
    refine lv_iconst (pc := 39) hx hb (v := 0) dX0_parts_39 (by decide) ?_
    refine lv_iload_n (pc := 40) hx hb dX0_parts_40 rfl (lv_at hl 2 rfl) ?_
    obtain ⟨r41, hc41, hf⟩ := hf_b hf
    refine cl_V (pc := 41) (As := [.int 0, .int a2]) (rest := []) hx hb hml hown hts (kX0_parts_27_D0 l D A B _ r35 0 a2 r41 hc41) (cwV 2 hts gwRX0_33 rfl rfl rfl hdX0_parts ⟨Nat.le_of_ble_eq_true rfl, Nat.le_of_ble_eq_true rfl⟩) hN hK hP hD hS hA (va_recv hK hP (ci := 0) (q0 := 27) rfl (eX_27 A B _)) rfl hl.1 rfl (Nat.le_of_ble_eq_true rfl) dX0_parts_41 (st1 := [.int r41.1]) rfl ⟨Nat.zero_le _, Nat.zero_le _⟩ (fun H locs hP hD hS => ?_)
    refine lv_aload_n (pc := 44) hx hb dX0_parts_44 rfl (lv_at hl 0 rfl) ?_
    refine lv_aload_n (pc := 45) hx hb dX0_parts_45 rfl (lv_at hl 0 rfl) ?_
    refine vXgRX0_23_27 (pc := 46) hx hb hts mU_1000 inU0 hown hK hP (x := (gI r41.2 23)) rfl dX0_parts_46 ?_
    refine lv_aload_n (pc := 49) hx hb dX0_parts_49 rfl (lv_at hl 0 rfl) ?_
    refine vXgRX0_46_27 (pc := 50) hx hb hts mU_1006 inU0 hown hK hP (x := (gI r41.2 24)) rfl dX0_parts_50 ?_
    obtain ⟨r53, hc53, hf⟩ := hf_b hf
    refine cl_V (pc := 53) (As := [.int (gI r41.2 23), .int (gI r41.2 24)]) (rest := [.int r41.1]) hx hb hml hown hts (kX0_weighs_27_D3 l D A B _ r41.2 (gI r41.2 23) (gI r41.2 24) r53 hc53) (cwV 2 hts gwRX0_26 rfl rfl rfl hdX0_weighs ⟨Nat.le_of_ble_eq_true rfl, Nat.le_of_ble_eq_true rfl⟩) hN hK hP hD hS hA (va_recv hK hP (ci := 0) (q0 := 27) rfl (eX_27 A B _)) rfl hl.1 rfl (Nat.le_of_ble_eq_true rfl) dX0_parts_53 (st1 := [.int r53.1, .int r41.1]) rfl ⟨Nat.zero_le _, Nat.zero_le _⟩ (fun H locs hP hD hS => ?_)
    refine lv_isub (pc := 56) hx hb dX0_parts_56 ?_
    obtain rfl := Option.some.inj hf
    exact hR H locs 57 ls hP hD hS dX0_parts_57
  · have hf := hf_f e1_3 hf
    by_cases e1_4 : a1 = (4 : Int32)
    · have hf := hf_t e1_4 hf
      refine lv_tableIn (pc := 1) hx hb (off := 57) (tgt := 58) dX0_parts_1 (by rw [e1_4]; decide) (by rw [e1_4]; decide) (by rw [e1_4]; rfl) (by decide) ?_
      refine lv_aload_n (pc := 58) hx hb dX0_parts_58 rfl (lv_at hl 0 rfl) ?_
      refine lv_bipush (pc := 59) hx hb (v := 12) dX0_parts_59 (by decide) ?_
      obtain ⟨r61, hc61, hf⟩ := hf_b hf
      refine cl_V (pc := 61) (As := [.int 12]) (rest := []) hx hb hml hown hts (kX0_begin_27 l D A B _ S 12 r61 hc61) (cwV 1 hts gwRX0_39 rfl rfl rfl hdX0_begin ⟨Nat.le_of_ble_eq_true rfl, Nat.le_of_ble_eq_true rfl⟩) hN hK hP hD hS hA (va_recv hK hP (ci := 0) (q0 := 27) rfl (eX_27 A B _)) rfl hl.1 rfl (Nat.le_of_ble_eq_true rfl) dX0_parts_61 (st1 := []) rfl ⟨Nat.zero_le _, Nat.zero_le _⟩ (fun H locs hP hD hS => ?_)
      refine lv_aload_n (pc := 64) hx hb dX0_parts_64 rfl (lv_at hl 0 rfl) ?_
      refine vXgRX0_46_27 (pc := 65) hx hb hts mU_1006 inU0 hown hK hP (x := (gI r61 24)) rfl dX0_parts_65 ?_
      refine lv_aload_n (pc := 68) hx hb dX0_parts_68 rfl (lv_at hl 0 rfl) ?_
      refine vXgRX0_43_27 (pc := 69) hx hb hts mU_1005 inU0 hown hK hP (x := (gI r61 25)) rfl dX0_parts_69 ?_
      refine lv_isub (pc := 72) hx hb dX0_parts_72 ?_
      refine lv_istore_n (pc := 73) hx hb (lv' := [(3, .int ((gI r61 24) - (gI r61 25))), (0, .ref (A 27)), (1, .int a1), (2, .int a2)]) dX0_parts_73 rfl hl (by decide) rfl (fun ls hl => ?_)
      refine lv_iload_n (pc := 74) hx hb dX0_parts_74 rfl (lv_at hl 0 rfl) ?_
      refine lv_if_ne (pc := 75) hx hb (tgt := 85) dX0_parts_75 (by decide) (fun c_75 => ?_) (fun c_75 => ?_)
      · have hf := hf_f c_75 hf
        refine lv_iload_n (pc := 85) hx hb dX0_parts_85 rfl (lv_at hl 3 rfl) ?_
        refine lv_iload_n (pc := 86) hx hb dX0_parts_86 rfl (lv_at hl 0 rfl) ?_
        obtain ⟨hg87, hf⟩ := hf_g hf
        refine lv_idiv (pc := 87) hx hb dX0_parts_87 hg87 ?_
        obtain rfl := Option.some.inj hf
        exact hR H locs 88 ls hP hD hS dX0_parts_88
      · have hf := hf_t c_75 hf
        refine lv_aload_n (pc := 78) hx hb dX0_parts_78 rfl (lv_at hl 1 rfl) ?_
        refine lv_iconst (pc := 79) hx hb (v := 1) dX0_parts_79 (by decide) ?_
        refine vXpRX0_19_27 (pc := 80) hx hb hts mU_995 inU0 hown hK hP hD hS (by decide) dX0_parts_80 (fun H locs hP hD hS => ?_)
        refine lv_iconst (pc := 83) hx hb (v := 0) dX0_parts_83 (by decide) ?_
        obtain rfl := Option.some.inj hf
        exact hR H locs 84 ls hP hD hS dX0_parts_84
    · have hf := hf_f e1_4 hf
      by_cases e1_5 : a1 = (5 : Int32)
      · have hf := hf_t e1_5 hf
        refine lv_tableIn (pc := 1) hx hb (off := 31) (tgt := 32) dX0_parts_1 (by rw [e1_5]; decide) (by rw [e1_5]; decide) (by rw [e1_5]; rfl) (by decide) ?_
        refine lv_aload_n (pc := 32) hx hb dX0_parts_32 rfl (lv_at hl 0 rfl) ?_
        refine lv_bipush (pc := 33) hx hb (v := 41) dX0_parts_33 (by decide) ?_
        obtain ⟨r35, hc35, hf⟩ := hf_b hf
        refine cl_V (pc := 35) (As := [.int 41]) (rest := []) hx hb hml hown hts (kX0_begin_27 l D A B _ S 41 r35 hc35) (cwV 1 hts gwRX0_39 rfl rfl rfl hdX0_begin ⟨Nat.le_of_ble_eq_true rfl, Nat.le_of_ble_eq_true rfl⟩) hN hK hP hD hS hA (va_recv hK hP (ci := 0) (q0 := 27) rfl (eX_27 A B _)) rfl hl.1 rfl (Nat.le_of_ble_eq_true rfl) dX0_parts_35 (st1 := []) rfl ⟨Nat.zero_le _, Nat.zero_le _⟩ (fun H locs hP hD hS => ?_)
        refine lv_aload_n (pc := 38) hx hb dX0_parts_38 rfl (lv_at hl 0 rfl) ?_
        refine lv_iconst (pc := 39) hx hb (v := 0) dX0_parts_39 (by decide) ?_
        refine lv_iload_n (pc := 40) hx hb dX0_parts_40 rfl (lv_at hl 2 rfl) ?_
        obtain ⟨r41, hc41, hf⟩ := hf_b hf
        refine cl_V (pc := 41) (As := [.int 0, .int a2]) (rest := []) hx hb hml hown hts (kX0_parts_27_D0 l D A B _ r35 0 a2 r41 hc41) (cwV 2 hts gwRX0_33 rfl rfl rfl hdX0_parts ⟨Nat.le_of_ble_eq_true rfl, Nat.le_of_ble_eq_true rfl⟩) hN hK hP hD hS hA (va_recv hK hP (ci := 0) (q0 := 27) rfl (eX_27 A B _)) rfl hl.1 rfl (Nat.le_of_ble_eq_true rfl) dX0_parts_41 (st1 := [.int r41.1]) rfl ⟨Nat.zero_le _, Nat.zero_le _⟩ (fun H locs hP hD hS => ?_)
        refine lv_aload_n (pc := 44) hx hb dX0_parts_44 rfl (lv_at hl 0 rfl) ?_
        refine lv_aload_n (pc := 45) hx hb dX0_parts_45 rfl (lv_at hl 0 rfl) ?_
        refine vXgRX0_23_27 (pc := 46) hx hb hts mU_1000 inU0 hown hK hP (x := (gI r41.2 23)) rfl dX0_parts_46 ?_
        refine lv_aload_n (pc := 49) hx hb dX0_parts_49 rfl (lv_at hl 0 rfl) ?_
        refine vXgRX0_46_27 (pc := 50) hx hb hts mU_1006 inU0 hown hK hP (x := (gI r41.2 24)) rfl dX0_parts_50 ?_
        obtain ⟨r53, hc53, hf⟩ := hf_b hf
        refine cl_V (pc := 53) (As := [.int (gI r41.2 23), .int (gI r41.2 24)]) (rest := [.int r41.1]) hx hb hml hown hts (kX0_weighs_27_D3 l D A B _ r41.2 (gI r41.2 23) (gI r41.2 24) r53 hc53) (cwV 2 hts gwRX0_26 rfl rfl rfl hdX0_weighs ⟨Nat.le_of_ble_eq_true rfl, Nat.le_of_ble_eq_true rfl⟩) hN hK hP hD hS hA (va_recv hK hP (ci := 0) (q0 := 27) rfl (eX_27 A B _)) rfl hl.1 rfl (Nat.le_of_ble_eq_true rfl) dX0_parts_53 (st1 := [.int r53.1, .int r41.1]) rfl ⟨Nat.zero_le _, Nat.zero_le _⟩ (fun H locs hP hD hS => ?_)
        refine lv_isub (pc := 56) hx hb dX0_parts_56 ?_
        obtain rfl := Option.some.inj hf
        exact hR H locs 57 ls hP hD hS dX0_parts_57
      · have hf := hf_f e1_5 hf
        by_cases e1_6 : a1 = (6 : Int32)
        · have hf := hf_t e1_6 hf
          refine lv_tableIn (pc := 1) hx hb (off := 31) (tgt := 32) dX0_parts_1 (by rw [e1_6]; decide) (by rw [e1_6]; decide) (by rw [e1_6]; rfl) (by decide) ?_
          refine lv_aload_n (pc := 32) hx hb dX0_parts_32 rfl (lv_at hl 0 rfl) ?_
          refine lv_bipush (pc := 33) hx hb (v := 41) dX0_parts_33 (by decide) ?_
          obtain ⟨r35, hc35, hf⟩ := hf_b hf
          refine cl_V (pc := 35) (As := [.int 41]) (rest := []) hx hb hml hown hts (kX0_begin_27 l D A B _ S 41 r35 hc35) (cwV 1 hts gwRX0_39 rfl rfl rfl hdX0_begin ⟨Nat.le_of_ble_eq_true rfl, Nat.le_of_ble_eq_true rfl⟩) hN hK hP hD hS hA (va_recv hK hP (ci := 0) (q0 := 27) rfl (eX_27 A B _)) rfl hl.1 rfl (Nat.le_of_ble_eq_true rfl) dX0_parts_35 (st1 := []) rfl ⟨Nat.zero_le _, Nat.zero_le _⟩ (fun H locs hP hD hS => ?_)
          refine lv_aload_n (pc := 38) hx hb dX0_parts_38 rfl (lv_at hl 0 rfl) ?_
          refine lv_iconst (pc := 39) hx hb (v := 0) dX0_parts_39 (by decide) ?_
          refine lv_iload_n (pc := 40) hx hb dX0_parts_40 rfl (lv_at hl 2 rfl) ?_
          obtain ⟨r41, hc41, hf⟩ := hf_b hf
          refine cl_V (pc := 41) (As := [.int 0, .int a2]) (rest := []) hx hb hml hown hts (kX0_parts_27_D0 l D A B _ r35 0 a2 r41 hc41) (cwV 2 hts gwRX0_33 rfl rfl rfl hdX0_parts ⟨Nat.le_of_ble_eq_true rfl, Nat.le_of_ble_eq_true rfl⟩) hN hK hP hD hS hA (va_recv hK hP (ci := 0) (q0 := 27) rfl (eX_27 A B _)) rfl hl.1 rfl (Nat.le_of_ble_eq_true rfl) dX0_parts_41 (st1 := [.int r41.1]) rfl ⟨Nat.zero_le _, Nat.zero_le _⟩ (fun H locs hP hD hS => ?_)
          refine lv_aload_n (pc := 44) hx hb dX0_parts_44 rfl (lv_at hl 0 rfl) ?_
          refine lv_aload_n (pc := 45) hx hb dX0_parts_45 rfl (lv_at hl 0 rfl) ?_
          refine vXgRX0_23_27 (pc := 46) hx hb hts mU_1000 inU0 hown hK hP (x := (gI r41.2 23)) rfl dX0_parts_46 ?_
          refine lv_aload_n (pc := 49) hx hb dX0_parts_49 rfl (lv_at hl 0 rfl) ?_
          refine vXgRX0_46_27 (pc := 50) hx hb hts mU_1006 inU0 hown hK hP (x := (gI r41.2 24)) rfl dX0_parts_50 ?_
          obtain ⟨r53, hc53, hf⟩ := hf_b hf
          refine cl_V (pc := 53) (As := [.int (gI r41.2 23), .int (gI r41.2 24)]) (rest := [.int r41.1]) hx hb hml hown hts (kX0_weighs_27_D3 l D A B _ r41.2 (gI r41.2 23) (gI r41.2 24) r53 hc53) (cwV 2 hts gwRX0_26 rfl rfl rfl hdX0_weighs ⟨Nat.le_of_ble_eq_true rfl, Nat.le_of_ble_eq_true rfl⟩) hN hK hP hD hS hA (va_recv hK hP (ci := 0) (q0 := 27) rfl (eX_27 A B _)) rfl hl.1 rfl (Nat.le_of_ble_eq_true rfl) dX0_parts_53 (st1 := [.int r53.1, .int r41.1]) rfl ⟨Nat.zero_le _, Nat.zero_le _⟩ (fun H locs hP hD hS => ?_)
          refine lv_isub (pc := 56) hx hb dX0_parts_56 ?_
          obtain rfl := Option.some.inj hf
          exact hR H locs 57 ls hP hD hS dX0_parts_57
        · have hf := hf_f e1_6 hf
          have n1_3 := lv_neT (a := 3) e1_3 rfl
          have n1_4 := lv_neT (a := 4) e1_4 rfl
          have n1_5 := lv_neT (a := 5) e1_5 rfl
          have n1_6 := lv_neT (a := 6) e1_6 rfl
          refine lv_tableOut (pc := 1) hx hb (tgt := 58) dX0_parts_1 (by omega) (by decide) ?_
          refine lv_aload_n (pc := 58) hx hb dX0_parts_58 rfl (lv_at hl 0 rfl) ?_
          refine lv_bipush (pc := 59) hx hb (v := 12) dX0_parts_59 (by decide) ?_
          obtain ⟨r61, hc61, hf⟩ := hf_b hf
          refine cl_V (pc := 61) (As := [.int 12]) (rest := []) hx hb hml hown hts (kX0_begin_27 l D A B _ S 12 r61 hc61) (cwV 1 hts gwRX0_39 rfl rfl rfl hdX0_begin ⟨Nat.le_of_ble_eq_true rfl, Nat.le_of_ble_eq_true rfl⟩) hN hK hP hD hS hA (va_recv hK hP (ci := 0) (q0 := 27) rfl (eX_27 A B _)) rfl hl.1 rfl (Nat.le_of_ble_eq_true rfl) dX0_parts_61 (st1 := []) rfl ⟨Nat.zero_le _, Nat.zero_le _⟩ (fun H locs hP hD hS => ?_)
          refine lv_aload_n (pc := 64) hx hb dX0_parts_64 rfl (lv_at hl 0 rfl) ?_
          refine vXgRX0_46_27 (pc := 65) hx hb hts mU_1006 inU0 hown hK hP (x := (gI r61 24)) rfl dX0_parts_65 ?_
          refine lv_aload_n (pc := 68) hx hb dX0_parts_68 rfl (lv_at hl 0 rfl) ?_
          refine vXgRX0_43_27 (pc := 69) hx hb hts mU_1005 inU0 hown hK hP (x := (gI r61 25)) rfl dX0_parts_69 ?_
          refine lv_isub (pc := 72) hx hb dX0_parts_72 ?_
          refine lv_istore_n (pc := 73) hx hb (lv' := [(3, .int ((gI r61 24) - (gI r61 25))), (0, .ref (A 27)), (1, .int a1), (2, .int a2)]) dX0_parts_73 rfl hl (by decide) rfl (fun ls hl => ?_)
          refine lv_iload_n (pc := 74) hx hb dX0_parts_74 rfl (lv_at hl 0 rfl) ?_
          refine lv_if_ne (pc := 75) hx hb (tgt := 85) dX0_parts_75 (by decide) (fun c_75 => ?_) (fun c_75 => ?_)
          · have hf := hf_f c_75 hf
            refine lv_iload_n (pc := 85) hx hb dX0_parts_85 rfl (lv_at hl 3 rfl) ?_
            refine lv_iload_n (pc := 86) hx hb dX0_parts_86 rfl (lv_at hl 0 rfl) ?_
            obtain ⟨hg87, hf⟩ := hf_g hf
            refine lv_idiv (pc := 87) hx hb dX0_parts_87 hg87 ?_
            obtain rfl := Option.some.inj hf
            exact hR H locs 88 ls hP hD hS dX0_parts_88
          · have hf := hf_t c_75 hf
            refine lv_aload_n (pc := 78) hx hb dX0_parts_78 rfl (lv_at hl 1 rfl) ?_
            refine lv_iconst (pc := 79) hx hb (v := 1) dX0_parts_79 (by decide) ?_
            refine vXpRX0_19_27 (pc := 80) hx hb hts mU_995 inU0 hown hK hP hD hS (by decide) dX0_parts_80 (fun H locs hP hD hS => ?_)
            refine lv_iconst (pc := 83) hx hb (v := 0) dX0_parts_83 (by decide) ?_
            obtain rfl := Option.some.inj hf
            exact hR H locs 84 ls hP hD hS dX0_parts_84
set_option maxHeartbeats 4000000 in
set_option maxRecDepth 100000 in
theorem kX0_parts_27_D2 (l : Launch) (D : va_G) (A : Nat → Nat) (B : Nat → ClassId) (sz : Nat) (S : w_S) (a1 : Int32) (a2 : Int32) (z : Int32 × w_S) (hf : fX0_parts_27_D2 S a1 a2 = some z) : MetW l yX0_parts (wsO yX0_parts cX0_parts 4 (some .int)) rm_X0_parts_D2 [.ref (A 27), .int a1, .int a2] D (tyB B) (wX A B S) (wX A B z.2) sz (some (.int z.1)) := by
  refine MetW.mkI (cc := cX0_parts) (maxL := 4) (by decide) (Nat.le_of_ble_eq_true rfl) ?_
  intro p e s m args below meth c Ad Q hx hb hts hown hml hN hK hA hR H locs ls hP hD hS hl
  have hl : lv_has ls 4 [(0, .ref (A 27)), (1, .int a1), (2, .int a2)] := hl
  rw [fX0_parts_27_D2] at hf
  refine lv_iload_n (pc := 0) hx hb dX0_parts_0 rfl (lv_at hl 1 rfl) ?_
  by_cases e1_3 : a1 = (3 : Int32)
  · have hf := hf_t e1_3 hf
    refine lv_tableIn (pc := 1) hx hb (off := 31) (tgt := 32) dX0_parts_1 (by rw [e1_3]; decide) (by rw [e1_3]; decide) (by rw [e1_3]; rfl) (by decide) ?_
    refine lv_aload_n (pc := 32) hx hb dX0_parts_32 rfl (lv_at hl 0 rfl) ?_
    refine lv_bipush (pc := 33) hx hb (v := 41) dX0_parts_33 (by decide) ?_
    obtain ⟨r35, hc35, hf⟩ := hf_b hf
    refine cl_V (pc := 35) (As := [.int 41]) (rest := []) hx hb hml hown hts (kX0_begin_27 l D A B _ S 41 r35 hc35) (cwV 1 hts gwRX0_39 rfl rfl rfl hdX0_begin ⟨Nat.le_of_ble_eq_true rfl, Nat.le_of_ble_eq_true rfl⟩) hN hK hP hD hS hA (va_recv hK hP (ci := 0) (q0 := 27) rfl (eX_27 A B _)) rfl hl.1 rfl (Nat.le_of_ble_eq_true rfl) dX0_parts_35 (st1 := []) rfl ⟨Nat.zero_le _, Nat.zero_le _⟩ (fun H locs hP hD hS => ?_)
    refine lv_aload_n (pc := 38) hx hb dX0_parts_38 rfl (lv_at hl 0 rfl) ?_
    refine lv_iconst (pc := 39) hx hb (v := 0) dX0_parts_39 (by decide) ?_
    refine lv_iload_n (pc := 40) hx hb dX0_parts_40 rfl (lv_at hl 2 rfl) ?_
    obtain ⟨r41, hc41, hf⟩ := hf_b hf
    refine cl_V (pc := 41) (As := [.int 0, .int a2]) (rest := []) hx hb hml hown hts (kX0_parts_27_D1 l D A B _ r35 0 a2 r41 hc41) (cwV 2 hts gwRX0_33 rfl rfl rfl hdX0_parts ⟨Nat.le_of_ble_eq_true rfl, Nat.le_of_ble_eq_true rfl⟩) hN hK hP hD hS hA (va_recv hK hP (ci := 0) (q0 := 27) rfl (eX_27 A B _)) rfl hl.1 rfl (Nat.le_of_ble_eq_true rfl) dX0_parts_41 (st1 := [.int r41.1]) rfl ⟨Nat.zero_le _, Nat.zero_le _⟩ (fun H locs hP hD hS => ?_)
    refine lv_aload_n (pc := 44) hx hb dX0_parts_44 rfl (lv_at hl 0 rfl) ?_
    refine lv_aload_n (pc := 45) hx hb dX0_parts_45 rfl (lv_at hl 0 rfl) ?_
    refine vXgRX0_23_27 (pc := 46) hx hb hts mU_1000 inU0 hown hK hP (x := (gI r41.2 23)) rfl dX0_parts_46 ?_
    refine lv_aload_n (pc := 49) hx hb dX0_parts_49 rfl (lv_at hl 0 rfl) ?_
    refine vXgRX0_46_27 (pc := 50) hx hb hts mU_1006 inU0 hown hK hP (x := (gI r41.2 24)) rfl dX0_parts_50 ?_
    obtain ⟨r53, hc53, hf⟩ := hf_b hf
    refine cl_V (pc := 53) (As := [.int (gI r41.2 23), .int (gI r41.2 24)]) (rest := [.int r41.1]) hx hb hml hown hts (kX0_weighs_27_D3 l D A B _ r41.2 (gI r41.2 23) (gI r41.2 24) r53 hc53) (cwV 2 hts gwRX0_26 rfl rfl rfl hdX0_weighs ⟨Nat.le_of_ble_eq_true rfl, Nat.le_of_ble_eq_true rfl⟩) hN hK hP hD hS hA (va_recv hK hP (ci := 0) (q0 := 27) rfl (eX_27 A B _)) rfl hl.1 rfl (Nat.le_of_ble_eq_true rfl) dX0_parts_53 (st1 := [.int r53.1, .int r41.1]) rfl ⟨Nat.zero_le _, Nat.zero_le _⟩ (fun H locs hP hD hS => ?_)
    refine lv_isub (pc := 56) hx hb dX0_parts_56 ?_
    obtain rfl := Option.some.inj hf
    exact hR H locs 57 ls hP hD hS dX0_parts_57
  · have hf := hf_f e1_3 hf
    by_cases e1_4 : a1 = (4 : Int32)
    · have hf := hf_t e1_4 hf
      refine lv_tableIn (pc := 1) hx hb (off := 57) (tgt := 58) dX0_parts_1 (by rw [e1_4]; decide) (by rw [e1_4]; decide) (by rw [e1_4]; rfl) (by decide) ?_
      refine lv_aload_n (pc := 58) hx hb dX0_parts_58 rfl (lv_at hl 0 rfl) ?_
      refine lv_bipush (pc := 59) hx hb (v := 12) dX0_parts_59 (by decide) ?_
      obtain ⟨r61, hc61, hf⟩ := hf_b hf
      refine cl_V (pc := 61) (As := [.int 12]) (rest := []) hx hb hml hown hts (kX0_begin_27 l D A B _ S 12 r61 hc61) (cwV 1 hts gwRX0_39 rfl rfl rfl hdX0_begin ⟨Nat.le_of_ble_eq_true rfl, Nat.le_of_ble_eq_true rfl⟩) hN hK hP hD hS hA (va_recv hK hP (ci := 0) (q0 := 27) rfl (eX_27 A B _)) rfl hl.1 rfl (Nat.le_of_ble_eq_true rfl) dX0_parts_61 (st1 := []) rfl ⟨Nat.zero_le _, Nat.zero_le _⟩ (fun H locs hP hD hS => ?_)
      refine lv_aload_n (pc := 64) hx hb dX0_parts_64 rfl (lv_at hl 0 rfl) ?_
      refine vXgRX0_46_27 (pc := 65) hx hb hts mU_1006 inU0 hown hK hP (x := (gI r61 24)) rfl dX0_parts_65 ?_
      refine lv_aload_n (pc := 68) hx hb dX0_parts_68 rfl (lv_at hl 0 rfl) ?_
      refine vXgRX0_43_27 (pc := 69) hx hb hts mU_1005 inU0 hown hK hP (x := (gI r61 25)) rfl dX0_parts_69 ?_
      refine lv_isub (pc := 72) hx hb dX0_parts_72 ?_
      refine lv_istore_n (pc := 73) hx hb (lv' := [(3, .int ((gI r61 24) - (gI r61 25))), (0, .ref (A 27)), (1, .int a1), (2, .int a2)]) dX0_parts_73 rfl hl (by decide) rfl (fun ls hl => ?_)
      refine lv_iload_n (pc := 74) hx hb dX0_parts_74 rfl (lv_at hl 0 rfl) ?_
      refine lv_if_ne (pc := 75) hx hb (tgt := 85) dX0_parts_75 (by decide) (fun c_75 => ?_) (fun c_75 => ?_)
      · have hf := hf_f c_75 hf
        refine lv_iload_n (pc := 85) hx hb dX0_parts_85 rfl (lv_at hl 3 rfl) ?_
        refine lv_iload_n (pc := 86) hx hb dX0_parts_86 rfl (lv_at hl 0 rfl) ?_
        obtain ⟨hg87, hf⟩ := hf_g hf
        refine lv_idiv (pc := 87) hx hb dX0_parts_87 hg87 ?_
        obtain rfl := Option.some.inj hf
        exact hR H locs 88 ls hP hD hS dX0_parts_88
      · have hf := hf_t c_75 hf
        refine lv_aload_n (pc := 78) hx hb dX0_parts_78 rfl (lv_at hl 1 rfl) ?_
        refine lv_iconst (pc := 79) hx hb (v := 1) dX0_parts_79 (by decide) ?_
        refine vXpRX0_19_27 (pc := 80) hx hb hts mU_995 inU0 hown hK hP hD hS (by decide) dX0_parts_80 (fun H locs hP hD hS => ?_)
        refine lv_iconst (pc := 83) hx hb (v := 0) dX0_parts_83 (by decide) ?_
        obtain rfl := Option.some.inj hf
        exact hR H locs 84 ls hP hD hS dX0_parts_84
    · have hf := hf_f e1_4 hf
      by_cases e1_5 : a1 = (5 : Int32)
      · have hf := hf_t e1_5 hf
        refine lv_tableIn (pc := 1) hx hb (off := 31) (tgt := 32) dX0_parts_1 (by rw [e1_5]; decide) (by rw [e1_5]; decide) (by rw [e1_5]; rfl) (by decide) ?_
        refine lv_aload_n (pc := 32) hx hb dX0_parts_32 rfl (lv_at hl 0 rfl) ?_
        refine lv_bipush (pc := 33) hx hb (v := 41) dX0_parts_33 (by decide) ?_
        obtain ⟨r35, hc35, hf⟩ := hf_b hf
        refine cl_V (pc := 35) (As := [.int 41]) (rest := []) hx hb hml hown hts (kX0_begin_27 l D A B _ S 41 r35 hc35) (cwV 1 hts gwRX0_39 rfl rfl rfl hdX0_begin ⟨Nat.le_of_ble_eq_true rfl, Nat.le_of_ble_eq_true rfl⟩) hN hK hP hD hS hA (va_recv hK hP (ci := 0) (q0 := 27) rfl (eX_27 A B _)) rfl hl.1 rfl (Nat.le_of_ble_eq_true rfl) dX0_parts_35 (st1 := []) rfl ⟨Nat.zero_le _, Nat.zero_le _⟩ (fun H locs hP hD hS => ?_)
        refine lv_aload_n (pc := 38) hx hb dX0_parts_38 rfl (lv_at hl 0 rfl) ?_
        refine lv_iconst (pc := 39) hx hb (v := 0) dX0_parts_39 (by decide) ?_
        refine lv_iload_n (pc := 40) hx hb dX0_parts_40 rfl (lv_at hl 2 rfl) ?_
        obtain ⟨r41, hc41, hf⟩ := hf_b hf
        refine cl_V (pc := 41) (As := [.int 0, .int a2]) (rest := []) hx hb hml hown hts (kX0_parts_27_D1 l D A B _ r35 0 a2 r41 hc41) (cwV 2 hts gwRX0_33 rfl rfl rfl hdX0_parts ⟨Nat.le_of_ble_eq_true rfl, Nat.le_of_ble_eq_true rfl⟩) hN hK hP hD hS hA (va_recv hK hP (ci := 0) (q0 := 27) rfl (eX_27 A B _)) rfl hl.1 rfl (Nat.le_of_ble_eq_true rfl) dX0_parts_41 (st1 := [.int r41.1]) rfl ⟨Nat.zero_le _, Nat.zero_le _⟩ (fun H locs hP hD hS => ?_)
        refine lv_aload_n (pc := 44) hx hb dX0_parts_44 rfl (lv_at hl 0 rfl) ?_
        refine lv_aload_n (pc := 45) hx hb dX0_parts_45 rfl (lv_at hl 0 rfl) ?_
        refine vXgRX0_23_27 (pc := 46) hx hb hts mU_1000 inU0 hown hK hP (x := (gI r41.2 23)) rfl dX0_parts_46 ?_
        refine lv_aload_n (pc := 49) hx hb dX0_parts_49 rfl (lv_at hl 0 rfl) ?_
        refine vXgRX0_46_27 (pc := 50) hx hb hts mU_1006 inU0 hown hK hP (x := (gI r41.2 24)) rfl dX0_parts_50 ?_
        obtain ⟨r53, hc53, hf⟩ := hf_b hf
        refine cl_V (pc := 53) (As := [.int (gI r41.2 23), .int (gI r41.2 24)]) (rest := [.int r41.1]) hx hb hml hown hts (kX0_weighs_27_D3 l D A B _ r41.2 (gI r41.2 23) (gI r41.2 24) r53 hc53) (cwV 2 hts gwRX0_26 rfl rfl rfl hdX0_weighs ⟨Nat.le_of_ble_eq_true rfl, Nat.le_of_ble_eq_true rfl⟩) hN hK hP hD hS hA (va_recv hK hP (ci := 0) (q0 := 27) rfl (eX_27 A B _)) rfl hl.1 rfl (Nat.le_of_ble_eq_true rfl) dX0_parts_53 (st1 := [.int r53.1, .int r41.1]) rfl ⟨Nat.zero_le _, Nat.zero_le _⟩ (fun H locs hP hD hS => ?_)
        refine lv_isub (pc := 56) hx hb dX0_parts_56 ?_
        obtain rfl := Option.some.inj hf
        exact hR H locs 57 ls hP hD hS dX0_parts_57
      · have hf := hf_f e1_5 hf
        by_cases e1_6 : a1 = (6 : Int32)
        · have hf := hf_t e1_6 hf
          refine lv_tableIn (pc := 1) hx hb (off := 31) (tgt := 32) dX0_parts_1 (by rw [e1_6]; decide) (by rw [e1_6]; decide) (by rw [e1_6]; rfl) (by decide) ?_
          refine lv_aload_n (pc := 32) hx hb dX0_parts_32 rfl (lv_at hl 0 rfl) ?_
          refine lv_bipush (pc := 33) hx hb (v := 41) dX0_parts_33 (by decide) ?_
          obtain ⟨r35, hc35, hf⟩ := hf_b hf
          refine cl_V (pc := 35) (As := [.int 41]) (rest := []) hx hb hml hown hts (kX0_begin_27 l D A B _ S 41 r35 hc35) (cwV 1 hts gwRX0_39 rfl rfl rfl hdX0_begin ⟨Nat.le_of_ble_eq_true rfl, Nat.le_of_ble_eq_true rfl⟩) hN hK hP hD hS hA (va_recv hK hP (ci := 0) (q0 := 27) rfl (eX_27 A B _)) rfl hl.1 rfl (Nat.le_of_ble_eq_true rfl) dX0_parts_35 (st1 := []) rfl ⟨Nat.zero_le _, Nat.zero_le _⟩ (fun H locs hP hD hS => ?_)
          refine lv_aload_n (pc := 38) hx hb dX0_parts_38 rfl (lv_at hl 0 rfl) ?_
          refine lv_iconst (pc := 39) hx hb (v := 0) dX0_parts_39 (by decide) ?_
          refine lv_iload_n (pc := 40) hx hb dX0_parts_40 rfl (lv_at hl 2 rfl) ?_
          obtain ⟨r41, hc41, hf⟩ := hf_b hf
          refine cl_V (pc := 41) (As := [.int 0, .int a2]) (rest := []) hx hb hml hown hts (kX0_parts_27_D1 l D A B _ r35 0 a2 r41 hc41) (cwV 2 hts gwRX0_33 rfl rfl rfl hdX0_parts ⟨Nat.le_of_ble_eq_true rfl, Nat.le_of_ble_eq_true rfl⟩) hN hK hP hD hS hA (va_recv hK hP (ci := 0) (q0 := 27) rfl (eX_27 A B _)) rfl hl.1 rfl (Nat.le_of_ble_eq_true rfl) dX0_parts_41 (st1 := [.int r41.1]) rfl ⟨Nat.zero_le _, Nat.zero_le _⟩ (fun H locs hP hD hS => ?_)
          refine lv_aload_n (pc := 44) hx hb dX0_parts_44 rfl (lv_at hl 0 rfl) ?_
          refine lv_aload_n (pc := 45) hx hb dX0_parts_45 rfl (lv_at hl 0 rfl) ?_
          refine vXgRX0_23_27 (pc := 46) hx hb hts mU_1000 inU0 hown hK hP (x := (gI r41.2 23)) rfl dX0_parts_46 ?_
          refine lv_aload_n (pc := 49) hx hb dX0_parts_49 rfl (lv_at hl 0 rfl) ?_
          refine vXgRX0_46_27 (pc := 50) hx hb hts mU_1006 inU0 hown hK hP (x := (gI r41.2 24)) rfl dX0_parts_50 ?_
          obtain ⟨r53, hc53, hf⟩ := hf_b hf
          refine cl_V (pc := 53) (As := [.int (gI r41.2 23), .int (gI r41.2 24)]) (rest := [.int r41.1]) hx hb hml hown hts (kX0_weighs_27_D3 l D A B _ r41.2 (gI r41.2 23) (gI r41.2 24) r53 hc53) (cwV 2 hts gwRX0_26 rfl rfl rfl hdX0_weighs ⟨Nat.le_of_ble_eq_true rfl, Nat.le_of_ble_eq_true rfl⟩) hN hK hP hD hS hA (va_recv hK hP (ci := 0) (q0 := 27) rfl (eX_27 A B _)) rfl hl.1 rfl (Nat.le_of_ble_eq_true rfl) dX0_parts_53 (st1 := [.int r53.1, .int r41.1]) rfl ⟨Nat.zero_le _, Nat.zero_le _⟩ (fun H locs hP hD hS => ?_)
          refine lv_isub (pc := 56) hx hb dX0_parts_56 ?_
          obtain rfl := Option.some.inj hf
          exact hR H locs 57 ls hP hD hS dX0_parts_57
        · have hf := hf_f e1_6 hf
          have n1_3 := lv_neT (a := 3) e1_3 rfl
          have n1_4 := lv_neT (a := 4) e1_4 rfl
          have n1_5 := lv_neT (a := 5) e1_5 rfl
          have n1_6 := lv_neT (a := 6) e1_6 rfl
          refine lv_tableOut (pc := 1) hx hb (tgt := 58) dX0_parts_1 (by omega) (by decide) ?_
          refine lv_aload_n (pc := 58) hx hb dX0_parts_58 rfl (lv_at hl 0 rfl) ?_
          refine lv_bipush (pc := 59) hx hb (v := 12) dX0_parts_59 (by decide) ?_
          obtain ⟨r61, hc61, hf⟩ := hf_b hf
          refine cl_V (pc := 61) (As := [.int 12]) (rest := []) hx hb hml hown hts (kX0_begin_27 l D A B _ S 12 r61 hc61) (cwV 1 hts gwRX0_39 rfl rfl rfl hdX0_begin ⟨Nat.le_of_ble_eq_true rfl, Nat.le_of_ble_eq_true rfl⟩) hN hK hP hD hS hA (va_recv hK hP (ci := 0) (q0 := 27) rfl (eX_27 A B _)) rfl hl.1 rfl (Nat.le_of_ble_eq_true rfl) dX0_parts_61 (st1 := []) rfl ⟨Nat.zero_le _, Nat.zero_le _⟩ (fun H locs hP hD hS => ?_)
          refine lv_aload_n (pc := 64) hx hb dX0_parts_64 rfl (lv_at hl 0 rfl) ?_
          refine vXgRX0_46_27 (pc := 65) hx hb hts mU_1006 inU0 hown hK hP (x := (gI r61 24)) rfl dX0_parts_65 ?_
          refine lv_aload_n (pc := 68) hx hb dX0_parts_68 rfl (lv_at hl 0 rfl) ?_
          refine vXgRX0_43_27 (pc := 69) hx hb hts mU_1005 inU0 hown hK hP (x := (gI r61 25)) rfl dX0_parts_69 ?_
          refine lv_isub (pc := 72) hx hb dX0_parts_72 ?_
          refine lv_istore_n (pc := 73) hx hb (lv' := [(3, .int ((gI r61 24) - (gI r61 25))), (0, .ref (A 27)), (1, .int a1), (2, .int a2)]) dX0_parts_73 rfl hl (by decide) rfl (fun ls hl => ?_)
          refine lv_iload_n (pc := 74) hx hb dX0_parts_74 rfl (lv_at hl 0 rfl) ?_
          refine lv_if_ne (pc := 75) hx hb (tgt := 85) dX0_parts_75 (by decide) (fun c_75 => ?_) (fun c_75 => ?_)
          · have hf := hf_f c_75 hf
            refine lv_iload_n (pc := 85) hx hb dX0_parts_85 rfl (lv_at hl 3 rfl) ?_
            refine lv_iload_n (pc := 86) hx hb dX0_parts_86 rfl (lv_at hl 0 rfl) ?_
            obtain ⟨hg87, hf⟩ := hf_g hf
            refine lv_idiv (pc := 87) hx hb dX0_parts_87 hg87 ?_
            obtain rfl := Option.some.inj hf
            exact hR H locs 88 ls hP hD hS dX0_parts_88
          · have hf := hf_t c_75 hf
            refine lv_aload_n (pc := 78) hx hb dX0_parts_78 rfl (lv_at hl 1 rfl) ?_
            refine lv_iconst (pc := 79) hx hb (v := 1) dX0_parts_79 (by decide) ?_
            refine vXpRX0_19_27 (pc := 80) hx hb hts mU_995 inU0 hown hK hP hD hS (by decide) dX0_parts_80 (fun H locs hP hD hS => ?_)
            refine lv_iconst (pc := 83) hx hb (v := 0) dX0_parts_83 (by decide) ?_
            obtain rfl := Option.some.inj hf
            exact hR H locs 84 ls hP hD hS dX0_parts_84
set_option maxHeartbeats 4000000 in
set_option maxRecDepth 100000 in
theorem kX0_parts_27_D3 (l : Launch) (D : va_G) (A : Nat → Nat) (B : Nat → ClassId) (sz : Nat) (S : w_S) (a1 : Int32) (a2 : Int32) (z : Int32 × w_S) (hf : fX0_parts_27_D3 S a1 a2 = some z) : MetW l yX0_parts (wsO yX0_parts cX0_parts 4 (some .int)) rm_X0_parts_D3 [.ref (A 27), .int a1, .int a2] D (tyB B) (wX A B S) (wX A B z.2) sz (some (.int z.1)) := by
  refine MetW.mkI (cc := cX0_parts) (maxL := 4) (by decide) (Nat.le_of_ble_eq_true rfl) ?_
  intro p e s m args below meth c Ad Q hx hb hts hown hml hN hK hA hR H locs ls hP hD hS hl
  have hl : lv_has ls 4 [(0, .ref (A 27)), (1, .int a1), (2, .int a2)] := hl
  rw [fX0_parts_27_D3] at hf
  refine lv_iload_n (pc := 0) hx hb dX0_parts_0 rfl (lv_at hl 1 rfl) ?_
  by_cases e1_3 : a1 = (3 : Int32)
  · have hf := hf_t e1_3 hf
    refine lv_tableIn (pc := 1) hx hb (off := 31) (tgt := 32) dX0_parts_1 (by rw [e1_3]; decide) (by rw [e1_3]; decide) (by rw [e1_3]; rfl) (by decide) ?_
    refine lv_aload_n (pc := 32) hx hb dX0_parts_32 rfl (lv_at hl 0 rfl) ?_
    refine lv_bipush (pc := 33) hx hb (v := 41) dX0_parts_33 (by decide) ?_
    obtain ⟨r35, hc35, hf⟩ := hf_b hf
    refine cl_V (pc := 35) (As := [.int 41]) (rest := []) hx hb hml hown hts (kX0_begin_27 l D A B _ S 41 r35 hc35) (cwV 1 hts gwRX0_39 rfl rfl rfl hdX0_begin ⟨Nat.le_of_ble_eq_true rfl, Nat.le_of_ble_eq_true rfl⟩) hN hK hP hD hS hA (va_recv hK hP (ci := 0) (q0 := 27) rfl (eX_27 A B _)) rfl hl.1 rfl (Nat.le_of_ble_eq_true rfl) dX0_parts_35 (st1 := []) rfl ⟨Nat.zero_le _, Nat.zero_le _⟩ (fun H locs hP hD hS => ?_)
    refine lv_aload_n (pc := 38) hx hb dX0_parts_38 rfl (lv_at hl 0 rfl) ?_
    refine lv_iconst (pc := 39) hx hb (v := 0) dX0_parts_39 (by decide) ?_
    refine lv_iload_n (pc := 40) hx hb dX0_parts_40 rfl (lv_at hl 2 rfl) ?_
    obtain ⟨r41, hc41, hf⟩ := hf_b hf
    refine cl_V (pc := 41) (As := [.int 0, .int a2]) (rest := []) hx hb hml hown hts (kX0_parts_27_D2 l D A B _ r35 0 a2 r41 hc41) (cwV 2 hts gwRX0_33 rfl rfl rfl hdX0_parts ⟨Nat.le_of_ble_eq_true rfl, Nat.le_of_ble_eq_true rfl⟩) hN hK hP hD hS hA (va_recv hK hP (ci := 0) (q0 := 27) rfl (eX_27 A B _)) rfl hl.1 rfl (Nat.le_of_ble_eq_true rfl) dX0_parts_41 (st1 := [.int r41.1]) rfl ⟨Nat.zero_le _, Nat.zero_le _⟩ (fun H locs hP hD hS => ?_)
    refine lv_aload_n (pc := 44) hx hb dX0_parts_44 rfl (lv_at hl 0 rfl) ?_
    refine lv_aload_n (pc := 45) hx hb dX0_parts_45 rfl (lv_at hl 0 rfl) ?_
    refine vXgRX0_23_27 (pc := 46) hx hb hts mU_1000 inU0 hown hK hP (x := (gI r41.2 23)) rfl dX0_parts_46 ?_
    refine lv_aload_n (pc := 49) hx hb dX0_parts_49 rfl (lv_at hl 0 rfl) ?_
    refine vXgRX0_46_27 (pc := 50) hx hb hts mU_1006 inU0 hown hK hP (x := (gI r41.2 24)) rfl dX0_parts_50 ?_
    obtain ⟨r53, hc53, hf⟩ := hf_b hf
    refine cl_V (pc := 53) (As := [.int (gI r41.2 23), .int (gI r41.2 24)]) (rest := [.int r41.1]) hx hb hml hown hts (kX0_weighs_27_D3 l D A B _ r41.2 (gI r41.2 23) (gI r41.2 24) r53 hc53) (cwV 2 hts gwRX0_26 rfl rfl rfl hdX0_weighs ⟨Nat.le_of_ble_eq_true rfl, Nat.le_of_ble_eq_true rfl⟩) hN hK hP hD hS hA (va_recv hK hP (ci := 0) (q0 := 27) rfl (eX_27 A B _)) rfl hl.1 rfl (Nat.le_of_ble_eq_true rfl) dX0_parts_53 (st1 := [.int r53.1, .int r41.1]) rfl ⟨Nat.zero_le _, Nat.zero_le _⟩ (fun H locs hP hD hS => ?_)
    refine lv_isub (pc := 56) hx hb dX0_parts_56 ?_
    obtain rfl := Option.some.inj hf
    exact hR H locs 57 ls hP hD hS dX0_parts_57
  · have hf := hf_f e1_3 hf
    by_cases e1_4 : a1 = (4 : Int32)
    · have hf := hf_t e1_4 hf
      refine lv_tableIn (pc := 1) hx hb (off := 57) (tgt := 58) dX0_parts_1 (by rw [e1_4]; decide) (by rw [e1_4]; decide) (by rw [e1_4]; rfl) (by decide) ?_
      refine lv_aload_n (pc := 58) hx hb dX0_parts_58 rfl (lv_at hl 0 rfl) ?_
      refine lv_bipush (pc := 59) hx hb (v := 12) dX0_parts_59 (by decide) ?_
      obtain ⟨r61, hc61, hf⟩ := hf_b hf
      refine cl_V (pc := 61) (As := [.int 12]) (rest := []) hx hb hml hown hts (kX0_begin_27 l D A B _ S 12 r61 hc61) (cwV 1 hts gwRX0_39 rfl rfl rfl hdX0_begin ⟨Nat.le_of_ble_eq_true rfl, Nat.le_of_ble_eq_true rfl⟩) hN hK hP hD hS hA (va_recv hK hP (ci := 0) (q0 := 27) rfl (eX_27 A B _)) rfl hl.1 rfl (Nat.le_of_ble_eq_true rfl) dX0_parts_61 (st1 := []) rfl ⟨Nat.zero_le _, Nat.zero_le _⟩ (fun H locs hP hD hS => ?_)
      refine lv_aload_n (pc := 64) hx hb dX0_parts_64 rfl (lv_at hl 0 rfl) ?_
      refine vXgRX0_46_27 (pc := 65) hx hb hts mU_1006 inU0 hown hK hP (x := (gI r61 24)) rfl dX0_parts_65 ?_
      refine lv_aload_n (pc := 68) hx hb dX0_parts_68 rfl (lv_at hl 0 rfl) ?_
      refine vXgRX0_43_27 (pc := 69) hx hb hts mU_1005 inU0 hown hK hP (x := (gI r61 25)) rfl dX0_parts_69 ?_
      refine lv_isub (pc := 72) hx hb dX0_parts_72 ?_
      refine lv_istore_n (pc := 73) hx hb (lv' := [(3, .int ((gI r61 24) - (gI r61 25))), (0, .ref (A 27)), (1, .int a1), (2, .int a2)]) dX0_parts_73 rfl hl (by decide) rfl (fun ls hl => ?_)
      refine lv_iload_n (pc := 74) hx hb dX0_parts_74 rfl (lv_at hl 0 rfl) ?_
      refine lv_if_ne (pc := 75) hx hb (tgt := 85) dX0_parts_75 (by decide) (fun c_75 => ?_) (fun c_75 => ?_)
      · have hf := hf_f c_75 hf
        refine lv_iload_n (pc := 85) hx hb dX0_parts_85 rfl (lv_at hl 3 rfl) ?_
        refine lv_iload_n (pc := 86) hx hb dX0_parts_86 rfl (lv_at hl 0 rfl) ?_
        obtain ⟨hg87, hf⟩ := hf_g hf
        refine lv_idiv (pc := 87) hx hb dX0_parts_87 hg87 ?_
        obtain rfl := Option.some.inj hf
        exact hR H locs 88 ls hP hD hS dX0_parts_88
      · have hf := hf_t c_75 hf
        refine lv_aload_n (pc := 78) hx hb dX0_parts_78 rfl (lv_at hl 1 rfl) ?_
        refine lv_iconst (pc := 79) hx hb (v := 1) dX0_parts_79 (by decide) ?_
        refine vXpRX0_19_27 (pc := 80) hx hb hts mU_995 inU0 hown hK hP hD hS (by decide) dX0_parts_80 (fun H locs hP hD hS => ?_)
        refine lv_iconst (pc := 83) hx hb (v := 0) dX0_parts_83 (by decide) ?_
        obtain rfl := Option.some.inj hf
        exact hR H locs 84 ls hP hD hS dX0_parts_84
    · have hf := hf_f e1_4 hf
      by_cases e1_5 : a1 = (5 : Int32)
      · have hf := hf_t e1_5 hf
        refine lv_tableIn (pc := 1) hx hb (off := 31) (tgt := 32) dX0_parts_1 (by rw [e1_5]; decide) (by rw [e1_5]; decide) (by rw [e1_5]; rfl) (by decide) ?_
        refine lv_aload_n (pc := 32) hx hb dX0_parts_32 rfl (lv_at hl 0 rfl) ?_
        refine lv_bipush (pc := 33) hx hb (v := 41) dX0_parts_33 (by decide) ?_
        obtain ⟨r35, hc35, hf⟩ := hf_b hf
        refine cl_V (pc := 35) (As := [.int 41]) (rest := []) hx hb hml hown hts (kX0_begin_27 l D A B _ S 41 r35 hc35) (cwV 1 hts gwRX0_39 rfl rfl rfl hdX0_begin ⟨Nat.le_of_ble_eq_true rfl, Nat.le_of_ble_eq_true rfl⟩) hN hK hP hD hS hA (va_recv hK hP (ci := 0) (q0 := 27) rfl (eX_27 A B _)) rfl hl.1 rfl (Nat.le_of_ble_eq_true rfl) dX0_parts_35 (st1 := []) rfl ⟨Nat.zero_le _, Nat.zero_le _⟩ (fun H locs hP hD hS => ?_)
        refine lv_aload_n (pc := 38) hx hb dX0_parts_38 rfl (lv_at hl 0 rfl) ?_
        refine lv_iconst (pc := 39) hx hb (v := 0) dX0_parts_39 (by decide) ?_
        refine lv_iload_n (pc := 40) hx hb dX0_parts_40 rfl (lv_at hl 2 rfl) ?_
        obtain ⟨r41, hc41, hf⟩ := hf_b hf
        refine cl_V (pc := 41) (As := [.int 0, .int a2]) (rest := []) hx hb hml hown hts (kX0_parts_27_D2 l D A B _ r35 0 a2 r41 hc41) (cwV 2 hts gwRX0_33 rfl rfl rfl hdX0_parts ⟨Nat.le_of_ble_eq_true rfl, Nat.le_of_ble_eq_true rfl⟩) hN hK hP hD hS hA (va_recv hK hP (ci := 0) (q0 := 27) rfl (eX_27 A B _)) rfl hl.1 rfl (Nat.le_of_ble_eq_true rfl) dX0_parts_41 (st1 := [.int r41.1]) rfl ⟨Nat.zero_le _, Nat.zero_le _⟩ (fun H locs hP hD hS => ?_)
        refine lv_aload_n (pc := 44) hx hb dX0_parts_44 rfl (lv_at hl 0 rfl) ?_
        refine lv_aload_n (pc := 45) hx hb dX0_parts_45 rfl (lv_at hl 0 rfl) ?_
        refine vXgRX0_23_27 (pc := 46) hx hb hts mU_1000 inU0 hown hK hP (x := (gI r41.2 23)) rfl dX0_parts_46 ?_
        refine lv_aload_n (pc := 49) hx hb dX0_parts_49 rfl (lv_at hl 0 rfl) ?_
        refine vXgRX0_46_27 (pc := 50) hx hb hts mU_1006 inU0 hown hK hP (x := (gI r41.2 24)) rfl dX0_parts_50 ?_
        obtain ⟨r53, hc53, hf⟩ := hf_b hf
        refine cl_V (pc := 53) (As := [.int (gI r41.2 23), .int (gI r41.2 24)]) (rest := [.int r41.1]) hx hb hml hown hts (kX0_weighs_27_D3 l D A B _ r41.2 (gI r41.2 23) (gI r41.2 24) r53 hc53) (cwV 2 hts gwRX0_26 rfl rfl rfl hdX0_weighs ⟨Nat.le_of_ble_eq_true rfl, Nat.le_of_ble_eq_true rfl⟩) hN hK hP hD hS hA (va_recv hK hP (ci := 0) (q0 := 27) rfl (eX_27 A B _)) rfl hl.1 rfl (Nat.le_of_ble_eq_true rfl) dX0_parts_53 (st1 := [.int r53.1, .int r41.1]) rfl ⟨Nat.zero_le _, Nat.zero_le _⟩ (fun H locs hP hD hS => ?_)
        refine lv_isub (pc := 56) hx hb dX0_parts_56 ?_
        obtain rfl := Option.some.inj hf
        exact hR H locs 57 ls hP hD hS dX0_parts_57
      · have hf := hf_f e1_5 hf
        by_cases e1_6 : a1 = (6 : Int32)
        · have hf := hf_t e1_6 hf
          refine lv_tableIn (pc := 1) hx hb (off := 31) (tgt := 32) dX0_parts_1 (by rw [e1_6]; decide) (by rw [e1_6]; decide) (by rw [e1_6]; rfl) (by decide) ?_
          refine lv_aload_n (pc := 32) hx hb dX0_parts_32 rfl (lv_at hl 0 rfl) ?_
          refine lv_bipush (pc := 33) hx hb (v := 41) dX0_parts_33 (by decide) ?_
          obtain ⟨r35, hc35, hf⟩ := hf_b hf
          refine cl_V (pc := 35) (As := [.int 41]) (rest := []) hx hb hml hown hts (kX0_begin_27 l D A B _ S 41 r35 hc35) (cwV 1 hts gwRX0_39 rfl rfl rfl hdX0_begin ⟨Nat.le_of_ble_eq_true rfl, Nat.le_of_ble_eq_true rfl⟩) hN hK hP hD hS hA (va_recv hK hP (ci := 0) (q0 := 27) rfl (eX_27 A B _)) rfl hl.1 rfl (Nat.le_of_ble_eq_true rfl) dX0_parts_35 (st1 := []) rfl ⟨Nat.zero_le _, Nat.zero_le _⟩ (fun H locs hP hD hS => ?_)
          refine lv_aload_n (pc := 38) hx hb dX0_parts_38 rfl (lv_at hl 0 rfl) ?_
          refine lv_iconst (pc := 39) hx hb (v := 0) dX0_parts_39 (by decide) ?_
          refine lv_iload_n (pc := 40) hx hb dX0_parts_40 rfl (lv_at hl 2 rfl) ?_
          obtain ⟨r41, hc41, hf⟩ := hf_b hf
          refine cl_V (pc := 41) (As := [.int 0, .int a2]) (rest := []) hx hb hml hown hts (kX0_parts_27_D2 l D A B _ r35 0 a2 r41 hc41) (cwV 2 hts gwRX0_33 rfl rfl rfl hdX0_parts ⟨Nat.le_of_ble_eq_true rfl, Nat.le_of_ble_eq_true rfl⟩) hN hK hP hD hS hA (va_recv hK hP (ci := 0) (q0 := 27) rfl (eX_27 A B _)) rfl hl.1 rfl (Nat.le_of_ble_eq_true rfl) dX0_parts_41 (st1 := [.int r41.1]) rfl ⟨Nat.zero_le _, Nat.zero_le _⟩ (fun H locs hP hD hS => ?_)
          refine lv_aload_n (pc := 44) hx hb dX0_parts_44 rfl (lv_at hl 0 rfl) ?_
          refine lv_aload_n (pc := 45) hx hb dX0_parts_45 rfl (lv_at hl 0 rfl) ?_
          refine vXgRX0_23_27 (pc := 46) hx hb hts mU_1000 inU0 hown hK hP (x := (gI r41.2 23)) rfl dX0_parts_46 ?_
          refine lv_aload_n (pc := 49) hx hb dX0_parts_49 rfl (lv_at hl 0 rfl) ?_
          refine vXgRX0_46_27 (pc := 50) hx hb hts mU_1006 inU0 hown hK hP (x := (gI r41.2 24)) rfl dX0_parts_50 ?_
          obtain ⟨r53, hc53, hf⟩ := hf_b hf
          refine cl_V (pc := 53) (As := [.int (gI r41.2 23), .int (gI r41.2 24)]) (rest := [.int r41.1]) hx hb hml hown hts (kX0_weighs_27_D3 l D A B _ r41.2 (gI r41.2 23) (gI r41.2 24) r53 hc53) (cwV 2 hts gwRX0_26 rfl rfl rfl hdX0_weighs ⟨Nat.le_of_ble_eq_true rfl, Nat.le_of_ble_eq_true rfl⟩) hN hK hP hD hS hA (va_recv hK hP (ci := 0) (q0 := 27) rfl (eX_27 A B _)) rfl hl.1 rfl (Nat.le_of_ble_eq_true rfl) dX0_parts_53 (st1 := [.int r53.1, .int r41.1]) rfl ⟨Nat.zero_le _, Nat.zero_le _⟩ (fun H locs hP hD hS => ?_)
          refine lv_isub (pc := 56) hx hb dX0_parts_56 ?_
          obtain rfl := Option.some.inj hf
          exact hR H locs 57 ls hP hD hS dX0_parts_57
        · have hf := hf_f e1_6 hf
          have n1_3 := lv_neT (a := 3) e1_3 rfl
          have n1_4 := lv_neT (a := 4) e1_4 rfl
          have n1_5 := lv_neT (a := 5) e1_5 rfl
          have n1_6 := lv_neT (a := 6) e1_6 rfl
          refine lv_tableOut (pc := 1) hx hb (tgt := 58) dX0_parts_1 (by omega) (by decide) ?_
          refine lv_aload_n (pc := 58) hx hb dX0_parts_58 rfl (lv_at hl 0 rfl) ?_
          refine lv_bipush (pc := 59) hx hb (v := 12) dX0_parts_59 (by decide) ?_
          obtain ⟨r61, hc61, hf⟩ := hf_b hf
          refine cl_V (pc := 61) (As := [.int 12]) (rest := []) hx hb hml hown hts (kX0_begin_27 l D A B _ S 12 r61 hc61) (cwV 1 hts gwRX0_39 rfl rfl rfl hdX0_begin ⟨Nat.le_of_ble_eq_true rfl, Nat.le_of_ble_eq_true rfl⟩) hN hK hP hD hS hA (va_recv hK hP (ci := 0) (q0 := 27) rfl (eX_27 A B _)) rfl hl.1 rfl (Nat.le_of_ble_eq_true rfl) dX0_parts_61 (st1 := []) rfl ⟨Nat.zero_le _, Nat.zero_le _⟩ (fun H locs hP hD hS => ?_)
          refine lv_aload_n (pc := 64) hx hb dX0_parts_64 rfl (lv_at hl 0 rfl) ?_
          refine vXgRX0_46_27 (pc := 65) hx hb hts mU_1006 inU0 hown hK hP (x := (gI r61 24)) rfl dX0_parts_65 ?_
          refine lv_aload_n (pc := 68) hx hb dX0_parts_68 rfl (lv_at hl 0 rfl) ?_
          refine vXgRX0_43_27 (pc := 69) hx hb hts mU_1005 inU0 hown hK hP (x := (gI r61 25)) rfl dX0_parts_69 ?_
          refine lv_isub (pc := 72) hx hb dX0_parts_72 ?_
          refine lv_istore_n (pc := 73) hx hb (lv' := [(3, .int ((gI r61 24) - (gI r61 25))), (0, .ref (A 27)), (1, .int a1), (2, .int a2)]) dX0_parts_73 rfl hl (by decide) rfl (fun ls hl => ?_)
          refine lv_iload_n (pc := 74) hx hb dX0_parts_74 rfl (lv_at hl 0 rfl) ?_
          refine lv_if_ne (pc := 75) hx hb (tgt := 85) dX0_parts_75 (by decide) (fun c_75 => ?_) (fun c_75 => ?_)
          · have hf := hf_f c_75 hf
            refine lv_iload_n (pc := 85) hx hb dX0_parts_85 rfl (lv_at hl 3 rfl) ?_
            refine lv_iload_n (pc := 86) hx hb dX0_parts_86 rfl (lv_at hl 0 rfl) ?_
            obtain ⟨hg87, hf⟩ := hf_g hf
            refine lv_idiv (pc := 87) hx hb dX0_parts_87 hg87 ?_
            obtain rfl := Option.some.inj hf
            exact hR H locs 88 ls hP hD hS dX0_parts_88
          · have hf := hf_t c_75 hf
            refine lv_aload_n (pc := 78) hx hb dX0_parts_78 rfl (lv_at hl 1 rfl) ?_
            refine lv_iconst (pc := 79) hx hb (v := 1) dX0_parts_79 (by decide) ?_
            refine vXpRX0_19_27 (pc := 80) hx hb hts mU_995 inU0 hown hK hP hD hS (by decide) dX0_parts_80 (fun H locs hP hD hS => ?_)
            refine lv_iconst (pc := 83) hx hb (v := 0) dX0_parts_83 (by decide) ?_
            obtain rfl := Option.some.inj hf
            exact hR H locs 84 ls hP hD hS dX0_parts_84
set_option maxHeartbeats 4000000 in
set_option maxRecDepth 100000 in
theorem kX0_turns_27_D0 (l : Launch) (D : va_G) (A : Nat → Nat) (B : Nat → ClassId) (sz : Nat) (S : w_S) (a1 : Int32) (a2 : Int32) (z : Int32 × w_S) (hf : fX0_turns_27_D0 S a1 a2 = some z) : MetW l yX0_turns (wsO yX0_turns cX0_turns 3 (some .int)) rm_X0_turns_D0 [.ref (A 27), .int a1, .int a2] D (tyB B) (wX A B S) (wX A B z.2) sz (some (.int z.1)) := by
  rw [fX0_turns_27_D0] at hf
  cases hf
set_option maxHeartbeats 4000000 in
set_option maxRecDepth 100000 in
theorem kX0_turns_27_D1 (l : Launch) (D : va_G) (A : Nat → Nat) (B : Nat → ClassId) (sz : Nat) (S : w_S) (a1 : Int32) (a2 : Int32) (z : Int32 × w_S) (hf : fX0_turns_27_D1 S a1 a2 = some z) : MetW l yX0_turns (wsO yX0_turns cX0_turns 3 (some .int)) rm_X0_turns_D1 [.ref (A 27), .int a1, .int a2] D (tyB B) (wX A B S) (wX A B z.2) sz (some (.int z.1)) := by
  refine MetW.mkI (cc := cX0_turns) (maxL := 3) (by decide) (Nat.le_of_ble_eq_true rfl) ?_
  intro p e s m args below meth c Ad Q hx hb hts hown hml hN hK hA hR H locs ls hP hD hS hl
  have hl : lv_has ls 3 [(0, .ref (A 27)), (1, .int a1), (2, .int a2)] := hl
  rw [fX0_turns_27_D1] at hf
  refine lv_iload_n (pc := 0) hx hb dX0_turns_0 rfl (lv_at hl 1 rfl) ?_
  by_cases e1_2 : a1 = (2 : Int32)
  · have hf := hf_t e1_2 hf
    refine lv_lookup (pc := 1) hx hb (off := 27) (tgt := 28) dX0_turns_1 (by decide) (by rw [e1_2]; rfl) (by decide) ?_
    refine lv_aload_n (pc := 28) hx hb dX0_turns_28 rfl (lv_at hl 0 rfl) ?_
    refine lv_bipush (pc := 29) hx hb (v := 30) dX0_turns_29 (by decide) ?_
    obtain ⟨r31, hc31, hf⟩ := hf_b hf
    refine cl_V (pc := 31) (As := [.int 30]) (rest := []) hx hb hml hown hts (kX0_begin_27 l D A B _ S 30 r31 hc31) (cwV 1 hts gwRX0_39 rfl rfl rfl hdX0_begin ⟨Nat.le_of_ble_eq_true rfl, Nat.le_of_ble_eq_true rfl⟩) hN hK hP hD hS hA (va_recv hK hP (ci := 0) (q0 := 27) rfl (eX_27 A B _)) rfl hl.1 rfl (Nat.le_of_ble_eq_true rfl) dX0_turns_31 (st1 := []) rfl ⟨Nat.zero_le _, Nat.zero_le _⟩ (fun H locs hP hD hS => ?_)
    refine lv_iconst (pc := 34) hx hb (v := 0) dX0_turns_34 (by decide) ?_
    refine lv_aload_n (pc := 35) hx hb dX0_turns_35 rfl (lv_at hl 0 rfl) ?_
    refine lv_iconst (pc := 36) hx hb (v := 0) dX0_turns_36 (by decide) ?_
    refine lv_iload_n (pc := 37) hx hb dX0_turns_37 rfl (lv_at hl 2 rfl) ?_
    obtain ⟨r38, hc38, hf⟩ := hf_b hf
    refine cl_V (pc := 38) (As := [.int 0, .int a2]) (rest := [.int 0]) hx hb hml hown hts (kX0_turns_27_D0 l D A B _ r31 0 a2 r38 hc38) (cwV 2 hts gwRX0_30 rfl rfl rfl hdX0_turns ⟨Nat.le_of_ble_eq_true rfl, Nat.le_of_ble_eq_true rfl⟩) hN hK hP hD hS hA (va_recv hK hP (ci := 0) (q0 := 27) rfl (eX_27 A B _)) rfl hl.1 rfl (Nat.le_of_ble_eq_true rfl) dX0_turns_38 (st1 := [.int r38.1, .int 0]) rfl ⟨Nat.zero_le _, Nat.zero_le _⟩ (fun H locs hP hD hS => ?_)
    refine lv_isub (pc := 41) hx hb dX0_turns_41 ?_
    obtain rfl := Option.some.inj hf
    exact hR H locs 42 ls hP hD hS dX0_turns_42
  · have hf := hf_f e1_2 hf
    by_cases e1_4 : a1 = (4 : Int32)
    · have hf := hf_t e1_4 hf
      refine lv_lookup (pc := 1) hx hb (off := 42) (tgt := 43) dX0_turns_1 (by decide) (by rw [e1_4]; rfl) (by decide) ?_
      refine lv_aload_n (pc := 43) hx hb dX0_turns_43 rfl (lv_at hl 0 rfl) ?_
      refine lv_bipush (pc := 44) hx hb (v := 50) dX0_turns_44 (by decide) ?_
      obtain ⟨r46, hc46, hf⟩ := hf_b hf
      refine cl_V (pc := 46) (As := [.int 50]) (rest := []) hx hb hml hown hts (kX0_begin_27 l D A B _ S 50 r46 hc46) (cwV 1 hts gwRX0_39 rfl rfl rfl hdX0_begin ⟨Nat.le_of_ble_eq_true rfl, Nat.le_of_ble_eq_true rfl⟩) hN hK hP hD hS hA (va_recv hK hP (ci := 0) (q0 := 27) rfl (eX_27 A B _)) rfl hl.1 rfl (Nat.le_of_ble_eq_true rfl) dX0_turns_46 (st1 := []) rfl ⟨Nat.zero_le _, Nat.zero_le _⟩ (fun H locs hP hD hS => ?_)
      refine lv_aload_n (pc := 49) hx hb dX0_turns_49 rfl (lv_at hl 0 rfl) ?_
      refine lv_iconst (pc := 50) hx hb (v := 2) dX0_turns_50 (by decide) ?_
      refine lv_iload_n (pc := 51) hx hb dX0_turns_51 rfl (lv_at hl 2 rfl) ?_
      refine lv_aload_n (pc := 52) hx hb dX0_turns_52 rfl (lv_at hl 0 rfl) ?_
      refine vXgRX0_43_27 (pc := 53) hx hb hts mU_1005 inU0 hown hK hP (x := (gI r46 25)) rfl dX0_turns_53 ?_
      refine lv_iadd (pc := 56) hx hb dX0_turns_56 ?_
      obtain ⟨r57, hc57, hf⟩ := hf_b hf
      refine cl_V (pc := 57) (As := [.int 2, .int (a2 + (gI r46 25))]) (rest := []) hx hb hml hown hts (kX0_turns_27_D0 l D A B _ r46 2 (a2 + (gI r46 25)) r57 hc57) (cwV 2 hts gwRX0_30 rfl rfl rfl hdX0_turns ⟨Nat.le_of_ble_eq_true rfl, Nat.le_of_ble_eq_true rfl⟩) hN hK hP hD hS hA (va_recv hK hP (ci := 0) (q0 := 27) rfl (eX_27 A B _)) rfl hl.1 rfl (Nat.le_of_ble_eq_true rfl) dX0_turns_57 (st1 := [.int r57.1]) rfl ⟨Nat.zero_le _, Nat.zero_le _⟩ (fun H locs hP hD hS => ?_)
      refine lv_iconst (pc := 60) hx hb (v := 3) dX0_turns_60 (by decide) ?_
      refine lv_ixor (pc := 61) hx hb dX0_turns_61 ?_
      obtain rfl := Option.some.inj hf
      exact hR H locs 62 ls hP hD hS dX0_turns_62
    · have hf := hf_f e1_4 hf
      refine lv_lookup (pc := 1) hx hb (off := 62) (tgt := 63) dX0_turns_1 (by decide) (by simp only [lv_osw e1_2 (a := 2) rfl, lv_osw e1_4 (a := 4) rfl]; rfl) (by decide) ?_
      refine lv_aload_n (pc := 63) hx hb dX0_turns_63 rfl (lv_at hl 0 rfl) ?_
      refine lv_bipush (pc := 64) hx hb (v := 11) dX0_turns_64 (by decide) ?_
      obtain ⟨r66, hc66, hf⟩ := hf_b hf
      refine cl_V (pc := 66) (As := [.int 11]) (rest := []) hx hb hml hown hts (kX0_begin_27 l D A B _ S 11 r66 hc66) (cwV 1 hts gwRX0_39 rfl rfl rfl hdX0_begin ⟨Nat.le_of_ble_eq_true rfl, Nat.le_of_ble_eq_true rfl⟩) hN hK hP hD hS hA (va_recv hK hP (ci := 0) (q0 := 27) rfl (eX_27 A B _)) rfl hl.1 rfl (Nat.le_of_ble_eq_true rfl) dX0_turns_66 (st1 := []) rfl ⟨Nat.zero_le _, Nat.zero_le _⟩ (fun H locs hP hD hS => ?_)
      refine lv_aload_n (pc := 69) hx hb dX0_turns_69 rfl (lv_at hl 0 rfl) ?_
      refine lv_aload_n (pc := 70) hx hb dX0_turns_70 rfl (lv_at hl 0 rfl) ?_
      refine vXgRX0_23_27 (pc := 71) hx hb hts mU_1000 inU0 hown hK hP (x := (gI r66 23)) rfl dX0_turns_71 ?_
      refine lv_iload_n (pc := 74) hx hb dX0_turns_74 rfl (lv_at hl 2 rfl) ?_
      obtain ⟨r75, hc75, hf⟩ := hf_b hf
      refine cl_V (pc := 75) (As := [.int (gI r66 23), .int a2]) (rest := []) hx hb hml hown hts (kX0_weighs_27_D3 l D A B _ r66 (gI r66 23) a2 r75 hc75) (cwV 2 hts gwRX0_26 rfl rfl rfl hdX0_weighs ⟨Nat.le_of_ble_eq_true rfl, Nat.le_of_ble_eq_true rfl⟩) hN hK hP hD hS hA (va_recv hK hP (ci := 0) (q0 := 27) rfl (eX_27 A B _)) rfl hl.1 rfl (Nat.le_of_ble_eq_true rfl) dX0_turns_75 (st1 := [.int r75.1]) rfl ⟨Nat.zero_le _, Nat.zero_le _⟩ (fun H locs hP hD hS => ?_)
      refine lv_aload_n (pc := 78) hx hb dX0_turns_78 rfl (lv_at hl 0 rfl) ?_
      refine vXgRX0_43_27 (pc := 79) hx hb hts mU_1005 inU0 hown hK hP (x := (gI r75.2 25)) rfl dX0_turns_79 ?_
      refine lv_isub (pc := 82) hx hb dX0_turns_82 ?_
      obtain rfl := Option.some.inj hf
      exact hR H locs 83 ls hP hD hS dX0_turns_83
set_option maxHeartbeats 4000000 in
set_option maxRecDepth 100000 in
theorem kX0_turns_27_D2 (l : Launch) (D : va_G) (A : Nat → Nat) (B : Nat → ClassId) (sz : Nat) (S : w_S) (a1 : Int32) (a2 : Int32) (z : Int32 × w_S) (hf : fX0_turns_27_D2 S a1 a2 = some z) : MetW l yX0_turns (wsO yX0_turns cX0_turns 3 (some .int)) rm_X0_turns_D2 [.ref (A 27), .int a1, .int a2] D (tyB B) (wX A B S) (wX A B z.2) sz (some (.int z.1)) := by
  refine MetW.mkI (cc := cX0_turns) (maxL := 3) (by decide) (Nat.le_of_ble_eq_true rfl) ?_
  intro p e s m args below meth c Ad Q hx hb hts hown hml hN hK hA hR H locs ls hP hD hS hl
  have hl : lv_has ls 3 [(0, .ref (A 27)), (1, .int a1), (2, .int a2)] := hl
  rw [fX0_turns_27_D2] at hf
  refine lv_iload_n (pc := 0) hx hb dX0_turns_0 rfl (lv_at hl 1 rfl) ?_
  by_cases e1_2 : a1 = (2 : Int32)
  · have hf := hf_t e1_2 hf
    refine lv_lookup (pc := 1) hx hb (off := 27) (tgt := 28) dX0_turns_1 (by decide) (by rw [e1_2]; rfl) (by decide) ?_
    refine lv_aload_n (pc := 28) hx hb dX0_turns_28 rfl (lv_at hl 0 rfl) ?_
    refine lv_bipush (pc := 29) hx hb (v := 30) dX0_turns_29 (by decide) ?_
    obtain ⟨r31, hc31, hf⟩ := hf_b hf
    refine cl_V (pc := 31) (As := [.int 30]) (rest := []) hx hb hml hown hts (kX0_begin_27 l D A B _ S 30 r31 hc31) (cwV 1 hts gwRX0_39 rfl rfl rfl hdX0_begin ⟨Nat.le_of_ble_eq_true rfl, Nat.le_of_ble_eq_true rfl⟩) hN hK hP hD hS hA (va_recv hK hP (ci := 0) (q0 := 27) rfl (eX_27 A B _)) rfl hl.1 rfl (Nat.le_of_ble_eq_true rfl) dX0_turns_31 (st1 := []) rfl ⟨Nat.zero_le _, Nat.zero_le _⟩ (fun H locs hP hD hS => ?_)
    refine lv_iconst (pc := 34) hx hb (v := 0) dX0_turns_34 (by decide) ?_
    refine lv_aload_n (pc := 35) hx hb dX0_turns_35 rfl (lv_at hl 0 rfl) ?_
    refine lv_iconst (pc := 36) hx hb (v := 0) dX0_turns_36 (by decide) ?_
    refine lv_iload_n (pc := 37) hx hb dX0_turns_37 rfl (lv_at hl 2 rfl) ?_
    obtain ⟨r38, hc38, hf⟩ := hf_b hf
    refine cl_V (pc := 38) (As := [.int 0, .int a2]) (rest := [.int 0]) hx hb hml hown hts (kX0_turns_27_D1 l D A B _ r31 0 a2 r38 hc38) (cwV 2 hts gwRX0_30 rfl rfl rfl hdX0_turns ⟨Nat.le_of_ble_eq_true rfl, Nat.le_of_ble_eq_true rfl⟩) hN hK hP hD hS hA (va_recv hK hP (ci := 0) (q0 := 27) rfl (eX_27 A B _)) rfl hl.1 rfl (Nat.le_of_ble_eq_true rfl) dX0_turns_38 (st1 := [.int r38.1, .int 0]) rfl ⟨Nat.zero_le _, Nat.zero_le _⟩ (fun H locs hP hD hS => ?_)
    refine lv_isub (pc := 41) hx hb dX0_turns_41 ?_
    obtain rfl := Option.some.inj hf
    exact hR H locs 42 ls hP hD hS dX0_turns_42
  · have hf := hf_f e1_2 hf
    by_cases e1_4 : a1 = (4 : Int32)
    · have hf := hf_t e1_4 hf
      refine lv_lookup (pc := 1) hx hb (off := 42) (tgt := 43) dX0_turns_1 (by decide) (by rw [e1_4]; rfl) (by decide) ?_
      refine lv_aload_n (pc := 43) hx hb dX0_turns_43 rfl (lv_at hl 0 rfl) ?_
      refine lv_bipush (pc := 44) hx hb (v := 50) dX0_turns_44 (by decide) ?_
      obtain ⟨r46, hc46, hf⟩ := hf_b hf
      refine cl_V (pc := 46) (As := [.int 50]) (rest := []) hx hb hml hown hts (kX0_begin_27 l D A B _ S 50 r46 hc46) (cwV 1 hts gwRX0_39 rfl rfl rfl hdX0_begin ⟨Nat.le_of_ble_eq_true rfl, Nat.le_of_ble_eq_true rfl⟩) hN hK hP hD hS hA (va_recv hK hP (ci := 0) (q0 := 27) rfl (eX_27 A B _)) rfl hl.1 rfl (Nat.le_of_ble_eq_true rfl) dX0_turns_46 (st1 := []) rfl ⟨Nat.zero_le _, Nat.zero_le _⟩ (fun H locs hP hD hS => ?_)
      refine lv_aload_n (pc := 49) hx hb dX0_turns_49 rfl (lv_at hl 0 rfl) ?_
      refine lv_iconst (pc := 50) hx hb (v := 2) dX0_turns_50 (by decide) ?_
      refine lv_iload_n (pc := 51) hx hb dX0_turns_51 rfl (lv_at hl 2 rfl) ?_
      refine lv_aload_n (pc := 52) hx hb dX0_turns_52 rfl (lv_at hl 0 rfl) ?_
      refine vXgRX0_43_27 (pc := 53) hx hb hts mU_1005 inU0 hown hK hP (x := (gI r46 25)) rfl dX0_turns_53 ?_
      refine lv_iadd (pc := 56) hx hb dX0_turns_56 ?_
      obtain ⟨r57, hc57, hf⟩ := hf_b hf
      refine cl_V (pc := 57) (As := [.int 2, .int (a2 + (gI r46 25))]) (rest := []) hx hb hml hown hts (kX0_turns_27_D1 l D A B _ r46 2 (a2 + (gI r46 25)) r57 hc57) (cwV 2 hts gwRX0_30 rfl rfl rfl hdX0_turns ⟨Nat.le_of_ble_eq_true rfl, Nat.le_of_ble_eq_true rfl⟩) hN hK hP hD hS hA (va_recv hK hP (ci := 0) (q0 := 27) rfl (eX_27 A B _)) rfl hl.1 rfl (Nat.le_of_ble_eq_true rfl) dX0_turns_57 (st1 := [.int r57.1]) rfl ⟨Nat.zero_le _, Nat.zero_le _⟩ (fun H locs hP hD hS => ?_)
      refine lv_iconst (pc := 60) hx hb (v := 3) dX0_turns_60 (by decide) ?_
      refine lv_ixor (pc := 61) hx hb dX0_turns_61 ?_
      obtain rfl := Option.some.inj hf
      exact hR H locs 62 ls hP hD hS dX0_turns_62
    · have hf := hf_f e1_4 hf
      refine lv_lookup (pc := 1) hx hb (off := 62) (tgt := 63) dX0_turns_1 (by decide) (by simp only [lv_osw e1_2 (a := 2) rfl, lv_osw e1_4 (a := 4) rfl]; rfl) (by decide) ?_
      refine lv_aload_n (pc := 63) hx hb dX0_turns_63 rfl (lv_at hl 0 rfl) ?_
      refine lv_bipush (pc := 64) hx hb (v := 11) dX0_turns_64 (by decide) ?_
      obtain ⟨r66, hc66, hf⟩ := hf_b hf
      refine cl_V (pc := 66) (As := [.int 11]) (rest := []) hx hb hml hown hts (kX0_begin_27 l D A B _ S 11 r66 hc66) (cwV 1 hts gwRX0_39 rfl rfl rfl hdX0_begin ⟨Nat.le_of_ble_eq_true rfl, Nat.le_of_ble_eq_true rfl⟩) hN hK hP hD hS hA (va_recv hK hP (ci := 0) (q0 := 27) rfl (eX_27 A B _)) rfl hl.1 rfl (Nat.le_of_ble_eq_true rfl) dX0_turns_66 (st1 := []) rfl ⟨Nat.zero_le _, Nat.zero_le _⟩ (fun H locs hP hD hS => ?_)
      refine lv_aload_n (pc := 69) hx hb dX0_turns_69 rfl (lv_at hl 0 rfl) ?_
      refine lv_aload_n (pc := 70) hx hb dX0_turns_70 rfl (lv_at hl 0 rfl) ?_
      refine vXgRX0_23_27 (pc := 71) hx hb hts mU_1000 inU0 hown hK hP (x := (gI r66 23)) rfl dX0_turns_71 ?_
      refine lv_iload_n (pc := 74) hx hb dX0_turns_74 rfl (lv_at hl 2 rfl) ?_
      obtain ⟨r75, hc75, hf⟩ := hf_b hf
      refine cl_V (pc := 75) (As := [.int (gI r66 23), .int a2]) (rest := []) hx hb hml hown hts (kX0_weighs_27_D3 l D A B _ r66 (gI r66 23) a2 r75 hc75) (cwV 2 hts gwRX0_26 rfl rfl rfl hdX0_weighs ⟨Nat.le_of_ble_eq_true rfl, Nat.le_of_ble_eq_true rfl⟩) hN hK hP hD hS hA (va_recv hK hP (ci := 0) (q0 := 27) rfl (eX_27 A B _)) rfl hl.1 rfl (Nat.le_of_ble_eq_true rfl) dX0_turns_75 (st1 := [.int r75.1]) rfl ⟨Nat.zero_le _, Nat.zero_le _⟩ (fun H locs hP hD hS => ?_)
      refine lv_aload_n (pc := 78) hx hb dX0_turns_78 rfl (lv_at hl 0 rfl) ?_
      refine vXgRX0_43_27 (pc := 79) hx hb hts mU_1005 inU0 hown hK hP (x := (gI r75.2 25)) rfl dX0_turns_79 ?_
      refine lv_isub (pc := 82) hx hb dX0_turns_82 ?_
      obtain rfl := Option.some.inj hf
      exact hR H locs 83 ls hP hD hS dX0_turns_83
set_option maxHeartbeats 4000000 in
set_option maxRecDepth 100000 in
theorem kX0_turns_27_D3 (l : Launch) (D : va_G) (A : Nat → Nat) (B : Nat → ClassId) (sz : Nat) (S : w_S) (a1 : Int32) (a2 : Int32) (z : Int32 × w_S) (hf : fX0_turns_27_D3 S a1 a2 = some z) : MetW l yX0_turns (wsO yX0_turns cX0_turns 3 (some .int)) rm_X0_turns_D3 [.ref (A 27), .int a1, .int a2] D (tyB B) (wX A B S) (wX A B z.2) sz (some (.int z.1)) := by
  refine MetW.mkI (cc := cX0_turns) (maxL := 3) (by decide) (Nat.le_of_ble_eq_true rfl) ?_
  intro p e s m args below meth c Ad Q hx hb hts hown hml hN hK hA hR H locs ls hP hD hS hl
  have hl : lv_has ls 3 [(0, .ref (A 27)), (1, .int a1), (2, .int a2)] := hl
  rw [fX0_turns_27_D3] at hf
  refine lv_iload_n (pc := 0) hx hb dX0_turns_0 rfl (lv_at hl 1 rfl) ?_
  by_cases e1_2 : a1 = (2 : Int32)
  · have hf := hf_t e1_2 hf
    refine lv_lookup (pc := 1) hx hb (off := 27) (tgt := 28) dX0_turns_1 (by decide) (by rw [e1_2]; rfl) (by decide) ?_
    refine lv_aload_n (pc := 28) hx hb dX0_turns_28 rfl (lv_at hl 0 rfl) ?_
    refine lv_bipush (pc := 29) hx hb (v := 30) dX0_turns_29 (by decide) ?_
    obtain ⟨r31, hc31, hf⟩ := hf_b hf
    refine cl_V (pc := 31) (As := [.int 30]) (rest := []) hx hb hml hown hts (kX0_begin_27 l D A B _ S 30 r31 hc31) (cwV 1 hts gwRX0_39 rfl rfl rfl hdX0_begin ⟨Nat.le_of_ble_eq_true rfl, Nat.le_of_ble_eq_true rfl⟩) hN hK hP hD hS hA (va_recv hK hP (ci := 0) (q0 := 27) rfl (eX_27 A B _)) rfl hl.1 rfl (Nat.le_of_ble_eq_true rfl) dX0_turns_31 (st1 := []) rfl ⟨Nat.zero_le _, Nat.zero_le _⟩ (fun H locs hP hD hS => ?_)
    refine lv_iconst (pc := 34) hx hb (v := 0) dX0_turns_34 (by decide) ?_
    refine lv_aload_n (pc := 35) hx hb dX0_turns_35 rfl (lv_at hl 0 rfl) ?_
    refine lv_iconst (pc := 36) hx hb (v := 0) dX0_turns_36 (by decide) ?_
    refine lv_iload_n (pc := 37) hx hb dX0_turns_37 rfl (lv_at hl 2 rfl) ?_
    obtain ⟨r38, hc38, hf⟩ := hf_b hf
    refine cl_V (pc := 38) (As := [.int 0, .int a2]) (rest := [.int 0]) hx hb hml hown hts (kX0_turns_27_D2 l D A B _ r31 0 a2 r38 hc38) (cwV 2 hts gwRX0_30 rfl rfl rfl hdX0_turns ⟨Nat.le_of_ble_eq_true rfl, Nat.le_of_ble_eq_true rfl⟩) hN hK hP hD hS hA (va_recv hK hP (ci := 0) (q0 := 27) rfl (eX_27 A B _)) rfl hl.1 rfl (Nat.le_of_ble_eq_true rfl) dX0_turns_38 (st1 := [.int r38.1, .int 0]) rfl ⟨Nat.zero_le _, Nat.zero_le _⟩ (fun H locs hP hD hS => ?_)
    refine lv_isub (pc := 41) hx hb dX0_turns_41 ?_
    obtain rfl := Option.some.inj hf
    exact hR H locs 42 ls hP hD hS dX0_turns_42
  · have hf := hf_f e1_2 hf
    by_cases e1_4 : a1 = (4 : Int32)
    · have hf := hf_t e1_4 hf
      refine lv_lookup (pc := 1) hx hb (off := 42) (tgt := 43) dX0_turns_1 (by decide) (by rw [e1_4]; rfl) (by decide) ?_
      refine lv_aload_n (pc := 43) hx hb dX0_turns_43 rfl (lv_at hl 0 rfl) ?_
      refine lv_bipush (pc := 44) hx hb (v := 50) dX0_turns_44 (by decide) ?_
      obtain ⟨r46, hc46, hf⟩ := hf_b hf
      refine cl_V (pc := 46) (As := [.int 50]) (rest := []) hx hb hml hown hts (kX0_begin_27 l D A B _ S 50 r46 hc46) (cwV 1 hts gwRX0_39 rfl rfl rfl hdX0_begin ⟨Nat.le_of_ble_eq_true rfl, Nat.le_of_ble_eq_true rfl⟩) hN hK hP hD hS hA (va_recv hK hP (ci := 0) (q0 := 27) rfl (eX_27 A B _)) rfl hl.1 rfl (Nat.le_of_ble_eq_true rfl) dX0_turns_46 (st1 := []) rfl ⟨Nat.zero_le _, Nat.zero_le _⟩ (fun H locs hP hD hS => ?_)
      refine lv_aload_n (pc := 49) hx hb dX0_turns_49 rfl (lv_at hl 0 rfl) ?_
      refine lv_iconst (pc := 50) hx hb (v := 2) dX0_turns_50 (by decide) ?_
      refine lv_iload_n (pc := 51) hx hb dX0_turns_51 rfl (lv_at hl 2 rfl) ?_
      refine lv_aload_n (pc := 52) hx hb dX0_turns_52 rfl (lv_at hl 0 rfl) ?_
      refine vXgRX0_43_27 (pc := 53) hx hb hts mU_1005 inU0 hown hK hP (x := (gI r46 25)) rfl dX0_turns_53 ?_
      refine lv_iadd (pc := 56) hx hb dX0_turns_56 ?_
      obtain ⟨r57, hc57, hf⟩ := hf_b hf
      refine cl_V (pc := 57) (As := [.int 2, .int (a2 + (gI r46 25))]) (rest := []) hx hb hml hown hts (kX0_turns_27_D2 l D A B _ r46 2 (a2 + (gI r46 25)) r57 hc57) (cwV 2 hts gwRX0_30 rfl rfl rfl hdX0_turns ⟨Nat.le_of_ble_eq_true rfl, Nat.le_of_ble_eq_true rfl⟩) hN hK hP hD hS hA (va_recv hK hP (ci := 0) (q0 := 27) rfl (eX_27 A B _)) rfl hl.1 rfl (Nat.le_of_ble_eq_true rfl) dX0_turns_57 (st1 := [.int r57.1]) rfl ⟨Nat.zero_le _, Nat.zero_le _⟩ (fun H locs hP hD hS => ?_)
      refine lv_iconst (pc := 60) hx hb (v := 3) dX0_turns_60 (by decide) ?_
      refine lv_ixor (pc := 61) hx hb dX0_turns_61 ?_
      obtain rfl := Option.some.inj hf
      exact hR H locs 62 ls hP hD hS dX0_turns_62
    · have hf := hf_f e1_4 hf
      refine lv_lookup (pc := 1) hx hb (off := 62) (tgt := 63) dX0_turns_1 (by decide) (by simp only [lv_osw e1_2 (a := 2) rfl, lv_osw e1_4 (a := 4) rfl]; rfl) (by decide) ?_
      refine lv_aload_n (pc := 63) hx hb dX0_turns_63 rfl (lv_at hl 0 rfl) ?_
      refine lv_bipush (pc := 64) hx hb (v := 11) dX0_turns_64 (by decide) ?_
      obtain ⟨r66, hc66, hf⟩ := hf_b hf
      refine cl_V (pc := 66) (As := [.int 11]) (rest := []) hx hb hml hown hts (kX0_begin_27 l D A B _ S 11 r66 hc66) (cwV 1 hts gwRX0_39 rfl rfl rfl hdX0_begin ⟨Nat.le_of_ble_eq_true rfl, Nat.le_of_ble_eq_true rfl⟩) hN hK hP hD hS hA (va_recv hK hP (ci := 0) (q0 := 27) rfl (eX_27 A B _)) rfl hl.1 rfl (Nat.le_of_ble_eq_true rfl) dX0_turns_66 (st1 := []) rfl ⟨Nat.zero_le _, Nat.zero_le _⟩ (fun H locs hP hD hS => ?_)
      refine lv_aload_n (pc := 69) hx hb dX0_turns_69 rfl (lv_at hl 0 rfl) ?_
      refine lv_aload_n (pc := 70) hx hb dX0_turns_70 rfl (lv_at hl 0 rfl) ?_
      refine vXgRX0_23_27 (pc := 71) hx hb hts mU_1000 inU0 hown hK hP (x := (gI r66 23)) rfl dX0_turns_71 ?_
      refine lv_iload_n (pc := 74) hx hb dX0_turns_74 rfl (lv_at hl 2 rfl) ?_
      obtain ⟨r75, hc75, hf⟩ := hf_b hf
      refine cl_V (pc := 75) (As := [.int (gI r66 23), .int a2]) (rest := []) hx hb hml hown hts (kX0_weighs_27_D3 l D A B _ r66 (gI r66 23) a2 r75 hc75) (cwV 2 hts gwRX0_26 rfl rfl rfl hdX0_weighs ⟨Nat.le_of_ble_eq_true rfl, Nat.le_of_ble_eq_true rfl⟩) hN hK hP hD hS hA (va_recv hK hP (ci := 0) (q0 := 27) rfl (eX_27 A B _)) rfl hl.1 rfl (Nat.le_of_ble_eq_true rfl) dX0_turns_75 (st1 := [.int r75.1]) rfl ⟨Nat.zero_le _, Nat.zero_le _⟩ (fun H locs hP hD hS => ?_)
      refine lv_aload_n (pc := 78) hx hb dX0_turns_78 rfl (lv_at hl 0 rfl) ?_
      refine vXgRX0_43_27 (pc := 79) hx hb hts mU_1005 inU0 hown hK hP (x := (gI r75.2 25)) rfl dX0_turns_79 ?_
      refine lv_isub (pc := 82) hx hb dX0_turns_82 ?_
      obtain rfl := Option.some.inj hf
      exact hR H locs 83 ls hP hD hS dX0_turns_83
set_option maxHeartbeats 4000000 in
set_option maxRecDepth 100000 in
theorem kX0_closes_27_D1 (l : Launch) (D : va_G) (A : Nat → Nat) (B : Nat → ClassId) (sz : Nat) (S : w_S) (a1 : Int32) (a2 : Int32) (z : Int32 × w_S) (hf : fX0_closes_27_D1 S a1 a2 = some z) : MetW l yX0_closes (wsO yX0_closes cX0_closes 3 (some .int)) rm_X0_closes_D1 [.ref (A 27), .int a1, .int a2] D (tyB B) (wX A B S) (wX A B z.2) sz (some (.int z.1)) := by
  refine MetW.mkI (cc := cX0_closes) (maxL := 3) (by decide) (Nat.le_of_ble_eq_true rfl) ?_
  intro p e s m args below meth c Ad Q hx hb hts hown hml hN hK hA hR H locs ls hP hD hS hl
  have hl : lv_has ls 3 [(0, .ref (A 27)), (1, .int a1), (2, .int a2)] := hl
  rw [fX0_closes_27_D1] at hf
  refine lv_iload_n (pc := 0) hx hb dX0_closes_0 rfl (lv_at hl 1 rfl) ?_
  by_cases e1_5 : a1 = (5 : Int32)
  · have hf := hf_t e1_5 hf
    refine lv_lookup (pc := 1) hx hb (off := 27) (tgt := 28) dX0_closes_1 (by decide) (by rw [e1_5]; rfl) (by decide) ?_
    refine lv_aload_n (pc := 28) hx hb dX0_closes_28 rfl (lv_at hl 0 rfl) ?_
    refine lv_bipush (pc := 29) hx hb (v := 60) dX0_closes_29 (by decide) ?_
    obtain ⟨r31, hc31, hf⟩ := hf_b hf
    refine cl_V (pc := 31) (As := [.int 60]) (rest := []) hx hb hml hown hts (kX0_begin_27 l D A B _ S 60 r31 hc31) (cwV 1 hts gwRX0_39 rfl rfl rfl hdX0_begin ⟨Nat.le_of_ble_eq_true rfl, Nat.le_of_ble_eq_true rfl⟩) hN hK hP hD hS hA (va_recv hK hP (ci := 0) (q0 := 27) rfl (eX_27 A B _)) rfl hl.1 rfl (Nat.le_of_ble_eq_true rfl) dX0_closes_31 (st1 := []) rfl ⟨Nat.zero_le _, Nat.zero_le _⟩ (fun H locs hP hD hS => ?_)
    refine lv_aload_n (pc := 34) hx hb dX0_closes_34 rfl (lv_at hl 0 rfl) ?_
    refine lv_iconst (pc := 35) hx hb (v := 0) dX0_closes_35 (by decide) ?_
    refine lv_iload_n (pc := 36) hx hb dX0_closes_36 rfl (lv_at hl 2 rfl) ?_
    obtain ⟨r37, hc37, hf⟩ := hf_b hf
    refine cl_V (pc := 37) (As := [.int 0, .int a2]) (rest := []) hx hb hml hown hts (kX0_closes_27_D0 l D A B _ r31 0 a2 r37 hc37) (cwV 2 hts gwRX0_36 rfl rfl rfl hdX0_closes ⟨Nat.le_of_ble_eq_true rfl, Nat.le_of_ble_eq_true rfl⟩) hN hK hP hD hS hA (va_recv hK hP (ci := 0) (q0 := 27) rfl (eX_27 A B _)) rfl hl.1 rfl (Nat.le_of_ble_eq_true rfl) dX0_closes_37 (st1 := [.int r37.1]) rfl ⟨Nat.zero_le _, Nat.zero_le _⟩ (fun H locs hP hD hS => ?_)
    refine lv_aload_n (pc := 40) hx hb dX0_closes_40 rfl (lv_at hl 0 rfl) ?_
    refine lv_aload_n (pc := 41) hx hb dX0_closes_41 rfl (lv_at hl 0 rfl) ?_
    refine vXgRX0_23_27 (pc := 42) hx hb hts mU_1000 inU0 hown hK hP (x := (gI r37.2 23)) rfl dX0_closes_42 ?_
    refine lv_iconst (pc := 45) hx hb (v := 1) dX0_closes_45 (by decide) ?_
    obtain ⟨r46, hc46, hf⟩ := hf_b hf
    refine cl_V (pc := 46) (As := [.int (gI r37.2 23), .int 1]) (rest := [.int r37.1]) hx hb hml hown hts (kX0_turns_27_D3 l D A B _ r37.2 (gI r37.2 23) 1 r46 hc46) (cwV 2 hts gwRX0_30 rfl rfl rfl hdX0_turns ⟨Nat.le_of_ble_eq_true rfl, Nat.le_of_ble_eq_true rfl⟩) hN hK hP hD hS hA (va_recv hK hP (ci := 0) (q0 := 27) rfl (eX_27 A B _)) rfl hl.1 rfl (Nat.le_of_ble_eq_true rfl) dX0_closes_46 (st1 := [.int r46.1, .int r37.1]) rfl ⟨Nat.zero_le _, Nat.zero_le _⟩ (fun H locs hP hD hS => ?_)
    refine lv_iadd (pc := 49) hx hb dX0_closes_49 ?_
    obtain rfl := Option.some.inj hf
    exact hR H locs 50 ls hP hD hS dX0_closes_50
  · have hf := hf_f e1_5 hf
    by_cases e1_6 : a1 = (6 : Int32)
    · have hf := hf_t e1_6 hf
      refine lv_lookup (pc := 1) hx hb (off := 50) (tgt := 51) dX0_closes_1 (by decide) (by rw [e1_6]; rfl) (by decide) ?_
      refine lv_aload_n (pc := 51) hx hb dX0_closes_51 rfl (lv_at hl 0 rfl) ?_
      refine lv_bipush (pc := 52) hx hb (v := 71) dX0_closes_52 (by decide) ?_
      obtain ⟨r54, hc54, hf⟩ := hf_b hf
      refine cl_V (pc := 54) (As := [.int 71]) (rest := []) hx hb hml hown hts (kX0_begin_27 l D A B _ S 71 r54 hc54) (cwV 1 hts gwRX0_39 rfl rfl rfl hdX0_begin ⟨Nat.le_of_ble_eq_true rfl, Nat.le_of_ble_eq_true rfl⟩) hN hK hP hD hS hA (va_recv hK hP (ci := 0) (q0 := 27) rfl (eX_27 A B _)) rfl hl.1 rfl (Nat.le_of_ble_eq_true rfl) dX0_closes_54 (st1 := []) rfl ⟨Nat.zero_le _, Nat.zero_le _⟩ (fun H locs hP hD hS => ?_)
      refine lv_aload_n (pc := 57) hx hb dX0_closes_57 rfl (lv_at hl 0 rfl) ?_
      refine lv_iconst (pc := 58) hx hb (v := 5) dX0_closes_58 (by decide) ?_
      refine lv_iload_n (pc := 59) hx hb dX0_closes_59 rfl (lv_at hl 2 rfl) ?_
      refine lv_iconst (pc := 60) hx hb (v := 2) dX0_closes_60 (by decide) ?_
      refine lv_imul (pc := 61) hx hb dX0_closes_61 ?_
      obtain ⟨r62, hc62, hf⟩ := hf_b hf
      refine cl_V (pc := 62) (As := [.int 5, .int (a2 * 2)]) (rest := []) hx hb hml hown hts (kX0_closes_27_D0 l D A B _ r54 5 (a2 * 2) r62 hc62) (cwV 2 hts gwRX0_36 rfl rfl rfl hdX0_closes ⟨Nat.le_of_ble_eq_true rfl, Nat.le_of_ble_eq_true rfl⟩) hN hK hP hD hS hA (va_recv hK hP (ci := 0) (q0 := 27) rfl (eX_27 A B _)) rfl hl.1 rfl (Nat.le_of_ble_eq_true rfl) dX0_closes_62 (st1 := [.int r62.1]) rfl ⟨Nat.zero_le _, Nat.zero_le _⟩ (fun H locs hP hD hS => ?_)
      refine lv_iconst (pc := 65) hx hb (v := 5) dX0_closes_65 (by decide) ?_
      refine lv_isub (pc := 66) hx hb dX0_closes_66 ?_
      obtain rfl := Option.some.inj hf
      exact hR H locs 67 ls hP hD hS dX0_closes_67
    · have hf := hf_f e1_6 hf
      refine lv_lookup (pc := 1) hx hb (off := 67) (tgt := 68) dX0_closes_1 (by decide) (by simp only [lv_osw e1_5 (a := 5) rfl, lv_osw e1_6 (a := 6) rfl]; rfl) (by decide) ?_
      refine lv_aload_n (pc := 68) hx hb dX0_closes_68 rfl (lv_at hl 0 rfl) ?_
      refine lv_bipush (pc := 69) hx hb (v := 13) dX0_closes_69 (by decide) ?_
      obtain ⟨r71, hc71, hf⟩ := hf_b hf
      refine cl_V (pc := 71) (As := [.int 13]) (rest := []) hx hb hml hown hts (kX0_begin_27 l D A B _ S 13 r71 hc71) (cwV 1 hts gwRX0_39 rfl rfl rfl hdX0_begin ⟨Nat.le_of_ble_eq_true rfl, Nat.le_of_ble_eq_true rfl⟩) hN hK hP hD hS hA (va_recv hK hP (ci := 0) (q0 := 27) rfl (eX_27 A B _)) rfl hl.1 rfl (Nat.le_of_ble_eq_true rfl) dX0_closes_71 (st1 := []) rfl ⟨Nat.zero_le _, Nat.zero_le _⟩ (fun H locs hP hD hS => ?_)
      refine lv_aload_n (pc := 74) hx hb dX0_closes_74 rfl (lv_at hl 0 rfl) ?_
      refine lv_aload_n (pc := 75) hx hb dX0_closes_75 rfl (lv_at hl 0 rfl) ?_
      refine vXgRX0_23_27 (pc := 76) hx hb hts mU_1000 inU0 hown hK hP (x := (gI r71 23)) rfl dX0_closes_76 ?_
      refine lv_iload_n (pc := 79) hx hb dX0_closes_79 rfl (lv_at hl 2 rfl) ?_
      obtain ⟨r80, hc80, hf⟩ := hf_b hf
      refine cl_V (pc := 80) (As := [.int (gI r71 23), .int a2]) (rest := []) hx hb hml hown hts (kX0_turns_27_D3 l D A B _ r71 (gI r71 23) a2 r80 hc80) (cwV 2 hts gwRX0_30 rfl rfl rfl hdX0_turns ⟨Nat.le_of_ble_eq_true rfl, Nat.le_of_ble_eq_true rfl⟩) hN hK hP hD hS hA (va_recv hK hP (ci := 0) (q0 := 27) rfl (eX_27 A B _)) rfl hl.1 rfl (Nat.le_of_ble_eq_true rfl) dX0_closes_80 (st1 := [.int r80.1]) rfl ⟨Nat.zero_le _, Nat.zero_le _⟩ (fun H locs hP hD hS => ?_)
      refine lv_aload_n (pc := 83) hx hb dX0_closes_83 rfl (lv_at hl 0 rfl) ?_
      refine lv_aload_n (pc := 84) hx hb dX0_closes_84 rfl (lv_at hl 0 rfl) ?_
      refine vXgRX0_23_27 (pc := 85) hx hb hts mU_1000 inU0 hown hK hP (x := (gI r80.2 23)) rfl dX0_closes_85 ?_
      refine lv_iload_n (pc := 88) hx hb dX0_closes_88 rfl (lv_at hl 2 rfl) ?_
      refine lv_iconst (pc := 89) hx hb (v := 2) dX0_closes_89 (by decide) ?_
      refine lv_iadd (pc := 90) hx hb dX0_closes_90 ?_
      obtain ⟨r91, hc91, hf⟩ := hf_b hf
      refine cl_V (pc := 91) (As := [.int (gI r80.2 23), .int (a2 + 2)]) (rest := [.int r80.1]) hx hb hml hown hts (kX0_parts_27_D3 l D A B _ r80.2 (gI r80.2 23) (a2 + 2) r91 hc91) (cwV 2 hts gwRX0_33 rfl rfl rfl hdX0_parts ⟨Nat.le_of_ble_eq_true rfl, Nat.le_of_ble_eq_true rfl⟩) hN hK hP hD hS hA (va_recv hK hP (ci := 0) (q0 := 27) rfl (eX_27 A B _)) rfl hl.1 rfl (Nat.le_of_ble_eq_true rfl) dX0_closes_91 (st1 := [.int r91.1, .int r80.1]) rfl ⟨Nat.zero_le _, Nat.zero_le _⟩ (fun H locs hP hD hS => ?_)
      refine lv_ixor (pc := 94) hx hb dX0_closes_94 ?_
      obtain rfl := Option.some.inj hf
      exact hR H locs 95 ls hP hD hS dX0_closes_95
set_option maxHeartbeats 4000000 in
set_option maxRecDepth 100000 in
theorem kX0_closes_27_D2 (l : Launch) (D : va_G) (A : Nat → Nat) (B : Nat → ClassId) (sz : Nat) (S : w_S) (a1 : Int32) (a2 : Int32) (z : Int32 × w_S) (hf : fX0_closes_27_D2 S a1 a2 = some z) : MetW l yX0_closes (wsO yX0_closes cX0_closes 3 (some .int)) rm_X0_closes_D2 [.ref (A 27), .int a1, .int a2] D (tyB B) (wX A B S) (wX A B z.2) sz (some (.int z.1)) := by
  refine MetW.mkI (cc := cX0_closes) (maxL := 3) (by decide) (Nat.le_of_ble_eq_true rfl) ?_
  intro p e s m args below meth c Ad Q hx hb hts hown hml hN hK hA hR H locs ls hP hD hS hl
  have hl : lv_has ls 3 [(0, .ref (A 27)), (1, .int a1), (2, .int a2)] := hl
  rw [fX0_closes_27_D2] at hf
  refine lv_iload_n (pc := 0) hx hb dX0_closes_0 rfl (lv_at hl 1 rfl) ?_
  by_cases e1_5 : a1 = (5 : Int32)
  · have hf := hf_t e1_5 hf
    refine lv_lookup (pc := 1) hx hb (off := 27) (tgt := 28) dX0_closes_1 (by decide) (by rw [e1_5]; rfl) (by decide) ?_
    refine lv_aload_n (pc := 28) hx hb dX0_closes_28 rfl (lv_at hl 0 rfl) ?_
    refine lv_bipush (pc := 29) hx hb (v := 60) dX0_closes_29 (by decide) ?_
    obtain ⟨r31, hc31, hf⟩ := hf_b hf
    refine cl_V (pc := 31) (As := [.int 60]) (rest := []) hx hb hml hown hts (kX0_begin_27 l D A B _ S 60 r31 hc31) (cwV 1 hts gwRX0_39 rfl rfl rfl hdX0_begin ⟨Nat.le_of_ble_eq_true rfl, Nat.le_of_ble_eq_true rfl⟩) hN hK hP hD hS hA (va_recv hK hP (ci := 0) (q0 := 27) rfl (eX_27 A B _)) rfl hl.1 rfl (Nat.le_of_ble_eq_true rfl) dX0_closes_31 (st1 := []) rfl ⟨Nat.zero_le _, Nat.zero_le _⟩ (fun H locs hP hD hS => ?_)
    refine lv_aload_n (pc := 34) hx hb dX0_closes_34 rfl (lv_at hl 0 rfl) ?_
    refine lv_iconst (pc := 35) hx hb (v := 0) dX0_closes_35 (by decide) ?_
    refine lv_iload_n (pc := 36) hx hb dX0_closes_36 rfl (lv_at hl 2 rfl) ?_
    obtain ⟨r37, hc37, hf⟩ := hf_b hf
    refine cl_V (pc := 37) (As := [.int 0, .int a2]) (rest := []) hx hb hml hown hts (kX0_closes_27_D1 l D A B _ r31 0 a2 r37 hc37) (cwV 2 hts gwRX0_36 rfl rfl rfl hdX0_closes ⟨Nat.le_of_ble_eq_true rfl, Nat.le_of_ble_eq_true rfl⟩) hN hK hP hD hS hA (va_recv hK hP (ci := 0) (q0 := 27) rfl (eX_27 A B _)) rfl hl.1 rfl (Nat.le_of_ble_eq_true rfl) dX0_closes_37 (st1 := [.int r37.1]) rfl ⟨Nat.zero_le _, Nat.zero_le _⟩ (fun H locs hP hD hS => ?_)
    refine lv_aload_n (pc := 40) hx hb dX0_closes_40 rfl (lv_at hl 0 rfl) ?_
    refine lv_aload_n (pc := 41) hx hb dX0_closes_41 rfl (lv_at hl 0 rfl) ?_
    refine vXgRX0_23_27 (pc := 42) hx hb hts mU_1000 inU0 hown hK hP (x := (gI r37.2 23)) rfl dX0_closes_42 ?_
    refine lv_iconst (pc := 45) hx hb (v := 1) dX0_closes_45 (by decide) ?_
    obtain ⟨r46, hc46, hf⟩ := hf_b hf
    refine cl_V (pc := 46) (As := [.int (gI r37.2 23), .int 1]) (rest := [.int r37.1]) hx hb hml hown hts (kX0_turns_27_D3 l D A B _ r37.2 (gI r37.2 23) 1 r46 hc46) (cwV 2 hts gwRX0_30 rfl rfl rfl hdX0_turns ⟨Nat.le_of_ble_eq_true rfl, Nat.le_of_ble_eq_true rfl⟩) hN hK hP hD hS hA (va_recv hK hP (ci := 0) (q0 := 27) rfl (eX_27 A B _)) rfl hl.1 rfl (Nat.le_of_ble_eq_true rfl) dX0_closes_46 (st1 := [.int r46.1, .int r37.1]) rfl ⟨Nat.zero_le _, Nat.zero_le _⟩ (fun H locs hP hD hS => ?_)
    refine lv_iadd (pc := 49) hx hb dX0_closes_49 ?_
    obtain rfl := Option.some.inj hf
    exact hR H locs 50 ls hP hD hS dX0_closes_50
  · have hf := hf_f e1_5 hf
    by_cases e1_6 : a1 = (6 : Int32)
    · have hf := hf_t e1_6 hf
      refine lv_lookup (pc := 1) hx hb (off := 50) (tgt := 51) dX0_closes_1 (by decide) (by rw [e1_6]; rfl) (by decide) ?_
      refine lv_aload_n (pc := 51) hx hb dX0_closes_51 rfl (lv_at hl 0 rfl) ?_
      refine lv_bipush (pc := 52) hx hb (v := 71) dX0_closes_52 (by decide) ?_
      obtain ⟨r54, hc54, hf⟩ := hf_b hf
      refine cl_V (pc := 54) (As := [.int 71]) (rest := []) hx hb hml hown hts (kX0_begin_27 l D A B _ S 71 r54 hc54) (cwV 1 hts gwRX0_39 rfl rfl rfl hdX0_begin ⟨Nat.le_of_ble_eq_true rfl, Nat.le_of_ble_eq_true rfl⟩) hN hK hP hD hS hA (va_recv hK hP (ci := 0) (q0 := 27) rfl (eX_27 A B _)) rfl hl.1 rfl (Nat.le_of_ble_eq_true rfl) dX0_closes_54 (st1 := []) rfl ⟨Nat.zero_le _, Nat.zero_le _⟩ (fun H locs hP hD hS => ?_)
      refine lv_aload_n (pc := 57) hx hb dX0_closes_57 rfl (lv_at hl 0 rfl) ?_
      refine lv_iconst (pc := 58) hx hb (v := 5) dX0_closes_58 (by decide) ?_
      refine lv_iload_n (pc := 59) hx hb dX0_closes_59 rfl (lv_at hl 2 rfl) ?_
      refine lv_iconst (pc := 60) hx hb (v := 2) dX0_closes_60 (by decide) ?_
      refine lv_imul (pc := 61) hx hb dX0_closes_61 ?_
      obtain ⟨r62, hc62, hf⟩ := hf_b hf
      refine cl_V (pc := 62) (As := [.int 5, .int (a2 * 2)]) (rest := []) hx hb hml hown hts (kX0_closes_27_D1 l D A B _ r54 5 (a2 * 2) r62 hc62) (cwV 2 hts gwRX0_36 rfl rfl rfl hdX0_closes ⟨Nat.le_of_ble_eq_true rfl, Nat.le_of_ble_eq_true rfl⟩) hN hK hP hD hS hA (va_recv hK hP (ci := 0) (q0 := 27) rfl (eX_27 A B _)) rfl hl.1 rfl (Nat.le_of_ble_eq_true rfl) dX0_closes_62 (st1 := [.int r62.1]) rfl ⟨Nat.zero_le _, Nat.zero_le _⟩ (fun H locs hP hD hS => ?_)
      refine lv_iconst (pc := 65) hx hb (v := 5) dX0_closes_65 (by decide) ?_
      refine lv_isub (pc := 66) hx hb dX0_closes_66 ?_
      obtain rfl := Option.some.inj hf
      exact hR H locs 67 ls hP hD hS dX0_closes_67
    · have hf := hf_f e1_6 hf
      refine lv_lookup (pc := 1) hx hb (off := 67) (tgt := 68) dX0_closes_1 (by decide) (by simp only [lv_osw e1_5 (a := 5) rfl, lv_osw e1_6 (a := 6) rfl]; rfl) (by decide) ?_
      refine lv_aload_n (pc := 68) hx hb dX0_closes_68 rfl (lv_at hl 0 rfl) ?_
      refine lv_bipush (pc := 69) hx hb (v := 13) dX0_closes_69 (by decide) ?_
      obtain ⟨r71, hc71, hf⟩ := hf_b hf
      refine cl_V (pc := 71) (As := [.int 13]) (rest := []) hx hb hml hown hts (kX0_begin_27 l D A B _ S 13 r71 hc71) (cwV 1 hts gwRX0_39 rfl rfl rfl hdX0_begin ⟨Nat.le_of_ble_eq_true rfl, Nat.le_of_ble_eq_true rfl⟩) hN hK hP hD hS hA (va_recv hK hP (ci := 0) (q0 := 27) rfl (eX_27 A B _)) rfl hl.1 rfl (Nat.le_of_ble_eq_true rfl) dX0_closes_71 (st1 := []) rfl ⟨Nat.zero_le _, Nat.zero_le _⟩ (fun H locs hP hD hS => ?_)
      refine lv_aload_n (pc := 74) hx hb dX0_closes_74 rfl (lv_at hl 0 rfl) ?_
      refine lv_aload_n (pc := 75) hx hb dX0_closes_75 rfl (lv_at hl 0 rfl) ?_
      refine vXgRX0_23_27 (pc := 76) hx hb hts mU_1000 inU0 hown hK hP (x := (gI r71 23)) rfl dX0_closes_76 ?_
      refine lv_iload_n (pc := 79) hx hb dX0_closes_79 rfl (lv_at hl 2 rfl) ?_
      obtain ⟨r80, hc80, hf⟩ := hf_b hf
      refine cl_V (pc := 80) (As := [.int (gI r71 23), .int a2]) (rest := []) hx hb hml hown hts (kX0_turns_27_D3 l D A B _ r71 (gI r71 23) a2 r80 hc80) (cwV 2 hts gwRX0_30 rfl rfl rfl hdX0_turns ⟨Nat.le_of_ble_eq_true rfl, Nat.le_of_ble_eq_true rfl⟩) hN hK hP hD hS hA (va_recv hK hP (ci := 0) (q0 := 27) rfl (eX_27 A B _)) rfl hl.1 rfl (Nat.le_of_ble_eq_true rfl) dX0_closes_80 (st1 := [.int r80.1]) rfl ⟨Nat.zero_le _, Nat.zero_le _⟩ (fun H locs hP hD hS => ?_)
      refine lv_aload_n (pc := 83) hx hb dX0_closes_83 rfl (lv_at hl 0 rfl) ?_
      refine lv_aload_n (pc := 84) hx hb dX0_closes_84 rfl (lv_at hl 0 rfl) ?_
      refine vXgRX0_23_27 (pc := 85) hx hb hts mU_1000 inU0 hown hK hP (x := (gI r80.2 23)) rfl dX0_closes_85 ?_
      refine lv_iload_n (pc := 88) hx hb dX0_closes_88 rfl (lv_at hl 2 rfl) ?_
      refine lv_iconst (pc := 89) hx hb (v := 2) dX0_closes_89 (by decide) ?_
      refine lv_iadd (pc := 90) hx hb dX0_closes_90 ?_
      obtain ⟨r91, hc91, hf⟩ := hf_b hf
      refine cl_V (pc := 91) (As := [.int (gI r80.2 23), .int (a2 + 2)]) (rest := [.int r80.1]) hx hb hml hown hts (kX0_parts_27_D3 l D A B _ r80.2 (gI r80.2 23) (a2 + 2) r91 hc91) (cwV 2 hts gwRX0_33 rfl rfl rfl hdX0_parts ⟨Nat.le_of_ble_eq_true rfl, Nat.le_of_ble_eq_true rfl⟩) hN hK hP hD hS hA (va_recv hK hP (ci := 0) (q0 := 27) rfl (eX_27 A B _)) rfl hl.1 rfl (Nat.le_of_ble_eq_true rfl) dX0_closes_91 (st1 := [.int r91.1, .int r80.1]) rfl ⟨Nat.zero_le _, Nat.zero_le _⟩ (fun H locs hP hD hS => ?_)
      refine lv_ixor (pc := 94) hx hb dX0_closes_94 ?_
      obtain rfl := Option.some.inj hf
      exact hR H locs 95 ls hP hD hS dX0_closes_95
set_option maxHeartbeats 4000000 in
set_option maxRecDepth 100000 in
theorem kX0_closes_27_D3 (l : Launch) (D : va_G) (A : Nat → Nat) (B : Nat → ClassId) (sz : Nat) (S : w_S) (a1 : Int32) (a2 : Int32) (z : Int32 × w_S) (hf : fX0_closes_27_D3 S a1 a2 = some z) : MetW l yX0_closes (wsO yX0_closes cX0_closes 3 (some .int)) rm_X0_closes_D3 [.ref (A 27), .int a1, .int a2] D (tyB B) (wX A B S) (wX A B z.2) sz (some (.int z.1)) := by
  refine MetW.mkI (cc := cX0_closes) (maxL := 3) (by decide) (Nat.le_of_ble_eq_true rfl) ?_
  intro p e s m args below meth c Ad Q hx hb hts hown hml hN hK hA hR H locs ls hP hD hS hl
  have hl : lv_has ls 3 [(0, .ref (A 27)), (1, .int a1), (2, .int a2)] := hl
  rw [fX0_closes_27_D3] at hf
  refine lv_iload_n (pc := 0) hx hb dX0_closes_0 rfl (lv_at hl 1 rfl) ?_
  by_cases e1_5 : a1 = (5 : Int32)
  · have hf := hf_t e1_5 hf
    refine lv_lookup (pc := 1) hx hb (off := 27) (tgt := 28) dX0_closes_1 (by decide) (by rw [e1_5]; rfl) (by decide) ?_
    refine lv_aload_n (pc := 28) hx hb dX0_closes_28 rfl (lv_at hl 0 rfl) ?_
    refine lv_bipush (pc := 29) hx hb (v := 60) dX0_closes_29 (by decide) ?_
    obtain ⟨r31, hc31, hf⟩ := hf_b hf
    refine cl_V (pc := 31) (As := [.int 60]) (rest := []) hx hb hml hown hts (kX0_begin_27 l D A B _ S 60 r31 hc31) (cwV 1 hts gwRX0_39 rfl rfl rfl hdX0_begin ⟨Nat.le_of_ble_eq_true rfl, Nat.le_of_ble_eq_true rfl⟩) hN hK hP hD hS hA (va_recv hK hP (ci := 0) (q0 := 27) rfl (eX_27 A B _)) rfl hl.1 rfl (Nat.le_of_ble_eq_true rfl) dX0_closes_31 (st1 := []) rfl ⟨Nat.zero_le _, Nat.zero_le _⟩ (fun H locs hP hD hS => ?_)
    refine lv_aload_n (pc := 34) hx hb dX0_closes_34 rfl (lv_at hl 0 rfl) ?_
    refine lv_iconst (pc := 35) hx hb (v := 0) dX0_closes_35 (by decide) ?_
    refine lv_iload_n (pc := 36) hx hb dX0_closes_36 rfl (lv_at hl 2 rfl) ?_
    obtain ⟨r37, hc37, hf⟩ := hf_b hf
    refine cl_V (pc := 37) (As := [.int 0, .int a2]) (rest := []) hx hb hml hown hts (kX0_closes_27_D2 l D A B _ r31 0 a2 r37 hc37) (cwV 2 hts gwRX0_36 rfl rfl rfl hdX0_closes ⟨Nat.le_of_ble_eq_true rfl, Nat.le_of_ble_eq_true rfl⟩) hN hK hP hD hS hA (va_recv hK hP (ci := 0) (q0 := 27) rfl (eX_27 A B _)) rfl hl.1 rfl (Nat.le_of_ble_eq_true rfl) dX0_closes_37 (st1 := [.int r37.1]) rfl ⟨Nat.zero_le _, Nat.zero_le _⟩ (fun H locs hP hD hS => ?_)
    refine lv_aload_n (pc := 40) hx hb dX0_closes_40 rfl (lv_at hl 0 rfl) ?_
    refine lv_aload_n (pc := 41) hx hb dX0_closes_41 rfl (lv_at hl 0 rfl) ?_
    refine vXgRX0_23_27 (pc := 42) hx hb hts mU_1000 inU0 hown hK hP (x := (gI r37.2 23)) rfl dX0_closes_42 ?_
    refine lv_iconst (pc := 45) hx hb (v := 1) dX0_closes_45 (by decide) ?_
    obtain ⟨r46, hc46, hf⟩ := hf_b hf
    refine cl_V (pc := 46) (As := [.int (gI r37.2 23), .int 1]) (rest := [.int r37.1]) hx hb hml hown hts (kX0_turns_27_D3 l D A B _ r37.2 (gI r37.2 23) 1 r46 hc46) (cwV 2 hts gwRX0_30 rfl rfl rfl hdX0_turns ⟨Nat.le_of_ble_eq_true rfl, Nat.le_of_ble_eq_true rfl⟩) hN hK hP hD hS hA (va_recv hK hP (ci := 0) (q0 := 27) rfl (eX_27 A B _)) rfl hl.1 rfl (Nat.le_of_ble_eq_true rfl) dX0_closes_46 (st1 := [.int r46.1, .int r37.1]) rfl ⟨Nat.zero_le _, Nat.zero_le _⟩ (fun H locs hP hD hS => ?_)
    refine lv_iadd (pc := 49) hx hb dX0_closes_49 ?_
    obtain rfl := Option.some.inj hf
    exact hR H locs 50 ls hP hD hS dX0_closes_50
  · have hf := hf_f e1_5 hf
    by_cases e1_6 : a1 = (6 : Int32)
    · have hf := hf_t e1_6 hf
      refine lv_lookup (pc := 1) hx hb (off := 50) (tgt := 51) dX0_closes_1 (by decide) (by rw [e1_6]; rfl) (by decide) ?_
      refine lv_aload_n (pc := 51) hx hb dX0_closes_51 rfl (lv_at hl 0 rfl) ?_
      refine lv_bipush (pc := 52) hx hb (v := 71) dX0_closes_52 (by decide) ?_
      obtain ⟨r54, hc54, hf⟩ := hf_b hf
      refine cl_V (pc := 54) (As := [.int 71]) (rest := []) hx hb hml hown hts (kX0_begin_27 l D A B _ S 71 r54 hc54) (cwV 1 hts gwRX0_39 rfl rfl rfl hdX0_begin ⟨Nat.le_of_ble_eq_true rfl, Nat.le_of_ble_eq_true rfl⟩) hN hK hP hD hS hA (va_recv hK hP (ci := 0) (q0 := 27) rfl (eX_27 A B _)) rfl hl.1 rfl (Nat.le_of_ble_eq_true rfl) dX0_closes_54 (st1 := []) rfl ⟨Nat.zero_le _, Nat.zero_le _⟩ (fun H locs hP hD hS => ?_)
      refine lv_aload_n (pc := 57) hx hb dX0_closes_57 rfl (lv_at hl 0 rfl) ?_
      refine lv_iconst (pc := 58) hx hb (v := 5) dX0_closes_58 (by decide) ?_
      refine lv_iload_n (pc := 59) hx hb dX0_closes_59 rfl (lv_at hl 2 rfl) ?_
      refine lv_iconst (pc := 60) hx hb (v := 2) dX0_closes_60 (by decide) ?_
      refine lv_imul (pc := 61) hx hb dX0_closes_61 ?_
      obtain ⟨r62, hc62, hf⟩ := hf_b hf
      refine cl_V (pc := 62) (As := [.int 5, .int (a2 * 2)]) (rest := []) hx hb hml hown hts (kX0_closes_27_D2 l D A B _ r54 5 (a2 * 2) r62 hc62) (cwV 2 hts gwRX0_36 rfl rfl rfl hdX0_closes ⟨Nat.le_of_ble_eq_true rfl, Nat.le_of_ble_eq_true rfl⟩) hN hK hP hD hS hA (va_recv hK hP (ci := 0) (q0 := 27) rfl (eX_27 A B _)) rfl hl.1 rfl (Nat.le_of_ble_eq_true rfl) dX0_closes_62 (st1 := [.int r62.1]) rfl ⟨Nat.zero_le _, Nat.zero_le _⟩ (fun H locs hP hD hS => ?_)
      refine lv_iconst (pc := 65) hx hb (v := 5) dX0_closes_65 (by decide) ?_
      refine lv_isub (pc := 66) hx hb dX0_closes_66 ?_
      obtain rfl := Option.some.inj hf
      exact hR H locs 67 ls hP hD hS dX0_closes_67
    · have hf := hf_f e1_6 hf
      refine lv_lookup (pc := 1) hx hb (off := 67) (tgt := 68) dX0_closes_1 (by decide) (by simp only [lv_osw e1_5 (a := 5) rfl, lv_osw e1_6 (a := 6) rfl]; rfl) (by decide) ?_
      refine lv_aload_n (pc := 68) hx hb dX0_closes_68 rfl (lv_at hl 0 rfl) ?_
      refine lv_bipush (pc := 69) hx hb (v := 13) dX0_closes_69 (by decide) ?_
      obtain ⟨r71, hc71, hf⟩ := hf_b hf
      refine cl_V (pc := 71) (As := [.int 13]) (rest := []) hx hb hml hown hts (kX0_begin_27 l D A B _ S 13 r71 hc71) (cwV 1 hts gwRX0_39 rfl rfl rfl hdX0_begin ⟨Nat.le_of_ble_eq_true rfl, Nat.le_of_ble_eq_true rfl⟩) hN hK hP hD hS hA (va_recv hK hP (ci := 0) (q0 := 27) rfl (eX_27 A B _)) rfl hl.1 rfl (Nat.le_of_ble_eq_true rfl) dX0_closes_71 (st1 := []) rfl ⟨Nat.zero_le _, Nat.zero_le _⟩ (fun H locs hP hD hS => ?_)
      refine lv_aload_n (pc := 74) hx hb dX0_closes_74 rfl (lv_at hl 0 rfl) ?_
      refine lv_aload_n (pc := 75) hx hb dX0_closes_75 rfl (lv_at hl 0 rfl) ?_
      refine vXgRX0_23_27 (pc := 76) hx hb hts mU_1000 inU0 hown hK hP (x := (gI r71 23)) rfl dX0_closes_76 ?_
      refine lv_iload_n (pc := 79) hx hb dX0_closes_79 rfl (lv_at hl 2 rfl) ?_
      obtain ⟨r80, hc80, hf⟩ := hf_b hf
      refine cl_V (pc := 80) (As := [.int (gI r71 23), .int a2]) (rest := []) hx hb hml hown hts (kX0_turns_27_D3 l D A B _ r71 (gI r71 23) a2 r80 hc80) (cwV 2 hts gwRX0_30 rfl rfl rfl hdX0_turns ⟨Nat.le_of_ble_eq_true rfl, Nat.le_of_ble_eq_true rfl⟩) hN hK hP hD hS hA (va_recv hK hP (ci := 0) (q0 := 27) rfl (eX_27 A B _)) rfl hl.1 rfl (Nat.le_of_ble_eq_true rfl) dX0_closes_80 (st1 := [.int r80.1]) rfl ⟨Nat.zero_le _, Nat.zero_le _⟩ (fun H locs hP hD hS => ?_)
      refine lv_aload_n (pc := 83) hx hb dX0_closes_83 rfl (lv_at hl 0 rfl) ?_
      refine lv_aload_n (pc := 84) hx hb dX0_closes_84 rfl (lv_at hl 0 rfl) ?_
      refine vXgRX0_23_27 (pc := 85) hx hb hts mU_1000 inU0 hown hK hP (x := (gI r80.2 23)) rfl dX0_closes_85 ?_
      refine lv_iload_n (pc := 88) hx hb dX0_closes_88 rfl (lv_at hl 2 rfl) ?_
      refine lv_iconst (pc := 89) hx hb (v := 2) dX0_closes_89 (by decide) ?_
      refine lv_iadd (pc := 90) hx hb dX0_closes_90 ?_
      obtain ⟨r91, hc91, hf⟩ := hf_b hf
      refine cl_V (pc := 91) (As := [.int (gI r80.2 23), .int (a2 + 2)]) (rest := [.int r80.1]) hx hb hml hown hts (kX0_parts_27_D3 l D A B _ r80.2 (gI r80.2 23) (a2 + 2) r91 hc91) (cwV 2 hts gwRX0_33 rfl rfl rfl hdX0_parts ⟨Nat.le_of_ble_eq_true rfl, Nat.le_of_ble_eq_true rfl⟩) hN hK hP hD hS hA (va_recv hK hP (ci := 0) (q0 := 27) rfl (eX_27 A B _)) rfl hl.1 rfl (Nat.le_of_ble_eq_true rfl) dX0_closes_91 (st1 := [.int r91.1, .int r80.1]) rfl ⟨Nat.zero_le _, Nat.zero_le _⟩ (fun H locs hP hD hS => ?_)
      refine lv_ixor (pc := 94) hx hb dX0_closes_94 ?_
      obtain rfl := Option.some.inj hf
      exact hR H locs 95 ls hP hD hS dX0_closes_95
set_option maxHeartbeats 4000000 in
set_option maxRecDepth 100000 in
theorem kX0_run_27 (l : Launch) (D : va_G) (A : Nat → Nat) (B : Nat → ClassId) (sz : Nat) (S : w_S) (a1 : Int32) (a2 : Int32) (z : Int32 × w_S) (hf : fX0_run_27 S a1 a2 = some z) : MetW l yX0_run (wsO yX0_run cX0_run 4 (some .int)) rm_X0_run [.ref (A 27), .int a1, .int a2] D (tyB B) (wX A B S) (wX A B z.2) sz (some (.int z.1)) := by
  refine MetW.mkI (cc := cX0_run) (maxL := 4) (by decide) (Nat.le_of_ble_eq_true rfl) ?_
  intro p e s m args below meth c Ad Q hx hb hts hown hml hN hK hA hR H locs ls hP hD hS hl
  have hl : lv_has ls 4 [(0, .ref (A 27)), (1, .int a1), (2, .int a2)] := hl
  rw [fX0_run_27] at hf
  refine lv_iload_n (pc := 0) hx hb dX0_run_0 rfl (lv_at hl 1 rfl) ?_
  by_cases e1_0 : a1 = (0 : Int32)
  · have hf := hf_t e1_0 hf
    refine lv_tableIn (pc := 1) hx hb (off := 27) (tgt := 28) dX0_run_1 (by rw [e1_0]; decide) (by rw [e1_0]; decide) (by rw [e1_0]; rfl) (by decide) ?_
    refine lv_aload_n (pc := 28) hx hb dX0_run_28 rfl (lv_at hl 0 rfl) ?_
    refine lv_aload_n (pc := 29) hx hb dX0_run_29 rfl (lv_at hl 0 rfl) ?_
    refine vXgRX0_23_27 (pc := 30) hx hb hts mU_1000 inU0 hown hK hP (x := (gI S 23)) rfl dX0_run_30 ?_
    refine lv_iload_n (pc := 33) hx hb dX0_run_33 rfl (lv_at hl 2 rfl) ?_
    obtain ⟨r34, hc34, hf⟩ := hf_b hf
    refine cl_V (pc := 34) (As := [.int (gI S 23), .int a2]) (rest := []) hx hb hml hown hts (kX0_weighs_27_D3 l D A B _ S (gI S 23) a2 r34 hc34) (cwV 2 hts gwRX0_26 rfl rfl rfl hdX0_weighs ⟨Nat.le_of_ble_eq_true rfl, Nat.le_of_ble_eq_true rfl⟩) hN hK hP hD hS hA (va_recv hK hP (ci := 0) (q0 := 27) rfl (eX_27 A B _)) rfl hl.1 rfl (Nat.le_of_ble_eq_true rfl) dX0_run_34 (st1 := [.int r34.1]) rfl ⟨Nat.zero_le _, Nat.zero_le _⟩ (fun H locs hP hD hS => ?_)
    refine lv_istore_n (pc := 37) hx hb (lv' := [(3, .int r34.1), (0, .ref (A 27)), (1, .int a1), (2, .int a2)]) dX0_run_37 rfl hl (by decide) rfl (fun ls hl => ?_)
    refine lv_goto (pc := 38) hx hb (tgt := 77) dX0_run_38 (by decide) ?_
    refine lv_aload_n (pc := 77) hx hb dX0_run_77 rfl (lv_at hl 1 rfl) ?_
    refine vXgRX0_19_27 (pc := 78) hx hb hts mU_995 inU0 hown hK hP (x := (gI r34.2 27)) rfl dX0_run_78 ?_
    refine lv_if_eq (pc := 81) hx hb (tgt := 89) dX0_run_81 (by decide) (fun c_81 => ?_) (fun c_81 => ?_)
    · have hf := hf_t c_81 hf
      refine lv_iload_n (pc := 89) hx hb dX0_run_89 rfl (lv_at hl 0 rfl) ?_
      obtain rfl := Option.some.inj hf
      exact hR H locs 90 ls hP hD hS dX0_run_90
    · have hf := hf_f c_81 hf
      refine lv_bipush (pc := 84) hx hb (v := (-15)) dX0_run_84 (by decide) ?_
      refine lv_goto (pc := 86) hx hb (tgt := 90) dX0_run_86 (by decide) ?_
      obtain rfl := Option.some.inj hf
      exact hR H locs 90 ls hP hD hS dX0_run_90
  · have hf := hf_f e1_0 hf
    by_cases e1_1 : a1 = (1 : Int32)
    · have hf := hf_t e1_1 hf
      refine lv_tableIn (pc := 1) hx hb (off := 40) (tgt := 41) dX0_run_1 (by rw [e1_1]; decide) (by rw [e1_1]; decide) (by rw [e1_1]; rfl) (by decide) ?_
      refine lv_aload_n (pc := 41) hx hb dX0_run_41 rfl (lv_at hl 0 rfl) ?_
      refine lv_aload_n (pc := 42) hx hb dX0_run_42 rfl (lv_at hl 0 rfl) ?_
      refine vXgRX0_23_27 (pc := 43) hx hb hts mU_1000 inU0 hown hK hP (x := (gI S 23)) rfl dX0_run_43 ?_
      refine lv_iload_n (pc := 46) hx hb dX0_run_46 rfl (lv_at hl 2 rfl) ?_
      obtain ⟨r47, hc47, hf⟩ := hf_b hf
      refine cl_V (pc := 47) (As := [.int (gI S 23), .int a2]) (rest := []) hx hb hml hown hts (kX0_turns_27_D3 l D A B _ S (gI S 23) a2 r47 hc47) (cwV 2 hts gwRX0_30 rfl rfl rfl hdX0_turns ⟨Nat.le_of_ble_eq_true rfl, Nat.le_of_ble_eq_true rfl⟩) hN hK hP hD hS hA (va_recv hK hP (ci := 0) (q0 := 27) rfl (eX_27 A B _)) rfl hl.1 rfl (Nat.le_of_ble_eq_true rfl) dX0_run_47 (st1 := [.int r47.1]) rfl ⟨Nat.zero_le _, Nat.zero_le _⟩ (fun H locs hP hD hS => ?_)
      refine lv_istore_n (pc := 50) hx hb (lv' := [(3, .int r47.1), (0, .ref (A 27)), (1, .int a1), (2, .int a2)]) dX0_run_50 rfl hl (by decide) rfl (fun ls hl => ?_)
      refine lv_goto (pc := 51) hx hb (tgt := 77) dX0_run_51 (by decide) ?_
      refine lv_aload_n (pc := 77) hx hb dX0_run_77 rfl (lv_at hl 1 rfl) ?_
      refine vXgRX0_19_27 (pc := 78) hx hb hts mU_995 inU0 hown hK hP (x := (gI r47.2 27)) rfl dX0_run_78 ?_
      refine lv_if_eq (pc := 81) hx hb (tgt := 89) dX0_run_81 (by decide) (fun c_81 => ?_) (fun c_81 => ?_)
      · have hf := hf_t c_81 hf
        refine lv_iload_n (pc := 89) hx hb dX0_run_89 rfl (lv_at hl 0 rfl) ?_
        obtain rfl := Option.some.inj hf
        exact hR H locs 90 ls hP hD hS dX0_run_90
      · have hf := hf_f c_81 hf
        refine lv_bipush (pc := 84) hx hb (v := (-15)) dX0_run_84 (by decide) ?_
        refine lv_goto (pc := 86) hx hb (tgt := 90) dX0_run_86 (by decide) ?_
        obtain rfl := Option.some.inj hf
        exact hR H locs 90 ls hP hD hS dX0_run_90
    · have hf := hf_f e1_1 hf
      by_cases e1_2 : a1 = (2 : Int32)
      · have hf := hf_t e1_2 hf
        refine lv_tableIn (pc := 1) hx hb (off := 53) (tgt := 54) dX0_run_1 (by rw [e1_2]; decide) (by rw [e1_2]; decide) (by rw [e1_2]; rfl) (by decide) ?_
        refine lv_aload_n (pc := 54) hx hb dX0_run_54 rfl (lv_at hl 0 rfl) ?_
        refine lv_aload_n (pc := 55) hx hb dX0_run_55 rfl (lv_at hl 0 rfl) ?_
        refine vXgRX0_23_27 (pc := 56) hx hb hts mU_1000 inU0 hown hK hP (x := (gI S 23)) rfl dX0_run_56 ?_
        refine lv_iload_n (pc := 59) hx hb dX0_run_59 rfl (lv_at hl 2 rfl) ?_
        obtain ⟨r60, hc60, hf⟩ := hf_b hf
        refine cl_V (pc := 60) (As := [.int (gI S 23), .int a2]) (rest := []) hx hb hml hown hts (kX0_parts_27_D3 l D A B _ S (gI S 23) a2 r60 hc60) (cwV 2 hts gwRX0_33 rfl rfl rfl hdX0_parts ⟨Nat.le_of_ble_eq_true rfl, Nat.le_of_ble_eq_true rfl⟩) hN hK hP hD hS hA (va_recv hK hP (ci := 0) (q0 := 27) rfl (eX_27 A B _)) rfl hl.1 rfl (Nat.le_of_ble_eq_true rfl) dX0_run_60 (st1 := [.int r60.1]) rfl ⟨Nat.zero_le _, Nat.zero_le _⟩ (fun H locs hP hD hS => ?_)
        refine lv_istore_n (pc := 63) hx hb (lv' := [(3, .int r60.1), (0, .ref (A 27)), (1, .int a1), (2, .int a2)]) dX0_run_63 rfl hl (by decide) rfl (fun ls hl => ?_)
        refine lv_goto (pc := 64) hx hb (tgt := 77) dX0_run_64 (by decide) ?_
        refine lv_aload_n (pc := 77) hx hb dX0_run_77 rfl (lv_at hl 1 rfl) ?_
        refine vXgRX0_19_27 (pc := 78) hx hb hts mU_995 inU0 hown hK hP (x := (gI r60.2 27)) rfl dX0_run_78 ?_
        refine lv_if_eq (pc := 81) hx hb (tgt := 89) dX0_run_81 (by decide) (fun c_81 => ?_) (fun c_81 => ?_)
        · have hf := hf_t c_81 hf
          refine lv_iload_n (pc := 89) hx hb dX0_run_89 rfl (lv_at hl 0 rfl) ?_
          obtain rfl := Option.some.inj hf
          exact hR H locs 90 ls hP hD hS dX0_run_90
        · have hf := hf_f c_81 hf
          refine lv_bipush (pc := 84) hx hb (v := (-15)) dX0_run_84 (by decide) ?_
          refine lv_goto (pc := 86) hx hb (tgt := 90) dX0_run_86 (by decide) ?_
          obtain rfl := Option.some.inj hf
          exact hR H locs 90 ls hP hD hS dX0_run_90
      · have hf := hf_f e1_2 hf
        have n1_0 := lv_neT (a := 0) e1_0 rfl
        have n1_1 := lv_neT (a := 1) e1_1 rfl
        have n1_2 := lv_neT (a := 2) e1_2 rfl
        refine lv_tableOut (pc := 1) hx hb (tgt := 67) dX0_run_1 (by omega) (by decide) ?_
        refine lv_aload_n (pc := 67) hx hb dX0_run_67 rfl (lv_at hl 0 rfl) ?_
        refine lv_aload_n (pc := 68) hx hb dX0_run_68 rfl (lv_at hl 0 rfl) ?_
        refine vXgRX0_23_27 (pc := 69) hx hb hts mU_1000 inU0 hown hK hP (x := (gI S 23)) rfl dX0_run_69 ?_
        refine lv_iload_n (pc := 72) hx hb dX0_run_72 rfl (lv_at hl 2 rfl) ?_
        obtain ⟨r73, hc73, hf⟩ := hf_b hf
        refine cl_V (pc := 73) (As := [.int (gI S 23), .int a2]) (rest := []) hx hb hml hown hts (kX0_closes_27_D3 l D A B _ S (gI S 23) a2 r73 hc73) (cwV 2 hts gwRX0_36 rfl rfl rfl hdX0_closes ⟨Nat.le_of_ble_eq_true rfl, Nat.le_of_ble_eq_true rfl⟩) hN hK hP hD hS hA (va_recv hK hP (ci := 0) (q0 := 27) rfl (eX_27 A B _)) rfl hl.1 rfl (Nat.le_of_ble_eq_true rfl) dX0_run_73 (st1 := [.int r73.1]) rfl ⟨Nat.zero_le _, Nat.zero_le _⟩ (fun H locs hP hD hS => ?_)
        refine lv_istore_n (pc := 76) hx hb (lv' := [(3, .int r73.1), (0, .ref (A 27)), (1, .int a1), (2, .int a2)]) dX0_run_76 rfl hl (by decide) rfl (fun ls hl => ?_)
        refine lv_aload_n (pc := 77) hx hb dX0_run_77 rfl (lv_at hl 1 rfl) ?_
        refine vXgRX0_19_27 (pc := 78) hx hb hts mU_995 inU0 hown hK hP (x := (gI r73.2 27)) rfl dX0_run_78 ?_
        refine lv_if_eq (pc := 81) hx hb (tgt := 89) dX0_run_81 (by decide) (fun c_81 => ?_) (fun c_81 => ?_)
        · have hf := hf_t c_81 hf
          refine lv_iload_n (pc := 89) hx hb dX0_run_89 rfl (lv_at hl 0 rfl) ?_
          obtain rfl := Option.some.inj hf
          exact hR H locs 90 ls hP hD hS dX0_run_90
        · have hf := hf_f c_81 hf
          refine lv_bipush (pc := 84) hx hb (v := (-15)) dX0_run_84 (by decide) ?_
          refine lv_goto (pc := 86) hx hb (tgt := 90) dX0_run_86 (by decide) ?_
          obtain rfl := Option.some.inj hf
          exact hR H locs 90 ls hP hD hS dX0_run_90
