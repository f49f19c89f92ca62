set_option maxHeartbeats 4000000 in
set_option maxRecDepth 100000 in
theorem kX6_move (l : Launch) (D : va_G) (A : Nat → Nat) (B : Nat → ClassId) (sz : Nat) (S : w_S) (a1 : Int32) (a2 : Int32) (a3 : Int32) (a4 : Int32) (a5 : Int32) (z : Int32 × w_S) (hf : fX6_move S a1 a2 a3 a4 a5 = some z) : MetW l yX6_move (wsO yX6_move cX6_move 8 (some .int)) rm_X6_move [.ref (A 0), .int a1, .int a2, .int a3, .int a4, .int a5] D (tyB B) (wX A B S) (wX A B z.2) sz (some (.int z.1)) := by
  refine MetW.mkI (cc := cX6_move) (maxL := 8) (by decide) (Nat.le_of_ble_eq_true rfl) ?_
  intro p e s m args below meth c Ad Q hx hb hts hown hml hN hK hA hR H locs ls hP hD hS hl
  have hl : lv_has ls 8 [(0, .ref (A 0)), (1, .int a1), (2, .int a2), (3, .int a3), (4, .int a4), (5, .int a5)] := hl
  rw [fX6_move] at hf
  refine lv_iload_n (pc := 0) hx hb dX6_move_0 rfl (lv_at hl 1 rfl) ?_
  obtain ⟨r1, hc1, hf⟩ := hf_b hf
  refine cl_S (pc := 1) (As := [.int a1]) (rest := []) hx hb hml hown hts (kX6_isSheet l D A B _ S a1 r1 hc1) (va_cwS 1 hts gwRX6_214 rfl rfl rfl hdX6_isSheet ⟨Nat.le_of_ble_eq_true rfl, Nat.le_of_ble_eq_true rfl⟩) hN hK hP hD hS hA rfl hl.1 rfl (Nat.le_of_ble_eq_true rfl) dX6_move_1 (st1 := [.int r1]) rfl ⟨Nat.zero_le _, Nat.zero_le _⟩ (fun H locs hP hD hS => ?_)
  refine lv_if_eq (pc := 4) hx hb (tgt := 14) dX6_move_4 (by decide) (fun c_4 => ?_) (fun c_4 => ?_)
  · have hf := hf_t c_4 hf
    refine lv_iconst (pc := 14) hx hb (v := (-1)) dX6_move_14 (by decide) ?_
    obtain rfl := Option.some.inj hf
    exact hR H locs 15 ls hP hD hS dX6_move_15
  · have hf := hf_f c_4 hf
    refine lv_iload_n (pc := 7) hx hb dX6_move_7 rfl (lv_at hl 3 rfl) ?_
    obtain ⟨r8, hc8, hf⟩ := hf_b hf
    refine cl_S (pc := 8) (As := [.int a3]) (rest := []) hx hb hml hown hts (kX6_isSheet l D A B _ S a3 r8 hc8) (va_cwS 1 hts gwRX6_214 rfl rfl rfl hdX6_isSheet ⟨Nat.le_of_ble_eq_true rfl, Nat.le_of_ble_eq_true rfl⟩) hN hK hP hD hS hA rfl hl.1 rfl (Nat.le_of_ble_eq_true rfl) dX6_move_8 (st1 := [.int r8]) rfl ⟨Nat.zero_le _, Nat.zero_le _⟩ (fun H locs hP hD hS => ?_)
    refine lv_if_ne (pc := 11) hx hb (tgt := 16) dX6_move_11 (by decide) (fun c_11 => ?_) (fun c_11 => ?_)
    · have hf := hf_f c_11 hf
      refine lv_aload_n (pc := 16) hx hb dX6_move_16 rfl (lv_at hl 0 rfl) ?_
      refine vXgRX6_48_0 (pc := 17) hx hb hts mU_33 inU6 hown hK hP dX6_move_17 ?_
      refine lv_iload_n (pc := 20) hx hb dX6_move_20 rfl (lv_at hl 1 rfl) ?_
      by_cases e21_0 : a1 = (0 : Int32)
      · have hf := hf_t e21_0 hf
        refine vXrq_29_0 (pc := 21) hx hb hK hP e21_0 dX6_move_21 ?_
        refine lv_astore (pc := 22) hx hb (lv' := [(6, .ref (A 30)), (0, .ref (A 0)), (1, .int a1), (2, .int a2), (3, .int a3), (4, .int a4), (5, .int a5)]) dX6_move_22 hl (by decide) rfl (fun ls hl => ?_)
        refine lv_aload_n (pc := 24) hx hb dX6_move_24 rfl (lv_at hl 1 rfl) ?_
        refine vXgRX6_48_0 (pc := 25) hx hb hts mU_33 inU6 hown hK hP dX6_move_25 ?_
        refine lv_iload_n (pc := 28) hx hb dX6_move_28 rfl (lv_at hl 4 rfl) ?_
        by_cases e29_0 : a3 = (0 : Int32)
        · have hf := hf_t e29_0 hf
          refine vXrq_29_0 (pc := 29) hx hb hK hP e29_0 dX6_move_29 ?_
          refine lv_astore (pc := 30) hx hb (lv' := [(7, .ref (A 30)), (6, .ref (A 30)), (0, .ref (A 0)), (1, .int a1), (2, .int a2), (3, .int a3), (4, .int a4), (5, .int a5)]) dX6_move_30 hl (by decide) rfl (fun ls hl => ?_)
          refine lv_aload (pc := 32) hx hb dX6_move_32 (lv_at hl 1 rfl) ?_
          refine vXgRX6_252_30 (pc := 34) hx hb hts mU_796 inU2 hown hK hP (x := (gI S 28)) rfl dX6_move_34 ?_
          refine lv_iconst (pc := 37) hx hb (v := (-1)) dX6_move_37 (by decide) ?_
          refine lv_icmp_eq (pc := 38) hx hb (tgt := 50) dX6_move_38 (by decide) (fun c_38 => ?_) (fun c_38 => ?_)
          · have hf := hf_t c_38 hf
            refine lv_bipush (pc := 50) hx hb (v := (-11)) dX6_move_50 (by decide) ?_
            obtain rfl := Option.some.inj hf
            exact hR H locs 52 ls hP hD hS dX6_move_52
          · have hf := hf_f c_38 hf
            refine lv_aload (pc := 41) hx hb dX6_move_41 (lv_at hl 0 rfl) ?_
            refine vXgRX6_252_30 (pc := 43) hx hb hts mU_796 inU2 hown hK hP (x := (gI S 28)) rfl dX6_move_43 ?_
            refine lv_iconst (pc := 46) hx hb (v := (-1)) dX6_move_46 (by decide) ?_
            refine lv_icmp_ne (pc := 47) hx hb (tgt := 53) dX6_move_47 (by decide) (fun c_47 => ?_) (fun c_47 => ?_)
            · have hf := hf_f c_47 hf
              refine lv_aload (pc := 53) hx hb dX6_move_53 (lv_at hl 1 rfl) ?_
              refine vXgRX6_252_30 (pc := 55) hx hb hts mU_796 inU2 hown hK hP (x := (gI S 28)) rfl dX6_move_55 ?_
              refine lv_aload (pc := 58) hx hb dX6_move_58 (lv_at hl 0 rfl) ?_
              refine vXgRX6_252_30 (pc := 60) hx hb hts mU_796 inU2 hown hK hP (x := (gI S 28)) rfl dX6_move_60 ?_
              refine lv_icmp_eq (pc := 63) hx hb (tgt := 69) dX6_move_63 (by decide) (fun c_63 => ?_) (fun c_63 => ?_)
              · have hf := hf_t c_63 hf
                refine lv_aload (pc := 69) hx hb dX6_move_69 (lv_at hl 1 rfl) ?_
                refine lv_iload_n (pc := 71) hx hb dX6_move_71 rfl (lv_at hl 4 rfl) ?_
                refine lv_iload (pc := 72) hx hb dX6_move_72 (lv_at hl 7 rfl) ?_
                obtain ⟨r74, hc74, hf⟩ := hf_b hf
                refine cl_V (pc := 74) (As := [.int a2, .int a5]) (rest := []) hx hb hml hown hts (kX2_hasStretch_30 l D A B _ S a2 a5 r74 hc74) (cwV 2 hts gwRX6_261 rfl rfl rfl hdX2_hasStretch ⟨Nat.le_of_ble_eq_true rfl, Nat.le_of_ble_eq_true rfl⟩) hN hK hP hD hS hA (va_recv hK hP (ci := 2) (q0 := 30) rfl (eX_30 A B _)) rfl hl.1 rfl (Nat.le_of_ble_eq_true rfl) dX6_move_74 (st1 := [.int r74]) rfl ⟨Nat.zero_le _, Nat.zero_le _⟩ (fun H locs hP hD hS => ?_)
                refine lv_if_eq (pc := 77) hx hb (tgt := 92) dX6_move_77 (by decide) (fun c_77 => ?_) (fun c_77 => ?_)
                · have hf := hf_t c_77 hf
                  refine lv_bipush (pc := 92) hx hb (v := (-12)) dX6_move_92 (by decide) ?_
                  obtain rfl := Option.some.inj hf
                  exact hR H locs 94 ls hP hD hS dX6_move_94
                · have hf := hf_f c_77 hf
                  refine lv_aload (pc := 80) hx hb dX6_move_80 (lv_at hl 0 rfl) ?_
                  refine lv_iload (pc := 82) hx hb dX6_move_82 (lv_at hl 6 rfl) ?_
                  refine lv_iload (pc := 84) hx hb dX6_move_84 (lv_at hl 7 rfl) ?_
                  obtain ⟨r86, hc86, hf⟩ := hf_b hf
                  refine cl_V (pc := 86) (As := [.int a4, .int a5]) (rest := []) hx hb hml hown hts (kX2_hasStretch_30 l D A B _ S a4 a5 r86 hc86) (cwV 2 hts gwRX6_261 rfl rfl rfl hdX2_hasStretch ⟨Nat.le_of_ble_eq_true rfl, Nat.le_of_ble_eq_true rfl⟩) hN hK hP hD hS hA (va_recv hK hP (ci := 2) (q0 := 30) rfl (eX_30 A B _)) rfl hl.1 rfl (Nat.le_of_ble_eq_true rfl) dX6_move_86 (st1 := [.int r86]) rfl ⟨Nat.zero_le _, Nat.zero_le _⟩ (fun H locs hP hD hS => ?_)
                  refine lv_if_ne (pc := 89) hx hb (tgt := 95) dX6_move_89 (by decide) (fun c_89 => ?_) (fun c_89 => ?_)
                  · have hf := hf_f c_89 hf
                    refine lv_aload (pc := 95) hx hb dX6_move_95 (lv_at hl 1 rfl) ?_
                    refine vXgRX6_265_30 (pc := 97) hx hb hts mU_923 inU2 hown hK hP dX6_move_97 ?_
                    refine lv_iload_n (pc := 100) hx hb dX6_move_100 rfl (lv_at hl 4 rfl) ?_
                    refine lv_aload (pc := 101) hx hb dX6_move_101 (lv_at hl 0 rfl) ?_
                    refine vXgRX6_265_30 (pc := 103) hx hb hts mU_923 inU2 hown hK hP dX6_move_103 ?_
                    refine lv_iload (pc := 106) hx hb dX6_move_106 (lv_at hl 6 rfl) ?_
                    refine lv_iload (pc := 108) hx hb dX6_move_108 (lv_at hl 7 rfl) ?_
                    obtain ⟨⟨hg110_1, hg110_2, hg110_3, hg110_4, hg110_5⟩, hf⟩ := hf_g hf
                    refine va_copyl (pc := 110) hx hb (hml.trans hl.1.symm) hown (hts (.methodLink RX6 269 arraycopyName) mU_924) (hts (.native arraycopyName) mU_283) (hts (.static arraycopyName) mU_284) (hts (.initialized "java/lang/System") mU_285) hK hP hD hS 31 31 2 2 (f := (gB S 2)) (g := (gB S 2)) (eX_31 A B S) (eX_31 A B S) (ty := .long) rfl rfl rfl (sp := a2) (dp := a4) (n := a5) hg110_1 hg110_2 hg110_3 hg110_4 hg110_5 (fun _ _ => rfl) (Nat.le_of_ble_eq_true rfl) (Nat.le_of_ble_eq_true rfl) dX6_move_110 (fun H locs hP hD hS => ?_)
                    rw [tX_31] at hP hD
                    refine lv_iload (pc := 113) hx hb dX6_move_113 (lv_at hl 7 rfl) ?_
                    obtain rfl := Option.some.inj hf
                    exact hR H locs 115 ls hP hD hS dX6_move_115
                  · have hf := hf_t c_89 hf
                    refine lv_bipush (pc := 92) hx hb (v := (-12)) dX6_move_92 (by decide) ?_
                    obtain rfl := Option.some.inj hf
                    exact hR H locs 94 ls hP hD hS dX6_move_94
              · have hf := hf_f c_63 hf
                refine lv_bipush (pc := 66) hx hb (v := (-13)) dX6_move_66 (by decide) ?_
                obtain rfl := Option.some.inj hf
                exact hR H locs 68 ls hP hD hS dX6_move_68
            · have hf := hf_t c_47 hf
              refine lv_bipush (pc := 50) hx hb (v := (-11)) dX6_move_50 (by decide) ?_
              obtain rfl := Option.some.inj hf
              exact hR H locs 52 ls hP hD hS dX6_move_52
        · have hf := hf_f e29_0 hf
          by_cases e29_1 : a3 = (1 : Int32)
          · have hf := hf_t e29_1 hf
            refine vXrq_29_1 (pc := 29) hx hb hK hP e29_1 dX6_move_29 ?_
            refine lv_astore (pc := 30) hx hb (lv' := [(7, .ref (A 32)), (6, .ref (A 30)), (0, .ref (A 0)), (1, .int a1), (2, .int a2), (3, .int a3), (4, .int a4), (5, .int a5)]) dX6_move_30 hl (by decide) rfl (fun ls hl => ?_)
            refine lv_aload (pc := 32) hx hb dX6_move_32 (lv_at hl 1 rfl) ?_
            refine vXgRX6_252_30 (pc := 34) hx hb hts mU_796 inU2 hown hK hP (x := (gI S 28)) rfl dX6_move_34 ?_
            refine lv_iconst (pc := 37) hx hb (v := (-1)) dX6_move_37 (by decide) ?_
            refine lv_icmp_eq (pc := 38) hx hb (tgt := 50) dX6_move_38 (by decide) (fun c_38 => ?_) (fun c_38 => ?_)
            · have hf := hf_t c_38 hf
              refine lv_bipush (pc := 50) hx hb (v := (-11)) dX6_move_50 (by decide) ?_
              obtain rfl := Option.some.inj hf
              exact hR H locs 52 ls hP hD hS dX6_move_52
            · have hf := hf_f c_38 hf
              refine lv_aload (pc := 41) hx hb dX6_move_41 (lv_at hl 0 rfl) ?_
              refine vXgRX6_252_32 (pc := 43) hx hb hts mU_796 inU2 hown hK hP (x := (gI S 30)) rfl dX6_move_43 ?_
              refine lv_iconst (pc := 46) hx hb (v := (-1)) dX6_move_46 (by decide) ?_
              refine lv_icmp_ne (pc := 47) hx hb (tgt := 53) dX6_move_47 (by decide) (fun c_47 => ?_) (fun c_47 => ?_)
              · have hf := hf_f c_47 hf
                refine lv_aload (pc := 53) hx hb dX6_move_53 (lv_at hl 1 rfl) ?_
                refine vXgRX6_252_30 (pc := 55) hx hb hts mU_796 inU2 hown hK hP (x := (gI S 28)) rfl dX6_move_55 ?_
                refine lv_aload (pc := 58) hx hb dX6_move_58 (lv_at hl 0 rfl) ?_
                refine vXgRX6_252_32 (pc := 60) hx hb hts mU_796 inU2 hown hK hP (x := (gI S 30)) rfl dX6_move_60 ?_
                refine lv_icmp_eq (pc := 63) hx hb (tgt := 69) dX6_move_63 (by decide) (fun c_63 => ?_) (fun c_63 => ?_)
                · have hf := hf_t c_63 hf
                  refine lv_aload (pc := 69) hx hb dX6_move_69 (lv_at hl 1 rfl) ?_
                  refine lv_iload_n (pc := 71) hx hb dX6_move_71 rfl (lv_at hl 4 rfl) ?_
                  refine lv_iload (pc := 72) hx hb dX6_move_72 (lv_at hl 7 rfl) ?_
                  obtain ⟨r74, hc74, hf⟩ := hf_b hf
                  refine cl_V (pc := 74) (As := [.int a2, .int a5]) (rest := []) hx hb hml hown hts (kX2_hasStretch_30 l D A B _ S a2 a5 r74 hc74) (cwV 2 hts gwRX6_261 rfl rfl rfl hdX2_hasStretch ⟨Nat.le_of_ble_eq_true rfl, Nat.le_of_ble_eq_true rfl⟩) hN hK hP hD hS hA (va_recv hK hP (ci := 2) (q0 := 30) rfl (eX_30 A B _)) rfl hl.1 rfl (Nat.le_of_ble_eq_true rfl) dX6_move_74 (st1 := [.int r74]) rfl ⟨Nat.zero_le _, Nat.zero_le _⟩ (fun H locs hP hD hS => ?_)
                  refine lv_if_eq (pc := 77) hx hb (tgt := 92) dX6_move_77 (by decide) (fun c_77 => ?_) (fun c_77 => ?_)
                  · have hf := hf_t c_77 hf
                    refine lv_bipush (pc := 92) hx hb (v := (-12)) dX6_move_92 (by decide) ?_
                    obtain rfl := Option.some.inj hf
                    exact hR H locs 94 ls hP hD hS dX6_move_94
                  · have hf := hf_f c_77 hf
                    refine lv_aload (pc := 80) hx hb dX6_move_80 (lv_at hl 0 rfl) ?_
                    refine lv_iload (pc := 82) hx hb dX6_move_82 (lv_at hl 6 rfl) ?_
                    refine lv_iload (pc := 84) hx hb dX6_move_84 (lv_at hl 7 rfl) ?_
                    obtain ⟨r86, hc86, hf⟩ := hf_b hf
                    refine cl_V (pc := 86) (As := [.int a4, .int a5]) (rest := []) hx hb hml hown hts (kX2_hasStretch_32 l D A B _ S a4 a5 r86 hc86) (cwV 2 hts gwRX6_261 rfl rfl rfl hdX2_hasStretch ⟨Nat.le_of_ble_eq_true rfl, Nat.le_of_ble_eq_true rfl⟩) hN hK hP hD hS hA (va_recv hK hP (ci := 2) (q0 := 32) rfl (eX_32 A B _)) rfl hl.1 rfl (Nat.le_of_ble_eq_true rfl) dX6_move_86 (st1 := [.int r86]) rfl ⟨Nat.zero_le _, Nat.zero_le _⟩ (fun H locs hP hD hS => ?_)
                    refine lv_if_ne (pc := 89) hx hb (tgt := 95) dX6_move_89 (by decide) (fun c_89 => ?_) (fun c_89 => ?_)
                    · have hf := hf_f c_89 hf
                      refine lv_aload (pc := 95) hx hb dX6_move_95 (lv_at hl 1 rfl) ?_
                      refine vXgRX6_265_30 (pc := 97) hx hb hts mU_923 inU2 hown hK hP dX6_move_97 ?_
                      refine lv_iload_n (pc := 100) hx hb dX6_move_100 rfl (lv_at hl 4 rfl) ?_
                      refine lv_aload (pc := 101) hx hb dX6_move_101 (lv_at hl 0 rfl) ?_
                      refine vXgRX6_265_32 (pc := 103) hx hb hts mU_923 inU2 hown hK hP dX6_move_103 ?_
                      refine lv_iload (pc := 106) hx hb dX6_move_106 (lv_at hl 6 rfl) ?_
                      refine lv_iload (pc := 108) hx hb dX6_move_108 (lv_at hl 7 rfl) ?_
                      obtain ⟨⟨hg110_1, hg110_2, hg110_3, hg110_4, hg110_5⟩, hf⟩ := hf_g hf
                      refine va_copyl (pc := 110) hx hb (hml.trans hl.1.symm) hown (hts (.methodLink RX6 269 arraycopyName) mU_924) (hts (.native arraycopyName) mU_283) (hts (.static arraycopyName) mU_284) (hts (.initialized "java/lang/System") mU_285) hK hP hD hS 31 33 2 2 (f := (gB S 2)) (g := (gB S 3)) (eX_31 A B S) (eX_33 A B S) (ty := .long) rfl rfl rfl (sp := a2) (dp := a4) (n := a5) hg110_1 hg110_2 hg110_3 hg110_4 hg110_5 (fun _ _ => rfl) (Nat.le_of_ble_eq_true rfl) (Nat.le_of_ble_eq_true rfl) dX6_move_110 (fun H locs hP hD hS => ?_)
                      rw [tX_33] at hP hD
                      refine lv_iload (pc := 113) hx hb dX6_move_113 (lv_at hl 7 rfl) ?_
                      obtain rfl := Option.some.inj hf
                      exact hR H locs 115 ls hP hD hS dX6_move_115
                    · have hf := hf_t c_89 hf
                      refine lv_bipush (pc := 92) hx hb (v := (-12)) dX6_move_92 (by decide) ?_
                      obtain rfl := Option.some.inj hf
                      exact hR H locs 94 ls hP hD hS dX6_move_94
                · have hf := hf_f c_63 hf
                  refine lv_bipush (pc := 66) hx hb (v := (-13)) dX6_move_66 (by decide) ?_
                  obtain rfl := Option.some.inj hf
                  exact hR H locs 68 ls hP hD hS dX6_move_68
              · have hf := hf_t c_47 hf
                refine lv_bipush (pc := 50) hx hb (v := (-11)) dX6_move_50 (by decide) ?_
                obtain rfl := Option.some.inj hf
                exact hR H locs 52 ls hP hD hS dX6_move_52
          · have hf := hf_f e29_1 hf
            by_cases e29_2 : a3 = (2 : Int32)
            · have hf := hf_t e29_2 hf
              refine vXrq_29_2 (pc := 29) hx hb hK hP e29_2 dX6_move_29 ?_
              refine lv_astore (pc := 30) hx hb (lv' := [(7, .ref (A 34)), (6, .ref (A 30)), (0, .ref (A 0)), (1, .int a1), (2, .int a2), (3, .int a3), (4, .int a4), (5, .int a5)]) dX6_move_30 hl (by decide) rfl (fun ls hl => ?_)
              refine lv_aload (pc := 32) hx hb dX6_move_32 (lv_at hl 1 rfl) ?_
              refine vXgRX6_252_30 (pc := 34) hx hb hts mU_796 inU2 hown hK hP (x := (gI S 28)) rfl dX6_move_34 ?_
              refine lv_iconst (pc := 37) hx hb (v := (-1)) dX6_move_37 (by decide) ?_
              refine lv_icmp_eq (pc := 38) hx hb (tgt := 50) dX6_move_38 (by decide) (fun c_38 => ?_) (fun c_38 => ?_)
              · have hf := hf_t c_38 hf
                refine lv_bipush (pc := 50) hx hb (v := (-11)) dX6_move_50 (by decide) ?_
                obtain rfl := Option.some.inj hf
                exact hR H locs 52 ls hP hD hS dX6_move_52
              · have hf := hf_f c_38 hf
                refine lv_aload (pc := 41) hx hb dX6_move_41 (lv_at hl 0 rfl) ?_
                refine vXgRX6_252_34 (pc := 43) hx hb hts mU_796 inU2 hown hK hP (x := (gI S 32)) rfl dX6_move_43 ?_
                refine lv_iconst (pc := 46) hx hb (v := (-1)) dX6_move_46 (by decide) ?_
                refine lv_icmp_ne (pc := 47) hx hb (tgt := 53) dX6_move_47 (by decide) (fun c_47 => ?_) (fun c_47 => ?_)
                · have hf := hf_f c_47 hf
                  refine lv_aload (pc := 53) hx hb dX6_move_53 (lv_at hl 1 rfl) ?_
                  refine vXgRX6_252_30 (pc := 55) hx hb hts mU_796 inU2 hown hK hP (x := (gI S 28)) rfl dX6_move_55 ?_
                  refine lv_aload (pc := 58) hx hb dX6_move_58 (lv_at hl 0 rfl) ?_
                  refine vXgRX6_252_34 (pc := 60) hx hb hts mU_796 inU2 hown hK hP (x := (gI S 32)) rfl dX6_move_60 ?_
                  refine lv_icmp_eq (pc := 63) hx hb (tgt := 69) dX6_move_63 (by decide) (fun c_63 => ?_) (fun c_63 => ?_)
                  · have hf := hf_t c_63 hf
                    refine lv_aload (pc := 69) hx hb dX6_move_69 (lv_at hl 1 rfl) ?_
                    refine lv_iload_n (pc := 71) hx hb dX6_move_71 rfl (lv_at hl 4 rfl) ?_
                    refine lv_iload (pc := 72) hx hb dX6_move_72 (lv_at hl 7 rfl) ?_
                    obtain ⟨r74, hc74, hf⟩ := hf_b hf
                    refine cl_V (pc := 74) (As := [.int a2, .int a5]) (rest := []) hx hb hml hown hts (kX2_hasStretch_30 l D A B _ S a2 a5 r74 hc74) (cwV 2 hts gwRX6_261 rfl rfl rfl hdX2_hasStretch ⟨Nat.le_of_ble_eq_true rfl, Nat.le_of_ble_eq_true rfl⟩) hN hK hP hD hS hA (va_recv hK hP (ci := 2) (q0 := 30) rfl (eX_30 A B _)) rfl hl.1 rfl (Nat.le_of_ble_eq_true rfl) dX6_move_74 (st1 := [.int r74]) rfl ⟨Nat.zero_le _, Nat.zero_le _⟩ (fun H locs hP hD hS => ?_)
                    refine lv_if_eq (pc := 77) hx hb (tgt := 92) dX6_move_77 (by decide) (fun c_77 => ?_) (fun c_77 => ?_)
                    · have hf := hf_t c_77 hf
                      refine lv_bipush (pc := 92) hx hb (v := (-12)) dX6_move_92 (by decide) ?_
                      obtain rfl := Option.some.inj hf
                      exact hR H locs 94 ls hP hD hS dX6_move_94
                    · have hf := hf_f c_77 hf
                      refine lv_aload (pc := 80) hx hb dX6_move_80 (lv_at hl 0 rfl) ?_
                      refine lv_iload (pc := 82) hx hb dX6_move_82 (lv_at hl 6 rfl) ?_
                      refine lv_iload (pc := 84) hx hb dX6_move_84 (lv_at hl 7 rfl) ?_
                      obtain ⟨r86, hc86, hf⟩ := hf_b hf
                      refine cl_V (pc := 86) (As := [.int a4, .int a5]) (rest := []) hx hb hml hown hts (kX2_hasStretch_34 l D A B _ S a4 a5 r86 hc86) (cwV 2 hts gwRX6_261 rfl rfl rfl hdX2_hasStretch ⟨Nat.le_of_ble_eq_true rfl, Nat.le_of_ble_eq_true rfl⟩) hN hK hP hD hS hA (va_recv hK hP (ci := 2) (q0 := 34) rfl (eX_34 A B _)) rfl hl.1 rfl (Nat.le_of_ble_eq_true rfl) dX6_move_86 (st1 := [.int r86]) rfl ⟨Nat.zero_le _, Nat.zero_le _⟩ (fun H locs hP hD hS => ?_)
                      refine lv_if_ne (pc := 89) hx hb (tgt := 95) dX6_move_89 (by decide) (fun c_89 => ?_) (fun c_89 => ?_)
                      · have hf := hf_f c_89 hf
                        refine lv_aload (pc := 95) hx hb dX6_move_95 (lv_at hl 1 rfl) ?_
                        refine vXgRX6_265_30 (pc := 97) hx hb hts mU_923 inU2 hown hK hP dX6_move_97 ?_
                        refine lv_iload_n (pc := 100) hx hb dX6_move_100 rfl (lv_at hl 4 rfl) ?_
                        refine lv_aload (pc := 101) hx hb dX6_move_101 (lv_at hl 0 rfl) ?_
                        refine vXgRX6_265_34 (pc := 103) hx hb hts mU_923 inU2 hown hK hP dX6_move_103 ?_
                        refine lv_iload (pc := 106) hx hb dX6_move_106 (lv_at hl 6 rfl) ?_
                        refine lv_iload (pc := 108) hx hb dX6_move_108 (lv_at hl 7 rfl) ?_
                        obtain ⟨⟨hg110_1, hg110_2, hg110_3, hg110_4, hg110_5⟩, hf⟩ := hf_g hf
                        refine va_copyl (pc := 110) hx hb (hml.trans hl.1.symm) hown (hts (.methodLink RX6 269 arraycopyName) mU_924) (hts (.native arraycopyName) mU_283) (hts (.static arraycopyName) mU_284) (hts (.initialized "java/lang/System") mU_285) hK hP hD hS 31 35 2 2 (f := (gB S 2)) (g := (gB S 4)) (eX_31 A B S) (eX_35 A B S) (ty := .long) rfl rfl rfl (sp := a2) (dp := a4) (n := a5) hg110_1 hg110_2 hg110_3 hg110_4 hg110_5 (fun _ _ => rfl) (Nat.le_of_ble_eq_true rfl) (Nat.le_of_ble_eq_true rfl) dX6_move_110 (fun H locs hP hD hS => ?_)
                        rw [tX_35] at hP hD
                        refine lv_iload (pc := 113) hx hb dX6_move_113 (lv_at hl 7 rfl) ?_
                        obtain rfl := Option.some.inj hf
                        exact hR H locs 115 ls hP hD hS dX6_move_115
                      · have hf := hf_t c_89 hf
                        refine lv_bipush (pc := 92) hx hb (v := (-12)) dX6_move_92 (by decide) ?_
                        obtain rfl := Option.some.inj hf
                        exact hR H locs 94 ls hP hD hS dX6_move_94
                  · have hf := hf_f c_63 hf
                    refine lv_bipush (pc := 66) hx hb (v := (-13)) dX6_move_66 (by decide) ?_
                    obtain rfl := Option.some.inj hf
                    exact hR H locs 68 ls hP hD hS dX6_move_68
                · have hf := hf_t c_47 hf
                  refine lv_bipush (pc := 50) hx hb (v := (-11)) dX6_move_50 (by decide) ?_
                  obtain rfl := Option.some.inj hf
                  exact hR H locs 52 ls hP hD hS dX6_move_52
            · have hf := hf_f e29_2 hf
              by_cases e29_3 : a3 = (3 : Int32)
              · have hf := hf_t e29_3 hf
                refine vXrq_29_3 (pc := 29) hx hb hK hP e29_3 dX6_move_29 ?_
                refine lv_astore (pc := 30) hx hb (lv' := [(7, .ref (A 36)), (6, .ref (A 30)), (0, .ref (A 0)), (1, .int a1), (2, .int a2), (3, .int a3), (4, .int a4), (5, .int a5)]) dX6_move_30 hl (by decide) rfl (fun ls hl => ?_)
                refine lv_aload (pc := 32) hx hb dX6_move_32 (lv_at hl 1 rfl) ?_
                refine vXgRX6_252_30 (pc := 34) hx hb hts mU_796 inU2 hown hK hP (x := (gI S 28)) rfl dX6_move_34 ?_
                refine lv_iconst (pc := 37) hx hb (v := (-1)) dX6_move_37 (by decide) ?_
                refine lv_icmp_eq (pc := 38) hx hb (tgt := 50) dX6_move_38 (by decide) (fun c_38 => ?_) (fun c_38 => ?_)
                · have hf := hf_t c_38 hf
                  refine lv_bipush (pc := 50) hx hb (v := (-11)) dX6_move_50 (by decide) ?_
                  obtain rfl := Option.some.inj hf
                  exact hR H locs 52 ls hP hD hS dX6_move_52
                · have hf := hf_f c_38 hf
                  refine lv_aload (pc := 41) hx hb dX6_move_41 (lv_at hl 0 rfl) ?_
                  refine vXgRX6_252_36 (pc := 43) hx hb hts mU_796 inU2 hown hK hP (x := (gI S 34)) rfl dX6_move_43 ?_
                  refine lv_iconst (pc := 46) hx hb (v := (-1)) dX6_move_46 (by decide) ?_
                  refine lv_icmp_ne (pc := 47) hx hb (tgt := 53) dX6_move_47 (by decide) (fun c_47 => ?_) (fun c_47 => ?_)
                  · have hf := hf_f c_47 hf
                    refine lv_aload (pc := 53) hx hb dX6_move_53 (lv_at hl 1 rfl) ?_
                    refine vXgRX6_252_30 (pc := 55) hx hb hts mU_796 inU2 hown hK hP (x := (gI S 28)) rfl dX6_move_55 ?_
                    refine lv_aload (pc := 58) hx hb dX6_move_58 (lv_at hl 0 rfl) ?_
                    refine vXgRX6_252_36 (pc := 60) hx hb hts mU_796 inU2 hown hK hP (x := (gI S 34)) rfl dX6_move_60 ?_
                    refine lv_icmp_eq (pc := 63) hx hb (tgt := 69) dX6_move_63 (by decide) (fun c_63 => ?_) (fun c_63 => ?_)
                    · have hf := hf_t c_63 hf
                      refine lv_aload (pc := 69) hx hb dX6_move_69 (lv_at hl 1 rfl) ?_
                      refine lv_iload_n (pc := 71) hx hb dX6_move_71 rfl (lv_at hl 4 rfl) ?_
                      refine lv_iload (pc := 72) hx hb dX6_move_72 (lv_at hl 7 rfl) ?_
                      obtain ⟨r74, hc74, hf⟩ := hf_b hf
                      refine cl_V (pc := 74) (As := [.int a2, .int a5]) (rest := []) hx hb hml hown hts (kX2_hasStretch_30 l D A B _ S a2 a5 r74 hc74) (cwV 2 hts gwRX6_261 rfl rfl rfl hdX2_hasStretch ⟨Nat.le_of_ble_eq_true rfl, Nat.le_of_ble_eq_true rfl⟩) hN hK hP hD hS hA (va_recv hK hP (ci := 2) (q0 := 30) rfl (eX_30 A B _)) rfl hl.1 rfl (Nat.le_of_ble_eq_true rfl) dX6_move_74 (st1 := [.int r74]) rfl ⟨Nat.zero_le _, Nat.zero_le _⟩ (fun H locs hP hD hS => ?_)
                      refine lv_if_eq (pc := 77) hx hb (tgt := 92) dX6_move_77 (by decide) (fun c_77 => ?_) (fun c_77 => ?_)
                      · have hf := hf_t c_77 hf
                        refine lv_bipush (pc := 92) hx hb (v := (-12)) dX6_move_92 (by decide) ?_
                        obtain rfl := Option.some.inj hf
                        exact hR H locs 94 ls hP hD hS dX6_move_94
                      · have hf := hf_f c_77 hf
                        refine lv_aload (pc := 80) hx hb dX6_move_80 (lv_at hl 0 rfl) ?_
                        refine lv_iload (pc := 82) hx hb dX6_move_82 (lv_at hl 6 rfl) ?_
                        refine lv_iload (pc := 84) hx hb dX6_move_84 (lv_at hl 7 rfl) ?_
                        obtain ⟨r86, hc86, hf⟩ := hf_b hf
                        refine cl_V (pc := 86) (As := [.int a4, .int a5]) (rest := []) hx hb hml hown hts (kX2_hasStretch_36 l D A B _ S a4 a5 r86 hc86) (cwV 2 hts gwRX6_261 rfl rfl rfl hdX2_hasStretch ⟨Nat.le_of_ble_eq_true rfl, Nat.le_of_ble_eq_true rfl⟩) hN hK hP hD hS hA (va_recv hK hP (ci := 2) (q0 := 36) rfl (eX_36 A B _)) rfl hl.1 rfl (Nat.le_of_ble_eq_true rfl) dX6_move_86 (st1 := [.int r86]) rfl ⟨Nat.zero_le _, Nat.zero_le _⟩ (fun H locs hP hD hS => ?_)
                        refine lv_if_ne (pc := 89) hx hb (tgt := 95) dX6_move_89 (by decide) (fun c_89 => ?_) (fun c_89 => ?_)
                        · have hf := hf_f c_89 hf
                          refine lv_aload (pc := 95) hx hb dX6_move_95 (lv_at hl 1 rfl) ?_
                          refine vXgRX6_265_30 (pc := 97) hx hb hts mU_923 inU2 hown hK hP dX6_move_97 ?_
                          refine lv_iload_n (pc := 100) hx hb dX6_move_100 rfl (lv_at hl 4 rfl) ?_
                          refine lv_aload (pc := 101) hx hb dX6_move_101 (lv_at hl 0 rfl) ?_
                          refine vXgRX6_265_36 (pc := 103) hx hb hts mU_923 inU2 hown hK hP dX6_move_103 ?_
                          refine lv_iload (pc := 106) hx hb dX6_move_106 (lv_at hl 6 rfl) ?_
                          refine lv_iload (pc := 108) hx hb dX6_move_108 (lv_at hl 7 rfl) ?_
                          obtain ⟨⟨hg110_1, hg110_2, hg110_3, hg110_4, hg110_5⟩, hf⟩ := hf_g hf
                          refine va_copyl (pc := 110) hx hb (hml.trans hl.1.symm) hown (hts (.methodLink RX6 269 arraycopyName) mU_924) (hts (.native arraycopyName) mU_283) (hts (.static arraycopyName) mU_284) (hts (.initialized "java/lang/System") mU_285) hK hP hD hS 31 37 2 2 (f := (gB S 2)) (g := (gB S 5)) (eX_31 A B S) (eX_37 A B S) (ty := .long) rfl rfl rfl (sp := a2) (dp := a4) (n := a5) hg110_1 hg110_2 hg110_3 hg110_4 hg110_5 (fun _ _ => rfl) (Nat.le_of_ble_eq_true rfl) (Nat.le_of_ble_eq_true rfl) dX6_move_110 (fun H locs hP hD hS => ?_)
                          rw [tX_37] at hP hD
                          refine lv_iload (pc := 113) hx hb dX6_move_113 (lv_at hl 7 rfl) ?_
                          obtain rfl := Option.some.inj hf
                          exact hR H locs 115 ls hP hD hS dX6_move_115
                        · have hf := hf_t c_89 hf
                          refine lv_bipush (pc := 92) hx hb (v := (-12)) dX6_move_92 (by decide) ?_
                          obtain rfl := Option.some.inj hf
                          exact hR H locs 94 ls hP hD hS dX6_move_94
                    · have hf := hf_f c_63 hf
                      refine lv_bipush (pc := 66) hx hb (v := (-13)) dX6_move_66 (by decide) ?_
                      obtain rfl := Option.some.inj hf
                      exact hR H locs 68 ls hP hD hS dX6_move_68
                  · have hf := hf_t c_47 hf
                    refine lv_bipush (pc := 50) hx hb (v := (-11)) dX6_move_50 (by decide) ?_
                    obtain rfl := Option.some.inj hf
                    exact hR H locs 52 ls hP hD hS dX6_move_52
              · have hf := hf_f e29_3 hf
                exact hf_0 hf
      · have hf := hf_f e21_0 hf
        by_cases e21_1 : a1 = (1 : Int32)
        · have hf := hf_t e21_1 hf
          refine vXrq_29_1 (pc := 21) hx hb hK hP e21_1 dX6_move_21 ?_
          refine lv_astore (pc := 22) hx hb (lv' := [(6, .ref (A 32)), (0, .ref (A 0)), (1, .int a1), (2, .int a2), (3, .int a3), (4, .int a4), (5, .int a5)]) dX6_move_22 hl (by decide) rfl (fun ls hl => ?_)
          refine lv_aload_n (pc := 24) hx hb dX6_move_24 rfl (lv_at hl 1 rfl) ?_
          refine vXgRX6_48_0 (pc := 25) hx hb hts mU_33 inU6 hown hK hP dX6_move_25 ?_
          refine lv_iload_n (pc := 28) hx hb dX6_move_28 rfl (lv_at hl 4 rfl) ?_
          by_cases e29_0 : a3 = (0 : Int32)
          · have hf := hf_t e29_0 hf
            refine vXrq_29_0 (pc := 29) hx hb hK hP e29_0 dX6_move_29 ?_
            refine lv_astore (pc := 30) hx hb (lv' := [(7, .ref (A 30)), (6, .ref (A 32)), (0, .ref (A 0)), (1, .int a1), (2, .int a2), (3, .int a3), (4, .int a4), (5, .int a5)]) dX6_move_30 hl (by decide) rfl (fun ls hl => ?_)
            refine lv_aload (pc := 32) hx hb dX6_move_32 (lv_at hl 1 rfl) ?_
            refine vXgRX6_252_32 (pc := 34) hx hb hts mU_796 inU2 hown hK hP (x := (gI S 30)) rfl dX6_move_34 ?_
            refine lv_iconst (pc := 37) hx hb (v := (-1)) dX6_move_37 (by decide) ?_
            refine lv_icmp_eq (pc := 38) hx hb (tgt := 50) dX6_move_38 (by decide) (fun c_38 => ?_) (fun c_38 => ?_)
            · have hf := hf_t c_38 hf
              refine lv_bipush (pc := 50) hx hb (v := (-11)) dX6_move_50 (by decide) ?_
              obtain rfl := Option.some.inj hf
              exact hR H locs 52 ls hP hD hS dX6_move_52
            · have hf := hf_f c_38 hf
              refine lv_aload (pc := 41) hx hb dX6_move_41 (lv_at hl 0 rfl) ?_
              refine vXgRX6_252_30 (pc := 43) hx hb hts mU_796 inU2 hown hK hP (x := (gI S 28)) rfl dX6_move_43 ?_
              refine lv_iconst (pc := 46) hx hb (v := (-1)) dX6_move_46 (by decide) ?_
              refine lv_icmp_ne (pc := 47) hx hb (tgt := 53) dX6_move_47 (by decide) (fun c_47 => ?_) (fun c_47 => ?_)
              · have hf := hf_f c_47 hf
                refine lv_aload (pc := 53) hx hb dX6_move_53 (lv_at hl 1 rfl) ?_
                refine vXgRX6_252_32 (pc := 55) hx hb hts mU_796 inU2 hown hK hP (x := (gI S 30)) rfl dX6_move_55 ?_
                refine lv_aload (pc := 58) hx hb dX6_move_58 (lv_at hl 0 rfl) ?_
                refine vXgRX6_252_30 (pc := 60) hx hb hts mU_796 inU2 hown hK hP (x := (gI S 28)) rfl dX6_move_60 ?_
                refine lv_icmp_eq (pc := 63) hx hb (tgt := 69) dX6_move_63 (by decide) (fun c_63 => ?_) (fun c_63 => ?_)
                · have hf := hf_t c_63 hf
                  refine lv_aload (pc := 69) hx hb dX6_move_69 (lv_at hl 1 rfl) ?_
                  refine lv_iload_n (pc := 71) hx hb dX6_move_71 rfl (lv_at hl 4 rfl) ?_
                  refine lv_iload (pc := 72) hx hb dX6_move_72 (lv_at hl 7 rfl) ?_
                  obtain ⟨r74, hc74, hf⟩ := hf_b hf
                  refine cl_V (pc := 74) (As := [.int a2, .int a5]) (rest := []) hx hb hml hown hts (kX2_hasStretch_32 l D A B _ S a2 a5 r74 hc74) (cwV 2 hts gwRX6_261 rfl rfl rfl hdX2_hasStretch ⟨Nat.le_of_ble_eq_true rfl, Nat.le_of_ble_eq_true rfl⟩) hN hK hP hD hS hA (va_recv hK hP (ci := 2) (q0 := 32) rfl (eX_32 A B _)) rfl hl.1 rfl (Nat.le_of_ble_eq_true rfl) dX6_move_74 (st1 := [.int r74]) rfl ⟨Nat.zero_le _, Nat.zero_le _⟩ (fun H locs hP hD hS => ?_)
                  refine lv_if_eq (pc := 77) hx hb (tgt := 92) dX6_move_77 (by decide) (fun c_77 => ?_) (fun c_77 => ?_)
                  · have hf := hf_t c_77 hf
                    refine lv_bipush (pc := 92) hx hb (v := (-12)) dX6_move_92 (by decide) ?_
                    obtain rfl := Option.some.inj hf
                    exact hR H locs 94 ls hP hD hS dX6_move_94
                  · have hf := hf_f c_77 hf
                    refine lv_aload (pc := 80) hx hb dX6_move_80 (lv_at hl 0 rfl) ?_
                    refine lv_iload (pc := 82) hx hb dX6_move_82 (lv_at hl 6 rfl) ?_
                    refine lv_iload (pc := 84) hx hb dX6_move_84 (lv_at hl 7 rfl) ?_
                    obtain ⟨r86, hc86, hf⟩ := hf_b hf
                    refine cl_V (pc := 86) (As := [.int a4, .int a5]) (rest := []) hx hb hml hown hts (kX2_hasStretch_30 l D A B _ S a4 a5 r86 hc86) (cwV 2 hts gwRX6_261 rfl rfl rfl hdX2_hasStretch ⟨Nat.le_of_ble_eq_true rfl, Nat.le_of_ble_eq_true rfl⟩) hN hK hP hD hS hA (va_recv hK hP (ci := 2) (q0 := 30) rfl (eX_30 A B _)) rfl hl.1 rfl (Nat.le_of_ble_eq_true rfl) dX6_move_86 (st1 := [.int r86]) rfl ⟨Nat.zero_le _, Nat.zero_le _⟩ (fun H locs hP hD hS => ?_)
                    refine lv_if_ne (pc := 89) hx hb (tgt := 95) dX6_move_89 (by decide) (fun c_89 => ?_) (fun c_89 => ?_)
                    · have hf := hf_f c_89 hf
                      refine lv_aload (pc := 95) hx hb dX6_move_95 (lv_at hl 1 rfl) ?_
                      refine vXgRX6_265_32 (pc := 97) hx hb hts mU_923 inU2 hown hK hP dX6_move_97 ?_
                      refine lv_iload_n (pc := 100) hx hb dX6_move_100 rfl (lv_at hl 4 rfl) ?_
                      refine lv_aload (pc := 101) hx hb dX6_move_101 (lv_at hl 0 rfl) ?_
                      refine vXgRX6_265_30 (pc := 103) hx hb hts mU_923 inU2 hown hK hP dX6_move_103 ?_
                      refine lv_iload (pc := 106) hx hb dX6_move_106 (lv_at hl 6 rfl) ?_
                      refine lv_iload (pc := 108) hx hb dX6_move_108 (lv_at hl 7 rfl) ?_
                      obtain ⟨⟨hg110_1, hg110_2, hg110_3, hg110_4, hg110_5⟩, hf⟩ := hf_g hf
                      refine va_copyl (pc := 110) hx hb (hml.trans hl.1.symm) hown (hts (.methodLink RX6 269 arraycopyName) mU_924) (hts (.native arraycopyName) mU_283) (hts (.static arraycopyName) mU_284) (hts (.initialized "java/lang/System") mU_285) hK hP hD hS 33 31 2 2 (f := (gB S 3)) (g := (gB S 2)) (eX_33 A B S) (eX_31 A B S) (ty := .long) rfl rfl rfl (sp := a2) (dp := a4) (n := a5) hg110_1 hg110_2 hg110_3 hg110_4 hg110_5 (fun _ _ => rfl) (Nat.le_of_ble_eq_true rfl) (Nat.le_of_ble_eq_true rfl) dX6_move_110 (fun H locs hP hD hS => ?_)
                      rw [tX_31] at hP hD
                      refine lv_iload (pc := 113) hx hb dX6_move_113 (lv_at hl 7 rfl) ?_
                      obtain rfl := Option.some.inj hf
                      exact hR H locs 115 ls hP hD hS dX6_move_115
                    · have hf := hf_t c_89 hf
                      refine lv_bipush (pc := 92) hx hb (v := (-12)) dX6_move_92 (by decide) ?_
                      obtain rfl := Option.some.inj hf
                      exact hR H locs 94 ls hP hD hS dX6_move_94
                · have hf := hf_f c_63 hf
                  refine lv_bipush (pc := 66) hx hb (v := (-13)) dX6_move_66 (by decide) ?_
                  obtain rfl := Option.some.inj hf
                  exact hR H locs 68 ls hP hD hS dX6_move_68
              · have hf := hf_t c_47 hf
                refine lv_bipush (pc := 50) hx hb (v := (-11)) dX6_move_50 (by decide) ?_
                obtain rfl := Option.some.inj hf
                exact hR H locs 52 ls hP hD hS dX6_move_52
          · have hf := hf_f e29_0 hf
            by_cases e29_1 : a3 = (1 : Int32)
            · have hf := hf_t e29_1 hf
              refine vXrq_29_1 (pc := 29) hx hb hK hP e29_1 dX6_move_29 ?_
              refine lv_astore (pc := 30) hx hb (lv' := [(7, .ref (A 32)), (6, .ref (A 32)), (0, .ref (A 0)), (1, .int a1), (2, .int a2), (3, .int a3), (4, .int a4), (5, .int a5)]) dX6_move_30 hl (by decide) rfl (fun ls hl => ?_)
              refine lv_aload (pc := 32) hx hb dX6_move_32 (lv_at hl 1 rfl) ?_
              refine vXgRX6_252_32 (pc := 34) hx hb hts mU_796 inU2 hown hK hP (x := (gI S 30)) rfl dX6_move_34 ?_
              refine lv_iconst (pc := 37) hx hb (v := (-1)) dX6_move_37 (by decide) ?_
              refine lv_icmp_eq (pc := 38) hx hb (tgt := 50) dX6_move_38 (by decide) (fun c_38 => ?_) (fun c_38 => ?_)
              · have hf := hf_t c_38 hf
                refine lv_bipush (pc := 50) hx hb (v := (-11)) dX6_move_50 (by decide) ?_
                obtain rfl := Option.some.inj hf
                exact hR H locs 52 ls hP hD hS dX6_move_52
              · have hf := hf_f c_38 hf
                refine lv_aload (pc := 41) hx hb dX6_move_41 (lv_at hl 0 rfl) ?_
                refine vXgRX6_252_32 (pc := 43) hx hb hts mU_796 inU2 hown hK hP (x := (gI S 30)) rfl dX6_move_43 ?_
                refine lv_iconst (pc := 46) hx hb (v := (-1)) dX6_move_46 (by decide) ?_
                refine lv_icmp_ne (pc := 47) hx hb (tgt := 53) dX6_move_47 (by decide) (fun c_47 => ?_) (fun c_47 => ?_)
                · have hf := hf_f c_47 hf
                  refine lv_aload (pc := 53) hx hb dX6_move_53 (lv_at hl 1 rfl) ?_
                  refine vXgRX6_252_32 (pc := 55) hx hb hts mU_796 inU2 hown hK hP (x := (gI S 30)) rfl dX6_move_55 ?_
                  refine lv_aload (pc := 58) hx hb dX6_move_58 (lv_at hl 0 rfl) ?_
                  refine vXgRX6_252_32 (pc := 60) hx hb hts mU_796 inU2 hown hK hP (x := (gI S 30)) rfl dX6_move_60 ?_
                  refine lv_icmp_eq (pc := 63) hx hb (tgt := 69) dX6_move_63 (by decide) (fun c_63 => ?_) (fun c_63 => ?_)
                  · have hf := hf_t c_63 hf
                    refine lv_aload (pc := 69) hx hb dX6_move_69 (lv_at hl 1 rfl) ?_
                    refine lv_iload_n (pc := 71) hx hb dX6_move_71 rfl (lv_at hl 4 rfl) ?_
                    refine lv_iload (pc := 72) hx hb dX6_move_72 (lv_at hl 7 rfl) ?_
                    obtain ⟨r74, hc74, hf⟩ := hf_b hf
                    refine cl_V (pc := 74) (As := [.int a2, .int a5]) (rest := []) hx hb hml hown hts (kX2_hasStretch_32 l D A B _ S a2 a5 r74 hc74) (cwV 2 hts gwRX6_261 rfl rfl rfl hdX2_hasStretch ⟨Nat.le_of_ble_eq_true rfl, Nat.le_of_ble_eq_true rfl⟩) hN hK hP hD hS hA (va_recv hK hP (ci := 2) (q0 := 32) rfl (eX_32 A B _)) rfl hl.1 rfl (Nat.le_of_ble_eq_true rfl) dX6_move_74 (st1 := [.int r74]) rfl ⟨Nat.zero_le _, Nat.zero_le _⟩ (fun H locs hP hD hS => ?_)
                    refine lv_if_eq (pc := 77) hx hb (tgt := 92) dX6_move_77 (by decide) (fun c_77 => ?_) (fun c_77 => ?_)
                    · have hf := hf_t c_77 hf
                      refine lv_bipush (pc := 92) hx hb (v := (-12)) dX6_move_92 (by decide) ?_
                      obtain rfl := Option.some.inj hf
                      exact hR H locs 94 ls hP hD hS dX6_move_94
                    · have hf := hf_f c_77 hf
                      refine lv_aload (pc := 80) hx hb dX6_move_80 (lv_at hl 0 rfl) ?_
                      refine lv_iload (pc := 82) hx hb dX6_move_82 (lv_at hl 6 rfl) ?_
                      refine lv_iload (pc := 84) hx hb dX6_move_84 (lv_at hl 7 rfl) ?_
                      obtain ⟨r86, hc86, hf⟩ := hf_b hf
                      refine cl_V (pc := 86) (As := [.int a4, .int a5]) (rest := []) hx hb hml hown hts (kX2_hasStretch_32 l D A B _ S a4 a5 r86 hc86) (cwV 2 hts gwRX6_261 rfl rfl rfl hdX2_hasStretch ⟨Nat.le_of_ble_eq_true rfl, Nat.le_of_ble_eq_true rfl⟩) hN hK hP hD hS hA (va_recv hK hP (ci := 2) (q0 := 32) rfl (eX_32 A B _)) rfl hl.1 rfl (Nat.le_of_ble_eq_true rfl) dX6_move_86 (st1 := [.int r86]) rfl ⟨Nat.zero_le _, Nat.zero_le _⟩ (fun H locs hP hD hS => ?_)
                      refine lv_if_ne (pc := 89) hx hb (tgt := 95) dX6_move_89 (by decide) (fun c_89 => ?_) (fun c_89 => ?_)
                      · have hf := hf_f c_89 hf
                        refine lv_aload (pc := 95) hx hb dX6_move_95 (lv_at hl 1 rfl) ?_
                        refine vXgRX6_265_32 (pc := 97) hx hb hts mU_923 inU2 hown hK hP dX6_move_97 ?_
                        refine lv_iload_n (pc := 100) hx hb dX6_move_100 rfl (lv_at hl 4 rfl) ?_
                        refine lv_aload (pc := 101) hx hb dX6_move_101 (lv_at hl 0 rfl) ?_
                        refine vXgRX6_265_32 (pc := 103) hx hb hts mU_923 inU2 hown hK hP dX6_move_103 ?_
                        refine lv_iload (pc := 106) hx hb dX6_move_106 (lv_at hl 6 rfl) ?_
                        refine lv_iload (pc := 108) hx hb dX6_move_108 (lv_at hl 7 rfl) ?_
                        obtain ⟨⟨hg110_1, hg110_2, hg110_3, hg110_4, hg110_5⟩, hf⟩ := hf_g hf
                        refine va_copyl (pc := 110) hx hb (hml.trans hl.1.symm) hown (hts (.methodLink RX6 269 arraycopyName) mU_924) (hts (.native arraycopyName) mU_283) (hts (.static arraycopyName) mU_284) (hts (.initialized "java/lang/System") mU_285) hK hP hD hS 33 33 2 2 (f := (gB S 3)) (g := (gB S 3)) (eX_33 A B S) (eX_33 A B S) (ty := .long) rfl rfl rfl (sp := a2) (dp := a4) (n := a5) hg110_1 hg110_2 hg110_3 hg110_4 hg110_5 (fun _ _ => rfl) (Nat.le_of_ble_eq_true rfl) (Nat.le_of_ble_eq_true rfl) dX6_move_110 (fun H locs hP hD hS => ?_)
                        rw [tX_33] at hP hD
                        refine lv_iload (pc := 113) hx hb dX6_move_113 (lv_at hl 7 rfl) ?_
                        obtain rfl := Option.some.inj hf
                        exact hR H locs 115 ls hP hD hS dX6_move_115
                      · have hf := hf_t c_89 hf
                        refine lv_bipush (pc := 92) hx hb (v := (-12)) dX6_move_92 (by decide) ?_
                        obtain rfl := Option.some.inj hf
                        exact hR H locs 94 ls hP hD hS dX6_move_94
                  · have hf := hf_f c_63 hf
                    refine lv_bipush (pc := 66) hx hb (v := (-13)) dX6_move_66 (by decide) ?_
                    obtain rfl := Option.some.inj hf
                    exact hR H locs 68 ls hP hD hS dX6_move_68
                · have hf := hf_t c_47 hf
                  refine lv_bipush (pc := 50) hx hb (v := (-11)) dX6_move_50 (by decide) ?_
                  obtain rfl := Option.some.inj hf
                  exact hR H locs 52 ls hP hD hS dX6_move_52
            · have hf := hf_f e29_1 hf
              by_cases e29_2 : a3 = (2 : Int32)
              · have hf := hf_t e29_2 hf
                refine vXrq_29_2 (pc := 29) hx hb hK hP e29_2 dX6_move_29 ?_
                refine lv_astore (pc := 30) hx hb (lv' := [(7, .ref (A 34)), (6, .ref (A 32)), (0, .ref (A 0)), (1, .int a1), (2, .int a2), (3, .int a3), (4, .int a4), (5, .int a5)]) dX6_move_30 hl (by decide) rfl (fun ls hl => ?_)
                refine lv_aload (pc := 32) hx hb dX6_move_32 (lv_at hl 1 rfl) ?_
                refine vXgRX6_252_32 (pc := 34) hx hb hts mU_796 inU2 hown hK hP (x := (gI S 30)) rfl dX6_move_34 ?_
                refine lv_iconst (pc := 37) hx hb (v := (-1)) dX6_move_37 (by decide) ?_
                refine lv_icmp_eq (pc := 38) hx hb (tgt := 50) dX6_move_38 (by decide) (fun c_38 => ?_) (fun c_38 => ?_)
                · have hf := hf_t c_38 hf
                  refine lv_bipush (pc := 50) hx hb (v := (-11)) dX6_move_50 (by decide) ?_
                  obtain rfl := Option.some.inj hf
                  exact hR H locs 52 ls hP hD hS dX6_move_52
                · have hf := hf_f c_38 hf
                  refine lv_aload (pc := 41) hx hb dX6_move_41 (lv_at hl 0 rfl) ?_
                  refine vXgRX6_252_34 (pc := 43) hx hb hts mU_796 inU2 hown hK hP (x := (gI S 32)) rfl dX6_move_43 ?_
                  refine lv_iconst (pc := 46) hx hb (v := (-1)) dX6_move_46 (by decide) ?_
                  refine lv_icmp_ne (pc := 47) hx hb (tgt := 53) dX6_move_47 (by decide) (fun c_47 => ?_) (fun c_47 => ?_)
                  · have hf := hf_f c_47 hf
                    refine lv_aload (pc := 53) hx hb dX6_move_53 (lv_at hl 1 rfl) ?_
                    refine vXgRX6_252_32 (pc := 55) hx hb hts mU_796 inU2 hown hK hP (x := (gI S 30)) rfl dX6_move_55 ?_
                    refine lv_aload (pc := 58) hx hb dX6_move_58 (lv_at hl 0 rfl) ?_
                    refine vXgRX6_252_34 (pc := 60) hx hb hts mU_796 inU2 hown hK hP (x := (gI S 32)) rfl dX6_move_60 ?_
                    refine lv_icmp_eq (pc := 63) hx hb (tgt := 69) dX6_move_63 (by decide) (fun c_63 => ?_) (fun c_63 => ?_)
                    · have hf := hf_t c_63 hf
                      refine lv_aload (pc := 69) hx hb dX6_move_69 (lv_at hl 1 rfl) ?_
                      refine lv_iload_n (pc := 71) hx hb dX6_move_71 rfl (lv_at hl 4 rfl) ?_
                      refine lv_iload (pc := 72) hx hb dX6_move_72 (lv_at hl 7 rfl) ?_
                      obtain ⟨r74, hc74, hf⟩ := hf_b hf
                      refine cl_V (pc := 74) (As := [.int a2, .int a5]) (rest := []) hx hb hml hown hts (kX2_hasStretch_32 l D A B _ S a2 a5 r74 hc74) (cwV 2 hts gwRX6_261 rfl rfl rfl hdX2_hasStretch ⟨Nat.le_of_ble_eq_true rfl, Nat.le_of_ble_eq_true rfl⟩) hN hK hP hD hS hA (va_recv hK hP (ci := 2) (q0 := 32) rfl (eX_32 A B _)) rfl hl.1 rfl (Nat.le_of_ble_eq_true rfl) dX6_move_74 (st1 := [.int r74]) rfl ⟨Nat.zero_le _, Nat.zero_le _⟩ (fun H locs hP hD hS => ?_)
                      refine lv_if_eq (pc := 77) hx hb (tgt := 92) dX6_move_77 (by decide) (fun c_77 => ?_) (fun c_77 => ?_)
                      · have hf := hf_t c_77 hf
                        refine lv_bipush (pc := 92) hx hb (v := (-12)) dX6_move_92 (by decide) ?_
                        obtain rfl := Option.some.inj hf
                        exact hR H locs 94 ls hP hD hS dX6_move_94
                      · have hf := hf_f c_77 hf
                        refine lv_aload (pc := 80) hx hb dX6_move_80 (lv_at hl 0 rfl) ?_
                        refine lv_iload (pc := 82) hx hb dX6_move_82 (lv_at hl 6 rfl) ?_
                        refine lv_iload (pc := 84) hx hb dX6_move_84 (lv_at hl 7 rfl) ?_
                        obtain ⟨r86, hc86, hf⟩ := hf_b hf
                        refine cl_V (pc := 86) (As := [.int a4, .int a5]) (rest := []) hx hb hml hown hts (kX2_hasStretch_34 l D A B _ S a4 a5 r86 hc86) (cwV 2 hts gwRX6_261 rfl rfl rfl hdX2_hasStretch ⟨Nat.le_of_ble_eq_true rfl, Nat.le_of_ble_eq_true rfl⟩) hN hK hP hD hS hA (va_recv hK hP (ci := 2) (q0 := 34) rfl (eX_34 A B _)) rfl hl.1 rfl (Nat.le_of_ble_eq_true rfl) dX6_move_86 (st1 := [.int r86]) rfl ⟨Nat.zero_le _, Nat.zero_le _⟩ (fun H locs hP hD hS => ?_)
                        refine lv_if_ne (pc := 89) hx hb (tgt := 95) dX6_move_89 (by decide) (fun c_89 => ?_) (fun c_89 => ?_)
                        · have hf := hf_f c_89 hf
                          refine lv_aload (pc := 95) hx hb dX6_move_95 (lv_at hl 1 rfl) ?_
                          refine vXgRX6_265_32 (pc := 97) hx hb hts mU_923 inU2 hown hK hP dX6_move_97 ?_
                          refine lv_iload_n (pc := 100) hx hb dX6_move_100 rfl (lv_at hl 4 rfl) ?_
                          refine lv_aload (pc := 101) hx hb dX6_move_101 (lv_at hl 0 rfl) ?_
                          refine vXgRX6_265_34 (pc := 103) hx hb hts mU_923 inU2 hown hK hP dX6_move_103 ?_
                          refine lv_iload (pc := 106) hx hb dX6_move_106 (lv_at hl 6 rfl) ?_
                          refine lv_iload (pc := 108) hx hb dX6_move_108 (lv_at hl 7 rfl) ?_
                          obtain ⟨⟨hg110_1, hg110_2, hg110_3, hg110_4, hg110_5⟩, hf⟩ := hf_g hf
                          refine va_copyl (pc := 110) hx hb (hml.trans hl.1.symm) hown (hts (.methodLink RX6 269 arraycopyName) mU_924) (hts (.native arraycopyName) mU_283) (hts (.static arraycopyName) mU_284) (hts (.initialized "java/lang/System") mU_285) hK hP hD hS 33 35 2 2 (f := (gB S 3)) (g := (gB S 4)) (eX_33 A B S) (eX_35 A B S) (ty := .long) rfl rfl rfl (sp := a2) (dp := a4) (n := a5) hg110_1 hg110_2 hg110_3 hg110_4 hg110_5 (fun _ _ => rfl) (Nat.le_of_ble_eq_true rfl) (Nat.le_of_ble_eq_true rfl) dX6_move_110 (fun H locs hP hD hS => ?_)
                          rw [tX_35] at hP hD
                          refine lv_iload (pc := 113) hx hb dX6_move_113 (lv_at hl 7 rfl) ?_
                          obtain rfl := Option.some.inj hf
                          exact hR H locs 115 ls hP hD hS dX6_move_115
                        · have hf := hf_t c_89 hf
                          refine lv_bipush (pc := 92) hx hb (v := (-12)) dX6_move_92 (by decide) ?_
                          obtain rfl := Option.some.inj hf
                          exact hR H locs 94 ls hP hD hS dX6_move_94
                    · have hf := hf_f c_63 hf
                      refine lv_bipush (pc := 66) hx hb (v := (-13)) dX6_move_66 (by decide) ?_
                      obtain rfl := Option.some.inj hf
                      exact hR H locs 68 ls hP hD hS dX6_move_68
                  · have hf := hf_t c_47 hf
                    refine lv_bipush (pc := 50) hx hb (v := (-11)) dX6_move_50 (by decide) ?_
                    obtain rfl := Option.some.inj hf
                    exact hR H locs 52 ls hP hD hS dX6_move_52
              · have hf := hf_f e29_2 hf
                by_cases e29_3 : a3 = (3 : Int32)
                · have hf := hf_t e29_3 hf
                  refine vXrq_29_3 (pc := 29) hx hb hK hP e29_3 dX6_move_29 ?_
                  refine lv_astore (pc := 30) hx hb (lv' := [(7, .ref (A 36)), (6, .ref (A 32)), (0, .ref (A 0)), (1, .int a1), (2, .int a2), (3, .int a3), (4, .int a4), (5, .int a5)]) dX6_move_30 hl (by decide) rfl (fun ls hl => ?_)
                  refine lv_aload (pc := 32) hx hb dX6_move_32 (lv_at hl 1 rfl) ?_
                  refine vXgRX6_252_32 (pc := 34) hx hb hts mU_796 inU2 hown hK hP (x := (gI S 30)) rfl dX6_move_34 ?_
                  refine lv_iconst (pc := 37) hx hb (v := (-1)) dX6_move_37 (by decide) ?_
                  refine lv_icmp_eq (pc := 38) hx hb (tgt := 50) dX6_move_38 (by decide) (fun c_38 => ?_) (fun c_38 => ?_)
                  · have hf := hf_t c_38 hf
                    refine lv_bipush (pc := 50) hx hb (v := (-11)) dX6_move_50 (by decide) ?_
                    obtain rfl := Option.some.inj hf
                    exact hR H locs 52 ls hP hD hS dX6_move_52
                  · have hf := hf_f c_38 hf
                    refine lv_aload (pc := 41) hx hb dX6_move_41 (lv_at hl 0 rfl) ?_
                    refine vXgRX6_252_36 (pc := 43) hx hb hts mU_796 inU2 hown hK hP (x := (gI S 34)) rfl dX6_move_43 ?_
                    refine lv_iconst (pc := 46) hx hb (v := (-1)) dX6_move_46 (by decide) ?_
                    refine lv_icmp_ne (pc := 47) hx hb (tgt := 53) dX6_move_47 (by decide) (fun c_47 => ?_) (fun c_47 => ?_)
                    · have hf := hf_f c_47 hf
                      refine lv_aload (pc := 53) hx hb dX6_move_53 (lv_at hl 1 rfl) ?_
                      refine vXgRX6_252_32 (pc := 55) hx hb hts mU_796 inU2 hown hK hP (x := (gI S 30)) rfl dX6_move_55 ?_
                      refine lv_aload (pc := 58) hx hb dX6_move_58 (lv_at hl 0 rfl) ?_
                      refine vXgRX6_252_36 (pc := 60) hx hb hts mU_796 inU2 hown hK hP (x := (gI S 34)) rfl dX6_move_60 ?_
                      refine lv_icmp_eq (pc := 63) hx hb (tgt := 69) dX6_move_63 (by decide) (fun c_63 => ?_) (fun c_63 => ?_)
                      · have hf := hf_t c_63 hf
                        refine lv_aload (pc := 69) hx hb dX6_move_69 (lv_at hl 1 rfl) ?_
                        refine lv_iload_n (pc := 71) hx hb dX6_move_71 rfl (lv_at hl 4 rfl) ?_
                        refine lv_iload (pc := 72) hx hb dX6_move_72 (lv_at hl 7 rfl) ?_
                        obtain ⟨r74, hc74, hf⟩ := hf_b hf
                        refine cl_V (pc := 74) (As := [.int a2, .int a5]) (rest := []) hx hb hml hown hts (kX2_hasStretch_32 l D A B _ S a2 a5 r74 hc74) (cwV 2 hts gwRX6_261 rfl rfl rfl hdX2_hasStretch ⟨Nat.le_of_ble_eq_true rfl, Nat.le_of_ble_eq_true rfl⟩) hN hK hP hD hS hA (va_recv hK hP (ci := 2) (q0 := 32) rfl (eX_32 A B _)) rfl hl.1 rfl (Nat.le_of_ble_eq_true rfl) dX6_move_74 (st1 := [.int r74]) rfl ⟨Nat.zero_le _, Nat.zero_le _⟩ (fun H locs hP hD hS => ?_)
                        refine lv_if_eq (pc := 77) hx hb (tgt := 92) dX6_move_77 (by decide) (fun c_77 => ?_) (fun c_77 => ?_)
                        · have hf := hf_t c_77 hf
                          refine lv_bipush (pc := 92) hx hb (v := (-12)) dX6_move_92 (by decide) ?_
                          obtain rfl := Option.some.inj hf
                          exact hR H locs 94 ls hP hD hS dX6_move_94
                        · have hf := hf_f c_77 hf
                          refine lv_aload (pc := 80) hx hb dX6_move_80 (lv_at hl 0 rfl) ?_
                          refine lv_iload (pc := 82) hx hb dX6_move_82 (lv_at hl 6 rfl) ?_
                          refine lv_iload (pc := 84) hx hb dX6_move_84 (lv_at hl 7 rfl) ?_
                          obtain ⟨r86, hc86, hf⟩ := hf_b hf
                          refine cl_V (pc := 86) (As := [.int a4, .int a5]) (rest := []) hx hb hml hown hts (kX2_hasStretch_36 l D A B _ S a4 a5 r86 hc86) (cwV 2 hts gwRX6_261 rfl rfl rfl hdX2_hasStretch ⟨Nat.le_of_ble_eq_true rfl, Nat.le_of_ble_eq_true rfl⟩) hN hK hP hD hS hA (va_recv hK hP (ci := 2) (q0 := 36) rfl (eX_36 A B _)) rfl hl.1 rfl (Nat.le_of_ble_eq_true rfl) dX6_move_86 (st1 := [.int r86]) rfl ⟨Nat.zero_le _, Nat.zero_le _⟩ (fun H locs hP hD hS => ?_)
                          refine lv_if_ne (pc := 89) hx hb (tgt := 95) dX6_move_89 (by decide) (fun c_89 => ?_) (fun c_89 => ?_)
                          · have hf := hf_f c_89 hf
                            refine lv_aload (pc := 95) hx hb dX6_move_95 (lv_at hl 1 rfl) ?_
                            refine vXgRX6_265_32 (pc := 97) hx hb hts mU_923 inU2 hown hK hP dX6_move_97 ?_
                            refine lv_iload_n (pc := 100) hx hb dX6_move_100 rfl (lv_at hl 4 rfl) ?_
                            refine lv_aload (pc := 101) hx hb dX6_move_101 (lv_at hl 0 rfl) ?_
                            refine vXgRX6_265_36 (pc := 103) hx hb hts mU_923 inU2 hown hK hP dX6_move_103 ?_
                            refine lv_iload (pc := 106) hx hb dX6_move_106 (lv_at hl 6 rfl) ?_
                            refine lv_iload (pc := 108) hx hb dX6_move_108 (lv_at hl 7 rfl) ?_
                            obtain ⟨⟨hg110_1, hg110_2, hg110_3, hg110_4, hg110_5⟩, hf⟩ := hf_g hf
                            refine va_copyl (pc := 110) hx hb (hml.trans hl.1.symm) hown (hts (.methodLink RX6 269 arraycopyName) mU_924) (hts (.native arraycopyName) mU_283) (hts (.static arraycopyName) mU_284) (hts (.initialized "java/lang/System") mU_285) hK hP hD hS 33 37 2 2 (f := (gB S 3)) (g := (gB S 5)) (eX_33 A B S) (eX_37 A B S) (ty := .long) rfl rfl rfl (sp := a2) (dp := a4) (n := a5) hg110_1 hg110_2 hg110_3 hg110_4 hg110_5 (fun _ _ => rfl) (Nat.le_of_ble_eq_true rfl) (Nat.le_of_ble_eq_true rfl) dX6_move_110 (fun H locs hP hD hS => ?_)
                            rw [tX_37] at hP hD
                            refine lv_iload (pc := 113) hx hb dX6_move_113 (lv_at hl 7 rfl) ?_
                            obtain rfl := Option.some.inj hf
                            exact hR H locs 115 ls hP hD hS dX6_move_115
                          · have hf := hf_t c_89 hf
                            refine lv_bipush (pc := 92) hx hb (v := (-12)) dX6_move_92 (by decide) ?_
                            obtain rfl := Option.some.inj hf
                            exact hR H locs 94 ls hP hD hS dX6_move_94
                      · have hf := hf_f c_63 hf
                        refine lv_bipush (pc := 66) hx hb (v := (-13)) dX6_move_66 (by decide) ?_
                        obtain rfl := Option.some.inj hf
                        exact hR H locs 68 ls hP hD hS dX6_move_68
                    · have hf := hf_t c_47 hf
                      refine lv_bipush (pc := 50) hx hb (v := (-11)) dX6_move_50 (by decide) ?_
                      obtain rfl := Option.some.inj hf
                      exact hR H locs 52 ls hP hD hS dX6_move_52
                · have hf := hf_f e29_3 hf
                  exact hf_0 hf
        · have hf := hf_f e21_1 hf
          by_cases e21_2 : a1 = (2 : Int32)
          · have hf := hf_t e21_2 hf
            refine vXrq_29_2 (pc := 21) hx hb hK hP e21_2 dX6_move_21 ?_
            refine lv_astore (pc := 22) hx hb (lv' := [(6, .ref (A 34)), (0, .ref (A 0)), (1, .int a1), (2, .int a2), (3, .int a3), (4, .int a4), (5, .int a5)]) dX6_move_22 hl (by decide) rfl (fun ls hl => ?_)
            refine lv_aload_n (pc := 24) hx hb dX6_move_24 rfl (lv_at hl 1 rfl) ?_
            refine vXgRX6_48_0 (pc := 25) hx hb hts mU_33 inU6 hown hK hP dX6_move_25 ?_
            refine lv_iload_n (pc := 28) hx hb dX6_move_28 rfl (lv_at hl 4 rfl) ?_
            by_cases e29_0 : a3 = (0 : Int32)
            · have hf := hf_t e29_0 hf
              refine vXrq_29_0 (pc := 29) hx hb hK hP e29_0 dX6_move_29 ?_
              refine lv_astore (pc := 30) hx hb (lv' := [(7, .ref (A 30)), (6, .ref (A 34)), (0, .ref (A 0)), (1, .int a1), (2, .int a2), (3, .int a3), (4, .int a4), (5, .int a5)]) dX6_move_30 hl (by decide) rfl (fun ls hl => ?_)
              refine lv_aload (pc := 32) hx hb dX6_move_32 (lv_at hl 1 rfl) ?_
              refine vXgRX6_252_34 (pc := 34) hx hb hts mU_796 inU2 hown hK hP (x := (gI S 32)) rfl dX6_move_34 ?_
              refine lv_iconst (pc := 37) hx hb (v := (-1)) dX6_move_37 (by decide) ?_
              refine lv_icmp_eq (pc := 38) hx hb (tgt := 50) dX6_move_38 (by decide) (fun c_38 => ?_) (fun c_38 => ?_)
              · have hf := hf_t c_38 hf
                refine lv_bipush (pc := 50) hx hb (v := (-11)) dX6_move_50 (by decide) ?_
                obtain rfl := Option.some.inj hf
                exact hR H locs 52 ls hP hD hS dX6_move_52
              · have hf := hf_f c_38 hf
                refine lv_aload (pc := 41) hx hb dX6_move_41 (lv_at hl 0 rfl) ?_
                refine vXgRX6_252_30 (pc := 43) hx hb hts mU_796 inU2 hown hK hP (x := (gI S 28)) rfl dX6_move_43 ?_
                refine lv_iconst (pc := 46) hx hb (v := (-1)) dX6_move_46 (by decide) ?_
                refine lv_icmp_ne (pc := 47) hx hb (tgt := 53) dX6_move_47 (by decide) (fun c_47 => ?_) (fun c_47 => ?_)
                · have hf := hf_f c_47 hf
                  refine lv_aload (pc := 53) hx hb dX6_move_53 (lv_at hl 1 rfl) ?_
                  refine vXgRX6_252_34 (pc := 55) hx hb hts mU_796 inU2 hown hK hP (x := (gI S 32)) rfl dX6_move_55 ?_
                  refine lv_aload (pc := 58) hx hb dX6_move_58 (lv_at hl 0 rfl) ?_
                  refine vXgRX6_252_30 (pc := 60) hx hb hts mU_796 inU2 hown hK hP (x := (gI S 28)) rfl dX6_move_60 ?_
                  refine lv_icmp_eq (pc := 63) hx hb (tgt := 69) dX6_move_63 (by decide) (fun c_63 => ?_) (fun c_63 => ?_)
                  · have hf := hf_t c_63 hf
                    refine lv_aload (pc := 69) hx hb dX6_move_69 (lv_at hl 1 rfl) ?_
                    refine lv_iload_n (pc := 71) hx hb dX6_move_71 rfl (lv_at hl 4 rfl) ?_
                    refine lv_iload (pc := 72) hx hb dX6_move_72 (lv_at hl 7 rfl) ?_
                    obtain ⟨r74, hc74, hf⟩ := hf_b hf
                    refine cl_V (pc := 74) (As := [.int a2, .int a5]) (rest := []) hx hb hml hown hts (kX2_hasStretch_34 l D A B _ S a2 a5 r74 hc74) (cwV 2 hts gwRX6_261 rfl rfl rfl hdX2_hasStretch ⟨Nat.le_of_ble_eq_true rfl, Nat.le_of_ble_eq_true rfl⟩) hN hK hP hD hS hA (va_recv hK hP (ci := 2) (q0 := 34) rfl (eX_34 A B _)) rfl hl.1 rfl (Nat.le_of_ble_eq_true rfl) dX6_move_74 (st1 := [.int r74]) rfl ⟨Nat.zero_le _, Nat.zero_le _⟩ (fun H locs hP hD hS => ?_)
                    refine lv_if_eq (pc := 77) hx hb (tgt := 92) dX6_move_77 (by decide) (fun c_77 => ?_) (fun c_77 => ?_)
                    · have hf := hf_t c_77 hf
                      refine lv_bipush (pc := 92) hx hb (v := (-12)) dX6_move_92 (by decide) ?_
                      obtain rfl := Option.some.inj hf
                      exact hR H locs 94 ls hP hD hS dX6_move_94
                    · have hf := hf_f c_77 hf
                      refine lv_aload (pc := 80) hx hb dX6_move_80 (lv_at hl 0 rfl) ?_
                      refine lv_iload (pc := 82) hx hb dX6_move_82 (lv_at hl 6 rfl) ?_
                      refine lv_iload (pc := 84) hx hb dX6_move_84 (lv_at hl 7 rfl) ?_
                      obtain ⟨r86, hc86, hf⟩ := hf_b hf
                      refine cl_V (pc := 86) (As := [.int a4, .int a5]) (rest := []) hx hb hml hown hts (kX2_hasStretch_30 l D A B _ S a4 a5 r86 hc86) (cwV 2 hts gwRX6_261 rfl rfl rfl hdX2_hasStretch ⟨Nat.le_of_ble_eq_true rfl, Nat.le_of_ble_eq_true rfl⟩) hN hK hP hD hS hA (va_recv hK hP (ci := 2) (q0 := 30) rfl (eX_30 A B _)) rfl hl.1 rfl (Nat.le_of_ble_eq_true rfl) dX6_move_86 (st1 := [.int r86]) rfl ⟨Nat.zero_le _, Nat.zero_le _⟩ (fun H locs hP hD hS => ?_)
                      refine lv_if_ne (pc := 89) hx hb (tgt := 95) dX6_move_89 (by decide) (fun c_89 => ?_) (fun c_89 => ?_)
                      · have hf := hf_f c_89 hf
                        refine lv_aload (pc := 95) hx hb dX6_move_95 (lv_at hl 1 rfl) ?_
                        refine vXgRX6_265_34 (pc := 97) hx hb hts mU_923 inU2 hown hK hP dX6_move_97 ?_
                        refine lv_iload_n (pc := 100) hx hb dX6_move_100 rfl (lv_at hl 4 rfl) ?_
                        refine lv_aload (pc := 101) hx hb dX6_move_101 (lv_at hl 0 rfl) ?_
                        refine vXgRX6_265_30 (pc := 103) hx hb hts mU_923 inU2 hown hK hP dX6_move_103 ?_
                        refine lv_iload (pc := 106) hx hb dX6_move_106 (lv_at hl 6 rfl) ?_
                        refine lv_iload (pc := 108) hx hb dX6_move_108 (lv_at hl 7 rfl) ?_
                        obtain ⟨⟨hg110_1, hg110_2, hg110_3, hg110_4, hg110_5⟩, hf⟩ := hf_g hf
                        refine va_copyl (pc := 110) hx hb (hml.trans hl.1.symm) hown (hts (.methodLink RX6 269 arraycopyName) mU_924) (hts (.native arraycopyName) mU_283) (hts (.static arraycopyName) mU_284) (hts (.initialized "java/lang/System") mU_285) hK hP hD hS 35 31 2 2 (f := (gB S 4)) (g := (gB S 2)) (eX_35 A B S) (eX_31 A B S) (ty := .long) rfl rfl rfl (sp := a2) (dp := a4) (n := a5) hg110_1 hg110_2 hg110_3 hg110_4 hg110_5 (fun _ _ => rfl) (Nat.le_of_ble_eq_true rfl) (Nat.le_of_ble_eq_true rfl) dX6_move_110 (fun H locs hP hD hS => ?_)
                        rw [tX_31] at hP hD
                        refine lv_iload (pc := 113) hx hb dX6_move_113 (lv_at hl 7 rfl) ?_
                        obtain rfl := Option.some.inj hf
                        exact hR H locs 115 ls hP hD hS dX6_move_115
                      · have hf := hf_t c_89 hf
                        refine lv_bipush (pc := 92) hx hb (v := (-12)) dX6_move_92 (by decide) ?_
                        obtain rfl := Option.some.inj hf
                        exact hR H locs 94 ls hP hD hS dX6_move_94
                  · have hf := hf_f c_63 hf
                    refine lv_bipush (pc := 66) hx hb (v := (-13)) dX6_move_66 (by decide) ?_
                    obtain rfl := Option.some.inj hf
                    exact hR H locs 68 ls hP hD hS dX6_move_68
                · have hf := hf_t c_47 hf
                  refine lv_bipush (pc := 50) hx hb (v := (-11)) dX6_move_50 (by decide) ?_
                  obtain rfl := Option.some.inj hf
                  exact hR H locs 52 ls hP hD hS dX6_move_52
            · have hf := hf_f e29_0 hf
              by_cases e29_1 : a3 = (1 : Int32)
              · have hf := hf_t e29_1 hf
                refine vXrq_29_1 (pc := 29) hx hb hK hP e29_1 dX6_move_29 ?_
                refine lv_astore (pc := 30) hx hb (lv' := [(7, .ref (A 32)), (6, .ref (A 34)), (0, .ref (A 0)), (1, .int a1), (2, .int a2), (3, .int a3), (4, .int a4), (5, .int a5)]) dX6_move_30 hl (by decide) rfl (fun ls hl => ?_)
                refine lv_aload (pc := 32) hx hb dX6_move_32 (lv_at hl 1 rfl) ?_
                refine vXgRX6_252_34 (pc := 34) hx hb hts mU_796 inU2 hown hK hP (x := (gI S 32)) rfl dX6_move_34 ?_
                refine lv_iconst (pc := 37) hx hb (v := (-1)) dX6_move_37 (by decide) ?_
                refine lv_icmp_eq (pc := 38) hx hb (tgt := 50) dX6_move_38 (by decide) (fun c_38 => ?_) (fun c_38 => ?_)
                · have hf := hf_t c_38 hf
                  refine lv_bipush (pc := 50) hx hb (v := (-11)) dX6_move_50 (by decide) ?_
                  obtain rfl := Option.some.inj hf
                  exact hR H locs 52 ls hP hD hS dX6_move_52
                · have hf := hf_f c_38 hf
                  refine lv_aload (pc := 41) hx hb dX6_move_41 (lv_at hl 0 rfl) ?_
                  refine vXgRX6_252_32 (pc := 43) hx hb hts mU_796 inU2 hown hK hP (x := (gI S 30)) rfl dX6_move_43 ?_
                  refine lv_iconst (pc := 46) hx hb (v := (-1)) dX6_move_46 (by decide) ?_
                  refine lv_icmp_ne (pc := 47) hx hb (tgt := 53) dX6_move_47 (by decide) (fun c_47 => ?_) (fun c_47 => ?_)
                  · have hf := hf_f c_47 hf
                    refine lv_aload (pc := 53) hx hb dX6_move_53 (lv_at hl 1 rfl) ?_
                    refine vXgRX6_252_34 (pc := 55) hx hb hts mU_796 inU2 hown hK hP (x := (gI S 32)) rfl dX6_move_55 ?_
                    refine lv_aload (pc := 58) hx hb dX6_move_58 (lv_at hl 0 rfl) ?_
                    refine vXgRX6_252_32 (pc := 60) hx hb hts mU_796 inU2 hown hK hP (x := (gI S 30)) rfl dX6_move_60 ?_
                    refine lv_icmp_eq (pc := 63) hx hb (tgt := 69) dX6_move_63 (by decide) (fun c_63 => ?_) (fun c_63 => ?_)
                    · have hf := hf_t c_63 hf
                      refine lv_aload (pc := 69) hx hb dX6_move_69 (lv_at hl 1 rfl) ?_
                      refine lv_iload_n (pc := 71) hx hb dX6_move_71 rfl (lv_at hl 4 rfl) ?_
                      refine lv_iload (pc := 72) hx hb dX6_move_72 (lv_at hl 7 rfl) ?_
                      obtain ⟨r74, hc74, hf⟩ := hf_b hf
                      refine cl_V (pc := 74) (As := [.int a2, .int a5]) (rest := []) hx hb hml hown hts (kX2_hasStretch_34 l D A B _ S a2 a5 r74 hc74) (cwV 2 hts gwRX6_261 rfl rfl rfl hdX2_hasStretch ⟨Nat.le_of_ble_eq_true rfl, Nat.le_of_ble_eq_true rfl⟩) hN hK hP hD hS hA (va_recv hK hP (ci := 2) (q0 := 34) rfl (eX_34 A B _)) rfl hl.1 rfl (Nat.le_of_ble_eq_true rfl) dX6_move_74 (st1 := [.int r74]) rfl ⟨Nat.zero_le _, Nat.zero_le _⟩ (fun H locs hP hD hS => ?_)
                      refine lv_if_eq (pc := 77) hx hb (tgt := 92) dX6_move_77 (by decide) (fun c_77 => ?_) (fun c_77 => ?_)
                      · have hf := hf_t c_77 hf
                        refine lv_bipush (pc := 92) hx hb (v := (-12)) dX6_move_92 (by decide) ?_
                        obtain rfl := Option.some.inj hf
                        exact hR H locs 94 ls hP hD hS dX6_move_94
                      · have hf := hf_f c_77 hf
                        refine lv_aload (pc := 80) hx hb dX6_move_80 (lv_at hl 0 rfl) ?_
                        refine lv_iload (pc := 82) hx hb dX6_move_82 (lv_at hl 6 rfl) ?_
                        refine lv_iload (pc := 84) hx hb dX6_move_84 (lv_at hl 7 rfl) ?_
                        obtain ⟨r86, hc86, hf⟩ := hf_b hf
                        refine cl_V (pc := 86) (As := [.int a4, .int a5]) (rest := []) hx hb hml hown hts (kX2_hasStretch_32 l D A B _ S a4 a5 r86 hc86) (cwV 2 hts gwRX6_261 rfl rfl rfl hdX2_hasStretch ⟨Nat.le_of_ble_eq_true rfl, Nat.le_of_ble_eq_true rfl⟩) hN hK hP hD hS hA (va_recv hK hP (ci := 2) (q0 := 32) rfl (eX_32 A B _)) rfl hl.1 rfl (Nat.le_of_ble_eq_true rfl) dX6_move_86 (st1 := [.int r86]) rfl ⟨Nat.zero_le _, Nat.zero_le _⟩ (fun H locs hP hD hS => ?_)
                        refine lv_if_ne (pc := 89) hx hb (tgt := 95) dX6_move_89 (by decide) (fun c_89 => ?_) (fun c_89 => ?_)
                        · have hf := hf_f c_89 hf
                          refine lv_aload (pc := 95) hx hb dX6_move_95 (lv_at hl 1 rfl) ?_
                          refine vXgRX6_265_34 (pc := 97) hx hb hts mU_923 inU2 hown hK hP dX6_move_97 ?_
                          refine lv_iload_n (pc := 100) hx hb dX6_move_100 rfl (lv_at hl 4 rfl) ?_
                          refine lv_aload (pc := 101) hx hb dX6_move_101 (lv_at hl 0 rfl) ?_
                          refine vXgRX6_265_32 (pc := 103) hx hb hts mU_923 inU2 hown hK hP dX6_move_103 ?_
                          refine lv_iload (pc := 106) hx hb dX6_move_106 (lv_at hl 6 rfl) ?_
                          refine lv_iload (pc := 108) hx hb dX6_move_108 (lv_at hl 7 rfl) ?_
                          obtain ⟨⟨hg110_1, hg110_2, hg110_3, hg110_4, hg110_5⟩, hf⟩ := hf_g hf
                          refine va_copyl (pc := 110) hx hb (hml.trans hl.1.symm) hown (hts (.methodLink RX6 269 arraycopyName) mU_924) (hts (.native arraycopyName) mU_283) (hts (.static arraycopyName) mU_284) (hts (.initialized "java/lang/System") mU_285) hK hP hD hS 35 33 2 2 (f := (gB S 4)) (g := (gB S 3)) (eX_35 A B S) (eX_33 A B S) (ty := .long) rfl rfl rfl (sp := a2) (dp := a4) (n := a5) hg110_1 hg110_2 hg110_3 hg110_4 hg110_5 (fun _ _ => rfl) (Nat.le_of_ble_eq_true rfl) (Nat.le_of_ble_eq_true rfl) dX6_move_110 (fun H locs hP hD hS => ?_)
                          rw [tX_33] at hP hD
                          refine lv_iload (pc := 113) hx hb dX6_move_113 (lv_at hl 7 rfl) ?_
                          obtain rfl := Option.some.inj hf
                          exact hR H locs 115 ls hP hD hS dX6_move_115
                        · have hf := hf_t c_89 hf
                          refine lv_bipush (pc := 92) hx hb (v := (-12)) dX6_move_92 (by decide) ?_
                          obtain rfl := Option.some.inj hf
                          exact hR H locs 94 ls hP hD hS dX6_move_94
                    · have hf := hf_f c_63 hf
                      refine lv_bipush (pc := 66) hx hb (v := (-13)) dX6_move_66 (by decide) ?_
                      obtain rfl := Option.some.inj hf
                      exact hR H locs 68 ls hP hD hS dX6_move_68
                  · have hf := hf_t c_47 hf
                    refine lv_bipush (pc := 50) hx hb (v := (-11)) dX6_move_50 (by decide) ?_
                    obtain rfl := Option.some.inj hf
                    exact hR H locs 52 ls hP hD hS dX6_move_52
              · have hf := hf_f e29_1 hf
                by_cases e29_2 : a3 = (2 : Int32)
                · have hf := hf_t e29_2 hf
                  refine vXrq_29_2 (pc := 29) hx hb hK hP e29_2 dX6_move_29 ?_
                  refine lv_astore (pc := 30) hx hb (lv' := [(7, .ref (A 34)), (6, .ref (A 34)), (0, .ref (A 0)), (1, .int a1), (2, .int a2), (3, .int a3), (4, .int a4), (5, .int a5)]) dX6_move_30 hl (by decide) rfl (fun ls hl => ?_)
                  refine lv_aload (pc := 32) hx hb dX6_move_32 (lv_at hl 1 rfl) ?_
                  refine vXgRX6_252_34 (pc := 34) hx hb hts mU_796 inU2 hown hK hP (x := (gI S 32)) rfl dX6_move_34 ?_
                  refine lv_iconst (pc := 37) hx hb (v := (-1)) dX6_move_37 (by decide) ?_
                  refine lv_icmp_eq (pc := 38) hx hb (tgt := 50) dX6_move_38 (by decide) (fun c_38 => ?_) (fun c_38 => ?_)
                  · have hf := hf_t c_38 hf
                    refine lv_bipush (pc := 50) hx hb (v := (-11)) dX6_move_50 (by decide) ?_
                    obtain rfl := Option.some.inj hf
                    exact hR H locs 52 ls hP hD hS dX6_move_52
                  · have hf := hf_f c_38 hf
                    refine lv_aload (pc := 41) hx hb dX6_move_41 (lv_at hl 0 rfl) ?_
                    refine vXgRX6_252_34 (pc := 43) hx hb hts mU_796 inU2 hown hK hP (x := (gI S 32)) rfl dX6_move_43 ?_
                    refine lv_iconst (pc := 46) hx hb (v := (-1)) dX6_move_46 (by decide) ?_
                    refine lv_icmp_ne (pc := 47) hx hb (tgt := 53) dX6_move_47 (by decide) (fun c_47 => ?_) (fun c_47 => ?_)
                    · have hf := hf_f c_47 hf
                      refine lv_aload (pc := 53) hx hb dX6_move_53 (lv_at hl 1 rfl) ?_
                      refine vXgRX6_252_34 (pc := 55) hx hb hts mU_796 inU2 hown hK hP (x := (gI S 32)) rfl dX6_move_55 ?_
                      refine lv_aload (pc := 58) hx hb dX6_move_58 (lv_at hl 0 rfl) ?_
                      refine vXgRX6_252_34 (pc := 60) hx hb hts mU_796 inU2 hown hK hP (x := (gI S 32)) rfl dX6_move_60 ?_
                      refine lv_icmp_eq (pc := 63) hx hb (tgt := 69) dX6_move_63 (by decide) (fun c_63 => ?_) (fun c_63 => ?_)
                      · have hf := hf_t c_63 hf
                        refine lv_aload (pc := 69) hx hb dX6_move_69 (lv_at hl 1 rfl) ?_
                        refine lv_iload_n (pc := 71) hx hb dX6_move_71 rfl (lv_at hl 4 rfl) ?_
                        refine lv_iload (pc := 72) hx hb dX6_move_72 (lv_at hl 7 rfl) ?_
                        obtain ⟨r74, hc74, hf⟩ := hf_b hf
                        refine cl_V (pc := 74) (As := [.int a2, .int a5]) (rest := []) hx hb hml hown hts (kX2_hasStretch_34 l D A B _ S a2 a5 r74 hc74) (cwV 2 hts gwRX6_261 rfl rfl rfl hdX2_hasStretch ⟨Nat.le_of_ble_eq_true rfl, Nat.le_of_ble_eq_true rfl⟩) hN hK hP hD hS hA (va_recv hK hP (ci := 2) (q0 := 34) rfl (eX_34 A B _)) rfl hl.1 rfl (Nat.le_of_ble_eq_true rfl) dX6_move_74 (st1 := [.int r74]) rfl ⟨Nat.zero_le _, Nat.zero_le _⟩ (fun H locs hP hD hS => ?_)
                        refine lv_if_eq (pc := 77) hx hb (tgt := 92) dX6_move_77 (by decide) (fun c_77 => ?_) (fun c_77 => ?_)
                        · have hf := hf_t c_77 hf
                          refine lv_bipush (pc := 92) hx hb (v := (-12)) dX6_move_92 (by decide) ?_
                          obtain rfl := Option.some.inj hf
                          exact hR H locs 94 ls hP hD hS dX6_move_94
                        · have hf := hf_f c_77 hf
                          refine lv_aload (pc := 80) hx hb dX6_move_80 (lv_at hl 0 rfl) ?_
                          refine lv_iload (pc := 82) hx hb dX6_move_82 (lv_at hl 6 rfl) ?_
                          refine lv_iload (pc := 84) hx hb dX6_move_84 (lv_at hl 7 rfl) ?_
                          obtain ⟨r86, hc86, hf⟩ := hf_b hf
                          refine cl_V (pc := 86) (As := [.int a4, .int a5]) (rest := []) hx hb hml hown hts (kX2_hasStretch_34 l D A B _ S a4 a5 r86 hc86) (cwV 2 hts gwRX6_261 rfl rfl rfl hdX2_hasStretch ⟨Nat.le_of_ble_eq_true rfl, Nat.le_of_ble_eq_true rfl⟩) hN hK hP hD hS hA (va_recv hK hP (ci := 2) (q0 := 34) rfl (eX_34 A B _)) rfl hl.1 rfl (Nat.le_of_ble_eq_true rfl) dX6_move_86 (st1 := [.int r86]) rfl ⟨Nat.zero_le _, Nat.zero_le _⟩ (fun H locs hP hD hS => ?_)
                          refine lv_if_ne (pc := 89) hx hb (tgt := 95) dX6_move_89 (by decide) (fun c_89 => ?_) (fun c_89 => ?_)
                          · have hf := hf_f c_89 hf
                            refine lv_aload (pc := 95) hx hb dX6_move_95 (lv_at hl 1 rfl) ?_
                            refine vXgRX6_265_34 (pc := 97) hx hb hts mU_923 inU2 hown hK hP dX6_move_97 ?_
                            refine lv_iload_n (pc := 100) hx hb dX6_move_100 rfl (lv_at hl 4 rfl) ?_
                            refine lv_aload (pc := 101) hx hb dX6_move_101 (lv_at hl 0 rfl) ?_
                            refine vXgRX6_265_34 (pc := 103) hx hb hts mU_923 inU2 hown hK hP dX6_move_103 ?_
                            refine lv_iload (pc := 106) hx hb dX6_move_106 (lv_at hl 6 rfl) ?_
                            refine lv_iload (pc := 108) hx hb dX6_move_108 (lv_at hl 7 rfl) ?_
                            obtain ⟨⟨hg110_1, hg110_2, hg110_3, hg110_4, hg110_5⟩, hf⟩ := hf_g hf
                            refine va_copyl (pc := 110) hx hb (hml.trans hl.1.symm) hown (hts (.methodLink RX6 269 arraycopyName) mU_924) (hts (.native arraycopyName) mU_283) (hts (.static arraycopyName) mU_284) (hts (.initialized "java/lang/System") mU_285) hK hP hD hS 35 35 2 2 (f := (gB S 4)) (g := (gB S 4)) (eX_35 A B S) (eX_35 A B S) (ty := .long) rfl rfl rfl (sp := a2) (dp := a4) (n := a5) hg110_1 hg110_2 hg110_3 hg110_4 hg110_5 (fun _ _ => rfl) (Nat.le_of_ble_eq_true rfl) (Nat.le_of_ble_eq_true rfl) dX6_move_110 (fun H locs hP hD hS => ?_)
                            rw [tX_35] at hP hD
                            refine lv_iload (pc := 113) hx hb dX6_move_113 (lv_at hl 7 rfl) ?_
                            obtain rfl := Option.some.inj hf
                            exact hR H locs 115 ls hP hD hS dX6_move_115
                          · have hf := hf_t c_89 hf
                            refine lv_bipush (pc := 92) hx hb (v := (-12)) dX6_move_92 (by decide) ?_
                            obtain rfl := Option.some.inj hf
                            exact hR H locs 94 ls hP hD hS dX6_move_94
                      · have hf := hf_f c_63 hf
                        refine lv_bipush (pc := 66) hx hb (v := (-13)) dX6_move_66 (by decide) ?_
                        obtain rfl := Option.some.inj hf
                        exact hR H locs 68 ls hP hD hS dX6_move_68
                    · have hf := hf_t c_47 hf
                      refine lv_bipush (pc := 50) hx hb (v := (-11)) dX6_move_50 (by decide) ?_
                      obtain rfl := Option.some.inj hf
                      exact hR H locs 52 ls hP hD hS dX6_move_52
                · have hf := hf_f e29_2 hf
                  by_cases e29_3 : a3 = (3 : Int32)
                  · have hf := hf_t e29_3 hf
                    refine vXrq_29_3 (pc := 29) hx hb hK hP e29_3 dX6_move_29 ?_
                    refine lv_astore (pc := 30) hx hb (lv' := [(7, .ref (A 36)), (6, .ref (A 34)), (0, .ref (A 0)), (1, .int a1), (2, .int a2), (3, .int a3), (4, .int a4), (5, .int a5)]) dX6_move_30 hl (by decide) rfl (fun ls hl => ?_)
                    refine lv_aload (pc := 32) hx hb dX6_move_32 (lv_at hl 1 rfl) ?_
                    refine vXgRX6_252_34 (pc := 34) hx hb hts mU_796 inU2 hown hK hP (x := (gI S 32)) rfl dX6_move_34 ?_
                    refine lv_iconst (pc := 37) hx hb (v := (-1)) dX6_move_37 (by decide) ?_
                    refine lv_icmp_eq (pc := 38) hx hb (tgt := 50) dX6_move_38 (by decide) (fun c_38 => ?_) (fun c_38 => ?_)
                    · have hf := hf_t c_38 hf
                      refine lv_bipush (pc := 50) hx hb (v := (-11)) dX6_move_50 (by decide) ?_
                      obtain rfl := Option.some.inj hf
                      exact hR H locs 52 ls hP hD hS dX6_move_52
                    · have hf := hf_f c_38 hf
                      refine lv_aload (pc := 41) hx hb dX6_move_41 (lv_at hl 0 rfl) ?_
                      refine vXgRX6_252_36 (pc := 43) hx hb hts mU_796 inU2 hown hK hP (x := (gI S 34)) rfl dX6_move_43 ?_
                      refine lv_iconst (pc := 46) hx hb (v := (-1)) dX6_move_46 (by decide) ?_
                      refine lv_icmp_ne (pc := 47) hx hb (tgt := 53) dX6_move_47 (by decide) (fun c_47 => ?_) (fun c_47 => ?_)
                      · have hf := hf_f c_47 hf
                        refine lv_aload (pc := 53) hx hb dX6_move_53 (lv_at hl 1 rfl) ?_
                        refine vXgRX6_252_34 (pc := 55) hx hb hts mU_796 inU2 hown hK hP (x := (gI S 32)) rfl dX6_move_55 ?_
                        refine lv_aload (pc := 58) hx hb dX6_move_58 (lv_at hl 0 rfl) ?_
                        refine vXgRX6_252_36 (pc := 60) hx hb hts mU_796 inU2 hown hK hP (x := (gI S 34)) rfl dX6_move_60 ?_
                        refine lv_icmp_eq (pc := 63) hx hb (tgt := 69) dX6_move_63 (by decide) (fun c_63 => ?_) (fun c_63 => ?_)
                        · have hf := hf_t c_63 hf
                          refine lv_aload (pc := 69) hx hb dX6_move_69 (lv_at hl 1 rfl) ?_
                          refine lv_iload_n (pc := 71) hx hb dX6_move_71 rfl (lv_at hl 4 rfl) ?_
                          refine lv_iload (pc := 72) hx hb dX6_move_72 (lv_at hl 7 rfl) ?_
                          obtain ⟨r74, hc74, hf⟩ := hf_b hf
                          refine cl_V (pc := 74) (As := [.int a2, .int a5]) (rest := []) hx hb hml hown hts (kX2_hasStretch_34 l D A B _ S a2 a5 r74 hc74) (cwV 2 hts gwRX6_261 rfl rfl rfl hdX2_hasStretch ⟨Nat.le_of_ble_eq_true rfl, Nat.le_of_ble_eq_true rfl⟩) hN hK hP hD hS hA (va_recv hK hP (ci := 2) (q0 := 34) rfl (eX_34 A B _)) rfl hl.1 rfl (Nat.le_of_ble_eq_true rfl) dX6_move_74 (st1 := [.int r74]) rfl ⟨Nat.zero_le _, Nat.zero_le _⟩ (fun H locs hP hD hS => ?_)
                          refine lv_if_eq (pc := 77) hx hb (tgt := 92) dX6_move_77 (by decide) (fun c_77 => ?_) (fun c_77 => ?_)
                          · have hf := hf_t c_77 hf
                            refine lv_bipush (pc := 92) hx hb (v := (-12)) dX6_move_92 (by decide) ?_
                            obtain rfl := Option.some.inj hf
                            exact hR H locs 94 ls hP hD hS dX6_move_94
                          · have hf := hf_f c_77 hf
                            refine lv_aload (pc := 80) hx hb dX6_move_80 (lv_at hl 0 rfl) ?_
                            refine lv_iload (pc := 82) hx hb dX6_move_82 (lv_at hl 6 rfl) ?_
                            refine lv_iload (pc := 84) hx hb dX6_move_84 (lv_at hl 7 rfl) ?_
                            obtain ⟨r86, hc86, hf⟩ := hf_b hf
                            refine cl_V (pc := 86) (As := [.int a4, .int a5]) (rest := []) hx hb hml hown hts (kX2_hasStretch_36 l D A B _ S a4 a5 r86 hc86) (cwV 2 hts gwRX6_261 rfl rfl rfl hdX2_hasStretch ⟨Nat.le_of_ble_eq_true rfl, Nat.le_of_ble_eq_true rfl⟩) hN hK hP hD hS hA (va_recv hK hP (ci := 2) (q0 := 36) rfl (eX_36 A B _)) rfl hl.1 rfl (Nat.le_of_ble_eq_true rfl) dX6_move_86 (st1 := [.int r86]) rfl ⟨Nat.zero_le _, Nat.zero_le _⟩ (fun H locs hP hD hS => ?_)
                            refine lv_if_ne (pc := 89) hx hb (tgt := 95) dX6_move_89 (by decide) (fun c_89 => ?_) (fun c_89 => ?_)
                            · have hf := hf_f c_89 hf
                              refine lv_aload (pc := 95) hx hb dX6_move_95 (lv_at hl 1 rfl) ?_
                              refine vXgRX6_265_34 (pc := 97) hx hb hts mU_923 inU2 hown hK hP dX6_move_97 ?_
                              refine lv_iload_n (pc := 100) hx hb dX6_move_100 rfl (lv_at hl 4 rfl) ?_
                              refine lv_aload (pc := 101) hx hb dX6_move_101 (lv_at hl 0 rfl) ?_
                              refine vXgRX6_265_36 (pc := 103) hx hb hts mU_923 inU2 hown hK hP dX6_move_103 ?_
                              refine lv_iload (pc := 106) hx hb dX6_move_106 (lv_at hl 6 rfl) ?_
                              refine lv_iload (pc := 108) hx hb dX6_move_108 (lv_at hl 7 rfl) ?_
                              obtain ⟨⟨hg110_1, hg110_2, hg110_3, hg110_4, hg110_5⟩, hf⟩ := hf_g hf
                              refine va_copyl (pc := 110) hx hb (hml.trans hl.1.symm) hown (hts (.methodLink RX6 269 arraycopyName) mU_924) (hts (.native arraycopyName) mU_283) (hts (.static arraycopyName) mU_284) (hts (.initialized "java/lang/System") mU_285) hK hP hD hS 35 37 2 2 (f := (gB S 4)) (g := (gB S 5)) (eX_35 A B S) (eX_37 A B S) (ty := .long) rfl rfl rfl (sp := a2) (dp := a4) (n := a5) hg110_1 hg110_2 hg110_3 hg110_4 hg110_5 (fun _ _ => rfl) (Nat.le_of_ble_eq_true rfl) (Nat.le_of_ble_eq_true rfl) dX6_move_110 (fun H locs hP hD hS => ?_)
                              rw [tX_37] at hP hD
                              refine lv_iload (pc := 113) hx hb dX6_move_113 (lv_at hl 7 rfl) ?_
                              obtain rfl := Option.some.inj hf
                              exact hR H locs 115 ls hP hD hS dX6_move_115
                            · have hf := hf_t c_89 hf
                              refine lv_bipush (pc := 92) hx hb (v := (-12)) dX6_move_92 (by decide) ?_
                              obtain rfl := Option.some.inj hf
                              exact hR H locs 94 ls hP hD hS dX6_move_94
                        · have hf := hf_f c_63 hf
                          refine lv_bipush (pc := 66) hx hb (v := (-13)) dX6_move_66 (by decide) ?_
                          obtain rfl := Option.some.inj hf
                          exact hR H locs 68 ls hP hD hS dX6_move_68
                      · have hf := hf_t c_47 hf
                        refine lv_bipush (pc := 50) hx hb (v := (-11)) dX6_move_50 (by decide) ?_
                        obtain rfl := Option.some.inj hf
                        exact hR H locs 52 ls hP hD hS dX6_move_52
                  · have hf := hf_f e29_3 hf
                    exact hf_0 hf
          · have hf := hf_f e21_2 hf
            by_cases e21_3 : a1 = (3 : Int32)
            · have hf := hf_t e21_3 hf
              refine vXrq_29_3 (pc := 21) hx hb hK hP e21_3 dX6_move_21 ?_
              refine lv_astore (pc := 22) hx hb (lv' := [(6, .ref (A 36)), (0, .ref (A 0)), (1, .int a1), (2, .int a2), (3, .int a3), (4, .int a4), (5, .int a5)]) dX6_move_22 hl (by decide) rfl (fun ls hl => ?_)
              refine lv_aload_n (pc := 24) hx hb dX6_move_24 rfl (lv_at hl 1 rfl) ?_
              refine vXgRX6_48_0 (pc := 25) hx hb hts mU_33 inU6 hown hK hP dX6_move_25 ?_
              refine lv_iload_n (pc := 28) hx hb dX6_move_28 rfl (lv_at hl 4 rfl) ?_
              by_cases e29_0 : a3 = (0 : Int32)
              · have hf := hf_t e29_0 hf
                refine vXrq_29_0 (pc := 29) hx hb hK hP e29_0 dX6_move_29 ?_
                refine lv_astore (pc := 30) hx hb (lv' := [(7, .ref (A 30)), (6, .ref (A 36)), (0, .ref (A 0)), (1, .int a1), (2, .int a2), (3, .int a3), (4, .int a4), (5, .int a5)]) dX6_move_30 hl (by decide) rfl (fun ls hl => ?_)
                refine lv_aload (pc := 32) hx hb dX6_move_32 (lv_at hl 1 rfl) ?_
                refine vXgRX6_252_36 (pc := 34) hx hb hts mU_796 inU2 hown hK hP (x := (gI S 34)) rfl dX6_move_34 ?_
                refine lv_iconst (pc := 37) hx hb (v := (-1)) dX6_move_37 (by decide) ?_
                refine lv_icmp_eq (pc := 38) hx hb (tgt := 50) dX6_move_38 (by decide) (fun c_38 => ?_) (fun c_38 => ?_)
                · have hf := hf_t c_38 hf
                  refine lv_bipush (pc := 50) hx hb (v := (-11)) dX6_move_50 (by decide) ?_
                  obtain rfl := Option.some.inj hf
                  exact hR H locs 52 ls hP hD hS dX6_move_52
                · have hf := hf_f c_38 hf
                  refine lv_aload (pc := 41) hx hb dX6_move_41 (lv_at hl 0 rfl) ?_
                  refine vXgRX6_252_30 (pc := 43) hx hb hts mU_796 inU2 hown hK hP (x := (gI S 28)) rfl dX6_move_43 ?_
                  refine lv_iconst (pc := 46) hx hb (v := (-1)) dX6_move_46 (by decide) ?_
                  refine lv_icmp_ne (pc := 47) hx hb (tgt := 53) dX6_move_47 (by decide) (fun c_47 => ?_) (fun c_47 => ?_)
                  · have hf := hf_f c_47 hf
                    refine lv_aload (pc := 53) hx hb dX6_move_53 (lv_at hl 1 rfl) ?_
                    refine vXgRX6_252_36 (pc := 55) hx hb hts mU_796 inU2 hown hK hP (x := (gI S 34)) rfl dX6_move_55 ?_
                    refine lv_aload (pc := 58) hx hb dX6_move_58 (lv_at hl 0 rfl) ?_
                    refine vXgRX6_252_30 (pc := 60) hx hb hts mU_796 inU2 hown hK hP (x := (gI S 28)) rfl dX6_move_60 ?_
                    refine lv_icmp_eq (pc := 63) hx hb (tgt := 69) dX6_move_63 (by decide) (fun c_63 => ?_) (fun c_63 => ?_)
                    · have hf := hf_t c_63 hf
                      refine lv_aload (pc := 69) hx hb dX6_move_69 (lv_at hl 1 rfl) ?_
                      refine lv_iload_n (pc := 71) hx hb dX6_move_71 rfl (lv_at hl 4 rfl) ?_
                      refine lv_iload (pc := 72) hx hb dX6_move_72 (lv_at hl 7 rfl) ?_
                      obtain ⟨r74, hc74, hf⟩ := hf_b hf
                      refine cl_V (pc := 74) (As := [.int a2, .int a5]) (rest := []) hx hb hml hown hts (kX2_hasStretch_36 l D A B _ S a2 a5 r74 hc74) (cwV 2 hts gwRX6_261 rfl rfl rfl hdX2_hasStretch ⟨Nat.le_of_ble_eq_true rfl, Nat.le_of_ble_eq_true rfl⟩) hN hK hP hD hS hA (va_recv hK hP (ci := 2) (q0 := 36) rfl (eX_36 A B _)) rfl hl.1 rfl (Nat.le_of_ble_eq_true rfl) dX6_move_74 (st1 := [.int r74]) rfl ⟨Nat.zero_le _, Nat.zero_le _⟩ (fun H locs hP hD hS => ?_)
                      refine lv_if_eq (pc := 77) hx hb (tgt := 92) dX6_move_77 (by decide) (fun c_77 => ?_) (fun c_77 => ?_)
                      · have hf := hf_t c_77 hf
                        refine lv_bipush (pc := 92) hx hb (v := (-12)) dX6_move_92 (by decide) ?_
                        obtain rfl := Option.some.inj hf
                        exact hR H locs 94 ls hP hD hS dX6_move_94
                      · have hf := hf_f c_77 hf
                        refine lv_aload (pc := 80) hx hb dX6_move_80 (lv_at hl 0 rfl) ?_
                        refine lv_iload (pc := 82) hx hb dX6_move_82 (lv_at hl 6 rfl) ?_
                        refine lv_iload (pc := 84) hx hb dX6_move_84 (lv_at hl 7 rfl) ?_
                        obtain ⟨r86, hc86, hf⟩ := hf_b hf
                        refine cl_V (pc := 86) (As := [.int a4, .int a5]) (rest := []) hx hb hml hown hts (kX2_hasStretch_30 l D A B _ S a4 a5 r86 hc86) (cwV 2 hts gwRX6_261 rfl rfl rfl hdX2_hasStretch ⟨Nat.le_of_ble_eq_true rfl, Nat.le_of_ble_eq_true rfl⟩) hN hK hP hD hS hA (va_recv hK hP (ci := 2) (q0 := 30) rfl (eX_30 A B _)) rfl hl.1 rfl (Nat.le_of_ble_eq_true rfl) dX6_move_86 (st1 := [.int r86]) rfl ⟨Nat.zero_le _, Nat.zero_le _⟩ (fun H locs hP hD hS => ?_)
                        refine lv_if_ne (pc := 89) hx hb (tgt := 95) dX6_move_89 (by decide) (fun c_89 => ?_) (fun c_89 => ?_)
                        · have hf := hf_f c_89 hf
                          refine lv_aload (pc := 95) hx hb dX6_move_95 (lv_at hl 1 rfl) ?_
                          refine vXgRX6_265_36 (pc := 97) hx hb hts mU_923 inU2 hown hK hP dX6_move_97 ?_
                          refine lv_iload_n (pc := 100) hx hb dX6_move_100 rfl (lv_at hl 4 rfl) ?_
                          refine lv_aload (pc := 101) hx hb dX6_move_101 (lv_at hl 0 rfl) ?_
                          refine vXgRX6_265_30 (pc := 103) hx hb hts mU_923 inU2 hown hK hP dX6_move_103 ?_
                          refine lv_iload (pc := 106) hx hb dX6_move_106 (lv_at hl 6 rfl) ?_
                          refine lv_iload (pc := 108) hx hb dX6_move_108 (lv_at hl 7 rfl) ?_
                          obtain ⟨⟨hg110_1, hg110_2, hg110_3, hg110_4, hg110_5⟩, hf⟩ := hf_g hf
                          refine va_copyl (pc := 110) hx hb (hml.trans hl.1.symm) hown (hts (.methodLink RX6 269 arraycopyName) mU_924) (hts (.native arraycopyName) mU_283) (hts (.static arraycopyName) mU_284) (hts (.initialized "java/lang/System") mU_285) hK hP hD hS 37 31 2 2 (f := (gB S 5)) (g := (gB S 2)) (eX_37 A B S) (eX_31 A B S) (ty := .long) rfl rfl rfl (sp := a2) (dp := a4) (n := a5) hg110_1 hg110_2 hg110_3 hg110_4 hg110_5 (fun _ _ => rfl) (Nat.le_of_ble_eq_true rfl) (Nat.le_of_ble_eq_true rfl) dX6_move_110 (fun H locs hP hD hS => ?_)
                          rw [tX_31] at hP hD
                          refine lv_iload (pc := 113) hx hb dX6_move_113 (lv_at hl 7 rfl) ?_
                          obtain rfl := Option.some.inj hf
                          exact hR H locs 115 ls hP hD hS dX6_move_115
                        · have hf := hf_t c_89 hf
                          refine lv_bipush (pc := 92) hx hb (v := (-12)) dX6_move_92 (by decide) ?_
                          obtain rfl := Option.some.inj hf
                          exact hR H locs 94 ls hP hD hS dX6_move_94
                    · have hf := hf_f c_63 hf
                      refine lv_bipush (pc := 66) hx hb (v := (-13)) dX6_move_66 (by decide) ?_
                      obtain rfl := Option.some.inj hf
                      exact hR H locs 68 ls hP hD hS dX6_move_68
                  · have hf := hf_t c_47 hf
                    refine lv_bipush (pc := 50) hx hb (v := (-11)) dX6_move_50 (by decide) ?_
                    obtain rfl := Option.some.inj hf
                    exact hR H locs 52 ls hP hD hS dX6_move_52
              · have hf := hf_f e29_0 hf
                by_cases e29_1 : a3 = (1 : Int32)
                · have hf := hf_t e29_1 hf
                  refine vXrq_29_1 (pc := 29) hx hb hK hP e29_1 dX6_move_29 ?_
                  refine lv_astore (pc := 30) hx hb (lv' := [(7, .ref (A 32)), (6, .ref (A 36)), (0, .ref (A 0)), (1, .int a1), (2, .int a2), (3, .int a3), (4, .int a4), (5, .int a5)]) dX6_move_30 hl (by decide) rfl (fun ls hl => ?_)
                  refine lv_aload (pc := 32) hx hb dX6_move_32 (lv_at hl 1 rfl) ?_
                  refine vXgRX6_252_36 (pc := 34) hx hb hts mU_796 inU2 hown hK hP (x := (gI S 34)) rfl dX6_move_34 ?_
                  refine lv_iconst (pc := 37) hx hb (v := (-1)) dX6_move_37 (by decide) ?_
                  refine lv_icmp_eq (pc := 38) hx hb (tgt := 50) dX6_move_38 (by decide) (fun c_38 => ?_) (fun c_38 => ?_)
                  · have hf := hf_t c_38 hf
                    refine lv_bipush (pc := 50) hx hb (v := (-11)) dX6_move_50 (by decide) ?_
                    obtain rfl := Option.some.inj hf
                    exact hR H locs 52 ls hP hD hS dX6_move_52
                  · have hf := hf_f c_38 hf
                    refine lv_aload (pc := 41) hx hb dX6_move_41 (lv_at hl 0 rfl) ?_
                    refine vXgRX6_252_32 (pc := 43) hx hb hts mU_796 inU2 hown hK hP (x := (gI S 30)) rfl dX6_move_43 ?_
                    refine lv_iconst (pc := 46) hx hb (v := (-1)) dX6_move_46 (by decide) ?_
                    refine lv_icmp_ne (pc := 47) hx hb (tgt := 53) dX6_move_47 (by decide) (fun c_47 => ?_) (fun c_47 => ?_)
                    · have hf := hf_f c_47 hf
                      refine lv_aload (pc := 53) hx hb dX6_move_53 (lv_at hl 1 rfl) ?_
                      refine vXgRX6_252_36 (pc := 55) hx hb hts mU_796 inU2 hown hK hP (x := (gI S 34)) rfl dX6_move_55 ?_
                      refine lv_aload (pc := 58) hx hb dX6_move_58 (lv_at hl 0 rfl) ?_
                      refine vXgRX6_252_32 (pc := 60) hx hb hts mU_796 inU2 hown hK hP (x := (gI S 30)) rfl dX6_move_60 ?_
                      refine lv_icmp_eq (pc := 63) hx hb (tgt := 69) dX6_move_63 (by decide) (fun c_63 => ?_) (fun c_63 => ?_)
                      · have hf := hf_t c_63 hf
                        refine lv_aload (pc := 69) hx hb dX6_move_69 (lv_at hl 1 rfl) ?_
                        refine lv_iload_n (pc := 71) hx hb dX6_move_71 rfl (lv_at hl 4 rfl) ?_
                        refine lv_iload (pc := 72) hx hb dX6_move_72 (lv_at hl 7 rfl) ?_
                        obtain ⟨r74, hc74, hf⟩ := hf_b hf
                        refine cl_V (pc := 74) (As := [.int a2, .int a5]) (rest := []) hx hb hml hown hts (kX2_hasStretch_36 l D A B _ S a2 a5 r74 hc74) (cwV 2 hts gwRX6_261 rfl rfl rfl hdX2_hasStretch ⟨Nat.le_of_ble_eq_true rfl, Nat.le_of_ble_eq_true rfl⟩) hN hK hP hD hS hA (va_recv hK hP (ci := 2) (q0 := 36) rfl (eX_36 A B _)) rfl hl.1 rfl (Nat.le_of_ble_eq_true rfl) dX6_move_74 (st1 := [.int r74]) rfl ⟨Nat.zero_le _, Nat.zero_le _⟩ (fun H locs hP hD hS => ?_)
                        refine lv_if_eq (pc := 77) hx hb (tgt := 92) dX6_move_77 (by decide) (fun c_77 => ?_) (fun c_77 => ?_)
                        · have hf := hf_t c_77 hf
                          refine lv_bipush (pc := 92) hx hb (v := (-12)) dX6_move_92 (by decide) ?_
                          obtain rfl := Option.some.inj hf
                          exact hR H locs 94 ls hP hD hS dX6_move_94
                        · have hf := hf_f c_77 hf
                          refine lv_aload (pc := 80) hx hb dX6_move_80 (lv_at hl 0 rfl) ?_
                          refine lv_iload (pc := 82) hx hb dX6_move_82 (lv_at hl 6 rfl) ?_
                          refine lv_iload (pc := 84) hx hb dX6_move_84 (lv_at hl 7 rfl) ?_
                          obtain ⟨r86, hc86, hf⟩ := hf_b hf
                          refine cl_V (pc := 86) (As := [.int a4, .int a5]) (rest := []) hx hb hml hown hts (kX2_hasStretch_32 l D A B _ S a4 a5 r86 hc86) (cwV 2 hts gwRX6_261 rfl rfl rfl hdX2_hasStretch ⟨Nat.le_of_ble_eq_true rfl, Nat.le_of_ble_eq_true rfl⟩) hN hK hP hD hS hA (va_recv hK hP (ci := 2) (q0 := 32) rfl (eX_32 A B _)) rfl hl.1 rfl (Nat.le_of_ble_eq_true rfl) dX6_move_86 (st1 := [.int r86]) rfl ⟨Nat.zero_le _, Nat.zero_le _⟩ (fun H locs hP hD hS => ?_)
                          refine lv_if_ne (pc := 89) hx hb (tgt := 95) dX6_move_89 (by decide) (fun c_89 => ?_) (fun c_89 => ?_)
                          · have hf := hf_f c_89 hf
                            refine lv_aload (pc := 95) hx hb dX6_move_95 (lv_at hl 1 rfl) ?_
                            refine vXgRX6_265_36 (pc := 97) hx hb hts mU_923 inU2 hown hK hP dX6_move_97 ?_
                            refine lv_iload_n (pc := 100) hx hb dX6_move_100 rfl (lv_at hl 4 rfl) ?_
                            refine lv_aload (pc := 101) hx hb dX6_move_101 (lv_at hl 0 rfl) ?_
                            refine vXgRX6_265_32 (pc := 103) hx hb hts mU_923 inU2 hown hK hP dX6_move_103 ?_
                            refine lv_iload (pc := 106) hx hb dX6_move_106 (lv_at hl 6 rfl) ?_
                            refine lv_iload (pc := 108) hx hb dX6_move_108 (lv_at hl 7 rfl) ?_
                            obtain ⟨⟨hg110_1, hg110_2, hg110_3, hg110_4, hg110_5⟩, hf⟩ := hf_g hf
                            refine va_copyl (pc := 110) hx hb (hml.trans hl.1.symm) hown (hts (.methodLink RX6 269 arraycopyName) mU_924) (hts (.native arraycopyName) mU_283) (hts (.static arraycopyName) mU_284) (hts (.initialized "java/lang/System") mU_285) hK hP hD hS 37 33 2 2 (f := (gB S 5)) (g := (gB S 3)) (eX_37 A B S) (eX_33 A B S) (ty := .long) rfl rfl rfl (sp := a2) (dp := a4) (n := a5) hg110_1 hg110_2 hg110_3 hg110_4 hg110_5 (fun _ _ => rfl) (Nat.le_of_ble_eq_true rfl) (Nat.le_of_ble_eq_true rfl) dX6_move_110 (fun H locs hP hD hS => ?_)
                            rw [tX_33] at hP hD
                            refine lv_iload (pc := 113) hx hb dX6_move_113 (lv_at hl 7 rfl) ?_
                            obtain rfl := Option.some.inj hf
                            exact hR H locs 115 ls hP hD hS dX6_move_115
                          · have hf := hf_t c_89 hf
                            refine lv_bipush (pc := 92) hx hb (v := (-12)) dX6_move_92 (by decide) ?_
                            obtain rfl := Option.some.inj hf
                            exact hR H locs 94 ls hP hD hS dX6_move_94
                      · have hf := hf_f c_63 hf
                        refine lv_bipush (pc := 66) hx hb (v := (-13)) dX6_move_66 (by decide) ?_
                        obtain rfl := Option.some.inj hf
                        exact hR H locs 68 ls hP hD hS dX6_move_68
                    · have hf := hf_t c_47 hf
                      refine lv_bipush (pc := 50) hx hb (v := (-11)) dX6_move_50 (by decide) ?_
                      obtain rfl := Option.some.inj hf
                      exact hR H locs 52 ls hP hD hS dX6_move_52
                · have hf := hf_f e29_1 hf
                  by_cases e29_2 : a3 = (2 : Int32)
                  · have hf := hf_t e29_2 hf
                    refine vXrq_29_2 (pc := 29) hx hb hK hP e29_2 dX6_move_29 ?_
                    refine lv_astore (pc := 30) hx hb (lv' := [(7, .ref (A 34)), (6, .ref (A 36)), (0, .ref (A 0)), (1, .int a1), (2, .int a2), (3, .int a3), (4, .int a4), (5, .int a5)]) dX6_move_30 hl (by decide) rfl (fun ls hl => ?_)
                    refine lv_aload (pc := 32) hx hb dX6_move_32 (lv_at hl 1 rfl) ?_
                    refine vXgRX6_252_36 (pc := 34) hx hb hts mU_796 inU2 hown hK hP (x := (gI S 34)) rfl dX6_move_34 ?_
                    refine lv_iconst (pc := 37) hx hb (v := (-1)) dX6_move_37 (by decide) ?_
                    refine lv_icmp_eq (pc := 38) hx hb (tgt := 50) dX6_move_38 (by decide) (fun c_38 => ?_) (fun c_38 => ?_)
                    · have hf := hf_t c_38 hf
                      refine lv_bipush (pc := 50) hx hb (v := (-11)) dX6_move_50 (by decide) ?_
                      obtain rfl := Option.some.inj hf
                      exact hR H locs 52 ls hP hD hS dX6_move_52
                    · have hf := hf_f c_38 hf
                      refine lv_aload (pc := 41) hx hb dX6_move_41 (lv_at hl 0 rfl) ?_
                      refine vXgRX6_252_34 (pc := 43) hx hb hts mU_796 inU2 hown hK hP (x := (gI S 32)) rfl dX6_move_43 ?_
                      refine lv_iconst (pc := 46) hx hb (v := (-1)) dX6_move_46 (by decide) ?_
                      refine lv_icmp_ne (pc := 47) hx hb (tgt := 53) dX6_move_47 (by decide) (fun c_47 => ?_) (fun c_47 => ?_)
                      · have hf := hf_f c_47 hf
                        refine lv_aload (pc := 53) hx hb dX6_move_53 (lv_at hl 1 rfl) ?_
                        refine vXgRX6_252_36 (pc := 55) hx hb hts mU_796 inU2 hown hK hP (x := (gI S 34)) rfl dX6_move_55 ?_
                        refine lv_aload (pc := 58) hx hb dX6_move_58 (lv_at hl 0 rfl) ?_
                        refine vXgRX6_252_34 (pc := 60) hx hb hts mU_796 inU2 hown hK hP (x := (gI S 32)) rfl dX6_move_60 ?_
                        refine lv_icmp_eq (pc := 63) hx hb (tgt := 69) dX6_move_63 (by decide) (fun c_63 => ?_) (fun c_63 => ?_)
                        · have hf := hf_t c_63 hf
                          refine lv_aload (pc := 69) hx hb dX6_move_69 (lv_at hl 1 rfl) ?_
                          refine lv_iload_n (pc := 71) hx hb dX6_move_71 rfl (lv_at hl 4 rfl) ?_
                          refine lv_iload (pc := 72) hx hb dX6_move_72 (lv_at hl 7 rfl) ?_
                          obtain ⟨r74, hc74, hf⟩ := hf_b hf
                          refine cl_V (pc := 74) (As := [.int a2, .int a5]) (rest := []) hx hb hml hown hts (kX2_hasStretch_36 l D A B _ S a2 a5 r74 hc74) (cwV 2 hts gwRX6_261 rfl rfl rfl hdX2_hasStretch ⟨Nat.le_of_ble_eq_true rfl, Nat.le_of_ble_eq_true rfl⟩) hN hK hP hD hS hA (va_recv hK hP (ci := 2) (q0 := 36) rfl (eX_36 A B _)) rfl hl.1 rfl (Nat.le_of_ble_eq_true rfl) dX6_move_74 (st1 := [.int r74]) rfl ⟨Nat.zero_le _, Nat.zero_le _⟩ (fun H locs hP hD hS => ?_)
                          refine lv_if_eq (pc := 77) hx hb (tgt := 92) dX6_move_77 (by decide) (fun c_77 => ?_) (fun c_77 => ?_)
                          · have hf := hf_t c_77 hf
                            refine lv_bipush (pc := 92) hx hb (v := (-12)) dX6_move_92 (by decide) ?_
                            obtain rfl := Option.some.inj hf
                            exact hR H locs 94 ls hP hD hS dX6_move_94
                          · have hf := hf_f c_77 hf
                            refine lv_aload (pc := 80) hx hb dX6_move_80 (lv_at hl 0 rfl) ?_
                            refine lv_iload (pc := 82) hx hb dX6_move_82 (lv_at hl 6 rfl) ?_
                            refine lv_iload (pc := 84) hx hb dX6_move_84 (lv_at hl 7 rfl) ?_
                            obtain ⟨r86, hc86, hf⟩ := hf_b hf
                            refine cl_V (pc := 86) (As := [.int a4, .int a5]) (rest := []) hx hb hml hown hts (kX2_hasStretch_34 l D A B _ S a4 a5 r86 hc86) (cwV 2 hts gwRX6_261 rfl rfl rfl hdX2_hasStretch ⟨Nat.le_of_ble_eq_true rfl, Nat.le_of_ble_eq_true rfl⟩) hN hK hP hD hS hA (va_recv hK hP (ci := 2) (q0 := 34) rfl (eX_34 A B _)) rfl hl.1 rfl (Nat.le_of_ble_eq_true rfl) dX6_move_86 (st1 := [.int r86]) rfl ⟨Nat.zero_le _, Nat.zero_le _⟩ (fun H locs hP hD hS => ?_)
                            refine lv_if_ne (pc := 89) hx hb (tgt := 95) dX6_move_89 (by decide) (fun c_89 => ?_) (fun c_89 => ?_)
                            · have hf := hf_f c_89 hf
                              refine lv_aload (pc := 95) hx hb dX6_move_95 (lv_at hl 1 rfl) ?_
                              refine vXgRX6_265_36 (pc := 97) hx hb hts mU_923 inU2 hown hK hP dX6_move_97 ?_
                              refine lv_iload_n (pc := 100) hx hb dX6_move_100 rfl (lv_at hl 4 rfl) ?_
                              refine lv_aload (pc := 101) hx hb dX6_move_101 (lv_at hl 0 rfl) ?_
                              refine vXgRX6_265_34 (pc := 103) hx hb hts mU_923 inU2 hown hK hP dX6_move_103 ?_
                              refine lv_iload (pc := 106) hx hb dX6_move_106 (lv_at hl 6 rfl) ?_
                              refine lv_iload (pc := 108) hx hb dX6_move_108 (lv_at hl 7 rfl) ?_
                              obtain ⟨⟨hg110_1, hg110_2, hg110_3, hg110_4, hg110_5⟩, hf⟩ := hf_g hf
                              refine va_copyl (pc := 110) hx hb (hml.trans hl.1.symm) hown (hts (.methodLink RX6 269 arraycopyName) mU_924) (hts (.native arraycopyName) mU_283) (hts (.static arraycopyName) mU_284) (hts (.initialized "java/lang/System") mU_285) hK hP hD hS 37 35 2 2 (f := (gB S 5)) (g := (gB S 4)) (eX_37 A B S) (eX_35 A B S) (ty := .long) rfl rfl rfl (sp := a2) (dp := a4) (n := a5) hg110_1 hg110_2 hg110_3 hg110_4 hg110_5 (fun _ _ => rfl) (Nat.le_of_ble_eq_true rfl) (Nat.le_of_ble_eq_true rfl) dX6_move_110 (fun H locs hP hD hS => ?_)
                              rw [tX_35] at hP hD
                              refine lv_iload (pc := 113) hx hb dX6_move_113 (lv_at hl 7 rfl) ?_
                              obtain rfl := Option.some.inj hf
                              exact hR H locs 115 ls hP hD hS dX6_move_115
                            · have hf := hf_t c_89 hf
                              refine lv_bipush (pc := 92) hx hb (v := (-12)) dX6_move_92 (by decide) ?_
                              obtain rfl := Option.some.inj hf
                              exact hR H locs 94 ls hP hD hS dX6_move_94
                        · have hf := hf_f c_63 hf
                          refine lv_bipush (pc := 66) hx hb (v := (-13)) dX6_move_66 (by decide) ?_
                          obtain rfl := Option.some.inj hf
                          exact hR H locs 68 ls hP hD hS dX6_move_68
                      · have hf := hf_t c_47 hf
                        refine lv_bipush (pc := 50) hx hb (v := (-11)) dX6_move_50 (by decide) ?_
                        obtain rfl := Option.some.inj hf
                        exact hR H locs 52 ls hP hD hS dX6_move_52
                  · have hf := hf_f e29_2 hf
                    by_cases e29_3 : a3 = (3 : Int32)
                    · have hf := hf_t e29_3 hf
                      refine vXrq_29_3 (pc := 29) hx hb hK hP e29_3 dX6_move_29 ?_
                      refine lv_astore (pc := 30) hx hb (lv' := [(7, .ref (A 36)), (6, .ref (A 36)), (0, .ref (A 0)), (1, .int a1), (2, .int a2), (3, .int a3), (4, .int a4), (5, .int a5)]) dX6_move_30 hl (by decide) rfl (fun ls hl => ?_)
                      refine lv_aload (pc := 32) hx hb dX6_move_32 (lv_at hl 1 rfl) ?_
                      refine vXgRX6_252_36 (pc := 34) hx hb hts mU_796 inU2 hown hK hP (x := (gI S 34)) rfl dX6_move_34 ?_
                      refine lv_iconst (pc := 37) hx hb (v := (-1)) dX6_move_37 (by decide) ?_
                      refine lv_icmp_eq (pc := 38) hx hb (tgt := 50) dX6_move_38 (by decide) (fun c_38 => ?_) (fun c_38 => ?_)
                      · have hf := hf_t c_38 hf
                        refine lv_bipush (pc := 50) hx hb (v := (-11)) dX6_move_50 (by decide) ?_
                        obtain rfl := Option.some.inj hf
                        exact hR H locs 52 ls hP hD hS dX6_move_52
                      · have hf := hf_f c_38 hf
                        refine lv_aload (pc := 41) hx hb dX6_move_41 (lv_at hl 0 rfl) ?_
                        refine vXgRX6_252_36 (pc := 43) hx hb hts mU_796 inU2 hown hK hP (x := (gI S 34)) rfl dX6_move_43 ?_
                        refine lv_iconst (pc := 46) hx hb (v := (-1)) dX6_move_46 (by decide) ?_
                        refine lv_icmp_ne (pc := 47) hx hb (tgt := 53) dX6_move_47 (by decide) (fun c_47 => ?_) (fun c_47 => ?_)
                        · have hf := hf_f c_47 hf
                          refine lv_aload (pc := 53) hx hb dX6_move_53 (lv_at hl 1 rfl) ?_
                          refine vXgRX6_252_36 (pc := 55) hx hb hts mU_796 inU2 hown hK hP (x := (gI S 34)) rfl dX6_move_55 ?_
                          refine lv_aload (pc := 58) hx hb dX6_move_58 (lv_at hl 0 rfl) ?_
                          refine vXgRX6_252_36 (pc := 60) hx hb hts mU_796 inU2 hown hK hP (x := (gI S 34)) rfl dX6_move_60 ?_
                          refine lv_icmp_eq (pc := 63) hx hb (tgt := 69) dX6_move_63 (by decide) (fun c_63 => ?_) (fun c_63 => ?_)
                          · have hf := hf_t c_63 hf
                            refine lv_aload (pc := 69) hx hb dX6_move_69 (lv_at hl 1 rfl) ?_
                            refine lv_iload_n (pc := 71) hx hb dX6_move_71 rfl (lv_at hl 4 rfl) ?_
                            refine lv_iload (pc := 72) hx hb dX6_move_72 (lv_at hl 7 rfl) ?_
                            obtain ⟨r74, hc74, hf⟩ := hf_b hf
                            refine cl_V (pc := 74) (As := [.int a2, .int a5]) (rest := []) hx hb hml hown hts (kX2_hasStretch_36 l D A B _ S a2 a5 r74 hc74) (cwV 2 hts gwRX6_261 rfl rfl rfl hdX2_hasStretch ⟨Nat.le_of_ble_eq_true rfl, Nat.le_of_ble_eq_true rfl⟩) hN hK hP hD hS hA (va_recv hK hP (ci := 2) (q0 := 36) rfl (eX_36 A B _)) rfl hl.1 rfl (Nat.le_of_ble_eq_true rfl) dX6_move_74 (st1 := [.int r74]) rfl ⟨Nat.zero_le _, Nat.zero_le _⟩ (fun H locs hP hD hS => ?_)
                            refine lv_if_eq (pc := 77) hx hb (tgt := 92) dX6_move_77 (by decide) (fun c_77 => ?_) (fun c_77 => ?_)
                            · have hf := hf_t c_77 hf
                              refine lv_bipush (pc := 92) hx hb (v := (-12)) dX6_move_92 (by decide) ?_
                              obtain rfl := Option.some.inj hf
                              exact hR H locs 94 ls hP hD hS dX6_move_94
                            · have hf := hf_f c_77 hf
                              refine lv_aload (pc := 80) hx hb dX6_move_80 (lv_at hl 0 rfl) ?_
                              refine lv_iload (pc := 82) hx hb dX6_move_82 (lv_at hl 6 rfl) ?_
                              refine lv_iload (pc := 84) hx hb dX6_move_84 (lv_at hl 7 rfl) ?_
                              obtain ⟨r86, hc86, hf⟩ := hf_b hf
                              refine cl_V (pc := 86) (As := [.int a4, .int a5]) (rest := []) hx hb hml hown hts (kX2_hasStretch_36 l D A B _ S a4 a5 r86 hc86) (cwV 2 hts gwRX6_261 rfl rfl rfl hdX2_hasStretch ⟨Nat.le_of_ble_eq_true rfl, Nat.le_of_ble_eq_true rfl⟩) hN hK hP hD hS hA (va_recv hK hP (ci := 2) (q0 := 36) rfl (eX_36 A B _)) rfl hl.1 rfl (Nat.le_of_ble_eq_true rfl) dX6_move_86 (st1 := [.int r86]) rfl ⟨Nat.zero_le _, Nat.zero_le _⟩ (fun H locs hP hD hS => ?_)
                              refine lv_if_ne (pc := 89) hx hb (tgt := 95) dX6_move_89 (by decide) (fun c_89 => ?_) (fun c_89 => ?_)
                              · have hf := hf_f c_89 hf
                                refine lv_aload (pc := 95) hx hb dX6_move_95 (lv_at hl 1 rfl) ?_
                                refine vXgRX6_265_36 (pc := 97) hx hb hts mU_923 inU2 hown hK hP dX6_move_97 ?_
                                refine lv_iload_n (pc := 100) hx hb dX6_move_100 rfl (lv_at hl 4 rfl) ?_
                                refine lv_aload (pc := 101) hx hb dX6_move_101 (lv_at hl 0 rfl) ?_
                                refine vXgRX6_265_36 (pc := 103) hx hb hts mU_923 inU2 hown hK hP dX6_move_103 ?_
                                refine lv_iload (pc := 106) hx hb dX6_move_106 (lv_at hl 6 rfl) ?_
                                refine lv_iload (pc := 108) hx hb dX6_move_108 (lv_at hl 7 rfl) ?_
                                obtain ⟨⟨hg110_1, hg110_2, hg110_3, hg110_4, hg110_5⟩, hf⟩ := hf_g hf
                                refine va_copyl (pc := 110) hx hb (hml.trans hl.1.symm) hown (hts (.methodLink RX6 269 arraycopyName) mU_924) (hts (.native arraycopyName) mU_283) (hts (.static arraycopyName) mU_284) (hts (.initialized "java/lang/System") mU_285) hK hP hD hS 37 37 2 2 (f := (gB S 5)) (g := (gB S 5)) (eX_37 A B S) (eX_37 A B S) (ty := .long) rfl rfl rfl (sp := a2) (dp := a4) (n := a5) hg110_1 hg110_2 hg110_3 hg110_4 hg110_5 (fun _ _ => rfl) (Nat.le_of_ble_eq_true rfl) (Nat.le_of_ble_eq_true rfl) dX6_move_110 (fun H locs hP hD hS => ?_)
                                rw [tX_37] at hP hD
                                refine lv_iload (pc := 113) hx hb dX6_move_113 (lv_at hl 7 rfl) ?_
                                obtain rfl := Option.some.inj hf
                                exact hR H locs 115 ls hP hD hS dX6_move_115
                              · have hf := hf_t c_89 hf
                                refine lv_bipush (pc := 92) hx hb (v := (-12)) dX6_move_92 (by decide) ?_
                                obtain rfl := Option.some.inj hf
                                exact hR H locs 94 ls hP hD hS dX6_move_94
                          · have hf := hf_f c_63 hf
                            refine lv_bipush (pc := 66) hx hb (v := (-13)) dX6_move_66 (by decide) ?_
                            obtain rfl := Option.some.inj hf
                            exact hR H locs 68 ls hP hD hS dX6_move_68
                        · have hf := hf_t c_47 hf
                          refine lv_bipush (pc := 50) hx hb (v := (-11)) dX6_move_50 (by decide) ?_
                          obtain rfl := Option.some.inj hf
                          exact hR H locs 52 ls hP hD hS dX6_move_52
                    · have hf := hf_f e29_3 hf
                      exact hf_0 hf
            · have hf := hf_f e21_3 hf
              exact hf_0 hf
    · have hf := hf_t c_11 hf
      refine lv_iconst (pc := 14) hx hb (v := (-1)) dX6_move_14 (by decide) ?_
      obtain rfl := Option.some.inj hf
      exact hR H locs 15 ls hP hD hS dX6_move_15
set_option maxHeartbeats 4000000 in
set_option maxRecDepth 100000 in
theorem kX3_hold_39 (l : Launch) (D : va_G) (A : Nat → Nat) (B : Nat → ClassId) (sz : Nat) (S : w_S) (a1 : Int32) (a2 : Int32) (a3 : Int32) (z : w_S) (hf : fX3_hold_39 S a1 a2 a3 = some z) : MetW l yX3_hold (wsO yX3_hold cX3_hold 4 none) rm_X3_hold [.ref (A 39), .int a1, .int a2, .int a3] D (tyB B) (wX A B S) (wX A B z) sz (none) := by
  refine MetW.mkV (cc := cX3_hold) (maxL := 4) (by decide) (Nat.le_of_ble_eq_true rfl) ?_
  intro p e s m args below meth c Ad Q hx hb hts hown hml hN hK hA hR H locs ls hP hD hS hl
  have hl : lv_has ls 4 [(0, .ref (A 39)), (1, .int a1), (2, .int a2), (3, .int a3)] := hl
  rw [fX3_hold_39] at hf
  refine lv_aload_n (pc := 0) hx hb dX3_hold_0 rfl (lv_at hl 0 rfl) ?_
  refine lv_iload_n (pc := 1) hx hb dX3_hold_1 rfl (lv_at hl 1 rfl) ?_
  refine vXpRX3_9_39 (pc := 2) hx hb hts mU_76 inU3 hown hK hP hD hS dX3_hold_2 (fun H locs hP hD hS => ?_)
  refine lv_aload_n (pc := 5) hx hb dX3_hold_5 rfl (lv_at hl 0 rfl) ?_
  refine lv_iload_n (pc := 6) hx hb dX3_hold_6 rfl (lv_at hl 2 rfl) ?_
  refine vXpRX3_15_39 (pc := 7) hx hb hts mU_944 inU3 hown hK hP hD hS dX3_hold_7 (fun H locs hP hD hS => ?_)
  refine lv_aload_n (pc := 10) hx hb dX3_hold_10 rfl (lv_at hl 0 rfl) ?_
  refine lv_iload_n (pc := 11) hx hb dX3_hold_11 rfl (lv_at hl 3 rfl) ?_
  refine vXpRX3_18_39 (pc := 12) hx hb hts mU_945 inU3 hown hK hP hD hS dX3_hold_12 (fun H locs hP hD hS => ?_)
  obtain rfl := Option.some.inj hf
  exact hR H locs 15 ls hP hD hS dX3_hold_15
set_option maxHeartbeats 4000000 in
set_option maxRecDepth 100000 in
theorem kX3_hold_40 (l : Launch) (D : va_G) (A : Nat → Nat) (B : Nat → ClassId) (sz : Nat) (S : w_S) (a1 : Int32) (a2 : Int32) (a3 : Int32) (z : w_S) (hf : fX3_hold_40 S a1 a2 a3 = some z) : MetW l yX3_hold (wsO yX3_hold cX3_hold 4 none) rm_X3_hold [.ref (A 40), .int a1, .int a2, .int a3] D (tyB B) (wX A B S) (wX A B z) sz (none) := by
  refine MetW.mkV (cc := cX3_hold) (maxL := 4) (by decide) (Nat.le_of_ble_eq_true rfl) ?_
  intro p e s m args below meth c Ad Q hx hb hts hown hml hN hK hA hR H locs ls hP hD hS hl
  have hl : lv_has ls 4 [(0, .ref (A 40)), (1, .int a1), (2, .int a2), (3, .int a3)] := hl
  rw [fX3_hold_40] at hf
  refine lv_aload_n (pc := 0) hx hb dX3_hold_0 rfl (lv_at hl 0 rfl) ?_
  refine lv_iload_n (pc := 1) hx hb dX3_hold_1 rfl (lv_at hl 1 rfl) ?_
  refine vXpRX3_9_40 (pc := 2) hx hb hts mU_76 inU3 hown hK hP hD hS dX3_hold_2 (fun H locs hP hD hS => ?_)
  refine lv_aload_n (pc := 5) hx hb dX3_hold_5 rfl (lv_at hl 0 rfl) ?_
  refine lv_iload_n (pc := 6) hx hb dX3_hold_6 rfl (lv_at hl 2 rfl) ?_
  refine vXpRX3_15_40 (pc := 7) hx hb hts mU_944 inU3 hown hK hP hD hS dX3_hold_7 (fun H locs hP hD hS => ?_)
  refine lv_aload_n (pc := 10) hx hb dX3_hold_10 rfl (lv_at hl 0 rfl) ?_
  refine lv_iload_n (pc := 11) hx hb dX3_hold_11 rfl (lv_at hl 3 rfl) ?_
  refine vXpRX3_18_40 (pc := 12) hx hb hts mU_945 inU3 hown hK hP hD hS dX3_hold_12 (fun H locs hP hD hS => ?_)
  obtain rfl := Option.some.inj hf
  exact hR H locs 15 ls hP hD hS dX3_hold_15
set_option maxHeartbeats 4000000 in
set_option maxRecDepth 100000 in
theorem kX3_hold_41 (l : Launch) (D : va_G) (A : Nat → Nat) (B : Nat → ClassId) (sz : Nat) (S : w_S) (a1 : Int32) (a2 : Int32) (a3 : Int32) (z : w_S) (hf : fX3_hold_41 S a1 a2 a3 = some z) : MetW l yX3_hold (wsO yX3_hold cX3_hold 4 none) rm_X3_hold [.ref (A 41), .int a1, .int a2, .int a3] D (tyB B) (wX A B S) (wX A B z) sz (none) := by
  refine MetW.mkV (cc := cX3_hold) (maxL := 4) (by decide) (Nat.le_of_ble_eq_true rfl) ?_
  intro p e s m args below meth c Ad Q hx hb hts hown hml hN hK hA hR H locs ls hP hD hS hl
  have hl : lv_has ls 4 [(0, .ref (A 41)), (1, .int a1), (2, .int a2), (3, .int a3)] := hl
  rw [fX3_hold_41] at hf
  refine lv_aload_n (pc := 0) hx hb dX3_hold_0 rfl (lv_at hl 0 rfl) ?_
  refine lv_iload_n (pc := 1) hx hb dX3_hold_1 rfl (lv_at hl 1 rfl) ?_
  refine vXpRX3_9_41 (pc := 2) hx hb hts mU_76 inU3 hown hK hP hD hS dX3_hold_2 (fun H locs hP hD hS => ?_)
  refine lv_aload_n (pc := 5) hx hb dX3_hold_5 rfl (lv_at hl 0 rfl) ?_
  refine lv_iload_n (pc := 6) hx hb dX3_hold_6 rfl (lv_at hl 2 rfl) ?_
  refine vXpRX3_15_41 (pc := 7) hx hb hts mU_944 inU3 hown hK hP hD hS dX3_hold_7 (fun H locs hP hD hS => ?_)
  refine lv_aload_n (pc := 10) hx hb dX3_hold_10 rfl (lv_at hl 0 rfl) ?_
  refine lv_iload_n (pc := 11) hx hb dX3_hold_11 rfl (lv_at hl 3 rfl) ?_
  refine vXpRX3_18_41 (pc := 12) hx hb hts mU_945 inU3 hown hK hP hD hS dX3_hold_12 (fun H locs hP hD hS => ?_)
  obtain rfl := Option.some.inj hf
  exact hR H locs 15 ls hP hD hS dX3_hold_15
set_option maxHeartbeats 4000000 in
set_option maxRecDepth 100000 in
theorem kX3_hold_42 (l : Launch) (D : va_G) (A : Nat → Nat) (B : Nat → ClassId) (sz : Nat) (S : w_S) (a1 : Int32) (a2 : Int32) (a3 : Int32) (z : w_S) (hf : fX3_hold_42 S a1 a2 a3 = some z) : MetW l yX3_hold (wsO yX3_hold cX3_hold 4 none) rm_X3_hold [.ref (A 42), .int a1, .int a2, .int a3] D (tyB B) (wX A B S) (wX A B z) sz (none) := by
  refine MetW.mkV (cc := cX3_hold) (maxL := 4) (by decide) (Nat.le_of_ble_eq_true rfl) ?_
  intro p e s m args below meth c Ad Q hx hb hts hown hml hN hK hA hR H locs ls hP hD hS hl
  have hl : lv_has ls 4 [(0, .ref (A 42)), (1, .int a1), (2, .int a2), (3, .int a3)] := hl
  rw [fX3_hold_42] at hf
  refine lv_aload_n (pc := 0) hx hb dX3_hold_0 rfl (lv_at hl 0 rfl) ?_
  refine lv_iload_n (pc := 1) hx hb dX3_hold_1 rfl (lv_at hl 1 rfl) ?_
  refine vXpRX3_9_42 (pc := 2) hx hb hts mU_76 inU3 hown hK hP hD hS dX3_hold_2 (fun H locs hP hD hS => ?_)
  refine lv_aload_n (pc := 5) hx hb dX3_hold_5 rfl (lv_at hl 0 rfl) ?_
  refine lv_iload_n (pc := 6) hx hb dX3_hold_6 rfl (lv_at hl 2 rfl) ?_
  refine vXpRX3_15_42 (pc := 7) hx hb hts mU_944 inU3 hown hK hP hD hS dX3_hold_7 (fun H locs hP hD hS => ?_)
  refine lv_aload_n (pc := 10) hx hb dX3_hold_10 rfl (lv_at hl 0 rfl) ?_
  refine lv_iload_n (pc := 11) hx hb dX3_hold_11 rfl (lv_at hl 3 rfl) ?_
  refine vXpRX3_18_42 (pc := 12) hx hb hts mU_945 inU3 hown hK hP hD hS dX3_hold_12 (fun H locs hP hD hS => ?_)
  obtain rfl := Option.some.inj hf
  exact hR H locs 15 ls hP hD hS dX3_hold_15
set_option maxHeartbeats 4000000 in
set_option maxRecDepth 100000 in
theorem kX6_isShelf (l : Launch) (D : va_G) (A : Nat → Nat) (B : Nat → ClassId) (sz : Nat) (S : w_S) (a0 : Int32) (z : Int32) (hf : fX6_isShelf a0 = some z) : MetW l yX6_isShelf (wsO yX6_isShelf cX6_isShelf 1 (some .boolean)) rm_X6_isShelf [.int a0] D (tyB B) (wX A B S) (wX A B S) sz (some (.int z)) := by
  refine MetW.mkZ (cc := cX6_isShelf) (maxL := 1) (by decide) (Nat.le_of_ble_eq_true rfl) ?_
  intro p e s m args below meth c Ad Q hx hb hts hown hml hN hK hA hR H locs ls hP hD hS hl
  have hl : lv_has ls 1 [(0, .int a0)] := hl
  rw [fX6_isShelf] at hf
  refine lv_iload_n (pc := 0) hx hb dX6_isShelf_0 rfl (lv_at hl 0 rfl) ?_
  refine lv_if_lt (pc := 1) hx hb (tgt := 13) dX6_isShelf_1 (by decide) (fun c_1 => ?_) (fun c_1 => ?_)
  · have hf := hf_t c_1 hf
    refine lv_iconst (pc := 13) hx hb (v := 0) dX6_isShelf_13 (by decide) ?_
    obtain rfl := Option.some.inj hf
    exact hR H locs 14 ls hP hD hS (nz_of (.inl rfl)) dX6_isShelf_14
  · have hf := hf_f c_1 hf
    refine lv_iload_n (pc := 4) hx hb dX6_isShelf_4 rfl (lv_at hl 0 rfl) ?_
    refine lv_iconst (pc := 5) hx hb (v := 4) dX6_isShelf_5 (by decide) ?_
    refine lv_icmp_ge (pc := 6) hx hb (tgt := 13) dX6_isShelf_6 (by decide) (fun c_6 => ?_) (fun c_6 => ?_)
    · have hf := hf_t c_6 hf
      refine lv_iconst (pc := 13) hx hb (v := 0) dX6_isShelf_13 (by decide) ?_
      obtain rfl := Option.some.inj hf
      exact hR H locs 14 ls hP hD hS (nz_of (.inl rfl)) dX6_isShelf_14
    · have hf := hf_f c_6 hf
      refine lv_iconst (pc := 9) hx hb (v := 1) dX6_isShelf_9 (by decide) ?_
      refine lv_goto (pc := 10) hx hb (tgt := 14) dX6_isShelf_10 (by decide) ?_
      obtain rfl := Option.some.inj hf
      exact hR H locs 14 ls hP hD hS (nz_of (.inr rfl)) dX6_isShelf_14
