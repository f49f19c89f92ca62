set_option maxHeartbeats 4000000 in
set_option maxRecDepth 100000 in
theorem kX6_stable (l : Launch) (D : va_G) (A : Nat → Nat) (B : Nat → ClassId) (sz : Nat) (S : w_S) (z : Int32) (hf : fX6_stable S = some z) : MetW l yX6_stable (wsO yX6_stable cX6_stable 7 (some .int)) rm_X6_stable [.ref (A 0)] D (tyB B) (wX A B S) (wX A B S) sz (some (.int z)) := by
  refine MetW.mkI (cc := cX6_stable) (maxL := 7) (by decide) (Nat.le_of_ble_eq_true rfl) ?_
  intro p e s m args below meth c Ad Q hx hb hts hown hml hN hK hA hR H locs ls hP hD hS hl
  have hl : lv_has ls 7 [(0, .ref (A 0))] := hl
  rw [fX6_stable] at hf
  refine lv_aload_n (pc := 0) hx hb dX6_stable_0 rfl (lv_at hl 0 rfl) ?_
  refine vXgRX6_10_0 (pc := 1) hx hb hts mU_16 inU6 hown hK hP dX6_stable_1 ?_
  refine lv_iconst (pc := 4) hx hb (v := 0) dX6_stable_4 (by decide) ?_
  refine lv_iconst (pc := 5) hx hb (v := 1) dX6_stable_5 (by decide) ?_
  obtain ⟨r6, hc6, hf⟩ := hf_b hf
  refine cl_V (pc := 6) (As := [.int 0, .int 1]) (rest := []) hx hb hml hown hts (kX4_minors_1 l D A B _ S 0 1 r6 hc6) (cwV 2 hts gwRX6_94 rfl rfl rfl hdX4_minors ⟨Nat.le_of_ble_eq_true rfl, Nat.le_of_ble_eq_true rfl⟩) hN hK hP hD hS hA (va_recv hK hP (ci := 4) (q0 := 1) rfl (eX_1 A B _)) rfl hl.1 rfl (Nat.le_of_ble_eq_true rfl) dX6_stable_6 (st1 := [.long r6]) rfl ⟨Nat.zero_le _, Nat.zero_le _⟩ (fun H locs hP hD hS => ?_)
  refine lv_lneg (pc := 9) hx hb dX6_stable_9 ?_
  refine lv_lstore_n (pc := 10) hx hb (lv' := [(1, .long (-r6)), (0, .ref (A 0))]) dX6_stable_10 rfl hl (by decide) rfl (fun ls hl => ?_)
  refine lv_aload_n (pc := 11) hx hb dX6_stable_11 rfl (lv_at hl 1 rfl) ?_
  refine vXgRX6_10_0 (pc := 12) hx hb hts mU_16 inU6 hown hK hP dX6_stable_12 ?_
  refine lv_iconst (pc := 15) hx hb (v := 0) dX6_stable_15 (by decide) ?_
  refine lv_iconst (pc := 16) hx hb (v := 2) dX6_stable_16 (by decide) ?_
  obtain ⟨r17, hc17, hf⟩ := hf_b hf
  refine cl_V (pc := 17) (As := [.int 0, .int 2]) (rest := []) hx hb hml hown hts (kX4_minors_1 l D A B _ S 0 2 r17 hc17) (cwV 2 hts gwRX6_94 rfl rfl rfl hdX4_minors ⟨Nat.le_of_ble_eq_true rfl, Nat.le_of_ble_eq_true rfl⟩) hN hK hP hD hS hA (va_recv hK hP (ci := 4) (q0 := 1) rfl (eX_1 A B _)) rfl hl.1 rfl (Nat.le_of_ble_eq_true rfl) dX6_stable_17 (st1 := [.long r17]) rfl ⟨Nat.zero_le _, Nat.zero_le _⟩ (fun H locs hP hD hS => ?_)
  refine lv_lstore_n (pc := 20) hx hb (lv' := [(3, .long r17), (1, .long (-r6)), (0, .ref (A 0))]) dX6_stable_20 rfl hl (by decide) rfl (fun ls hl => ?_)
  refine lv_aload_n (pc := 21) hx hb dX6_stable_21 rfl (lv_at hl 2 rfl) ?_
  refine vXgRX6_10_0 (pc := 22) hx hb hts mU_16 inU6 hown hK hP dX6_stable_22 ?_
  refine lv_iconst (pc := 25) hx hb (v := 0) dX6_stable_25 (by decide) ?_
  refine lv_iconst (pc := 26) hx hb (v := 3) dX6_stable_26 (by decide) ?_
  obtain ⟨r27, hc27, hf⟩ := hf_b hf
  refine cl_V (pc := 27) (As := [.int 0, .int 3]) (rest := []) hx hb hml hown hts (kX4_minors_1 l D A B _ S 0 3 r27 hc27) (cwV 2 hts gwRX6_94 rfl rfl rfl hdX4_minors ⟨Nat.le_of_ble_eq_true rfl, Nat.le_of_ble_eq_true rfl⟩) hN hK hP hD hS hA (va_recv hK hP (ci := 4) (q0 := 1) rfl (eX_1 A B _)) rfl hl.1 rfl (Nat.le_of_ble_eq_true rfl) dX6_stable_27 (st1 := [.long r27]) rfl ⟨Nat.zero_le _, Nat.zero_le _⟩ (fun H locs hP hD hS => ?_)
  refine lv_lneg (pc := 30) hx hb dX6_stable_30 ?_
  refine lv_lstore (pc := 31) hx hb (lv' := [(5, .long (-r27)), (3, .long r17), (1, .long (-r6)), (0, .ref (A 0))]) dX6_stable_31 hl (by decide) rfl (fun ls hl => ?_)
  refine lv_aload_n (pc := 33) hx hb dX6_stable_33 rfl (lv_at hl 3 rfl) ?_
  refine vXgRX6_10_0 (pc := 34) hx hb hts mU_16 inU6 hown hK hP dX6_stable_34 ?_
  refine vXgRX6_60_1 (pc := 37) hx hb hts mU_111 inU4 hown hK hP (x := (gI S 0)) rfl dX6_stable_37 ?_
  refine lv_iconst (pc := 40) hx hb (v := 1) dX6_stable_40 (by decide) ?_
  refine lv_icmp_ne (pc := 41) hx hb (tgt := 59) dX6_stable_41 (by decide) (fun c_41 => ?_) (fun c_41 => ?_)
  · have hf := hf_f c_41 hf
    refine lv_aload_n (pc := 59) hx hb dX6_stable_59 rfl (lv_at hl 3 rfl) ?_
    refine vXgRX6_10_0 (pc := 60) hx hb hts mU_16 inU6 hown hK hP dX6_stable_60 ?_
    refine vXgRX6_60_1 (pc := 63) hx hb hts mU_111 inU4 hown hK hP (x := (gI S 0)) rfl dX6_stable_63 ?_
    refine lv_iconst (pc := 66) hx hb (v := 2) dX6_stable_66 (by decide) ?_
    refine lv_icmp_ne (pc := 67) hx hb (tgt := 91) dX6_stable_67 (by decide) (fun c_67 => ?_) (fun c_67 => ?_)
    · have hf := hf_f c_67 hf
      refine lv_lload_n (pc := 91) hx hb dX6_stable_91 rfl (lv_at hl 2 rfl) ?_
      refine lv_lconst (pc := 92) hx hb (v := 0) dX6_stable_92 (by decide) ?_
      refine W.lcmp (pc := 93) hx hb dX6_stable_93 ?_
      refine lv_if_le (pc := 94) hx hb (tgt := 117) dX6_stable_94 (by decide) (fun c_94 => ?_) (fun c_94 => ?_)
      · have c_94 := lg_le0.mp c_94
        have hf := hf_f c_94 hf
        refine lv_iconst (pc := 117) hx hb (v := 0) dX6_stable_117 (by decide) ?_
        obtain ⟨r118, hc118, hf⟩ := hf_b hf
        refine cl_S (pc := 118) (As := [.int 0]) (rest := []) hx hb hml hown hts (kX6_oneIf l D A B _ S 0 r118 hc118) (va_cwS 1 hts gwRX6_158 rfl rfl rfl hdX6_oneIf ⟨Nat.le_of_ble_eq_true rfl, Nat.le_of_ble_eq_true rfl⟩) hN hK hP hD hS hA rfl hl.1 rfl (Nat.le_of_ble_eq_true rfl) dX6_stable_118 (st1 := [.int r118]) rfl ⟨Nat.zero_le _, Nat.zero_le _⟩ (fun H locs hP hD hS => ?_)
        obtain rfl := Option.some.inj hf
        exact hR H locs 121 ls hP hD hS dX6_stable_121
      · have c_94 := Classical.byContradiction fun h9 => c_94 (lg_le0.mpr h9)
        have hf := hf_t c_94 hf
        refine lv_lload (pc := 97) hx hb dX6_stable_97 (lv_at hl 0 rfl) ?_
        refine lv_lconst (pc := 99) hx hb (v := 0) dX6_stable_99 (by decide) ?_
        refine W.lcmp (pc := 100) hx hb dX6_stable_100 ?_
        refine lv_if_le (pc := 101) hx hb (tgt := 117) dX6_stable_101 (by decide) (fun c_101 => ?_) (fun c_101 => ?_)
        · have c_101 := lg_le0.mp c_101
          have hf := hf_f c_101 hf
          refine lv_iconst (pc := 117) hx hb (v := 0) dX6_stable_117 (by decide) ?_
          obtain ⟨r118, hc118, hf⟩ := hf_b hf
          refine cl_S (pc := 118) (As := [.int 0]) (rest := []) hx hb hml hown hts (kX6_oneIf l D A B _ S 0 r118 hc118) (va_cwS 1 hts gwRX6_158 rfl rfl rfl hdX6_oneIf ⟨Nat.le_of_ble_eq_true rfl, Nat.le_of_ble_eq_true rfl⟩) hN hK hP hD hS hA rfl hl.1 rfl (Nat.le_of_ble_eq_true rfl) dX6_stable_118 (st1 := [.int r118]) rfl ⟨Nat.zero_le _, Nat.zero_le _⟩ (fun H locs hP hD hS => ?_)
          obtain rfl := Option.some.inj hf
          exact hR H locs 121 ls hP hD hS dX6_stable_121
        · have c_101 := Classical.byContradiction fun h9 => c_101 (lg_le0.mpr h9)
          have hf := hf_t c_101 hf
          refine lv_lload_n (pc := 104) hx hb dX6_stable_104 rfl (lv_at hl 2 rfl) ?_
          refine lv_lload_n (pc := 105) hx hb dX6_stable_105 rfl (lv_at hl 1 rfl) ?_
          refine lv_lmul (pc := 106) hx hb dX6_stable_106 ?_
          refine lv_lload (pc := 107) hx hb dX6_stable_107 (lv_at hl 0 rfl) ?_
          refine W.lcmp (pc := 109) hx hb dX6_stable_109 ?_
          refine lv_if_le (pc := 110) hx hb (tgt := 117) dX6_stable_110 (by decide) (fun c_110 => ?_) (fun c_110 => ?_)
          · have c_110 := lg_le0.mp c_110
            have hf := hf_f c_110 hf
            refine lv_iconst (pc := 117) hx hb (v := 0) dX6_stable_117 (by decide) ?_
            obtain ⟨r118, hc118, hf⟩ := hf_b hf
            refine cl_S (pc := 118) (As := [.int 0]) (rest := []) hx hb hml hown hts (kX6_oneIf l D A B _ S 0 r118 hc118) (va_cwS 1 hts gwRX6_158 rfl rfl rfl hdX6_oneIf ⟨Nat.le_of_ble_eq_true rfl, Nat.le_of_ble_eq_true rfl⟩) hN hK hP hD hS hA rfl hl.1 rfl (Nat.le_of_ble_eq_true rfl) dX6_stable_118 (st1 := [.int r118]) rfl ⟨Nat.zero_le _, Nat.zero_le _⟩ (fun H locs hP hD hS => ?_)
            obtain rfl := Option.some.inj hf
            exact hR H locs 121 ls hP hD hS dX6_stable_121
          · have c_110 := Classical.byContradiction fun h9 => c_110 (lg_le0.mpr h9)
            have hf := hf_t c_110 hf
            refine lv_iconst (pc := 113) hx hb (v := 1) dX6_stable_113 (by decide) ?_
            refine lv_goto (pc := 114) hx hb (tgt := 118) dX6_stable_114 (by decide) ?_
            obtain ⟨r118, hc118, hf⟩ := hf_b hf
            refine cl_S (pc := 118) (As := [.int 1]) (rest := []) hx hb hml hown hts (kX6_oneIf l D A B _ S 1 r118 hc118) (va_cwS 1 hts gwRX6_158 rfl rfl rfl hdX6_oneIf ⟨Nat.le_of_ble_eq_true rfl, Nat.le_of_ble_eq_true rfl⟩) hN hK hP hD hS hA rfl hl.1 rfl (Nat.le_of_ble_eq_true rfl) dX6_stable_118 (st1 := [.int r118]) rfl ⟨Nat.zero_le _, Nat.zero_le _⟩ (fun H locs hP hD hS => ?_)
            obtain rfl := Option.some.inj hf
            exact hR H locs 121 ls hP hD hS dX6_stable_121
    · have hf := hf_t c_67 hf
      refine lv_lload_n (pc := 70) hx hb dX6_stable_70 rfl (lv_at hl 2 rfl) ?_
      refine lv_lconst (pc := 71) hx hb (v := 0) dX6_stable_71 (by decide) ?_
      refine W.lcmp (pc := 72) hx hb dX6_stable_72 ?_
      refine lv_if_le (pc := 73) hx hb (tgt := 86) dX6_stable_73 (by decide) (fun c_73 => ?_) (fun c_73 => ?_)
      · have c_73 := lg_le0.mp c_73
        have hf := hf_f c_73 hf
        refine lv_iconst (pc := 86) hx hb (v := 0) dX6_stable_86 (by decide) ?_
        obtain ⟨r87, hc87, hf⟩ := hf_b hf
        refine cl_S (pc := 87) (As := [.int 0]) (rest := []) hx hb hml hown hts (kX6_oneIf l D A B _ S 0 r87 hc87) (va_cwS 1 hts gwRX6_158 rfl rfl rfl hdX6_oneIf ⟨Nat.le_of_ble_eq_true rfl, Nat.le_of_ble_eq_true rfl⟩) hN hK hP hD hS hA rfl hl.1 rfl (Nat.le_of_ble_eq_true rfl) dX6_stable_87 (st1 := [.int r87]) rfl ⟨Nat.zero_le _, Nat.zero_le _⟩ (fun H locs hP hD hS => ?_)
        obtain rfl := Option.some.inj hf
        exact hR H locs 90 ls hP hD hS dX6_stable_90
      · have c_73 := Classical.byContradiction fun h9 => c_73 (lg_le0.mpr h9)
        have hf := hf_t c_73 hf
        refine lv_lload_n (pc := 76) hx hb dX6_stable_76 rfl (lv_at hl 1 rfl) ?_
        refine lv_lconst (pc := 77) hx hb (v := 0) dX6_stable_77 (by decide) ?_
        refine W.lcmp (pc := 78) hx hb dX6_stable_78 ?_
        refine lv_if_le (pc := 79) hx hb (tgt := 86) dX6_stable_79 (by decide) (fun c_79 => ?_) (fun c_79 => ?_)
        · have c_79 := lg_le0.mp c_79
          have hf := hf_f c_79 hf
          refine lv_iconst (pc := 86) hx hb (v := 0) dX6_stable_86 (by decide) ?_
          obtain ⟨r87, hc87, hf⟩ := hf_b hf
          refine cl_S (pc := 87) (As := [.int 0]) (rest := []) hx hb hml hown hts (kX6_oneIf l D A B _ S 0 r87 hc87) (va_cwS 1 hts gwRX6_158 rfl rfl rfl hdX6_oneIf ⟨Nat.le_of_ble_eq_true rfl, Nat.le_of_ble_eq_true rfl⟩) hN hK hP hD hS hA rfl hl.1 rfl (Nat.le_of_ble_eq_true rfl) dX6_stable_87 (st1 := [.int r87]) rfl ⟨Nat.zero_le _, Nat.zero_le _⟩ (fun H locs hP hD hS => ?_)
          obtain rfl := Option.some.inj hf
          exact hR H locs 90 ls hP hD hS dX6_stable_90
        · have c_79 := Classical.byContradiction fun h9 => c_79 (lg_le0.mpr h9)
          have hf := hf_t c_79 hf
          refine lv_iconst (pc := 82) hx hb (v := 1) dX6_stable_82 (by decide) ?_
          refine lv_goto (pc := 83) hx hb (tgt := 87) dX6_stable_83 (by decide) ?_
          obtain ⟨r87, hc87, hf⟩ := hf_b hf
          refine cl_S (pc := 87) (As := [.int 1]) (rest := []) hx hb hml hown hts (kX6_oneIf l D A B _ S 1 r87 hc87) (va_cwS 1 hts gwRX6_158 rfl rfl rfl hdX6_oneIf ⟨Nat.le_of_ble_eq_true rfl, Nat.le_of_ble_eq_true rfl⟩) hN hK hP hD hS hA rfl hl.1 rfl (Nat.le_of_ble_eq_true rfl) dX6_stable_87 (st1 := [.int r87]) rfl ⟨Nat.zero_le _, Nat.zero_le _⟩ (fun H locs hP hD hS => ?_)
          obtain rfl := Option.some.inj hf
          exact hR H locs 90 ls hP hD hS dX6_stable_90
  · have hf := hf_t c_41 hf
    refine lv_lload_n (pc := 44) hx hb dX6_stable_44 rfl (lv_at hl 2 rfl) ?_
    refine lv_lconst (pc := 45) hx hb (v := 0) dX6_stable_45 (by decide) ?_
    refine W.lcmp (pc := 46) hx hb dX6_stable_46 ?_
    refine lv_if_le (pc := 47) hx hb (tgt := 54) dX6_stable_47 (by decide) (fun c_47 => ?_) (fun c_47 => ?_)
    · have c_47 := lg_le0.mp c_47
      have hf := hf_f c_47 hf
      refine lv_iconst (pc := 54) hx hb (v := 0) dX6_stable_54 (by decide) ?_
      obtain ⟨r55, hc55, hf⟩ := hf_b hf
      refine cl_S (pc := 55) (As := [.int 0]) (rest := []) hx hb hml hown hts (kX6_oneIf l D A B _ S 0 r55 hc55) (va_cwS 1 hts gwRX6_158 rfl rfl rfl hdX6_oneIf ⟨Nat.le_of_ble_eq_true rfl, Nat.le_of_ble_eq_true rfl⟩) hN hK hP hD hS hA rfl hl.1 rfl (Nat.le_of_ble_eq_true rfl) dX6_stable_55 (st1 := [.int r55]) rfl ⟨Nat.zero_le _, Nat.zero_le _⟩ (fun H locs hP hD hS => ?_)
      obtain rfl := Option.some.inj hf
      exact hR H locs 58 ls hP hD hS dX6_stable_58
    · have c_47 := Classical.byContradiction fun h9 => c_47 (lg_le0.mpr h9)
      have hf := hf_t c_47 hf
      refine lv_iconst (pc := 50) hx hb (v := 1) dX6_stable_50 (by decide) ?_
      refine lv_goto (pc := 51) hx hb (tgt := 55) dX6_stable_51 (by decide) ?_
      obtain ⟨r55, hc55, hf⟩ := hf_b hf
      refine cl_S (pc := 55) (As := [.int 1]) (rest := []) hx hb hml hown hts (kX6_oneIf l D A B _ S 1 r55 hc55) (va_cwS 1 hts gwRX6_158 rfl rfl rfl hdX6_oneIf ⟨Nat.le_of_ble_eq_true rfl, Nat.le_of_ble_eq_true rfl⟩) hN hK hP hD hS hA rfl hl.1 rfl (Nat.le_of_ble_eq_true rfl) dX6_stable_55 (st1 := [.int r55]) rfl ⟨Nat.zero_le _, Nat.zero_le _⟩ (fun H locs hP hD hS => ?_)
      obtain rfl := Option.some.inj hf
      exact hR H locs 58 ls hP hD hS dX6_stable_58
set_option maxHeartbeats 4000000 in
set_option maxRecDepth 100000 in
theorem kJ7_fill_d0a16_31 (l : Launch) (D : va_G) (A : Nat → Nat) (B : Nat → ClassId) (sz : Nat) (S : w_S) (a1 : Int64) (z : w_S) (hf : fJ7_fill_d0a16_31 S a1 = some z) : MetW l yJ7_fill_d0a16 (wsO yJ7_fill_d0a16 cJ7_fill_d0a16 5 none) rm_J7_fill_d0a16 [.ref (A 31), .long a1] D (tyB B) (wX A B S) (wX A B z) sz (none) := by
  refine MetW.mkV (cc := cJ7_fill_d0a16) (maxL := 5) (by decide) (Nat.le_of_ble_eq_true rfl) ?_
  intro p e s m args below meth c Ad Q hx hb hts hown hml hN hK hA hR H locs ls hP hD hS hl
  have hl : lv_has ls 5 [(0, .ref (A 31)), (1, .long a1)] := hl
  rw [fJ7_fill_d0a16_31] at hf
  refine lv_iconst (pc := 0) hx hb (v := 0) dJ7_fill_d0a16_0 (by decide) ?_
  refine lv_istore_n (pc := 1) hx hb (lv' := [(3, .int 0), (0, .ref (A 31)), (1, .long a1)]) dJ7_fill_d0a16_1 rfl hl (by decide) rfl (fun ls hl => ?_)
  refine lv_aload_n (pc := 2) hx hb dJ7_fill_d0a16_2 rfl (lv_at hl 1 rfl) ?_
  refine vXln_31 (pc := 3) hx hb hK hP dJ7_fill_d0a16_3 ?_
  refine lv_istore (pc := 4) hx hb (lv' := [(4, .int 40), (3, .int 0), (0, .ref (A 31)), (1, .long a1)]) dJ7_fill_d0a16_4 hl (by decide) rfl (fun ls hl => ?_)
  obtain ⟨q6, hq6, hf⟩ := hf_b hf
  have hk6 : ∀ (H : Heap) (locs : List Loc) (ls : Array Slot), va_P D vwCl (wX A B q6) H → va_D Ad (wX A B q6) → va_S Ad s.heap H locs → lv_has ls 5 [] → W p l e rm_J7_fill_d0a16 s m args below meth c H locs 0 0 Q (F0 m 22 ls []) := by
    intro H locs ls hP hD hS hl
    obtain rfl := Option.some.inj hf
    exact hR H locs 22 ls hP hD hS dJ7_fill_d0a16_22
  have lp6 : ∀ (n : Nat) (T6 : w_S) (u3_6 : Int32) (H : Heap) (locs : List Loc) (ls : Array Slot), fJ7_fill_d0a16_31_L6 a1 40 n T6 u3_6 = some q6 → va_P D vwCl (wX A B T6) H → va_D Ad (wX A B T6) → va_S Ad s.heap H locs → lv_has ls 5 [(0, .ref (A 31)), (1, .long a1), (3, .int u3_6), (4, .int 40)] → W p l e rm_J7_fill_d0a16 s m args below meth c H locs 0 0 Q (F0 m 6 ls []) := by
    intro n6
    induction n6 with
    | zero => intro T6 u3_6 H locs ls hq6; exact hf_0 hq6
    | succ n6 ih6 =>
      intro T6 u3_6 H locs ls hq6 hP hD hS hl
      rw [fJ7_fill_d0a16_31_L6] at hq6
      refine lv_iload_n (pc := 6) hx hb dJ7_fill_d0a16_6 rfl (lv_at hl 2 rfl) ?_
      refine lv_iload (pc := 7) hx hb dJ7_fill_d0a16_7 (lv_at hl 3 rfl) ?_
      refine lv_icmp_ge (pc := 9) hx hb (tgt := 22) dJ7_fill_d0a16_9 (by decide) (fun c_9 => ?_) (fun c_9 => ?_)
      · have hq6 := hf_t c_9 hq6
        obtain rfl := Option.some.inj hq6
        exact hk6 H locs ls hP hD hS (lv_sub hl [] rfl)
      · have hq6 := hf_f c_9 hq6
        refine lv_aload_n (pc := 12) hx hb dJ7_fill_d0a16_12 rfl (lv_at hl 0 rfl) ?_
        refine lv_iload_n (pc := 13) hx hb dJ7_fill_d0a16_13 rfl (lv_at hl 2 rfl) ?_
        refine lv_lload_n (pc := 14) hx hb dJ7_fill_d0a16_14 rfl (lv_at hl 1 rfl) ?_
        obtain ⟨hg15, hq6⟩ := hf_g hq6
        refine vXwa_31 (pc := 15) hx hb hK hP hD hS (f := (gB T6 2)) rfl hg15 dJ7_fill_d0a16_15 (fun H locs hP hD hS => ?_)
        refine lv_iinc (pc := 16) hx hb (v := u3_6 + 1) (lv' := [(3, .int (u3_6 + 1)), (0, .ref (A 31)), (1, .long a1), (4, .int 40)]) dJ7_fill_d0a16_16 hl (k := 2) rfl rfl (by decide) rfl (fun ls hl => ?_)
        refine lv_goto (pc := 19) hx hb (tgt := 6) dJ7_fill_d0a16_19 (by decide) ?_
        exact ih6 (sB T6 2 (vp_updL (gB T6 2) u3_6.toNatClampNeg a1)) (u3_6 + 1) H locs ls hq6 hP hD hS (lv_sub hl [1, 2, 0, 3] rfl)
  exact lp6 256 S 0 H locs ls hq6 hP hD hS (lv_sub hl [2, 3, 1, 0] rfl)
set_option maxHeartbeats 4000000 in
set_option maxRecDepth 100000 in
theorem kX2_renew_30 (l : Launch) (D : va_G) (A : Nat → Nat) (B : Nat → ClassId) (sz : Nat) (S : w_S) (a1 : Int32) (a2 : Int32) (z : w_S) (hf : fX2_renew_30 S a1 a2 = some z) : MetW l yX2_renew (wsO yX2_renew cX2_renew 3 none) rm_X2_renew [.ref (A 30), .int a1, .int a2] D (tyB B) (wX A B S) (wX A B z) sz (none) := by
  refine MetW.mkV (cc := cX2_renew) (maxL := 3) (by decide) (Nat.le_of_ble_eq_true rfl) ?_
  intro p e s m args below meth c Ad Q hx hb hts hown hml hN hK hA hR H locs ls hP hD hS hl
  have hl : lv_has ls 3 [(0, .ref (A 30)), (1, .int a1), (2, .int a2)] := hl
  rw [fX2_renew_30] at hf
  refine lv_aload_n (pc := 0) hx hb dX2_renew_0 rfl (lv_at hl 0 rfl) ?_
  refine lv_iload_n (pc := 1) hx hb dX2_renew_1 rfl (lv_at hl 1 rfl) ?_
  refine vXpRX2_9_30 (pc := 2) hx hb hts mU_71 inU2 hown hK hP hD hS dX2_renew_2 (fun H locs hP hD hS => ?_)
  refine lv_aload_n (pc := 5) hx hb dX2_renew_5 rfl (lv_at hl 0 rfl) ?_
  refine lv_iconst (pc := 6) hx hb (v := 0) dX2_renew_6 (by decide) ?_
  refine lv_iload_n (pc := 7) hx hb dX2_renew_7 rfl (lv_at hl 2 rfl) ?_
  refine lv_bipush (pc := 8) hx hb (v := 40) dX2_renew_8 (by decide) ?_
  refine va_mmin (pc := 10) hx hb (hml.trans hl.1.symm) hown (hts (.methodLink RX2 19 Lib.Math.min.name) mU_765) (hts (.static Lib.Math.min.name) mU_430) (hts (.initialized "java/lang/Math") mU_431) (hts (.code Lib.Math.min.name Lib.Math.min.code 2 (some .int)) mU_432) (Nat.le_of_ble_eq_true rfl) (Nat.le_of_ble_eq_true rfl) (Nat.zero_le _) (Nat.zero_le _) dX2_renew_10 ?_
  refine va_mmax (pc := 13) hx hb (hml.trans hl.1.symm) hown (hts (.methodLink RX2 25 Lib.Math.max.name) mU_766) (hts (.static Lib.Math.max.name) mU_434) (hts (.initialized "java/lang/Math") mU_431) (hts (.code Lib.Math.max.name Lib.Math.max.code 2 (some .int)) mU_435) (Nat.le_of_ble_eq_true rfl) (Nat.le_of_ble_eq_true rfl) (Nat.zero_le _) (Nat.zero_le _) dX2_renew_13 ?_
  refine vXpRX2_28_30 (pc := 16) hx hb hts mU_767 inU2 hown hK hP hD hS dX2_renew_16 (fun H locs hP hD hS => ?_)
  refine lv_aload_n (pc := 19) hx hb dX2_renew_19 rfl (lv_at hl 0 rfl) ?_
  refine vXgRX2_15_30 (pc := 20) hx hb hts mU_72 inU2 hown hK hP dX2_renew_20 ?_
  refine lv_lconst (pc := 23) hx hb (v := 0) dX2_renew_23 (by decide) ?_
  obtain ⟨r24, hc24, hf⟩ := hf_b hf
  refine cl_S (pc := 24) (As := [.ref (A 31), .long 0]) (rest := []) hx hb hml hown hts (kJ7_fill_d0a16_31 l D A B _ (sI (sI S 28 a1) 29 (if 0 < (if 40 < a2 then 40 else a2) then (if 40 < a2 then 40 else a2) else 0)) 0 r24 hc24) (va_cwS 2 hts gwRX2_31 rfl rfl rfl hdJ7_fill_d0a16 ⟨Nat.le_of_ble_eq_true rfl, Nat.le_of_ble_eq_true rfl⟩) hN hK hP hD hS hA rfl hl.1 rfl (Nat.le_of_ble_eq_true rfl) dX2_renew_24 (st1 := []) rfl ⟨Nat.zero_le _, Nat.zero_le _⟩ (fun H locs hP hD hS => ?_)
  obtain rfl := Option.some.inj hf
  exact hR H locs 27 ls hP hD hS dX2_renew_27
set_option maxHeartbeats 4000000 in
set_option maxRecDepth 100000 in
theorem kJ7_fill_d0a16_33 (l : Launch) (D : va_G) (A : Nat → Nat) (B : Nat → ClassId) (sz : Nat) (S : w_S) (a1 : Int64) (z : w_S) (hf : fJ7_fill_d0a16_33 S a1 = some z) : MetW l yJ7_fill_d0a16 (wsO yJ7_fill_d0a16 cJ7_fill_d0a16 5 none) rm_J7_fill_d0a16 [.ref (A 33), .long a1] D (tyB B) (wX A B S) (wX A B z) sz (none) := by
  refine MetW.mkV (cc := cJ7_fill_d0a16) (maxL := 5) (by decide) (Nat.le_of_ble_eq_true rfl) ?_
  intro p e s m args below meth c Ad Q hx hb hts hown hml hN hK hA hR H locs ls hP hD hS hl
  have hl : lv_has ls 5 [(0, .ref (A 33)), (1, .long a1)] := hl
  rw [fJ7_fill_d0a16_33] at hf
  refine lv_iconst (pc := 0) hx hb (v := 0) dJ7_fill_d0a16_0 (by decide) ?_
  refine lv_istore_n (pc := 1) hx hb (lv' := [(3, .int 0), (0, .ref (A 33)), (1, .long a1)]) dJ7_fill_d0a16_1 rfl hl (by decide) rfl (fun ls hl => ?_)
  refine lv_aload_n (pc := 2) hx hb dJ7_fill_d0a16_2 rfl (lv_at hl 1 rfl) ?_
  refine vXln_33 (pc := 3) hx hb hK hP dJ7_fill_d0a16_3 ?_
  refine lv_istore (pc := 4) hx hb (lv' := [(4, .int 40), (3, .int 0), (0, .ref (A 33)), (1, .long a1)]) dJ7_fill_d0a16_4 hl (by decide) rfl (fun ls hl => ?_)
  obtain ⟨q6, hq6, hf⟩ := hf_b hf
  have hk6 : ∀ (H : Heap) (locs : List Loc) (ls : Array Slot), va_P D vwCl (wX A B q6) H → va_D Ad (wX A B q6) → va_S Ad s.heap H locs → lv_has ls 5 [] → W p l e rm_J7_fill_d0a16 s m args below meth c H locs 0 0 Q (F0 m 22 ls []) := by
    intro H locs ls hP hD hS hl
    obtain rfl := Option.some.inj hf
    exact hR H locs 22 ls hP hD hS dJ7_fill_d0a16_22
  have lp6 : ∀ (n : Nat) (T6 : w_S) (u3_6 : Int32) (H : Heap) (locs : List Loc) (ls : Array Slot), fJ7_fill_d0a16_33_L6 a1 40 n T6 u3_6 = some q6 → va_P D vwCl (wX A B T6) H → va_D Ad (wX A B T6) → va_S Ad s.heap H locs → lv_has ls 5 [(0, .ref (A 33)), (1, .long a1), (3, .int u3_6), (4, .int 40)] → W p l e rm_J7_fill_d0a16 s m args below meth c H locs 0 0 Q (F0 m 6 ls []) := by
    intro n6
    induction n6 with
    | zero => intro T6 u3_6 H locs ls hq6; exact hf_0 hq6
    | succ n6 ih6 =>
      intro T6 u3_6 H locs ls hq6 hP hD hS hl
      rw [fJ7_fill_d0a16_33_L6] at hq6
      refine lv_iload_n (pc := 6) hx hb dJ7_fill_d0a16_6 rfl (lv_at hl 2 rfl) ?_
      refine lv_iload (pc := 7) hx hb dJ7_fill_d0a16_7 (lv_at hl 3 rfl) ?_
      refine lv_icmp_ge (pc := 9) hx hb (tgt := 22) dJ7_fill_d0a16_9 (by decide) (fun c_9 => ?_) (fun c_9 => ?_)
      · have hq6 := hf_t c_9 hq6
        obtain rfl := Option.some.inj hq6
        exact hk6 H locs ls hP hD hS (lv_sub hl [] rfl)
      · have hq6 := hf_f c_9 hq6
        refine lv_aload_n (pc := 12) hx hb dJ7_fill_d0a16_12 rfl (lv_at hl 0 rfl) ?_
        refine lv_iload_n (pc := 13) hx hb dJ7_fill_d0a16_13 rfl (lv_at hl 2 rfl) ?_
        refine lv_lload_n (pc := 14) hx hb dJ7_fill_d0a16_14 rfl (lv_at hl 1 rfl) ?_
        obtain ⟨hg15, hq6⟩ := hf_g hq6
        refine vXwa_33 (pc := 15) hx hb hK hP hD hS (f := (gB T6 3)) rfl hg15 dJ7_fill_d0a16_15 (fun H locs hP hD hS => ?_)
        refine lv_iinc (pc := 16) hx hb (v := u3_6 + 1) (lv' := [(3, .int (u3_6 + 1)), (0, .ref (A 33)), (1, .long a1), (4, .int 40)]) dJ7_fill_d0a16_16 hl (k := 2) rfl rfl (by decide) rfl (fun ls hl => ?_)
        refine lv_goto (pc := 19) hx hb (tgt := 6) dJ7_fill_d0a16_19 (by decide) ?_
        exact ih6 (sB T6 3 (vp_updL (gB T6 3) u3_6.toNatClampNeg a1)) (u3_6 + 1) H locs ls hq6 hP hD hS (lv_sub hl [1, 2, 0, 3] rfl)
  exact lp6 256 S 0 H locs ls hq6 hP hD hS (lv_sub hl [2, 3, 1, 0] rfl)
set_option maxHeartbeats 4000000 in
set_option maxRecDepth 100000 in
theorem kX2_renew_32 (l : Launch) (D : va_G) (A : Nat → Nat) (B : Nat → ClassId) (sz : Nat) (S : w_S) (a1 : Int32) (a2 : Int32) (z : w_S) (hf : fX2_renew_32 S a1 a2 = some z) : MetW l yX2_renew (wsO yX2_renew cX2_renew 3 none) rm_X2_renew [.ref (A 32), .int a1, .int a2] D (tyB B) (wX A B S) (wX A B z) sz (none) := by
  refine MetW.mkV (cc := cX2_renew) (maxL := 3) (by decide) (Nat.le_of_ble_eq_true rfl) ?_
  intro p e s m args below meth c Ad Q hx hb hts hown hml hN hK hA hR H locs ls hP hD hS hl
  have hl : lv_has ls 3 [(0, .ref (A 32)), (1, .int a1), (2, .int a2)] := hl
  rw [fX2_renew_32] at hf
  refine lv_aload_n (pc := 0) hx hb dX2_renew_0 rfl (lv_at hl 0 rfl) ?_
  refine lv_iload_n (pc := 1) hx hb dX2_renew_1 rfl (lv_at hl 1 rfl) ?_
  refine vXpRX2_9_32 (pc := 2) hx hb hts mU_71 inU2 hown hK hP hD hS dX2_renew_2 (fun H locs hP hD hS => ?_)
  refine lv_aload_n (pc := 5) hx hb dX2_renew_5 rfl (lv_at hl 0 rfl) ?_
  refine lv_iconst (pc := 6) hx hb (v := 0) dX2_renew_6 (by decide) ?_
  refine lv_iload_n (pc := 7) hx hb dX2_renew_7 rfl (lv_at hl 2 rfl) ?_
  refine lv_bipush (pc := 8) hx hb (v := 40) dX2_renew_8 (by decide) ?_
  refine va_mmin (pc := 10) hx hb (hml.trans hl.1.symm) hown (hts (.methodLink RX2 19 Lib.Math.min.name) mU_765) (hts (.static Lib.Math.min.name) mU_430) (hts (.initialized "java/lang/Math") mU_431) (hts (.code Lib.Math.min.name Lib.Math.min.code 2 (some .int)) mU_432) (Nat.le_of_ble_eq_true rfl) (Nat.le_of_ble_eq_true rfl) (Nat.zero_le _) (Nat.zero_le _) dX2_renew_10 ?_
  refine va_mmax (pc := 13) hx hb (hml.trans hl.1.symm) hown (hts (.methodLink RX2 25 Lib.Math.max.name) mU_766) (hts (.static Lib.Math.max.name) mU_434) (hts (.initialized "java/lang/Math") mU_431) (hts (.code Lib.Math.max.name Lib.Math.max.code 2 (some .int)) mU_435) (Nat.le_of_ble_eq_true rfl) (Nat.le_of_ble_eq_true rfl) (Nat.zero_le _) (Nat.zero_le _) dX2_renew_13 ?_
  refine vXpRX2_28_32 (pc := 16) hx hb hts mU_767 inU2 hown hK hP hD hS dX2_renew_16 (fun H locs hP hD hS => ?_)
  refine lv_aload_n (pc := 19) hx hb dX2_renew_19 rfl (lv_at hl 0 rfl) ?_
  refine vXgRX2_15_32 (pc := 20) hx hb hts mU_72 inU2 hown hK hP dX2_renew_20 ?_
  refine lv_lconst (pc := 23) hx hb (v := 0) dX2_renew_23 (by decide) ?_
  obtain ⟨r24, hc24, hf⟩ := hf_b hf
  refine cl_S (pc := 24) (As := [.ref (A 33), .long 0]) (rest := []) hx hb hml hown hts (kJ7_fill_d0a16_33 l D A B _ (sI (sI S 30 a1) 31 (if 0 < (if 40 < a2 then 40 else a2) then (if 40 < a2 then 40 else a2) else 0)) 0 r24 hc24) (va_cwS 2 hts gwRX2_31 rfl rfl rfl hdJ7_fill_d0a16 ⟨Nat.le_of_ble_eq_true rfl, Nat.le_of_ble_eq_true rfl⟩) hN hK hP hD hS hA rfl hl.1 rfl (Nat.le_of_ble_eq_true rfl) dX2_renew_24 (st1 := []) rfl ⟨Nat.zero_le _, Nat.zero_le _⟩ (fun H locs hP hD hS => ?_)
  obtain rfl := Option.some.inj hf
  exact hR H locs 27 ls hP hD hS dX2_renew_27
set_option maxHeartbeats 4000000 in
set_option maxRecDepth 100000 in
theorem kJ7_fill_d0a16_35 (l : Launch) (D : va_G) (A : Nat → Nat) (B : Nat → ClassId) (sz : Nat) (S : w_S) (a1 : Int64) (z : w_S) (hf : fJ7_fill_d0a16_35 S a1 = some z) : MetW l yJ7_fill_d0a16 (wsO yJ7_fill_d0a16 cJ7_fill_d0a16 5 none) rm_J7_fill_d0a16 [.ref (A 35), .long a1] D (tyB B) (wX A B S) (wX A B z) sz (none) := by
  refine MetW.mkV (cc := cJ7_fill_d0a16) (maxL := 5) (by decide) (Nat.le_of_ble_eq_true rfl) ?_
  intro p e s m args below meth c Ad Q hx hb hts hown hml hN hK hA hR H locs ls hP hD hS hl
  have hl : lv_has ls 5 [(0, .ref (A 35)), (1, .long a1)] := hl
  rw [fJ7_fill_d0a16_35] at hf
  refine lv_iconst (pc := 0) hx hb (v := 0) dJ7_fill_d0a16_0 (by decide) ?_
  refine lv_istore_n (pc := 1) hx hb (lv' := [(3, .int 0), (0, .ref (A 35)), (1, .long a1)]) dJ7_fill_d0a16_1 rfl hl (by decide) rfl (fun ls hl => ?_)
  refine lv_aload_n (pc := 2) hx hb dJ7_fill_d0a16_2 rfl (lv_at hl 1 rfl) ?_
  refine vXln_35 (pc := 3) hx hb hK hP dJ7_fill_d0a16_3 ?_
  refine lv_istore (pc := 4) hx hb (lv' := [(4, .int 40), (3, .int 0), (0, .ref (A 35)), (1, .long a1)]) dJ7_fill_d0a16_4 hl (by decide) rfl (fun ls hl => ?_)
  obtain ⟨q6, hq6, hf⟩ := hf_b hf
  have hk6 : ∀ (H : Heap) (locs : List Loc) (ls : Array Slot), va_P D vwCl (wX A B q6) H → va_D Ad (wX A B q6) → va_S Ad s.heap H locs → lv_has ls 5 [] → W p l e rm_J7_fill_d0a16 s m args below meth c H locs 0 0 Q (F0 m 22 ls []) := by
    intro H locs ls hP hD hS hl
    obtain rfl := Option.some.inj hf
    exact hR H locs 22 ls hP hD hS dJ7_fill_d0a16_22
  have lp6 : ∀ (n : Nat) (T6 : w_S) (u3_6 : Int32) (H : Heap) (locs : List Loc) (ls : Array Slot), fJ7_fill_d0a16_35_L6 a1 40 n T6 u3_6 = some q6 → va_P D vwCl (wX A B T6) H → va_D Ad (wX A B T6) → va_S Ad s.heap H locs → lv_has ls 5 [(0, .ref (A 35)), (1, .long a1), (3, .int u3_6), (4, .int 40)] → W p l e rm_J7_fill_d0a16 s m args below meth c H locs 0 0 Q (F0 m 6 ls []) := by
    intro n6
    induction n6 with
    | zero => intro T6 u3_6 H locs ls hq6; exact hf_0 hq6
    | succ n6 ih6 =>
      intro T6 u3_6 H locs ls hq6 hP hD hS hl
      rw [fJ7_fill_d0a16_35_L6] at hq6
      refine lv_iload_n (pc := 6) hx hb dJ7_fill_d0a16_6 rfl (lv_at hl 2 rfl) ?_
      refine lv_iload (pc := 7) hx hb dJ7_fill_d0a16_7 (lv_at hl 3 rfl) ?_
      refine lv_icmp_ge (pc := 9) hx hb (tgt := 22) dJ7_fill_d0a16_9 (by decide) (fun c_9 => ?_) (fun c_9 => ?_)
      · have hq6 := hf_t c_9 hq6
        obtain rfl := Option.some.inj hq6
        exact hk6 H locs ls hP hD hS (lv_sub hl [] rfl)
      · have hq6 := hf_f c_9 hq6
        refine lv_aload_n (pc := 12) hx hb dJ7_fill_d0a16_12 rfl (lv_at hl 0 rfl) ?_
        refine lv_iload_n (pc := 13) hx hb dJ7_fill_d0a16_13 rfl (lv_at hl 2 rfl) ?_
        refine lv_lload_n (pc := 14) hx hb dJ7_fill_d0a16_14 rfl (lv_at hl 1 rfl) ?_
        obtain ⟨hg15, hq6⟩ := hf_g hq6
        refine vXwa_35 (pc := 15) hx hb hK hP hD hS (f := (gB T6 4)) rfl hg15 dJ7_fill_d0a16_15 (fun H locs hP hD hS => ?_)
        refine lv_iinc (pc := 16) hx hb (v := u3_6 + 1) (lv' := [(3, .int (u3_6 + 1)), (0, .ref (A 35)), (1, .long a1), (4, .int 40)]) dJ7_fill_d0a16_16 hl (k := 2) rfl rfl (by decide) rfl (fun ls hl => ?_)
        refine lv_goto (pc := 19) hx hb (tgt := 6) dJ7_fill_d0a16_19 (by decide) ?_
        exact ih6 (sB T6 4 (vp_updL (gB T6 4) u3_6.toNatClampNeg a1)) (u3_6 + 1) H locs ls hq6 hP hD hS (lv_sub hl [1, 2, 0, 3] rfl)
  exact lp6 256 S 0 H locs ls hq6 hP hD hS (lv_sub hl [2, 3, 1, 0] rfl)
set_option maxHeartbeats 4000000 in
set_option maxRecDepth 100000 in
theorem kX2_renew_34 (l : Launch) (D : va_G) (A : Nat → Nat) (B : Nat → ClassId) (sz : Nat) (S : w_S) (a1 : Int32) (a2 : Int32) (z : w_S) (hf : fX2_renew_34 S a1 a2 = some z) : MetW l yX2_renew (wsO yX2_renew cX2_renew 3 none) rm_X2_renew [.ref (A 34), .int a1, .int a2] D (tyB B) (wX A B S) (wX A B z) sz (none) := by
  refine MetW.mkV (cc := cX2_renew) (maxL := 3) (by decide) (Nat.le_of_ble_eq_true rfl) ?_
  intro p e s m args below meth c Ad Q hx hb hts hown hml hN hK hA hR H locs ls hP hD hS hl
  have hl : lv_has ls 3 [(0, .ref (A 34)), (1, .int a1), (2, .int a2)] := hl
  rw [fX2_renew_34] at hf
  refine lv_aload_n (pc := 0) hx hb dX2_renew_0 rfl (lv_at hl 0 rfl) ?_
  refine lv_iload_n (pc := 1) hx hb dX2_renew_1 rfl (lv_at hl 1 rfl) ?_
  refine vXpRX2_9_34 (pc := 2) hx hb hts mU_71 inU2 hown hK hP hD hS dX2_renew_2 (fun H locs hP hD hS => ?_)
  refine lv_aload_n (pc := 5) hx hb dX2_renew_5 rfl (lv_at hl 0 rfl) ?_
  refine lv_iconst (pc := 6) hx hb (v := 0) dX2_renew_6 (by decide) ?_
  refine lv_iload_n (pc := 7) hx hb dX2_renew_7 rfl (lv_at hl 2 rfl) ?_
  refine lv_bipush (pc := 8) hx hb (v := 40) dX2_renew_8 (by decide) ?_
  refine va_mmin (pc := 10) hx hb (hml.trans hl.1.symm) hown (hts (.methodLink RX2 19 Lib.Math.min.name) mU_765) (hts (.static Lib.Math.min.name) mU_430) (hts (.initialized "java/lang/Math") mU_431) (hts (.code Lib.Math.min.name Lib.Math.min.code 2 (some .int)) mU_432) (Nat.le_of_ble_eq_true rfl) (Nat.le_of_ble_eq_true rfl) (Nat.zero_le _) (Nat.zero_le _) dX2_renew_10 ?_
  refine va_mmax (pc := 13) hx hb (hml.trans hl.1.symm) hown (hts (.methodLink RX2 25 Lib.Math.max.name) mU_766) (hts (.static Lib.Math.max.name) mU_434) (hts (.initialized "java/lang/Math") mU_431) (hts (.code Lib.Math.max.name Lib.Math.max.code 2 (some .int)) mU_435) (Nat.le_of_ble_eq_true rfl) (Nat.le_of_ble_eq_true rfl) (Nat.zero_le _) (Nat.zero_le _) dX2_renew_13 ?_
  refine vXpRX2_28_34 (pc := 16) hx hb hts mU_767 inU2 hown hK hP hD hS dX2_renew_16 (fun H locs hP hD hS => ?_)
  refine lv_aload_n (pc := 19) hx hb dX2_renew_19 rfl (lv_at hl 0 rfl) ?_
  refine vXgRX2_15_34 (pc := 20) hx hb hts mU_72 inU2 hown hK hP dX2_renew_20 ?_
  refine lv_lconst (pc := 23) hx hb (v := 0) dX2_renew_23 (by decide) ?_
  obtain ⟨r24, hc24, hf⟩ := hf_b hf
  refine cl_S (pc := 24) (As := [.ref (A 35), .long 0]) (rest := []) hx hb hml hown hts (kJ7_fill_d0a16_35 l D A B _ (sI (sI S 32 a1) 33 (if 0 < (if 40 < a2 then 40 else a2) then (if 40 < a2 then 40 else a2) else 0)) 0 r24 hc24) (va_cwS 2 hts gwRX2_31 rfl rfl rfl hdJ7_fill_d0a16 ⟨Nat.le_of_ble_eq_true rfl, Nat.le_of_ble_eq_true rfl⟩) hN hK hP hD hS hA rfl hl.1 rfl (Nat.le_of_ble_eq_true rfl) dX2_renew_24 (st1 := []) rfl ⟨Nat.zero_le _, Nat.zero_le _⟩ (fun H locs hP hD hS => ?_)
  obtain rfl := Option.some.inj hf
  exact hR H locs 27 ls hP hD hS dX2_renew_27
set_option maxHeartbeats 4000000 in
set_option maxRecDepth 100000 in
theorem kJ7_fill_d0a16_37 (l : Launch) (D : va_G) (A : Nat → Nat) (B : Nat → ClassId) (sz : Nat) (S : w_S) (a1 : Int64) (z : w_S) (hf : fJ7_fill_d0a16_37 S a1 = some z) : MetW l yJ7_fill_d0a16 (wsO yJ7_fill_d0a16 cJ7_fill_d0a16 5 none) rm_J7_fill_d0a16 [.ref (A 37), .long a1] D (tyB B) (wX A B S) (wX A B z) sz (none) := by
  refine MetW.mkV (cc := cJ7_fill_d0a16) (maxL := 5) (by decide) (Nat.le_of_ble_eq_true rfl) ?_
  intro p e s m args below meth c Ad Q hx hb hts hown hml hN hK hA hR H locs ls hP hD hS hl
  have hl : lv_has ls 5 [(0, .ref (A 37)), (1, .long a1)] := hl
  rw [fJ7_fill_d0a16_37] at hf
  refine lv_iconst (pc := 0) hx hb (v := 0) dJ7_fill_d0a16_0 (by decide) ?_
  refine lv_istore_n (pc := 1) hx hb (lv' := [(3, .int 0), (0, .ref (A 37)), (1, .long a1)]) dJ7_fill_d0a16_1 rfl hl (by decide) rfl (fun ls hl => ?_)
  refine lv_aload_n (pc := 2) hx hb dJ7_fill_d0a16_2 rfl (lv_at hl 1 rfl) ?_
  refine vXln_37 (pc := 3) hx hb hK hP dJ7_fill_d0a16_3 ?_
  refine lv_istore (pc := 4) hx hb (lv' := [(4, .int 40), (3, .int 0), (0, .ref (A 37)), (1, .long a1)]) dJ7_fill_d0a16_4 hl (by decide) rfl (fun ls hl => ?_)
  obtain ⟨q6, hq6, hf⟩ := hf_b hf
  have hk6 : ∀ (H : Heap) (locs : List Loc) (ls : Array Slot), va_P D vwCl (wX A B q6) H → va_D Ad (wX A B q6) → va_S Ad s.heap H locs → lv_has ls 5 [] → W p l e rm_J7_fill_d0a16 s m args below meth c H locs 0 0 Q (F0 m 22 ls []) := by
    intro H locs ls hP hD hS hl
    obtain rfl := Option.some.inj hf
    exact hR H locs 22 ls hP hD hS dJ7_fill_d0a16_22
  have lp6 : ∀ (n : Nat) (T6 : w_S) (u3_6 : Int32) (H : Heap) (locs : List Loc) (ls : Array Slot), fJ7_fill_d0a16_37_L6 a1 40 n T6 u3_6 = some q6 → va_P D vwCl (wX A B T6) H → va_D Ad (wX A B T6) → va_S Ad s.heap H locs → lv_has ls 5 [(0, .ref (A 37)), (1, .long a1), (3, .int u3_6), (4, .int 40)] → W p l e rm_J7_fill_d0a16 s m args below meth c H locs 0 0 Q (F0 m 6 ls []) := by
    intro n6
    induction n6 with
    | zero => intro T6 u3_6 H locs ls hq6; exact hf_0 hq6
    | succ n6 ih6 =>
      intro T6 u3_6 H locs ls hq6 hP hD hS hl
      rw [fJ7_fill_d0a16_37_L6] at hq6
      refine lv_iload_n (pc := 6) hx hb dJ7_fill_d0a16_6 rfl (lv_at hl 2 rfl) ?_
      refine lv_iload (pc := 7) hx hb dJ7_fill_d0a16_7 (lv_at hl 3 rfl) ?_
      refine lv_icmp_ge (pc := 9) hx hb (tgt := 22) dJ7_fill_d0a16_9 (by decide) (fun c_9 => ?_) (fun c_9 => ?_)
      · have hq6 := hf_t c_9 hq6
        obtain rfl := Option.some.inj hq6
        exact hk6 H locs ls hP hD hS (lv_sub hl [] rfl)
      · have hq6 := hf_f c_9 hq6
        refine lv_aload_n (pc := 12) hx hb dJ7_fill_d0a16_12 rfl (lv_at hl 0 rfl) ?_
        refine lv_iload_n (pc := 13) hx hb dJ7_fill_d0a16_13 rfl (lv_at hl 2 rfl) ?_
        refine lv_lload_n (pc := 14) hx hb dJ7_fill_d0a16_14 rfl (lv_at hl 1 rfl) ?_
        obtain ⟨hg15, hq6⟩ := hf_g hq6
        refine vXwa_37 (pc := 15) hx hb hK hP hD hS (f := (gB T6 5)) rfl hg15 dJ7_fill_d0a16_15 (fun H locs hP hD hS => ?_)
        refine lv_iinc (pc := 16) hx hb (v := u3_6 + 1) (lv' := [(3, .int (u3_6 + 1)), (0, .ref (A 37)), (1, .long a1), (4, .int 40)]) dJ7_fill_d0a16_16 hl (k := 2) rfl rfl (by decide) rfl (fun ls hl => ?_)
        refine lv_goto (pc := 19) hx hb (tgt := 6) dJ7_fill_d0a16_19 (by decide) ?_
        exact ih6 (sB T6 5 (vp_updL (gB T6 5) u3_6.toNatClampNeg a1)) (u3_6 + 1) H locs ls hq6 hP hD hS (lv_sub hl [1, 2, 0, 3] rfl)
  exact lp6 256 S 0 H locs ls hq6 hP hD hS (lv_sub hl [2, 3, 1, 0] rfl)
set_option maxHeartbeats 4000000 in
set_option maxRecDepth 100000 in
theorem kX2_renew_36 (l : Launch) (D : va_G) (A : Nat → Nat) (B : Nat → ClassId) (sz : Nat) (S : w_S) (a1 : Int32) (a2 : Int32) (z : w_S) (hf : fX2_renew_36 S a1 a2 = some z) : MetW l yX2_renew (wsO yX2_renew cX2_renew 3 none) rm_X2_renew [.ref (A 36), .int a1, .int a2] D (tyB B) (wX A B S) (wX A B z) sz (none) := by
  refine MetW.mkV (cc := cX2_renew) (maxL := 3) (by decide) (Nat.le_of_ble_eq_true rfl) ?_
  intro p e s m args below meth c Ad Q hx hb hts hown hml hN hK hA hR H locs ls hP hD hS hl
  have hl : lv_has ls 3 [(0, .ref (A 36)), (1, .int a1), (2, .int a2)] := hl
  rw [fX2_renew_36] at hf
  refine lv_aload_n (pc := 0) hx hb dX2_renew_0 rfl (lv_at hl 0 rfl) ?_
  refine lv_iload_n (pc := 1) hx hb dX2_renew_1 rfl (lv_at hl 1 rfl) ?_
  refine vXpRX2_9_36 (pc := 2) hx hb hts mU_71 inU2 hown hK hP hD hS dX2_renew_2 (fun H locs hP hD hS => ?_)
  refine lv_aload_n (pc := 5) hx hb dX2_renew_5 rfl (lv_at hl 0 rfl) ?_
  refine lv_iconst (pc := 6) hx hb (v := 0) dX2_renew_6 (by decide) ?_
  refine lv_iload_n (pc := 7) hx hb dX2_renew_7 rfl (lv_at hl 2 rfl) ?_
  refine lv_bipush (pc := 8) hx hb (v := 40) dX2_renew_8 (by decide) ?_
  refine va_mmin (pc := 10) hx hb (hml.trans hl.1.symm) hown (hts (.methodLink RX2 19 Lib.Math.min.name) mU_765) (hts (.static Lib.Math.min.name) mU_430) (hts (.initialized "java/lang/Math") mU_431) (hts (.code Lib.Math.min.name Lib.Math.min.code 2 (some .int)) mU_432) (Nat.le_of_ble_eq_true rfl) (Nat.le_of_ble_eq_true rfl) (Nat.zero_le _) (Nat.zero_le _) dX2_renew_10 ?_
  refine va_mmax (pc := 13) hx hb (hml.trans hl.1.symm) hown (hts (.methodLink RX2 25 Lib.Math.max.name) mU_766) (hts (.static Lib.Math.max.name) mU_434) (hts (.initialized "java/lang/Math") mU_431) (hts (.code Lib.Math.max.name Lib.Math.max.code 2 (some .int)) mU_435) (Nat.le_of_ble_eq_true rfl) (Nat.le_of_ble_eq_true rfl) (Nat.zero_le _) (Nat.zero_le _) dX2_renew_13 ?_
  refine vXpRX2_28_36 (pc := 16) hx hb hts mU_767 inU2 hown hK hP hD hS dX2_renew_16 (fun H locs hP hD hS => ?_)
  refine lv_aload_n (pc := 19) hx hb dX2_renew_19 rfl (lv_at hl 0 rfl) ?_
  refine vXgRX2_15_36 (pc := 20) hx hb hts mU_72 inU2 hown hK hP dX2_renew_20 ?_
  refine lv_lconst (pc := 23) hx hb (v := 0) dX2_renew_23 (by decide) ?_
  obtain ⟨r24, hc24, hf⟩ := hf_b hf
  refine cl_S (pc := 24) (As := [.ref (A 37), .long 0]) (rest := []) hx hb hml hown hts (kJ7_fill_d0a16_37 l D A B _ (sI (sI S 34 a1) 35 (if 0 < (if 40 < a2 then 40 else a2) then (if 40 < a2 then 40 else a2) else 0)) 0 r24 hc24) (va_cwS 2 hts gwRX2_31 rfl rfl rfl hdJ7_fill_d0a16 ⟨Nat.le_of_ble_eq_true rfl, Nat.le_of_ble_eq_true rfl⟩) hN hK hP hD hS hA rfl hl.1 rfl (Nat.le_of_ble_eq_true rfl) dX2_renew_24 (st1 := []) rfl ⟨Nat.zero_le _, Nat.zero_le _⟩ (fun H locs hP hD hS => ?_)
  obtain rfl := Option.some.inj hf
  exact hR H locs 27 ls hP hD hS dX2_renew_27
set_option maxHeartbeats 4000000 in
set_option maxRecDepth 100000 in
theorem kX2_narrowed_30 (l : Launch) (D : va_G) (A : Nat → Nat) (B : Nat → ClassId) (sz : Nat) (S : w_S) (a1 : Int64) (z : Int64) (hf : fX2_narrowed_30 S a1 = some z) : MetW l yX2_narrowed (wsO yX2_narrowed cX2_narrowed 3 (some .long)) rm_X2_narrowed [.ref (A 30), .long a1] D (tyB B) (wX A B S) (wX A B S) sz (some (.long z)) := by
  refine MetW.mkL (cc := cX2_narrowed) (maxL := 3) (by decide) (Nat.le_of_ble_eq_true rfl) ?_
  intro p e s m args below meth c Ad Q hx hb hts hown hml hN hK hA hR H locs ls hP hD hS hl
  have hl : lv_has ls 3 [(0, .ref (A 30)), (1, .long a1)] := hl
  rw [fX2_narrowed_30] at hf
  refine lv_aload_n (pc := 0) hx hb dX2_narrowed_0 rfl (lv_at hl 0 rfl) ?_
  refine vXgRX2_9_30 (pc := 1) hx hb hts mU_71 inU2 hown hK hP (x := (gI S 28)) rfl dX2_narrowed_1 ?_
  by_cases e4_0 : (gI S 28) = (0 : Int32)
  · have hf := hf_t e4_0 hf
    refine lv_tableIn (pc := 4) hx hb (off := 28) (tgt := 32) dX2_narrowed_4 (by rw [e4_0]; decide) (by rw [e4_0]; decide) (by rw [e4_0]; rfl) (by decide) ?_
    refine lv_lload_n (pc := 32) hx hb dX2_narrowed_32 rfl (lv_at hl 1 rfl) ?_
    refine lv_l2i (pc := 33) hx hb (v := a1.toInt32) dX2_narrowed_33 rfl ?_
    refine lv_i2b (pc := 34) hx hb (v := a1.toInt32.toInt8.toInt32) dX2_narrowed_34 rfl ?_
    refine lv_i2l (pc := 35) hx hb (v := a1.toInt32.toInt8.toInt32.toInt64) dX2_narrowed_35 rfl ?_
    obtain rfl := Option.some.inj hf
    exact hR H locs 36 ls hP hD hS dX2_narrowed_36
  · have hf := hf_f e4_0 hf
    by_cases e4_1 : (gI S 28) = (1 : Int32)
    · have hf := hf_t e4_1 hf
      refine lv_tableIn (pc := 4) hx hb (off := 33) (tgt := 37) dX2_narrowed_4 (by rw [e4_1]; decide) (by rw [e4_1]; decide) (by rw [e4_1]; rfl) (by decide) ?_
      refine lv_lload_n (pc := 37) hx hb dX2_narrowed_37 rfl (lv_at hl 1 rfl) ?_
      refine lv_l2i (pc := 38) hx hb (v := a1.toInt32) dX2_narrowed_38 rfl ?_
      refine lv_i2s (pc := 39) hx hb (v := a1.toInt32.toInt16.toInt32) dX2_narrowed_39 rfl ?_
      refine lv_i2l (pc := 40) hx hb (v := a1.toInt32.toInt16.toInt32.toInt64) dX2_narrowed_40 rfl ?_
      obtain rfl := Option.some.inj hf
      exact hR H locs 41 ls hP hD hS dX2_narrowed_41
    · have hf := hf_f e4_1 hf
      by_cases e4_2 : (gI S 28) = (2 : Int32)
      · have hf := hf_t e4_2 hf
        refine lv_tableIn (pc := 4) hx hb (off := 38) (tgt := 42) dX2_narrowed_4 (by rw [e4_2]; decide) (by rw [e4_2]; decide) (by rw [e4_2]; rfl) (by decide) ?_
        refine lv_lload_n (pc := 42) hx hb dX2_narrowed_42 rfl (lv_at hl 1 rfl) ?_
        refine lv_l2i (pc := 43) hx hb (v := a1.toInt32) dX2_narrowed_43 rfl ?_
        refine lv_i2l (pc := 44) hx hb (v := a1.toInt32.toInt64) dX2_narrowed_44 rfl ?_
        obtain rfl := Option.some.inj hf
        exact hR H locs 45 ls hP hD hS dX2_narrowed_45
      · have hf := hf_f e4_2 hf
        have n4_0 := lv_neT (a := 0) e4_0 rfl
        have n4_1 := lv_neT (a := 1) e4_1 rfl
        have n4_2 := lv_neT (a := 2) e4_2 rfl
        refine lv_tableOut (pc := 4) hx hb (tgt := 46) dX2_narrowed_4 (by omega) (by decide) ?_
        refine lv_lload_n (pc := 46) hx hb dX2_narrowed_46 rfl (lv_at hl 1 rfl) ?_
        obtain rfl := Option.some.inj hf
        exact hR H locs 47 ls hP hD hS dX2_narrowed_47
set_option maxHeartbeats 4000000 in
set_option maxRecDepth 100000 in
theorem kX2_write_30 (l : Launch) (D : va_G) (A : Nat → Nat) (B : Nat → ClassId) (sz : Nat) (S : w_S) (a1 : Int32) (a2 : Int64) (z : w_S) (hf : fX2_write_30 S a1 a2 = some z) : MetW l yX2_write (wsO yX2_write cX2_write 4 none) rm_X2_write [.ref (A 30), .int a1, .long a2] D (tyB B) (wX A B S) (wX A B z) sz (none) := by
  refine MetW.mkV (cc := cX2_write) (maxL := 4) (by decide) (Nat.le_of_ble_eq_true rfl) ?_
  intro p e s m args below meth c Ad Q hx hb hts hown hml hN hK hA hR H locs ls hP hD hS hl
  have hl : lv_has ls 4 [(0, .ref (A 30)), (1, .int a1), (2, .long a2)] := hl
  rw [fX2_write_30] at hf
  refine lv_iload_n (pc := 0) hx hb dX2_write_0 rfl (lv_at hl 1 rfl) ?_
  refine lv_if_lt (pc := 1) hx hb (tgt := 29) dX2_write_1 (by decide) (fun c_1 => ?_) (fun c_1 => ?_)
  · have hf := hf_t c_1 hf
    obtain rfl := Option.some.inj hf
    exact hR H locs 29 ls hP hD hS dX2_write_29
  · have hf := hf_f c_1 hf
    refine lv_iload_n (pc := 4) hx hb dX2_write_4 rfl (lv_at hl 1 rfl) ?_
    refine lv_aload_n (pc := 5) hx hb dX2_write_5 rfl (lv_at hl 0 rfl) ?_
    refine vXgRX2_28_30 (pc := 6) hx hb hts mU_767 inU2 hown hK hP (x := (gI S 29)) rfl dX2_write_6 ?_
    refine lv_icmp_ge (pc := 9) hx hb (tgt := 29) dX2_write_9 (by decide) (fun c_9 => ?_) (fun c_9 => ?_)
    · have hf := hf_t c_9 hf
      obtain rfl := Option.some.inj hf
      exact hR H locs 29 ls hP hD hS dX2_write_29
    · have hf := hf_f c_9 hf
      refine lv_iload_n (pc := 12) hx hb dX2_write_12 rfl (lv_at hl 1 rfl) ?_
      refine lv_bipush (pc := 13) hx hb (v := 40) dX2_write_13 (by decide) ?_
      refine lv_icmp_ge (pc := 15) hx hb (tgt := 29) dX2_write_15 (by decide) (fun c_15 => ?_) (fun c_15 => ?_)
      · have hf := hf_t c_15 hf
        obtain rfl := Option.some.inj hf
        exact hR H locs 29 ls hP hD hS dX2_write_29
      · have hf := hf_f c_15 hf
        refine lv_aload_n (pc := 18) hx hb dX2_write_18 rfl (lv_at hl 0 rfl) ?_
        refine vXgRX2_15_30 (pc := 19) hx hb hts mU_72 inU2 hown hK hP dX2_write_19 ?_
        refine lv_iload_n (pc := 22) hx hb dX2_write_22 rfl (lv_at hl 1 rfl) ?_
        refine lv_aload_n (pc := 23) hx hb dX2_write_23 rfl (lv_at hl 0 rfl) ?_
        refine lv_lload_n (pc := 24) hx hb dX2_write_24 rfl (lv_at hl 2 rfl) ?_
        obtain ⟨r25, hc25, hf⟩ := hf_b hf
        refine cl_V (pc := 25) (As := [.long a2]) (rest := [.int a1, .ref (A 31)]) hx hb hml hown hts (kX2_narrowed_30 l D A B _ S a2 r25 hc25) (cwV 1 hts gwRX2_37 rfl rfl rfl hdX2_narrowed ⟨Nat.le_of_ble_eq_true rfl, Nat.le_of_ble_eq_true rfl⟩) hN hK hP hD hS hA (va_recv hK hP (ci := 2) (q0 := 30) rfl (eX_30 A B _)) rfl hl.1 rfl (Nat.le_of_ble_eq_true rfl) dX2_write_25 (st1 := [.long r25, .int a1, .ref (A 31)]) rfl ⟨Nat.zero_le _, Nat.zero_le _⟩ (fun H locs hP hD hS => ?_)
        obtain ⟨hg28, hf⟩ := hf_g hf
        refine vXwa_31 (pc := 28) hx hb hK hP hD hS (f := (gB S 2)) rfl hg28 dX2_write_28 (fun H locs hP hD hS => ?_)
        obtain rfl := Option.some.inj hf
        exact hR H locs 29 ls hP hD hS dX2_write_29
set_option maxHeartbeats 4000000 in
set_option maxRecDepth 100000 in
theorem kX2_narrowed_32 (l : Launch) (D : va_G) (A : Nat → Nat) (B : Nat → ClassId) (sz : Nat) (S : w_S) (a1 : Int64) (z : Int64) (hf : fX2_narrowed_32 S a1 = some z) : MetW l yX2_narrowed (wsO yX2_narrowed cX2_narrowed 3 (some .long)) rm_X2_narrowed [.ref (A 32), .long a1] D (tyB B) (wX A B S) (wX A B S) sz (some (.long z)) := by
  refine MetW.mkL (cc := cX2_narrowed) (maxL := 3) (by decide) (Nat.le_of_ble_eq_true rfl) ?_
  intro p e s m args below meth c Ad Q hx hb hts hown hml hN hK hA hR H locs ls hP hD hS hl
  have hl : lv_has ls 3 [(0, .ref (A 32)), (1, .long a1)] := hl
  rw [fX2_narrowed_32] at hf
  refine lv_aload_n (pc := 0) hx hb dX2_narrowed_0 rfl (lv_at hl 0 rfl) ?_
  refine vXgRX2_9_32 (pc := 1) hx hb hts mU_71 inU2 hown hK hP (x := (gI S 30)) rfl dX2_narrowed_1 ?_
  by_cases e4_0 : (gI S 30) = (0 : Int32)
  · have hf := hf_t e4_0 hf
    refine lv_tableIn (pc := 4) hx hb (off := 28) (tgt := 32) dX2_narrowed_4 (by rw [e4_0]; decide) (by rw [e4_0]; decide) (by rw [e4_0]; rfl) (by decide) ?_
    refine lv_lload_n (pc := 32) hx hb dX2_narrowed_32 rfl (lv_at hl 1 rfl) ?_
    refine lv_l2i (pc := 33) hx hb (v := a1.toInt32) dX2_narrowed_33 rfl ?_
    refine lv_i2b (pc := 34) hx hb (v := a1.toInt32.toInt8.toInt32) dX2_narrowed_34 rfl ?_
    refine lv_i2l (pc := 35) hx hb (v := a1.toInt32.toInt8.toInt32.toInt64) dX2_narrowed_35 rfl ?_
    obtain rfl := Option.some.inj hf
    exact hR H locs 36 ls hP hD hS dX2_narrowed_36
  · have hf := hf_f e4_0 hf
    by_cases e4_1 : (gI S 30) = (1 : Int32)
    · have hf := hf_t e4_1 hf
      refine lv_tableIn (pc := 4) hx hb (off := 33) (tgt := 37) dX2_narrowed_4 (by rw [e4_1]; decide) (by rw [e4_1]; decide) (by rw [e4_1]; rfl) (by decide) ?_
      refine lv_lload_n (pc := 37) hx hb dX2_narrowed_37 rfl (lv_at hl 1 rfl) ?_
      refine lv_l2i (pc := 38) hx hb (v := a1.toInt32) dX2_narrowed_38 rfl ?_
      refine lv_i2s (pc := 39) hx hb (v := a1.toInt32.toInt16.toInt32) dX2_narrowed_39 rfl ?_
      refine lv_i2l (pc := 40) hx hb (v := a1.toInt32.toInt16.toInt32.toInt64) dX2_narrowed_40 rfl ?_
      obtain rfl := Option.some.inj hf
      exact hR H locs 41 ls hP hD hS dX2_narrowed_41
    · have hf := hf_f e4_1 hf
      by_cases e4_2 : (gI S 30) = (2 : Int32)
      · have hf := hf_t e4_2 hf
        refine lv_tableIn (pc := 4) hx hb (off := 38) (tgt := 42) dX2_narrowed_4 (by rw [e4_2]; decide) (by rw [e4_2]; decide) (by rw [e4_2]; rfl) (by decide) ?_
        refine lv_lload_n (pc := 42) hx hb dX2_narrowed_42 rfl (lv_at hl 1 rfl) ?_
        refine lv_l2i (pc := 43) hx hb (v := a1.toInt32) dX2_narrowed_43 rfl ?_
        refine lv_i2l (pc := 44) hx hb (v := a1.toInt32.toInt64) dX2_narrowed_44 rfl ?_
        obtain rfl := Option.some.inj hf
        exact hR H locs 45 ls hP hD hS dX2_narrowed_45
      · have hf := hf_f e4_2 hf
        have n4_0 := lv_neT (a := 0) e4_0 rfl
        have n4_1 := lv_neT (a := 1) e4_1 rfl
        have n4_2 := lv_neT (a := 2) e4_2 rfl
        refine lv_tableOut (pc := 4) hx hb (tgt := 46) dX2_narrowed_4 (by omega) (by decide) ?_
        refine lv_lload_n (pc := 46) hx hb dX2_narrowed_46 rfl (lv_at hl 1 rfl) ?_
        obtain rfl := Option.some.inj hf
        exact hR H locs 47 ls hP hD hS dX2_narrowed_47
set_option maxHeartbeats 4000000 in
set_option maxRecDepth 100000 in
theorem kX2_write_32 (l : Launch) (D : va_G) (A : Nat → Nat) (B : Nat → ClassId) (sz : Nat) (S : w_S) (a1 : Int32) (a2 : Int64) (z : w_S) (hf : fX2_write_32 S a1 a2 = some z) : MetW l yX2_write (wsO yX2_write cX2_write 4 none) rm_X2_write [.ref (A 32), .int a1, .long a2] D (tyB B) (wX A B S) (wX A B z) sz (none) := by
  refine MetW.mkV (cc := cX2_write) (maxL := 4) (by decide) (Nat.le_of_ble_eq_true rfl) ?_
  intro p e s m args below meth c Ad Q hx hb hts hown hml hN hK hA hR H locs ls hP hD hS hl
  have hl : lv_has ls 4 [(0, .ref (A 32)), (1, .int a1), (2, .long a2)] := hl
  rw [fX2_write_32] at hf
  refine lv_iload_n (pc := 0) hx hb dX2_write_0 rfl (lv_at hl 1 rfl) ?_
  refine lv_if_lt (pc := 1) hx hb (tgt := 29) dX2_write_1 (by decide) (fun c_1 => ?_) (fun c_1 => ?_)
  · have hf := hf_t c_1 hf
    obtain rfl := Option.some.inj hf
    exact hR H locs 29 ls hP hD hS dX2_write_29
  · have hf := hf_f c_1 hf
    refine lv_iload_n (pc := 4) hx hb dX2_write_4 rfl (lv_at hl 1 rfl) ?_
    refine lv_aload_n (pc := 5) hx hb dX2_write_5 rfl (lv_at hl 0 rfl) ?_
    refine vXgRX2_28_32 (pc := 6) hx hb hts mU_767 inU2 hown hK hP (x := (gI S 31)) rfl dX2_write_6 ?_
    refine lv_icmp_ge (pc := 9) hx hb (tgt := 29) dX2_write_9 (by decide) (fun c_9 => ?_) (fun c_9 => ?_)
    · have hf := hf_t c_9 hf
      obtain rfl := Option.some.inj hf
      exact hR H locs 29 ls hP hD hS dX2_write_29
    · have hf := hf_f c_9 hf
      refine lv_iload_n (pc := 12) hx hb dX2_write_12 rfl (lv_at hl 1 rfl) ?_
      refine lv_bipush (pc := 13) hx hb (v := 40) dX2_write_13 (by decide) ?_
      refine lv_icmp_ge (pc := 15) hx hb (tgt := 29) dX2_write_15 (by decide) (fun c_15 => ?_) (fun c_15 => ?_)
      · have hf := hf_t c_15 hf
        obtain rfl := Option.some.inj hf
        exact hR H locs 29 ls hP hD hS dX2_write_29
      · have hf := hf_f c_15 hf
        refine lv_aload_n (pc := 18) hx hb dX2_write_18 rfl (lv_at hl 0 rfl) ?_
        refine vXgRX2_15_32 (pc := 19) hx hb hts mU_72 inU2 hown hK hP dX2_write_19 ?_
        refine lv_iload_n (pc := 22) hx hb dX2_write_22 rfl (lv_at hl 1 rfl) ?_
        refine lv_aload_n (pc := 23) hx hb dX2_write_23 rfl (lv_at hl 0 rfl) ?_
        refine lv_lload_n (pc := 24) hx hb dX2_write_24 rfl (lv_at hl 2 rfl) ?_
        obtain ⟨r25, hc25, hf⟩ := hf_b hf
        refine cl_V (pc := 25) (As := [.long a2]) (rest := [.int a1, .ref (A 33)]) hx hb hml hown hts (kX2_narrowed_32 l D A B _ S a2 r25 hc25) (cwV 1 hts gwRX2_37 rfl rfl rfl hdX2_narrowed ⟨Nat.le_of_ble_eq_true rfl, Nat.le_of_ble_eq_true rfl⟩) hN hK hP hD hS hA (va_recv hK hP (ci := 2) (q0 := 32) rfl (eX_32 A B _)) rfl hl.1 rfl (Nat.le_of_ble_eq_true rfl) dX2_write_25 (st1 := [.long r25, .int a1, .ref (A 33)]) rfl ⟨Nat.zero_le _, Nat.zero_le _⟩ (fun H locs hP hD hS => ?_)
        obtain ⟨hg28, hf⟩ := hf_g hf
        refine vXwa_33 (pc := 28) hx hb hK hP hD hS (f := (gB S 3)) rfl hg28 dX2_write_28 (fun H locs hP hD hS => ?_)
        obtain rfl := Option.some.inj hf
        exact hR H locs 29 ls hP hD hS dX2_write_29
set_option maxHeartbeats 4000000 in
set_option maxRecDepth 100000 in
theorem kX2_narrowed_34 (l : Launch) (D : va_G) (A : Nat → Nat) (B : Nat → ClassId) (sz : Nat) (S : w_S) (a1 : Int64) (z : Int64) (hf : fX2_narrowed_34 S a1 = some z) : MetW l yX2_narrowed (wsO yX2_narrowed cX2_narrowed 3 (some .long)) rm_X2_narrowed [.ref (A 34), .long a1] D (tyB B) (wX A B S) (wX A B S) sz (some (.long z)) := by
  refine MetW.mkL (cc := cX2_narrowed) (maxL := 3) (by decide) (Nat.le_of_ble_eq_true rfl) ?_
  intro p e s m args below meth c Ad Q hx hb hts hown hml hN hK hA hR H locs ls hP hD hS hl
  have hl : lv_has ls 3 [(0, .ref (A 34)), (1, .long a1)] := hl
  rw [fX2_narrowed_34] at hf
  refine lv_aload_n (pc := 0) hx hb dX2_narrowed_0 rfl (lv_at hl 0 rfl) ?_
  refine vXgRX2_9_34 (pc := 1) hx hb hts mU_71 inU2 hown hK hP (x := (gI S 32)) rfl dX2_narrowed_1 ?_
  by_cases e4_0 : (gI S 32) = (0 : Int32)
  · have hf := hf_t e4_0 hf
    refine lv_tableIn (pc := 4) hx hb (off := 28) (tgt := 32) dX2_narrowed_4 (by rw [e4_0]; decide) (by rw [e4_0]; decide) (by rw [e4_0]; rfl) (by decide) ?_
    refine lv_lload_n (pc := 32) hx hb dX2_narrowed_32 rfl (lv_at hl 1 rfl) ?_
    refine lv_l2i (pc := 33) hx hb (v := a1.toInt32) dX2_narrowed_33 rfl ?_
    refine lv_i2b (pc := 34) hx hb (v := a1.toInt32.toInt8.toInt32) dX2_narrowed_34 rfl ?_
    refine lv_i2l (pc := 35) hx hb (v := a1.toInt32.toInt8.toInt32.toInt64) dX2_narrowed_35 rfl ?_
    obtain rfl := Option.some.inj hf
    exact hR H locs 36 ls hP hD hS dX2_narrowed_36
  · have hf := hf_f e4_0 hf
    by_cases e4_1 : (gI S 32) = (1 : Int32)
    · have hf := hf_t e4_1 hf
      refine lv_tableIn (pc := 4) hx hb (off := 33) (tgt := 37) dX2_narrowed_4 (by rw [e4_1]; decide) (by rw [e4_1]; decide) (by rw [e4_1]; rfl) (by decide) ?_
      refine lv_lload_n (pc := 37) hx hb dX2_narrowed_37 rfl (lv_at hl 1 rfl) ?_
      refine lv_l2i (pc := 38) hx hb (v := a1.toInt32) dX2_narrowed_38 rfl ?_
      refine lv_i2s (pc := 39) hx hb (v := a1.toInt32.toInt16.toInt32) dX2_narrowed_39 rfl ?_
      refine lv_i2l (pc := 40) hx hb (v := a1.toInt32.toInt16.toInt32.toInt64) dX2_narrowed_40 rfl ?_
      obtain rfl := Option.some.inj hf
      exact hR H locs 41 ls hP hD hS dX2_narrowed_41
    · have hf := hf_f e4_1 hf
      by_cases e4_2 : (gI S 32) = (2 : Int32)
      · have hf := hf_t e4_2 hf
        refine lv_tableIn (pc := 4) hx hb (off := 38) (tgt := 42) dX2_narrowed_4 (by rw [e4_2]; decide) (by rw [e4_2]; decide) (by rw [e4_2]; rfl) (by decide) ?_
        refine lv_lload_n (pc := 42) hx hb dX2_narrowed_42 rfl (lv_at hl 1 rfl) ?_
        refine lv_l2i (pc := 43) hx hb (v := a1.toInt32) dX2_narrowed_43 rfl ?_
        refine lv_i2l (pc := 44) hx hb (v := a1.toInt32.toInt64) dX2_narrowed_44 rfl ?_
        obtain rfl := Option.some.inj hf
        exact hR H locs 45 ls hP hD hS dX2_narrowed_45
      · have hf := hf_f e4_2 hf
        have n4_0 := lv_neT (a := 0) e4_0 rfl
        have n4_1 := lv_neT (a := 1) e4_1 rfl
        have n4_2 := lv_neT (a := 2) e4_2 rfl
        refine lv_tableOut (pc := 4) hx hb (tgt := 46) dX2_narrowed_4 (by omega) (by decide) ?_
        refine lv_lload_n (pc := 46) hx hb dX2_narrowed_46 rfl (lv_at hl 1 rfl) ?_
        obtain rfl := Option.some.inj hf
        exact hR H locs 47 ls hP hD hS dX2_narrowed_47
set_option maxHeartbeats 4000000 in
set_option maxRecDepth 100000 in
theorem kX2_write_34 (l : Launch) (D : va_G) (A : Nat → Nat) (B : Nat → ClassId) (sz : Nat) (S : w_S) (a1 : Int32) (a2 : Int64) (z : w_S) (hf : fX2_write_34 S a1 a2 = some z) : MetW l yX2_write (wsO yX2_write cX2_write 4 none) rm_X2_write [.ref (A 34), .int a1, .long a2] D (tyB B) (wX A B S) (wX A B z) sz (none) := by
  refine MetW.mkV (cc := cX2_write) (maxL := 4) (by decide) (Nat.le_of_ble_eq_true rfl) ?_
  intro p e s m args below meth c Ad Q hx hb hts hown hml hN hK hA hR H locs ls hP hD hS hl
  have hl : lv_has ls 4 [(0, .ref (A 34)), (1, .int a1), (2, .long a2)] := hl
  rw [fX2_write_34] at hf
  refine lv_iload_n (pc := 0) hx hb dX2_write_0 rfl (lv_at hl 1 rfl) ?_
  refine lv_if_lt (pc := 1) hx hb (tgt := 29) dX2_write_1 (by decide) (fun c_1 => ?_) (fun c_1 => ?_)
  · have hf := hf_t c_1 hf
    obtain rfl := Option.some.inj hf
    exact hR H locs 29 ls hP hD hS dX2_write_29
  · have hf := hf_f c_1 hf
    refine lv_iload_n (pc := 4) hx hb dX2_write_4 rfl (lv_at hl 1 rfl) ?_
    refine lv_aload_n (pc := 5) hx hb dX2_write_5 rfl (lv_at hl 0 rfl) ?_
    refine vXgRX2_28_34 (pc := 6) hx hb hts mU_767 inU2 hown hK hP (x := (gI S 33)) rfl dX2_write_6 ?_
    refine lv_icmp_ge (pc := 9) hx hb (tgt := 29) dX2_write_9 (by decide) (fun c_9 => ?_) (fun c_9 => ?_)
    · have hf := hf_t c_9 hf
      obtain rfl := Option.some.inj hf
      exact hR H locs 29 ls hP hD hS dX2_write_29
    · have hf := hf_f c_9 hf
      refine lv_iload_n (pc := 12) hx hb dX2_write_12 rfl (lv_at hl 1 rfl) ?_
      refine lv_bipush (pc := 13) hx hb (v := 40) dX2_write_13 (by decide) ?_
      refine lv_icmp_ge (pc := 15) hx hb (tgt := 29) dX2_write_15 (by decide) (fun c_15 => ?_) (fun c_15 => ?_)
      · have hf := hf_t c_15 hf
        obtain rfl := Option.some.inj hf
        exact hR H locs 29 ls hP hD hS dX2_write_29
      · have hf := hf_f c_15 hf
        refine lv_aload_n (pc := 18) hx hb dX2_write_18 rfl (lv_at hl 0 rfl) ?_
        refine vXgRX2_15_34 (pc := 19) hx hb hts mU_72 inU2 hown hK hP dX2_write_19 ?_
        refine lv_iload_n (pc := 22) hx hb dX2_write_22 rfl (lv_at hl 1 rfl) ?_
        refine lv_aload_n (pc := 23) hx hb dX2_write_23 rfl (lv_at hl 0 rfl) ?_
        refine lv_lload_n (pc := 24) hx hb dX2_write_24 rfl (lv_at hl 2 rfl) ?_
        obtain ⟨r25, hc25, hf⟩ := hf_b hf
        refine cl_V (pc := 25) (As := [.long a2]) (rest := [.int a1, .ref (A 35)]) hx hb hml hown hts (kX2_narrowed_34 l D A B _ S a2 r25 hc25) (cwV 1 hts gwRX2_37 rfl rfl rfl hdX2_narrowed ⟨Nat.le_of_ble_eq_true rfl, Nat.le_of_ble_eq_true rfl⟩) hN hK hP hD hS hA (va_recv hK hP (ci := 2) (q0 := 34) rfl (eX_34 A B _)) rfl hl.1 rfl (Nat.le_of_ble_eq_true rfl) dX2_write_25 (st1 := [.long r25, .int a1, .ref (A 35)]) rfl ⟨Nat.zero_le _, Nat.zero_le _⟩ (fun H locs hP hD hS => ?_)
        obtain ⟨hg28, hf⟩ := hf_g hf
        refine vXwa_35 (pc := 28) hx hb hK hP hD hS (f := (gB S 4)) rfl hg28 dX2_write_28 (fun H locs hP hD hS => ?_)
        obtain rfl := Option.some.inj hf
        exact hR H locs 29 ls hP hD hS dX2_write_29
set_option maxHeartbeats 4000000 in
set_option maxRecDepth 100000 in
theorem kX2_narrowed_36 (l : Launch) (D : va_G) (A : Nat → Nat) (B : Nat → ClassId) (sz : Nat) (S : w_S) (a1 : Int64) (z : Int64) (hf : fX2_narrowed_36 S a1 = some z) : MetW l yX2_narrowed (wsO yX2_narrowed cX2_narrowed 3 (some .long)) rm_X2_narrowed [.ref (A 36), .long a1] D (tyB B) (wX A B S) (wX A B S) sz (some (.long z)) := by
  refine MetW.mkL (cc := cX2_narrowed) (maxL := 3) (by decide) (Nat.le_of_ble_eq_true rfl) ?_
  intro p e s m args below meth c Ad Q hx hb hts hown hml hN hK hA hR H locs ls hP hD hS hl
  have hl : lv_has ls 3 [(0, .ref (A 36)), (1, .long a1)] := hl
  rw [fX2_narrowed_36] at hf
  refine lv_aload_n (pc := 0) hx hb dX2_narrowed_0 rfl (lv_at hl 0 rfl) ?_
  refine vXgRX2_9_36 (pc := 1) hx hb hts mU_71 inU2 hown hK hP (x := (gI S 34)) rfl dX2_narrowed_1 ?_
  by_cases e4_0 : (gI S 34) = (0 : Int32)
  · have hf := hf_t e4_0 hf
    refine lv_tableIn (pc := 4) hx hb (off := 28) (tgt := 32) dX2_narrowed_4 (by rw [e4_0]; decide) (by rw [e4_0]; decide) (by rw [e4_0]; rfl) (by decide) ?_
    refine lv_lload_n (pc := 32) hx hb dX2_narrowed_32 rfl (lv_at hl 1 rfl) ?_
    refine lv_l2i (pc := 33) hx hb (v := a1.toInt32) dX2_narrowed_33 rfl ?_
    refine lv_i2b (pc := 34) hx hb (v := a1.toInt32.toInt8.toInt32) dX2_narrowed_34 rfl ?_
    refine lv_i2l (pc := 35) hx hb (v := a1.toInt32.toInt8.toInt32.toInt64) dX2_narrowed_35 rfl ?_
    obtain rfl := Option.some.inj hf
    exact hR H locs 36 ls hP hD hS dX2_narrowed_36
  · have hf := hf_f e4_0 hf
    by_cases e4_1 : (gI S 34) = (1 : Int32)
    · have hf := hf_t e4_1 hf
      refine lv_tableIn (pc := 4) hx hb (off := 33) (tgt := 37) dX2_narrowed_4 (by rw [e4_1]; decide) (by rw [e4_1]; decide) (by rw [e4_1]; rfl) (by decide) ?_
      refine lv_lload_n (pc := 37) hx hb dX2_narrowed_37 rfl (lv_at hl 1 rfl) ?_
      refine lv_l2i (pc := 38) hx hb (v := a1.toInt32) dX2_narrowed_38 rfl ?_
      refine lv_i2s (pc := 39) hx hb (v := a1.toInt32.toInt16.toInt32) dX2_narrowed_39 rfl ?_
      refine lv_i2l (pc := 40) hx hb (v := a1.toInt32.toInt16.toInt32.toInt64) dX2_narrowed_40 rfl ?_
      obtain rfl := Option.some.inj hf
      exact hR H locs 41 ls hP hD hS dX2_narrowed_41
    · have hf := hf_f e4_1 hf
      by_cases e4_2 : (gI S 34) = (2 : Int32)
      · have hf := hf_t e4_2 hf
        refine lv_tableIn (pc := 4) hx hb (off := 38) (tgt := 42) dX2_narrowed_4 (by rw [e4_2]; decide) (by rw [e4_2]; decide) (by rw [e4_2]; rfl) (by decide) ?_
        refine lv_lload_n (pc := 42) hx hb dX2_narrowed_42 rfl (lv_at hl 1 rfl) ?_
        refine lv_l2i (pc := 43) hx hb (v := a1.toInt32) dX2_narrowed_43 rfl ?_
        refine lv_i2l (pc := 44) hx hb (v := a1.toInt32.toInt64) dX2_narrowed_44 rfl ?_
        obtain rfl := Option.some.inj hf
        exact hR H locs 45 ls hP hD hS dX2_narrowed_45
      · have hf := hf_f e4_2 hf
        have n4_0 := lv_neT (a := 0) e4_0 rfl
        have n4_1 := lv_neT (a := 1) e4_1 rfl
        have n4_2 := lv_neT (a := 2) e4_2 rfl
        refine lv_tableOut (pc := 4) hx hb (tgt := 46) dX2_narrowed_4 (by omega) (by decide) ?_
        refine lv_lload_n (pc := 46) hx hb dX2_narrowed_46 rfl (lv_at hl 1 rfl) ?_
        obtain rfl := Option.some.inj hf
        exact hR H locs 47 ls hP hD hS dX2_narrowed_47
set_option maxHeartbeats 4000000 in
set_option maxRecDepth 100000 in
theorem kX2_write_36 (l : Launch) (D : va_G) (A : Nat → Nat) (B : Nat → ClassId) (sz : Nat) (S : w_S) (a1 : Int32) (a2 : Int64) (z : w_S) (hf : fX2_write_36 S a1 a2 = some z) : MetW l yX2_write (wsO yX2_write cX2_write 4 none) rm_X2_write [.ref (A 36), .int a1, .long a2] D (tyB B) (wX A B S) (wX A B z) sz (none) := by
  refine MetW.mkV (cc := cX2_write) (maxL := 4) (by decide) (Nat.le_of_ble_eq_true rfl) ?_
  intro p e s m args below meth c Ad Q hx hb hts hown hml hN hK hA hR H locs ls hP hD hS hl
  have hl : lv_has ls 4 [(0, .ref (A 36)), (1, .int a1), (2, .long a2)] := hl
  rw [fX2_write_36] at hf
  refine lv_iload_n (pc := 0) hx hb dX2_write_0 rfl (lv_at hl 1 rfl) ?_
  refine lv_if_lt (pc := 1) hx hb (tgt := 29) dX2_write_1 (by decide) (fun c_1 => ?_) (fun c_1 => ?_)
  · have hf := hf_t c_1 hf
    obtain rfl := Option.some.inj hf
    exact hR H locs 29 ls hP hD hS dX2_write_29
  · have hf := hf_f c_1 hf
    refine lv_iload_n (pc := 4) hx hb dX2_write_4 rfl (lv_at hl 1 rfl) ?_
    refine lv_aload_n (pc := 5) hx hb dX2_write_5 rfl (lv_at hl 0 rfl) ?_
    refine vXgRX2_28_36 (pc := 6) hx hb hts mU_767 inU2 hown hK hP (x := (gI S 35)) rfl dX2_write_6 ?_
    refine lv_icmp_ge (pc := 9) hx hb (tgt := 29) dX2_write_9 (by decide) (fun c_9 => ?_) (fun c_9 => ?_)
    · have hf := hf_t c_9 hf
      obtain rfl := Option.some.inj hf
      exact hR H locs 29 ls hP hD hS dX2_write_29
    · have hf := hf_f c_9 hf
      refine lv_iload_n (pc := 12) hx hb dX2_write_12 rfl (lv_at hl 1 rfl) ?_
      refine lv_bipush (pc := 13) hx hb (v := 40) dX2_write_13 (by decide) ?_
      refine lv_icmp_ge (pc := 15) hx hb (tgt := 29) dX2_write_15 (by decide) (fun c_15 => ?_) (fun c_15 => ?_)
      · have hf := hf_t c_15 hf
        obtain rfl := Option.some.inj hf
        exact hR H locs 29 ls hP hD hS dX2_write_29
      · have hf := hf_f c_15 hf
        refine lv_aload_n (pc := 18) hx hb dX2_write_18 rfl (lv_at hl 0 rfl) ?_
        refine vXgRX2_15_36 (pc := 19) hx hb hts mU_72 inU2 hown hK hP dX2_write_19 ?_
        refine lv_iload_n (pc := 22) hx hb dX2_write_22 rfl (lv_at hl 1 rfl) ?_
        refine lv_aload_n (pc := 23) hx hb dX2_write_23 rfl (lv_at hl 0 rfl) ?_
        refine lv_lload_n (pc := 24) hx hb dX2_write_24 rfl (lv_at hl 2 rfl) ?_
        obtain ⟨r25, hc25, hf⟩ := hf_b hf
        refine cl_V (pc := 25) (As := [.long a2]) (rest := [.int a1, .ref (A 37)]) hx hb hml hown hts (kX2_narrowed_36 l D A B _ S a2 r25 hc25) (cwV 1 hts gwRX2_37 rfl rfl rfl hdX2_narrowed ⟨Nat.le_of_ble_eq_true rfl, Nat.le_of_ble_eq_true rfl⟩) hN hK hP hD hS hA (va_recv hK hP (ci := 2) (q0 := 36) rfl (eX_36 A B _)) rfl hl.1 rfl (Nat.le_of_ble_eq_true rfl) dX2_write_25 (st1 := [.long r25, .int a1, .ref (A 37)]) rfl ⟨Nat.zero_le _, Nat.zero_le _⟩ (fun H locs hP hD hS => ?_)
        obtain ⟨hg28, hf⟩ := hf_g hf
        refine vXwa_37 (pc := 28) hx hb hK hP hD hS (f := (gB S 5)) rfl hg28 dX2_write_28 (fun H locs hP hD hS => ?_)
        obtain rfl := Option.some.inj hf
        exact hR H locs 29 ls hP hD hS dX2_write_29
set_option maxHeartbeats 4000000 in
set_option maxRecDepth 100000 in
theorem kX6_isInt (l : Launch) (D : va_G) (A : Nat → Nat) (B : Nat → ClassId) (sz : Nat) (S : w_S) (a0 : Int64) (z : Int32) (hf : fX6_isInt a0 = some z) : MetW l yX6_isInt (wsO yX6_isInt cX6_isInt 2 (some .boolean)) rm_X6_isInt [.long a0] D (tyB B) (wX A B S) (wX A B S) sz (some (.int z)) := by
  refine MetW.mkZ (cc := cX6_isInt) (maxL := 2) (by decide) (Nat.le_of_ble_eq_true rfl) ?_
  intro p e s m args below meth c Ad Q hx hb hts hown hml hN hK hA hR H locs ls hP hD hS hl
  have hl : lv_has ls 2 [(0, .long a0)] := hl
  rw [fX6_isInt] at hf
  refine lv_lload_n (pc := 0) hx hb dX6_isInt_0 rfl (lv_at hl 0 rfl) ?_
  refine lv_lload_n (pc := 1) hx hb dX6_isInt_1 rfl (lv_at hl 0 rfl) ?_
  refine lv_l2i (pc := 2) hx hb (v := a0.toInt32) dX6_isInt_2 rfl ?_
  refine lv_i2l (pc := 3) hx hb (v := a0.toInt32.toInt64) dX6_isInt_3 rfl ?_
  refine W.lcmp (pc := 4) hx hb dX6_isInt_4 ?_
  refine lv_if_ne (pc := 5) hx hb (tgt := 12) dX6_isInt_5 (by decide) (fun c_5 => ?_) (fun c_5 => ?_)
  · have c_5 := fun h9 => c_5 (lg_eq0.mpr h9)
    have hf := hf_f c_5 hf
    refine lv_iconst (pc := 12) hx hb (v := 0) dX6_isInt_12 (by decide) ?_
    obtain rfl := Option.some.inj hf
    exact hR H locs 13 ls hP hD hS (nz_of (.inl rfl)) dX6_isInt_13
  · have c_5 := lg_eq0.mp c_5
    have hf := hf_t c_5 hf
    refine lv_iconst (pc := 8) hx hb (v := 1) dX6_isInt_8 (by decide) ?_
    refine lv_goto (pc := 9) hx hb (tgt := 13) dX6_isInt_9 (by decide) ?_
    obtain rfl := Option.some.inj hf
    exact hR H locs 13 ls hP hD hS (nz_of (.inr rfl)) dX6_isInt_13
set_option maxHeartbeats 4000000 in
set_option maxRecDepth 100000 in
theorem kX6_isLaidInInts (l : Launch) (D : va_G) (A : Nat → Nat) (B : Nat → ClassId) (sz : Nat) (S : w_S) (a1 : Int32) (a2 : Int64) (z : Int32) (hf : fX6_isLaidInInts S a1 a2 = some z) : MetW l yX6_isLaidInInts (wsO yX6_isLaidInInts cX6_isLaidInInts 6 (some .boolean)) rm_X6_isLaidInInts [.ref (A 0), .int a1, .long a2] D (tyB B) (wX A B S) (wX A B S) sz (some (.int z)) := by
  refine MetW.mkZ (cc := cX6_isLaidInInts) (maxL := 6) (by decide) (Nat.le_of_ble_eq_true rfl) ?_
  intro p e s m args below meth c Ad Q hx hb hts hown hml hN hK hA hR H locs ls hP hD hS hl
  have hl : lv_has ls 6 [(0, .ref (A 0)), (1, .int a1), (2, .long a2)] := hl
  rw [fX6_isLaidInInts] at hf
  refine lv_lload_n (pc := 0) hx hb dX6_isLaidInInts_0 rfl (lv_at hl 2 rfl) ?_
  refine lv_lconst (pc := 1) hx hb (v := 0) dX6_isLaidInInts_1 (by decide) ?_
  refine W.lcmp (pc := 2) hx hb dX6_isLaidInInts_2 ?_
  refine lv_if_eq (pc := 3) hx hb (tgt := 21) dX6_isLaidInInts_3 (by decide) (fun c_3 => ?_) (fun c_3 => ?_)
  · have c_3 := lg_eq0.mp c_3
    have hf := hf_t c_3 hf
    refine lv_iconst (pc := 21) hx hb (v := 0) dX6_isLaidInInts_21 (by decide) ?_
    obtain rfl := Option.some.inj hf
    exact hR H locs 22 ls hP hD hS (nz_of (.inl rfl)) dX6_isLaidInInts_22
  · have c_3 := fun h9 => c_3 (lg_eq0.mpr h9)
    have hf := hf_f c_3 hf
    refine lv_aload_n (pc := 6) hx hb dX6_isLaidInInts_6 rfl (lv_at hl 0 rfl) ?_
    refine vXgRX6_25_0 (pc := 7) hx hb hts mU_22 inU6 hown hK hP dX6_isLaidInInts_7 ?_
    refine vXgRX6_172_19 (pc := 10) hx hb hts mU_603 inU1 hown hK hP (x := (gL S 0)) rfl dX6_isLaidInInts_10 ?_
    refine lv_lload_n (pc := 13) hx hb dX6_isLaidInInts_13 rfl (lv_at hl 2 rfl) ?_
    obtain ⟨hg14, hf⟩ := hf_g hf
    refine lv_ldiv (pc := 14) hx hb dX6_isLaidInInts_14 hg14 ?_
    obtain ⟨r15, hc15, hf⟩ := hf_b hf
    refine cl_S (pc := 15) (As := [.long ((gL S 0) / a2)]) (rest := []) hx hb hml hown hts (kX6_isInt l D A B _ S ((gL S 0) / a2) r15 hc15) (va_cwS 1 hts gwRX6_351 rfl rfl rfl hdX6_isInt ⟨Nat.le_of_ble_eq_true rfl, Nat.le_of_ble_eq_true rfl⟩) hN hK hP hD hS hA rfl hl.1 rfl (Nat.le_of_ble_eq_true rfl) dX6_isLaidInInts_15 (st1 := [.int r15]) rfl ⟨Nat.zero_le _, Nat.zero_le _⟩ (fun H locs hP hD hS => ?_)
    refine lv_if_ne (pc := 18) hx hb (tgt := 23) dX6_isLaidInInts_18 (by decide) (fun c_18 => ?_) (fun c_18 => ?_)
    · have hf := hf_f c_18 hf
      refine lv_iconst (pc := 23) hx hb (v := 0) dX6_isLaidInInts_23 (by decide) ?_
      refine lv_istore (pc := 24) hx hb (lv' := [(4, .int 0), (0, .ref (A 0)), (1, .int a1), (2, .long a2)]) dX6_isLaidInInts_24 hl (by decide) rfl (fun ls hl => ?_)
      have hk26 : ∀  (H : Heap) (locs : List Loc) (ls : Array Slot), some 1 = some z → va_P D vwCl (wX A B S) H → va_D Ad (wX A B S) → va_S Ad s.heap H locs → lv_has ls 6 [] → W p l e rm_X6_isLaidInInts s m args below meth c H locs 0 0 Q (F0 m 84 ls []) := by
        intro  H locs ls hf hP hD hS hl
        refine lv_iconst (pc := 84) hx hb (v := 1) dX6_isLaidInInts_84 (by decide) ?_
        obtain rfl := Option.some.inj hf
        exact hR H locs 85 ls hP hD hS (nz_of (.inr rfl)) dX6_isLaidInInts_85
      have lp26 : ∀ (n : Nat) (u4_26 : Int32) (H : Heap) (locs : List Loc) (ls : Array Slot), fX6_isLaidInInts_L26 (some 1) S a1 a2 n u4_26 = some z → va_P D vwCl (wX A B S) H → va_D Ad (wX A B S) → va_S Ad s.heap H locs → lv_has ls 6 [(0, .ref (A 0)), (1, .int a1), (2, .long a2), (4, .int u4_26)] → W p l e rm_X6_isLaidInInts s m args below meth c H locs 0 0 Q (F0 m 26 ls []) := by
        intro n26
        induction n26 with
        | zero => intro u4_26 H locs ls hf; exact hf_0 hf
        | succ n26 ih26 =>
          intro u4_26 H locs ls hf hP hD hS hl
          rw [fX6_isLaidInInts_L26] at hf
          refine lv_iload (pc := 26) hx hb dX6_isLaidInInts_26 (lv_at hl 3 rfl) ?_
          refine lv_aload_n (pc := 28) hx hb dX6_isLaidInInts_28 rfl (lv_at hl 0 rfl) ?_
          refine vXgRX6_10_0 (pc := 29) hx hb hts mU_16 inU6 hown hK hP dX6_isLaidInInts_29 ?_
          refine vXgRX6_60_1 (pc := 32) hx hb hts mU_111 inU4 hown hK hP (x := (gI S 0)) rfl dX6_isLaidInInts_32 ?_
          refine lv_icmp_ge (pc := 35) hx hb (tgt := 84) dX6_isLaidInInts_35 (by decide) (fun c_35 => ?_) (fun c_35 => ?_)
          · have hf := hf_t c_35 hf
            exact hk26  H locs ls hf hP hD hS (lv_sub hl [] rfl)
          · have hf := hf_f c_35 hf
            refine lv_iconst (pc := 38) hx hb (v := 0) dX6_isLaidInInts_38 (by decide) ?_
            refine lv_istore (pc := 39) hx hb (lv' := [(5, .int 0), (0, .ref (A 0)), (1, .int a1), (2, .long a2), (4, .int u4_26)]) dX6_isLaidInInts_39 hl (by decide) rfl (fun ls hl => ?_)
            have hk41 : ∀  (H : Heap) (locs : List Loc) (ls : Array Slot), fX6_isLaidInInts_L26 (some 1) S a1 a2 n26 (u4_26 + 1) = some z → va_P D vwCl (wX A B S) H → va_D Ad (wX A B S) → va_S Ad s.heap H locs → lv_has ls 6 [(0, .ref (A 0)), (1, .int a1), (2, .long a2), (4, .int u4_26)] → W p l e rm_X6_isLaidInInts s m args below meth c H locs 0 0 Q (F0 m 78 ls []) := by
              intro  H locs ls hf hP hD hS hl
              refine lv_iinc (pc := 78) hx hb (v := u4_26 + 1) (lv' := [(4, .int (u4_26 + 1)), (0, .ref (A 0)), (1, .int a1), (2, .long a2)]) dX6_isLaidInInts_78 hl (k := 3) rfl rfl (by decide) rfl (fun ls hl => ?_)
              refine lv_goto (pc := 81) hx hb (tgt := 26) dX6_isLaidInInts_81 (by decide) ?_
              exact ih26 (u4_26 + 1) H locs ls hf hP hD hS (lv_sub hl [1, 2, 3, 0] rfl)
            have lp41 : ∀ (n : Nat) (u5_41 : Int32) (H : Heap) (locs : List Loc) (ls : Array Slot), fX6_isLaidInInts_L41 (fX6_isLaidInInts_L26 (some 1) S a1 a2 n26 (u4_26 + 1)) S a1 a2 u4_26 n u5_41 = some z → va_P D vwCl (wX A B S) H → va_D Ad (wX A B S) → va_S Ad s.heap H locs → lv_has ls 6 [(0, .ref (A 0)), (1, .int a1), (2, .long a2), (4, .int u4_26), (5, .int u5_41)] → W p l e rm_X6_isLaidInInts s m args below meth c H locs 0 0 Q (F0 m 41 ls []) := by
              intro n41
              induction n41 with
              | zero => intro u5_41 H locs ls hf; exact hf_0 hf
              | succ n41 ih41 =>
                intro u5_41 H locs ls hf hP hD hS hl
                rw [fX6_isLaidInInts_L41] at hf
                refine lv_iload (pc := 41) hx hb dX6_isLaidInInts_41 (lv_at hl 4 rfl) ?_
                refine lv_aload_n (pc := 43) hx hb dX6_isLaidInInts_43 rfl (lv_at hl 0 rfl) ?_
                refine vXgRX6_10_0 (pc := 44) hx hb hts mU_16 inU6 hown hK hP dX6_isLaidInInts_44 ?_
                refine vXgRX6_64_1 (pc := 47) hx hb hts mU_112 inU4 hown hK hP (x := (gI S 1)) rfl dX6_isLaidInInts_47 ?_
                refine lv_icmp_ge (pc := 50) hx hb (tgt := 78) dX6_isLaidInInts_50 (by decide) (fun c_50 => ?_) (fun c_50 => ?_)
                · have hf := hf_t c_50 hf
                  exact hk41  H locs ls hf hP hD hS (lv_sub hl [0, 1, 2, 3] rfl)
                · have hf := hf_f c_50 hf
                  refine lv_aload_n (pc := 53) hx hb dX6_isLaidInInts_53 rfl (lv_at hl 0 rfl) ?_
                  refine lv_iload_n (pc := 54) hx hb dX6_isLaidInInts_54 rfl (lv_at hl 1 rfl) ?_
                  refine lv_iload (pc := 55) hx hb dX6_isLaidInInts_55 (lv_at hl 3 rfl) ?_
                  refine lv_iload (pc := 57) hx hb dX6_isLaidInInts_57 (lv_at hl 4 rfl) ?_
                  obtain ⟨r59, hc59, hf⟩ := hf_b hf
                  refine cl_V (pc := 59) (As := [.int a1, .int u4_26, .int u5_41]) (rest := []) hx hb hml hown hts (kX6_solutionAbove l D A B _ S a1 u4_26 u5_41 r59 hc59) (cwV 3 hts gwRX6_168 rfl rfl rfl hdX6_solutionAbove ⟨Nat.le_of_ble_eq_true rfl, Nat.le_of_ble_eq_true rfl⟩) hN hK hP hD hS hA (va_recv hK hP (ci := 6) (q0 := 0) rfl (eX_0 A B _)) rfl hl.1 rfl (Nat.le_of_ble_eq_true rfl) dX6_isLaidInInts_59 (st1 := [.long r59]) rfl ⟨Nat.zero_le _, Nat.zero_le _⟩ (fun H locs hP hD hS => ?_)
                  refine lv_lload_n (pc := 62) hx hb dX6_isLaidInInts_62 rfl (lv_at hl 2 rfl) ?_
                  obtain ⟨hg63, hf⟩ := hf_g hf
                  refine lv_ldiv (pc := 63) hx hb dX6_isLaidInInts_63 hg63 ?_
                  obtain ⟨r64, hc64, hf⟩ := hf_b hf
                  refine cl_S (pc := 64) (As := [.long (r59 / a2)]) (rest := []) hx hb hml hown hts (kX6_isInt l D A B _ S (r59 / a2) r64 hc64) (va_cwS 1 hts gwRX6_351 rfl rfl rfl hdX6_isInt ⟨Nat.le_of_ble_eq_true rfl, Nat.le_of_ble_eq_true rfl⟩) hN hK hP hD hS hA rfl hl.1 rfl (Nat.le_of_ble_eq_true rfl) dX6_isLaidInInts_64 (st1 := [.int r64]) rfl ⟨Nat.zero_le _, Nat.zero_le _⟩ (fun H locs hP hD hS => ?_)
                  refine lv_if_ne (pc := 67) hx hb (tgt := 72) dX6_isLaidInInts_67 (by decide) (fun c_67 => ?_) (fun c_67 => ?_)
                  · have hf := hf_f c_67 hf
                    refine lv_iinc (pc := 72) hx hb (v := u5_41 + 1) (lv' := [(5, .int (u5_41 + 1)), (0, .ref (A 0)), (1, .int a1), (2, .long a2), (4, .int u4_26)]) dX6_isLaidInInts_72 hl (k := 4) rfl rfl (by decide) rfl (fun ls hl => ?_)
                    refine lv_goto (pc := 75) hx hb (tgt := 41) dX6_isLaidInInts_75 (by decide) ?_
                    exact ih41 (u5_41 + 1) H locs ls hf hP hD hS (lv_sub hl [1, 2, 3, 4, 0] rfl)
                  · have hf := hf_t c_67 hf
                    refine lv_iconst (pc := 70) hx hb (v := 0) dX6_isLaidInInts_70 (by decide) ?_
                    obtain rfl := Option.some.inj hf
                    exact hR H locs 71 ls hP hD hS (nz_of (.inl rfl)) dX6_isLaidInInts_71
            exact lp41 256 0 H locs ls hf hP hD hS (lv_sub hl [1, 2, 3, 4, 0] rfl)
      exact lp26 256 0 H locs ls hf hP hD hS (lv_sub hl [1, 2, 3, 0] rfl)
    · have hf := hf_t c_18 hf
      refine lv_iconst (pc := 21) hx hb (v := 0) dX6_isLaidInInts_21 (by decide) ?_
      obtain rfl := Option.some.inj hf
      exact hR H locs 22 ls hP hD hS (nz_of (.inl rfl)) dX6_isLaidInInts_22
set_option maxHeartbeats 4000000 in
set_option maxRecDepth 100000 in
theorem kX6_isSheet (l : Launch) (D : va_G) (A : Nat → Nat) (B : Nat → ClassId) (sz : Nat) (S : w_S) (a0 : Int32) (z : Int32) (hf : fX6_isSheet a0 = some z) : MetW l yX6_isSheet (wsO yX6_isSheet cX6_isSheet 1 (some .boolean)) rm_X6_isSheet [.int a0] D (tyB B) (wX A B S) (wX A B S) sz (some (.int z)) := by
  refine MetW.mkZ (cc := cX6_isSheet) (maxL := 1) (by decide) (Nat.le_of_ble_eq_true rfl) ?_
  intro p e s m args below meth c Ad Q hx hb hts hown hml hN hK hA hR H locs ls hP hD hS hl
  have hl : lv_has ls 1 [(0, .int a0)] := hl
  rw [fX6_isSheet] at hf
  refine lv_iload_n (pc := 0) hx hb dX6_isSheet_0 rfl (lv_at hl 0 rfl) ?_
  refine lv_if_lt (pc := 1) hx hb (tgt := 13) dX6_isSheet_1 (by decide) (fun c_1 => ?_) (fun c_1 => ?_)
  · have hf := hf_t c_1 hf
    refine lv_iconst (pc := 13) hx hb (v := 0) dX6_isSheet_13 (by decide) ?_
    obtain rfl := Option.some.inj hf
    exact hR H locs 14 ls hP hD hS (nz_of (.inl rfl)) dX6_isSheet_14
  · have hf := hf_f c_1 hf
    refine lv_iload_n (pc := 4) hx hb dX6_isSheet_4 rfl (lv_at hl 0 rfl) ?_
    refine lv_iconst (pc := 5) hx hb (v := 4) dX6_isSheet_5 (by decide) ?_
    refine lv_icmp_ge (pc := 6) hx hb (tgt := 13) dX6_isSheet_6 (by decide) (fun c_6 => ?_) (fun c_6 => ?_)
    · have hf := hf_t c_6 hf
      refine lv_iconst (pc := 13) hx hb (v := 0) dX6_isSheet_13 (by decide) ?_
      obtain rfl := Option.some.inj hf
      exact hR H locs 14 ls hP hD hS (nz_of (.inl rfl)) dX6_isSheet_14
    · have hf := hf_f c_6 hf
      refine lv_iconst (pc := 9) hx hb (v := 1) dX6_isSheet_9 (by decide) ?_
      refine lv_goto (pc := 10) hx hb (tgt := 14) dX6_isSheet_10 (by decide) ?_
      obtain rfl := Option.some.inj hf
      exact hR H locs 14 ls hP hD hS (nz_of (.inr rfl)) dX6_isSheet_14
set_option maxHeartbeats 4000000 in
set_option maxRecDepth 100000 in
theorem kX6_solutionDivisor (l : Launch) (D : va_G) (A : Nat → Nat) (B : Nat → ClassId) (sz : Nat) (S : w_S) (a1 : Int32) (z : Int64) (hf : fX6_solutionDivisor S a1 = some z) : MetW l yX6_solutionDivisor (wsO yX6_solutionDivisor cX6_solutionDivisor 6 (some .long)) rm_X6_solutionDivisor [.ref (A 0), .int a1] D (tyB B) (wX A B S) (wX A B S) sz (some (.long z)) := by
  refine MetW.mkL (cc := cX6_solutionDivisor) (maxL := 6) (by decide) (Nat.le_of_ble_eq_true rfl) ?_
  intro p e s m args below meth c Ad Q hx hb hts hown hml hN hK hA hR H locs ls hP hD hS hl
  have hl : lv_has ls 6 [(0, .ref (A 0)), (1, .int a1)] := hl
  rw [fX6_solutionDivisor] at hf
  refine lv_aload_n (pc := 0) hx hb dX6_solutionDivisor_0 rfl (lv_at hl 0 rfl) ?_
  refine vXgRX6_25_0 (pc := 1) hx hb hts mU_22 inU6 hown hK hP dX6_solutionDivisor_1 ?_
  refine vXgRX6_172_19 (pc := 4) hx hb hts mU_603 inU1 hown hK hP (x := (gL S 0)) rfl dX6_solutionDivisor_4 ?_
  refine lv_lstore_n (pc := 7) hx hb (lv' := [(2, .long (gL S 0)), (0, .ref (A 0)), (1, .int a1)]) dX6_solutionDivisor_7 rfl hl (by decide) rfl (fun ls hl => ?_)
  refine lv_iconst (pc := 8) hx hb (v := 0) dX6_solutionDivisor_8 (by decide) ?_
  refine lv_istore (pc := 9) hx hb (lv' := [(4, .int 0), (2, .long (gL S 0)), (0, .ref (A 0)), (1, .int a1)]) dX6_solutionDivisor_9 hl (by decide) rfl (fun ls hl => ?_)
  obtain ⟨q11, hq11, hf⟩ := hf_b hf
  have hk11 : ∀ (H : Heap) (locs : List Loc) (ls : Array Slot), va_P D vwCl (wX A B S) H → va_D Ad (wX A B S) → va_S Ad s.heap H locs → lv_has ls 6 [(2, .long q11)] → W p l e rm_X6_solutionDivisor s m args below meth c H locs 0 0 Q (F0 m 64 ls []) := by
    intro H locs ls hP hD hS hl
    refine lv_lload_n (pc := 64) hx hb dX6_solutionDivisor_64 rfl (lv_at hl 0 rfl) ?_
    obtain rfl := Option.some.inj hf
    exact hR H locs 65 ls hP hD hS dX6_solutionDivisor_65
  have lp11 : ∀ (n : Nat) (u2_11 : Int64) (u4_11 : Int32) (H : Heap) (locs : List Loc) (ls : Array Slot), fX6_solutionDivisor_L11 S a1 n u2_11 u4_11 = some q11 → va_P D vwCl (wX A B S) H → va_D Ad (wX A B S) → va_S Ad s.heap H locs → lv_has ls 6 [(0, .ref (A 0)), (1, .int a1), (2, .long u2_11), (4, .int u4_11)] → W p l e rm_X6_solutionDivisor s m args below meth c H locs 0 0 Q (F0 m 11 ls []) := by
    intro n11
    induction n11 with
    | zero => intro u2_11 u4_11 H locs ls hq11; exact hf_0 hq11
    | succ n11 ih11 =>
      intro u2_11 u4_11 H locs ls hq11 hP hD hS hl
      rw [fX6_solutionDivisor_L11] at hq11
      refine lv_iload (pc := 11) hx hb dX6_solutionDivisor_11 (lv_at hl 3 rfl) ?_
      refine lv_aload_n (pc := 13) hx hb dX6_solutionDivisor_13 rfl (lv_at hl 0 rfl) ?_
      refine vXgRX6_10_0 (pc := 14) hx hb hts mU_16 inU6 hown hK hP dX6_solutionDivisor_14 ?_
      refine vXgRX6_60_1 (pc := 17) hx hb hts mU_111 inU4 hown hK hP (x := (gI S 0)) rfl dX6_solutionDivisor_17 ?_
      refine lv_icmp_ge (pc := 20) hx hb (tgt := 64) dX6_solutionDivisor_20 (by decide) (fun c_20 => ?_) (fun c_20 => ?_)
      · have hq11 := hf_t c_20 hq11
        obtain rfl := Option.some.inj hq11
        exact hk11 H locs ls hP hD hS (lv_sub hl [2] rfl)
      · have hq11 := hf_f c_20 hq11
        refine lv_iconst (pc := 23) hx hb (v := 0) dX6_solutionDivisor_23 (by decide) ?_
        refine lv_istore (pc := 24) hx hb (lv' := [(5, .int 0), (0, .ref (A 0)), (1, .int a1), (2, .long u2_11), (4, .int u4_11)]) dX6_solutionDivisor_24 hl (by decide) rfl (fun ls hl => ?_)
        obtain ⟨q26, hq26, hq11⟩ := hf_b hq11
        have hk26 : ∀ (H : Heap) (locs : List Loc) (ls : Array Slot), va_P D vwCl (wX A B S) H → va_D Ad (wX A B S) → va_S Ad s.heap H locs → lv_has ls 6 [(0, .ref (A 0)), (1, .int a1), (2, .long q26), (4, .int u4_11)] → W p l e rm_X6_solutionDivisor s m args below meth c H locs 0 0 Q (F0 m 58 ls []) := by
          intro H locs ls hP hD hS hl
          refine lv_iinc (pc := 58) hx hb (v := u4_11 + 1) (lv' := [(4, .int (u4_11 + 1)), (0, .ref (A 0)), (1, .int a1), (2, .long q26)]) dX6_solutionDivisor_58 hl (k := 3) rfl rfl (by decide) rfl (fun ls hl => ?_)
          refine lv_goto (pc := 61) hx hb (tgt := 11) dX6_solutionDivisor_61 (by decide) ?_
          exact ih11 q26 (u4_11 + 1) H locs ls hq11 hP hD hS (lv_sub hl [1, 2, 3, 0] rfl)
        have lp26 : ∀ (n : Nat) (u2_26 : Int64) (u5_26 : Int32) (H : Heap) (locs : List Loc) (ls : Array Slot), fX6_solutionDivisor_L26 S a1 u4_11 n u2_26 u5_26 = some q26 → va_P D vwCl (wX A B S) H → va_D Ad (wX A B S) → va_S Ad s.heap H locs → lv_has ls 6 [(0, .ref (A 0)), (1, .int a1), (2, .long u2_26), (4, .int u4_11), (5, .int u5_26)] → W p l e rm_X6_solutionDivisor s m args below meth c H locs 0 0 Q (F0 m 26 ls []) := by
          intro n26
          induction n26 with
          | zero => intro u2_26 u5_26 H locs ls hq26; exact hf_0 hq26
          | succ n26 ih26 =>
            intro u2_26 u5_26 H locs ls hq26 hP hD hS hl
            rw [fX6_solutionDivisor_L26] at hq26
            refine lv_iload (pc := 26) hx hb dX6_solutionDivisor_26 (lv_at hl 4 rfl) ?_
            refine lv_aload_n (pc := 28) hx hb dX6_solutionDivisor_28 rfl (lv_at hl 0 rfl) ?_
            refine vXgRX6_10_0 (pc := 29) hx hb hts mU_16 inU6 hown hK hP dX6_solutionDivisor_29 ?_
            refine vXgRX6_64_1 (pc := 32) hx hb hts mU_112 inU4 hown hK hP (x := (gI S 1)) rfl dX6_solutionDivisor_32 ?_
            refine lv_icmp_ge (pc := 35) hx hb (tgt := 58) dX6_solutionDivisor_35 (by decide) (fun c_35 => ?_) (fun c_35 => ?_)
            · have hq26 := hf_t c_35 hq26
              obtain rfl := Option.some.inj hq26
              exact hk26 H locs ls hP hD hS (lv_sub hl [0, 1, 2, 3] rfl)
            · have hq26 := hf_f c_35 hq26
              refine lv_aload_n (pc := 38) hx hb dX6_solutionDivisor_38 rfl (lv_at hl 0 rfl) ?_
              refine lv_iload_n (pc := 39) hx hb dX6_solutionDivisor_39 rfl (lv_at hl 1 rfl) ?_
              refine lv_iload (pc := 40) hx hb dX6_solutionDivisor_40 (lv_at hl 3 rfl) ?_
              refine lv_iload (pc := 42) hx hb dX6_solutionDivisor_42 (lv_at hl 4 rfl) ?_
              obtain ⟨r44, hc44, hq26⟩ := hf_b hq26
              refine cl_V (pc := 44) (As := [.int a1, .int u4_11, .int u5_26]) (rest := []) hx hb hml hown hts (kX6_solutionAbove l D A B _ S a1 u4_11 u5_26 r44 hc44) (cwV 3 hts gwRX6_168 rfl rfl rfl hdX6_solutionAbove ⟨Nat.le_of_ble_eq_true rfl, Nat.le_of_ble_eq_true rfl⟩) hN hK hP hD hS hA (va_recv hK hP (ci := 6) (q0 := 0) rfl (eX_0 A B _)) rfl hl.1 rfl (Nat.le_of_ble_eq_true rfl) dX6_solutionDivisor_44 (st1 := [.long r44]) rfl ⟨Nat.zero_le _, Nat.zero_le _⟩ (fun H locs hP hD hS => ?_)
              refine lv_lload_n (pc := 47) hx hb dX6_solutionDivisor_47 rfl (lv_at hl 2 rfl) ?_
              obtain ⟨r48, hc48, hq26⟩ := hf_b hq26
              refine cl_S (pc := 48) (As := [.long r44, .long u2_26]) (rest := []) hx hb hml hown hts (kX6_commonDivisor l D A B _ S r44 u2_26 r48 hc48) (va_cwS 2 hts gwRX6_326 rfl rfl rfl hdX6_commonDivisor ⟨Nat.le_of_ble_eq_true rfl, Nat.le_of_ble_eq_true rfl⟩) hN hK hP hD hS hA rfl hl.1 rfl (Nat.le_of_ble_eq_true rfl) dX6_solutionDivisor_48 (st1 := [.long r48]) rfl ⟨Nat.zero_le _, Nat.zero_le _⟩ (fun H locs hP hD hS => ?_)
              refine lv_lstore_n (pc := 51) hx hb (lv' := [(2, .long r48), (0, .ref (A 0)), (1, .int a1), (4, .int u4_11), (5, .int u5_26)]) dX6_solutionDivisor_51 rfl hl (by decide) rfl (fun ls hl => ?_)
              refine lv_iinc (pc := 52) hx hb (v := u5_26 + 1) (lv' := [(5, .int (u5_26 + 1)), (2, .long r48), (0, .ref (A 0)), (1, .int a1), (4, .int u4_11)]) dX6_solutionDivisor_52 hl (k := 4) rfl rfl (by decide) rfl (fun ls hl => ?_)
              refine lv_goto (pc := 55) hx hb (tgt := 26) dX6_solutionDivisor_55 (by decide) ?_
              exact ih26 r48 (u5_26 + 1) H locs ls hq26 hP hD hS (lv_sub hl [2, 3, 1, 4, 0] rfl)
        exact lp26 256 u2_11 0 H locs ls hq26 hP hD hS (lv_sub hl [1, 2, 3, 4, 0] rfl)
  exact lp11 256 (gL S 0) 0 H locs ls hq11 hP hD hS (lv_sub hl [2, 3, 1, 0] rfl)
set_option maxHeartbeats 4000000 in
set_option maxRecDepth 100000 in
theorem kX6_lay (l : Launch) (D : va_G) (A : Nat → Nat) (B : Nat → ClassId) (sz : Nat) (S : w_S) (a1 : Int32) (a2 : Int32) (z : Int32 × w_S) (hf : fX6_lay S a1 a2 = some z) : MetW l yX6_lay (wsO yX6_lay cX6_lay 9 (some .int)) rm_X6_lay [.ref (A 0), .int a1, .int a2] D (tyB B) (wX A B S) (wX A B z.2) sz (some (.int z.1)) := by
  refine MetW.mkI (cc := cX6_lay) (maxL := 9) (by decide) (Nat.le_of_ble_eq_true rfl) ?_
  intro p e s m args below meth c Ad Q hx hb hts hown hml hN hK hA hR H locs ls hP hD hS hl
  have hl : lv_has ls 9 [(0, .ref (A 0)), (1, .int a1), (2, .int a2)] := hl
  rw [fX6_lay] at hf
  refine lv_aload_n (pc := 0) hx hb dX6_lay_0 rfl (lv_at hl 0 rfl) ?_
  refine vXgRX6_10_0 (pc := 1) hx hb hts mU_16 inU6 hown hK hP dX6_lay_1 ?_
  refine lv_iload_n (pc := 4) hx hb dX6_lay_4 rfl (lv_at hl 1 rfl) ?_
  obtain ⟨r5, hc5, hf⟩ := hf_b hf
  refine cl_V (pc := 5) (As := [.int a1]) (rest := []) hx hb hml hown hts (kX4_hasEquation_1 l D A B _ S a1 r5 hc5) (cwV 1 hts gwRX6_125 rfl rfl rfl hdX4_hasEquation ⟨Nat.le_of_ble_eq_true rfl, Nat.le_of_ble_eq_true rfl⟩) hN hK hP hD hS hA (va_recv hK hP (ci := 4) (q0 := 1) rfl (eX_1 A B _)) rfl hl.1 rfl (Nat.le_of_ble_eq_true rfl) dX6_lay_5 (st1 := [.int r5]) rfl ⟨Nat.zero_le _, Nat.zero_le _⟩ (fun H locs hP hD hS => ?_)
  refine lv_if_eq (pc := 8) hx hb (tgt := 18) dX6_lay_8 (by decide) (fun c_8 => ?_) (fun c_8 => ?_)
  · have hf := hf_t c_8 hf
    refine lv_iconst (pc := 18) hx hb (v := (-1)) dX6_lay_18 (by decide) ?_
    obtain rfl := Option.some.inj hf
    exact hR H locs 19 ls hP hD hS dX6_lay_19
  · have hf := hf_f c_8 hf
    refine lv_iload_n (pc := 11) hx hb dX6_lay_11 rfl (lv_at hl 2 rfl) ?_
    obtain ⟨r12, hc12, hf⟩ := hf_b hf
    refine cl_S (pc := 12) (As := [.int a2]) (rest := []) hx hb hml hown hts (kX6_isSheet l D A B _ S a2 r12 hc12) (va_cwS 1 hts gwRX6_214 rfl rfl rfl hdX6_isSheet ⟨Nat.le_of_ble_eq_true rfl, Nat.le_of_ble_eq_true rfl⟩) hN hK hP hD hS hA rfl hl.1 rfl (Nat.le_of_ble_eq_true rfl) dX6_lay_12 (st1 := [.int r12]) rfl ⟨Nat.zero_le _, Nat.zero_le _⟩ (fun H locs hP hD hS => ?_)
    refine lv_if_ne (pc := 15) hx hb (tgt := 20) dX6_lay_15 (by decide) (fun c_15 => ?_) (fun c_15 => ?_)
    · have hf := hf_f c_15 hf
      refine lv_aload_n (pc := 20) hx hb dX6_lay_20 rfl (lv_at hl 0 rfl) ?_
      refine vXgRX6_10_0 (pc := 21) hx hb hts mU_16 inU6 hown hK hP dX6_lay_21 ?_
      refine lv_iload_n (pc := 24) hx hb dX6_lay_24 rfl (lv_at hl 1 rfl) ?_
      obtain ⟨r25, hc25, hf⟩ := hf_b hf
      refine cl_V (pc := 25) (As := [.int a1]) (rest := []) hx hb hml hown hts (kX4_kindOf_1 l D A B _ S a1 r25 hc25) (cwV 1 hts gwRX6_128 rfl rfl rfl hdX4_kindOf ⟨Nat.le_of_ble_eq_true rfl, Nat.le_of_ble_eq_true rfl⟩) hN hK hP hD hS hA (va_recv hK hP (ci := 4) (q0 := 1) rfl (eX_1 A B _)) rfl hl.1 rfl (Nat.le_of_ble_eq_true rfl) dX6_lay_25 (st1 := [.int r25]) rfl ⟨Nat.zero_le _, Nat.zero_le _⟩ (fun H locs hP hD hS => ?_)
      refine lv_istore_n (pc := 28) hx hb (lv' := [(3, .int r25), (0, .ref (A 0)), (1, .int a1), (2, .int a2)]) dX6_lay_28 rfl hl (by decide) rfl (fun ls hl => ?_)
      refine lv_aload_n (pc := 29) hx hb dX6_lay_29 rfl (lv_at hl 1 rfl) ?_
      refine vXgRX6_10_0 (pc := 30) hx hb hts mU_16 inU6 hown hK hP dX6_lay_30 ?_
      refine lv_iload_n (pc := 33) hx hb dX6_lay_33 rfl (lv_at hl 0 rfl) ?_
      obtain ⟨r34, hc34, hf⟩ := hf_b hf
      refine cl_V (pc := 34) (As := [.int r25]) (rest := []) hx hb hml hown hts (kX4_fits_1 l D A B _ S r25 r34 hc34) (cwV 1 hts gwRX6_134 rfl rfl rfl hdX4_fits ⟨Nat.le_of_ble_eq_true rfl, Nat.le_of_ble_eq_true rfl⟩) hN hK hP hD hS hA (va_recv hK hP (ci := 4) (q0 := 1) rfl (eX_1 A B _)) rfl hl.1 rfl (Nat.le_of_ble_eq_true rfl) dX6_lay_34 (st1 := [.int r34]) rfl ⟨Nat.zero_le _, Nat.zero_le _⟩ (fun H locs hP hD hS => ?_)
      refine lv_if_ne (pc := 37) hx hb (tgt := 43) dX6_lay_37 (by decide) (fun c_37 => ?_) (fun c_37 => ?_)
      · have hf := hf_f c_37 hf
        refine lv_aload_n (pc := 43) hx hb dX6_lay_43 rfl (lv_at hl 1 rfl) ?_
        refine lv_iload_n (pc := 44) hx hb dX6_lay_44 rfl (lv_at hl 2 rfl) ?_
        obtain ⟨r45, hc45, hf⟩ := hf_b hf
        refine cl_V (pc := 45) (As := [.int a1]) (rest := []) hx hb hml hown hts (kX6_solve l D A B _ S a1 r45 hc45) (cwV 1 hts gwRX6_143 rfl rfl rfl hdX6_solve ⟨Nat.le_of_ble_eq_true rfl, Nat.le_of_ble_eq_true rfl⟩) hN hK hP hD hS hA (va_recv hK hP (ci := 6) (q0 := 0) rfl (eX_0 A B _)) rfl hl.1 rfl (Nat.le_of_ble_eq_true rfl) dX6_lay_45 (st1 := []) rfl ⟨Nat.zero_le _, Nat.zero_le _⟩ (fun H locs hP hD hS => ?_)
        refine lv_aload_n (pc := 48) hx hb dX6_lay_48 rfl (lv_at hl 1 rfl) ?_
        refine vXgRX6_25_0 (pc := 49) hx hb hts mU_22 inU6 hown hK hP dX6_lay_49 ?_
        obtain ⟨r52, hc52, hf⟩ := hf_b hf
        refine cl_V (pc := 52) (As := []) (rest := []) hx hb hml hown hts (kX1_isSolvable_19 l D A B _ r45 r52 hc52) (cwV 0 hts gwRX6_154 rfl rfl rfl hdX1_isSolvable ⟨Nat.le_of_ble_eq_true rfl, Nat.le_of_ble_eq_true rfl⟩) hN hK hP hD hS hA (va_recv hK hP (ci := 1) (q0 := 19) rfl (eX_19 A B _)) rfl hl.1 rfl (Nat.le_of_ble_eq_true rfl) dX6_lay_52 (st1 := [.int r52]) rfl ⟨Nat.zero_le _, Nat.zero_le _⟩ (fun H locs hP hD hS => ?_)
        refine lv_if_ne (pc := 55) hx hb (tgt := 61) dX6_lay_55 (by decide) (fun c_55 => ?_) (fun c_55 => ?_)
        · have hf := hf_f c_55 hf
          refine lv_aload_n (pc := 61) hx hb dX6_lay_61 rfl (lv_at hl 1 rfl) ?_
          refine lv_iload_n (pc := 62) hx hb dX6_lay_62 rfl (lv_at hl 0 rfl) ?_
          obtain ⟨r63, hc63, hf⟩ := hf_b hf
          refine cl_V (pc := 63) (As := [.int r25]) (rest := []) hx hb hml hown hts (kX6_solutionDivisor l D A B _ r45 r25 r63 hc63) (cwV 1 hts gwRX6_217 rfl rfl rfl hdX6_solutionDivisor ⟨Nat.le_of_ble_eq_true rfl, Nat.le_of_ble_eq_true rfl⟩) hN hK hP hD hS hA (va_recv hK hP (ci := 6) (q0 := 0) rfl (eX_0 A B _)) rfl hl.1 rfl (Nat.le_of_ble_eq_true rfl) dX6_lay_63 (st1 := [.long r63]) rfl ⟨Nat.zero_le _, Nat.zero_le _⟩ (fun H locs hP hD hS => ?_)
          refine lv_lstore (pc := 66) hx hb (lv' := [(4, .long r63), (3, .int r25), (0, .ref (A 0)), (1, .int a1), (2, .int a2)]) dX6_lay_66 hl (by decide) rfl (fun ls hl => ?_)
          refine lv_lload (pc := 68) hx hb dX6_lay_68 (lv_at hl 0 rfl) ?_
          refine lv_lconst (pc := 70) hx hb (v := 0) dX6_lay_70 (by decide) ?_
          refine W.lcmp (pc := 71) hx hb dX6_lay_71 ?_
          refine lv_if_eq (pc := 72) hx hb (tgt := 85) dX6_lay_72 (by decide) (fun c_72 => ?_) (fun c_72 => ?_)
          · have c_72 := lg_eq0.mp c_72
            have hf := hf_t c_72 hf
            refine lv_bipush (pc := 85) hx hb (v := (-16)) dX6_lay_85 (by decide) ?_
            obtain rfl := Option.some.inj hf
            exact hR H locs 87 ls hP hD hS dX6_lay_87
          · have c_72 := fun h9 => c_72 (lg_eq0.mpr h9)
            have hf := hf_f c_72 hf
            refine lv_aload_n (pc := 75) hx hb dX6_lay_75 rfl (lv_at hl 2 rfl) ?_
            refine lv_iload_n (pc := 76) hx hb dX6_lay_76 rfl (lv_at hl 1 rfl) ?_
            refine lv_lload (pc := 77) hx hb dX6_lay_77 (lv_at hl 0 rfl) ?_
            obtain ⟨r79, hc79, hf⟩ := hf_b hf
            refine cl_V (pc := 79) (As := [.int r25, .long r63]) (rest := []) hx hb hml hown hts (kX6_isLaidInInts l D A B _ r45 r25 r63 r79 hc79) (cwV 2 hts gwRX6_220 rfl rfl rfl hdX6_isLaidInInts ⟨Nat.le_of_ble_eq_true rfl, Nat.le_of_ble_eq_true rfl⟩) hN hK hP hD hS hA (va_recv hK hP (ci := 6) (q0 := 0) rfl (eX_0 A B _)) rfl hl.1 rfl (Nat.le_of_ble_eq_true rfl) dX6_lay_79 (st1 := [.int r79]) rfl ⟨Nat.zero_le _, Nat.zero_le _⟩ (fun H locs hP hD hS => ?_)
            refine lv_if_ne (pc := 82) hx hb (tgt := 88) dX6_lay_82 (by decide) (fun c_82 => ?_) (fun c_82 => ?_)
            · have hf := hf_f c_82 hf
              refine lv_aload_n (pc := 88) hx hb dX6_lay_88 rfl (lv_at hl 2 rfl) ?_
              refine vXgRX6_48_0 (pc := 89) hx hb hts mU_33 inU6 hown hK hP dX6_lay_89 ?_
              refine lv_iload_n (pc := 92) hx hb dX6_lay_92 rfl (lv_at hl 4 rfl) ?_
              by_cases e93_0 : a2 = (0 : Int32)
              · have hf := hf_t e93_0 hf
                refine vXrq_29_0 (pc := 93) hx hb hK hP e93_0 dX6_lay_93 ?_
                refine lv_astore (pc := 94) hx hb (lv' := [(6, .ref (A 30)), (4, .long r63), (3, .int r25), (0, .ref (A 0)), (1, .int a1), (2, .int a2)]) dX6_lay_94 hl (by decide) rfl (fun ls hl => ?_)
                refine lv_aload (pc := 96) hx hb dX6_lay_96 (lv_at hl 0 rfl) ?_
                refine lv_iconst (pc := 98) hx hb (v := 2) dX6_lay_98 (by decide) ?_
                refine lv_aload_n (pc := 99) hx hb dX6_lay_99 rfl (lv_at hl 3 rfl) ?_
                refine vXgRX6_10_0 (pc := 100) hx hb hts mU_16 inU6 hown hK hP dX6_lay_100 ?_
                refine vXgRX6_60_1 (pc := 103) hx hb hts mU_111 inU4 hown hK hP (x := (gI r45 0)) rfl dX6_lay_103 ?_
                refine lv_aload_n (pc := 106) hx hb dX6_lay_106 rfl (lv_at hl 3 rfl) ?_
                refine vXgRX6_10_0 (pc := 107) hx hb hts mU_16 inU6 hown hK hP dX6_lay_107 ?_
                refine vXgRX6_64_1 (pc := 110) hx hb hts mU_112 inU4 hown hK hP (x := (gI r45 1)) rfl dX6_lay_110 ?_
                refine lv_imul (pc := 113) hx hb dX6_lay_113 ?_
                obtain ⟨r114, hc114, hf⟩ := hf_b hf
                refine cl_V (pc := 114) (As := [.int 2, .int ((gI r45 0) * (gI r45 1))]) (rest := []) hx hb hml hown hts (kX2_renew_30 l D A B _ r45 2 ((gI r45 0) * (gI r45 1)) r114 hc114) (cwV 2 hts gwRX6_224 rfl rfl rfl hdX2_renew ⟨Nat.le_of_ble_eq_true rfl, Nat.le_of_ble_eq_true rfl⟩) hN hK hP hD hS hA (va_recv hK hP (ci := 2) (q0 := 30) rfl (eX_30 A B _)) rfl hl.1 rfl (Nat.le_of_ble_eq_true rfl) dX6_lay_114 (st1 := []) rfl ⟨Nat.zero_le _, Nat.zero_le _⟩ (fun H locs hP hD hS => ?_)
                refine lv_iconst (pc := 117) hx hb (v := 0) dX6_lay_117 (by decide) ?_
                refine lv_istore (pc := 118) hx hb (lv' := [(7, .int 0), (6, .ref (A 30)), (4, .long r63), (3, .int r25), (0, .ref (A 0)), (1, .int a1), (2, .int a2)]) dX6_lay_118 hl (by decide) rfl (fun ls hl => ?_)
                obtain ⟨q120, hq120, hf⟩ := hf_b hf
                have hk120 : ∀ (H : Heap) (locs : List Loc) (ls : Array Slot), va_P D vwCl (wX A B q120) H → va_D Ad (wX A B q120) → va_S Ad s.heap H locs → lv_has ls 9 [(0, .ref (A 0)), (4, .long r63)] → W p l e rm_X6_lay s m args below meth c H locs 0 0 Q (F0 m 189 ls []) := by
                  intro H locs ls hP hD hS hl
                  refine lv_aload_n (pc := 189) hx hb dX6_lay_189 rfl (lv_at hl 0 rfl) ?_
                  refine vXgRX6_25_0 (pc := 190) hx hb hts mU_22 inU6 hown hK hP dX6_lay_190 ?_
                  refine vXgRX6_172_19 (pc := 193) hx hb hts mU_603 inU1 hown hK hP (x := (gL q120 0)) rfl dX6_lay_193 ?_
                  refine lv_lload (pc := 196) hx hb dX6_lay_196 (lv_at hl 1 rfl) ?_
                  obtain ⟨hg198, hf⟩ := hf_g hf
                  refine lv_ldiv (pc := 198) hx hb dX6_lay_198 hg198 ?_
                  refine lv_l2i (pc := 199) hx hb (v := ((gL q120 0) / r63).toInt32) dX6_lay_199 rfl ?_
                  obtain rfl := Option.some.inj hf
                  exact hR H locs 200 ls hP hD hS dX6_lay_200
                have lp120 : ∀ (n : Nat) (T120 : w_S) (u7_120 : Int32) (H : Heap) (locs : List Loc) (ls : Array Slot), fX6_lay_L120_30 r25 r63 n T120 u7_120 = some q120 → va_P D vwCl (wX A B T120) H → va_D Ad (wX A B T120) → va_S Ad s.heap H locs → lv_has ls 9 [(0, .ref (A 0)), (3, .int r25), (4, .long r63), (6, .ref (A 30)), (7, .int u7_120)] → W p l e rm_X6_lay s m args below meth c H locs 0 0 Q (F0 m 120 ls []) := by
                  intro n120
                  induction n120 with
                  | zero => intro T120 u7_120 H locs ls hq120; exact hf_0 hq120
                  | succ n120 ih120 =>
                    intro T120 u7_120 H locs ls hq120 hP hD hS hl
                    rw [fX6_lay_L120_30] at hq120
                    refine lv_iload (pc := 120) hx hb dX6_lay_120 (lv_at hl 4 rfl) ?_
                    refine lv_aload_n (pc := 122) hx hb dX6_lay_122 rfl (lv_at hl 0 rfl) ?_
                    refine vXgRX6_10_0 (pc := 123) hx hb hts mU_16 inU6 hown hK hP dX6_lay_123 ?_
                    refine vXgRX6_60_1 (pc := 126) hx hb hts mU_111 inU4 hown hK hP (x := (gI T120 0)) rfl dX6_lay_126 ?_
                    refine lv_icmp_ge (pc := 129) hx hb (tgt := 189) dX6_lay_129 (by decide) (fun c_129 => ?_) (fun c_129 => ?_)
                    · have hq120 := hf_t c_129 hq120
                      obtain rfl := Option.some.inj hq120
                      exact hk120 H locs ls hP hD hS (lv_sub hl [0, 2] rfl)
                    · have hq120 := hf_f c_129 hq120
                      refine lv_iconst (pc := 132) hx hb (v := 0) dX6_lay_132 (by decide) ?_
                      refine lv_istore (pc := 133) hx hb (lv' := [(8, .int 0), (0, .ref (A 0)), (3, .int r25), (4, .long r63), (6, .ref (A 30)), (7, .int u7_120)]) dX6_lay_133 hl (by decide) rfl (fun ls hl => ?_)
                      obtain ⟨q135, hq135, hq120⟩ := hf_b hq120
                      have hk135 : ∀ (H : Heap) (locs : List Loc) (ls : Array Slot), va_P D vwCl (wX A B q135) H → va_D Ad (wX A B q135) → va_S Ad s.heap H locs → lv_has ls 9 [(0, .ref (A 0)), (3, .int r25), (4, .long r63), (6, .ref (A 30)), (7, .int u7_120)] → W p l e rm_X6_lay s m args below meth c H locs 0 0 Q (F0 m 183 ls []) := by
                        intro H locs ls hP hD hS hl
                        refine lv_iinc (pc := 183) hx hb (v := u7_120 + 1) (lv' := [(7, .int (u7_120 + 1)), (0, .ref (A 0)), (3, .int r25), (4, .long r63), (6, .ref (A 30))]) dX6_lay_183 hl (k := 4) rfl rfl (by decide) rfl (fun ls hl => ?_)
                        refine lv_goto (pc := 186) hx hb (tgt := 120) dX6_lay_186 (by decide) ?_
                        exact ih120 q135 (u7_120 + 1) H locs ls hq120 hP hD hS (lv_sub hl [1, 2, 3, 4, 0] rfl)
                      have lp135 : ∀ (n : Nat) (T135 : w_S) (u8_135 : Int32) (H : Heap) (locs : List Loc) (ls : Array Slot), fX6_lay_L135_30 r25 r63 u7_120 n T135 u8_135 = some q135 → va_P D vwCl (wX A B T135) H → va_D Ad (wX A B T135) → va_S Ad s.heap H locs → lv_has ls 9 [(0, .ref (A 0)), (3, .int r25), (4, .long r63), (6, .ref (A 30)), (7, .int u7_120), (8, .int u8_135)] → W p l e rm_X6_lay s m args below meth c H locs 0 0 Q (F0 m 135 ls []) := by
                        intro n135
                        induction n135 with
                        | zero => intro T135 u8_135 H locs ls hq135; exact hf_0 hq135
                        | succ n135 ih135 =>
                          intro T135 u8_135 H locs ls hq135 hP hD hS hl
                          rw [fX6_lay_L135_30] at hq135
                          refine lv_iload (pc := 135) hx hb dX6_lay_135 (lv_at hl 5 rfl) ?_
                          refine lv_aload_n (pc := 137) hx hb dX6_lay_137 rfl (lv_at hl 0 rfl) ?_
                          refine vXgRX6_10_0 (pc := 138) hx hb hts mU_16 inU6 hown hK hP dX6_lay_138 ?_
                          refine vXgRX6_64_1 (pc := 141) hx hb hts mU_112 inU4 hown hK hP (x := (gI T135 1)) rfl dX6_lay_141 ?_
                          refine lv_icmp_ge (pc := 144) hx hb (tgt := 183) dX6_lay_144 (by decide) (fun c_144 => ?_) (fun c_144 => ?_)
                          · have hq135 := hf_t c_144 hq135
                            obtain rfl := Option.some.inj hq135
                            exact hk135 H locs ls hP hD hS (lv_sub hl [0, 1, 2, 3, 4] rfl)
                          · have hq135 := hf_f c_144 hq135
                            refine lv_aload (pc := 147) hx hb dX6_lay_147 (lv_at hl 3 rfl) ?_
                            refine lv_iload (pc := 149) hx hb dX6_lay_149 (lv_at hl 4 rfl) ?_
                            refine lv_aload_n (pc := 151) hx hb dX6_lay_151 rfl (lv_at hl 0 rfl) ?_
                            refine vXgRX6_10_0 (pc := 152) hx hb hts mU_16 inU6 hown hK hP dX6_lay_152 ?_
                            refine vXgRX6_64_1 (pc := 155) hx hb hts mU_112 inU4 hown hK hP (x := (gI T135 1)) rfl dX6_lay_155 ?_
                            refine lv_imul (pc := 158) hx hb dX6_lay_158 ?_
                            refine lv_iload (pc := 159) hx hb dX6_lay_159 (lv_at hl 5 rfl) ?_
                            refine lv_iadd (pc := 161) hx hb dX6_lay_161 ?_
                            refine lv_aload_n (pc := 162) hx hb dX6_lay_162 rfl (lv_at hl 0 rfl) ?_
                            refine lv_iload_n (pc := 163) hx hb dX6_lay_163 rfl (lv_at hl 1 rfl) ?_
                            refine lv_iload (pc := 164) hx hb dX6_lay_164 (lv_at hl 4 rfl) ?_
                            refine lv_iload (pc := 166) hx hb dX6_lay_166 (lv_at hl 5 rfl) ?_
                            obtain ⟨r168, hc168, hq135⟩ := hf_b hq135
                            refine cl_V (pc := 168) (As := [.int r25, .int u7_120, .int u8_135]) (rest := [.int ((u7_120 * (gI T135 1)) + u8_135), .ref (A 30)]) hx hb hml hown hts (kX6_solutionAbove l D A B _ T135 r25 u7_120 u8_135 r168 hc168) (cwV 3 hts gwRX6_168 rfl rfl rfl hdX6_solutionAbove ⟨Nat.le_of_ble_eq_true rfl, Nat.le_of_ble_eq_true rfl⟩) hN hK hP hD hS hA (va_recv hK hP (ci := 6) (q0 := 0) rfl (eX_0 A B _)) rfl hl.1 rfl (Nat.le_of_ble_eq_true rfl) dX6_lay_168 (st1 := [.long r168, .int ((u7_120 * (gI T135 1)) + u8_135), .ref (A 30)]) rfl ⟨Nat.zero_le _, Nat.zero_le _⟩ (fun H locs hP hD hS => ?_)
                            refine lv_lload (pc := 171) hx hb dX6_lay_171 (lv_at hl 2 rfl) ?_
                            obtain ⟨hg173, hq135⟩ := hf_g hq135
                            refine lv_ldiv (pc := 173) hx hb dX6_lay_173 hg173 ?_
                            obtain ⟨r174, hc174, hq135⟩ := hf_b hq135
                            refine cl_V (pc := 174) (As := [.int ((u7_120 * (gI T135 1)) + u8_135), .long (r168 / r63)]) (rest := []) hx hb hml hown hts (kX2_write_30 l D A B _ T135 ((u7_120 * (gI T135 1)) + u8_135) (r168 / r63) r174 hc174) (cwV 2 hts gwRX6_227 rfl rfl rfl hdX2_write ⟨Nat.le_of_ble_eq_true rfl, Nat.le_of_ble_eq_true rfl⟩) hN hK hP hD hS hA (va_recv hK hP (ci := 2) (q0 := 30) rfl (eX_30 A B _)) rfl hl.1 rfl (Nat.le_of_ble_eq_true rfl) dX6_lay_174 (st1 := []) rfl ⟨Nat.zero_le _, Nat.zero_le _⟩ (fun H locs hP hD hS => ?_)
                            refine lv_iinc (pc := 177) hx hb (v := u8_135 + 1) (lv' := [(8, .int (u8_135 + 1)), (0, .ref (A 0)), (3, .int r25), (4, .long r63), (6, .ref (A 30)), (7, .int u7_120)]) dX6_lay_177 hl (k := 5) rfl rfl (by decide) rfl (fun ls hl => ?_)
                            refine lv_goto (pc := 180) hx hb (tgt := 135) dX6_lay_180 (by decide) ?_
                            exact ih135 r174 (u8_135 + 1) H locs ls hq135 hP hD hS (lv_sub hl [1, 2, 3, 4, 5, 0] rfl)
                      exact lp135 256 T120 0 H locs ls hq135 hP hD hS (lv_sub hl [1, 2, 3, 4, 5, 0] rfl)
                exact lp120 256 r114 0 H locs ls hq120 hP hD hS (lv_sub hl [4, 3, 2, 1, 0] rfl)
              · have hf := hf_f e93_0 hf
                by_cases e93_1 : a2 = (1 : Int32)
                · have hf := hf_t e93_1 hf
                  refine vXrq_29_1 (pc := 93) hx hb hK hP e93_1 dX6_lay_93 ?_
                  refine lv_astore (pc := 94) hx hb (lv' := [(6, .ref (A 32)), (4, .long r63), (3, .int r25), (0, .ref (A 0)), (1, .int a1), (2, .int a2)]) dX6_lay_94 hl (by decide) rfl (fun ls hl => ?_)
                  refine lv_aload (pc := 96) hx hb dX6_lay_96 (lv_at hl 0 rfl) ?_
                  refine lv_iconst (pc := 98) hx hb (v := 2) dX6_lay_98 (by decide) ?_
                  refine lv_aload_n (pc := 99) hx hb dX6_lay_99 rfl (lv_at hl 3 rfl) ?_
                  refine vXgRX6_10_0 (pc := 100) hx hb hts mU_16 inU6 hown hK hP dX6_lay_100 ?_
                  refine vXgRX6_60_1 (pc := 103) hx hb hts mU_111 inU4 hown hK hP (x := (gI r45 0)) rfl dX6_lay_103 ?_
                  refine lv_aload_n (pc := 106) hx hb dX6_lay_106 rfl (lv_at hl 3 rfl) ?_
                  refine vXgRX6_10_0 (pc := 107) hx hb hts mU_16 inU6 hown hK hP dX6_lay_107 ?_
                  refine vXgRX6_64_1 (pc := 110) hx hb hts mU_112 inU4 hown hK hP (x := (gI r45 1)) rfl dX6_lay_110 ?_
                  refine lv_imul (pc := 113) hx hb dX6_lay_113 ?_
                  obtain ⟨r114, hc114, hf⟩ := hf_b hf
                  refine cl_V (pc := 114) (As := [.int 2, .int ((gI r45 0) * (gI r45 1))]) (rest := []) hx hb hml hown hts (kX2_renew_32 l D A B _ r45 2 ((gI r45 0) * (gI r45 1)) r114 hc114) (cwV 2 hts gwRX6_224 rfl rfl rfl hdX2_renew ⟨Nat.le_of_ble_eq_true rfl, Nat.le_of_ble_eq_true rfl⟩) hN hK hP hD hS hA (va_recv hK hP (ci := 2) (q0 := 32) rfl (eX_32 A B _)) rfl hl.1 rfl (Nat.le_of_ble_eq_true rfl) dX6_lay_114 (st1 := []) rfl ⟨Nat.zero_le _, Nat.zero_le _⟩ (fun H locs hP hD hS => ?_)
                  refine lv_iconst (pc := 117) hx hb (v := 0) dX6_lay_117 (by decide) ?_
                  refine lv_istore (pc := 118) hx hb (lv' := [(7, .int 0), (6, .ref (A 32)), (4, .long r63), (3, .int r25), (0, .ref (A 0)), (1, .int a1), (2, .int a2)]) dX6_lay_118 hl (by decide) rfl (fun ls hl => ?_)
                  obtain ⟨q120, hq120, hf⟩ := hf_b hf
                  have hk120 : ∀ (H : Heap) (locs : List Loc) (ls : Array Slot), va_P D vwCl (wX A B q120) H → va_D Ad (wX A B q120) → va_S Ad s.heap H locs → lv_has ls 9 [(0, .ref (A 0)), (4, .long r63)] → W p l e rm_X6_lay s m args below meth c H locs 0 0 Q (F0 m 189 ls []) := by
                    intro H locs ls hP hD hS hl
                    refine lv_aload_n (pc := 189) hx hb dX6_lay_189 rfl (lv_at hl 0 rfl) ?_
                    refine vXgRX6_25_0 (pc := 190) hx hb hts mU_22 inU6 hown hK hP dX6_lay_190 ?_
                    refine vXgRX6_172_19 (pc := 193) hx hb hts mU_603 inU1 hown hK hP (x := (gL q120 0)) rfl dX6_lay_193 ?_
                    refine lv_lload (pc := 196) hx hb dX6_lay_196 (lv_at hl 1 rfl) ?_
                    obtain ⟨hg198, hf⟩ := hf_g hf
                    refine lv_ldiv (pc := 198) hx hb dX6_lay_198 hg198 ?_
                    refine lv_l2i (pc := 199) hx hb (v := ((gL q120 0) / r63).toInt32) dX6_lay_199 rfl ?_
                    obtain rfl := Option.some.inj hf
                    exact hR H locs 200 ls hP hD hS dX6_lay_200
                  have lp120 : ∀ (n : Nat) (T120 : w_S) (u7_120 : Int32) (H : Heap) (locs : List Loc) (ls : Array Slot), fX6_lay_L120_32 r25 r63 n T120 u7_120 = some q120 → va_P D vwCl (wX A B T120) H → va_D Ad (wX A B T120) → va_S Ad s.heap H locs → lv_has ls 9 [(0, .ref (A 0)), (3, .int r25), (4, .long r63), (6, .ref (A 32)), (7, .int u7_120)] → W p l e rm_X6_lay s m args below meth c H locs 0 0 Q (F0 m 120 ls []) := by
                    intro n120
                    induction n120 with
                    | zero => intro T120 u7_120 H locs ls hq120; exact hf_0 hq120
                    | succ n120 ih120 =>
                      intro T120 u7_120 H locs ls hq120 hP hD hS hl
                      rw [fX6_lay_L120_32] at hq120
                      refine lv_iload (pc := 120) hx hb dX6_lay_120 (lv_at hl 4 rfl) ?_
                      refine lv_aload_n (pc := 122) hx hb dX6_lay_122 rfl (lv_at hl 0 rfl) ?_
                      refine vXgRX6_10_0 (pc := 123) hx hb hts mU_16 inU6 hown hK hP dX6_lay_123 ?_
                      refine vXgRX6_60_1 (pc := 126) hx hb hts mU_111 inU4 hown hK hP (x := (gI T120 0)) rfl dX6_lay_126 ?_
                      refine lv_icmp_ge (pc := 129) hx hb (tgt := 189) dX6_lay_129 (by decide) (fun c_129 => ?_) (fun c_129 => ?_)
                      · have hq120 := hf_t c_129 hq120
                        obtain rfl := Option.some.inj hq120
                        exact hk120 H locs ls hP hD hS (lv_sub hl [0, 2] rfl)
                      · have hq120 := hf_f c_129 hq120
                        refine lv_iconst (pc := 132) hx hb (v := 0) dX6_lay_132 (by decide) ?_
                        refine lv_istore (pc := 133) hx hb (lv' := [(8, .int 0), (0, .ref (A 0)), (3, .int r25), (4, .long r63), (6, .ref (A 32)), (7, .int u7_120)]) dX6_lay_133 hl (by decide) rfl (fun ls hl => ?_)
                        obtain ⟨q135, hq135, hq120⟩ := hf_b hq120
                        have hk135 : ∀ (H : Heap) (locs : List Loc) (ls : Array Slot), va_P D vwCl (wX A B q135) H → va_D Ad (wX A B q135) → va_S Ad s.heap H locs → lv_has ls 9 [(0, .ref (A 0)), (3, .int r25), (4, .long r63), (6, .ref (A 32)), (7, .int u7_120)] → W p l e rm_X6_lay s m args below meth c H locs 0 0 Q (F0 m 183 ls []) := by
                          intro H locs ls hP hD hS hl
                          refine lv_iinc (pc := 183) hx hb (v := u7_120 + 1) (lv' := [(7, .int (u7_120 + 1)), (0, .ref (A 0)), (3, .int r25), (4, .long r63), (6, .ref (A 32))]) dX6_lay_183 hl (k := 4) rfl rfl (by decide) rfl (fun ls hl => ?_)
                          refine lv_goto (pc := 186) hx hb (tgt := 120) dX6_lay_186 (by decide) ?_
                          exact ih120 q135 (u7_120 + 1) H locs ls hq120 hP hD hS (lv_sub hl [1, 2, 3, 4, 0] rfl)
                        have lp135 : ∀ (n : Nat) (T135 : w_S) (u8_135 : Int32) (H : Heap) (locs : List Loc) (ls : Array Slot), fX6_lay_L135_32 r25 r63 u7_120 n T135 u8_135 = some q135 → va_P D vwCl (wX A B T135) H → va_D Ad (wX A B T135) → va_S Ad s.heap H locs → lv_has ls 9 [(0, .ref (A 0)), (3, .int r25), (4, .long r63), (6, .ref (A 32)), (7, .int u7_120), (8, .int u8_135)] → W p l e rm_X6_lay s m args below meth c H locs 0 0 Q (F0 m 135 ls []) := by
                          intro n135
                          induction n135 with
                          | zero => intro T135 u8_135 H locs ls hq135; exact hf_0 hq135
                          | succ n135 ih135 =>
                            intro T135 u8_135 H locs ls hq135 hP hD hS hl
                            rw [fX6_lay_L135_32] at hq135
                            refine lv_iload (pc := 135) hx hb dX6_lay_135 (lv_at hl 5 rfl) ?_
                            refine lv_aload_n (pc := 137) hx hb dX6_lay_137 rfl (lv_at hl 0 rfl) ?_
                            refine vXgRX6_10_0 (pc := 138) hx hb hts mU_16 inU6 hown hK hP dX6_lay_138 ?_
                            refine vXgRX6_64_1 (pc := 141) hx hb hts mU_112 inU4 hown hK hP (x := (gI T135 1)) rfl dX6_lay_141 ?_
                            refine lv_icmp_ge (pc := 144) hx hb (tgt := 183) dX6_lay_144 (by decide) (fun c_144 => ?_) (fun c_144 => ?_)
                            · have hq135 := hf_t c_144 hq135
                              obtain rfl := Option.some.inj hq135
                              exact hk135 H locs ls hP hD hS (lv_sub hl [0, 1, 2, 3, 4] rfl)
                            · have hq135 := hf_f c_144 hq135
                              refine lv_aload (pc := 147) hx hb dX6_lay_147 (lv_at hl 3 rfl) ?_
                              refine lv_iload (pc := 149) hx hb dX6_lay_149 (lv_at hl 4 rfl) ?_
                              refine lv_aload_n (pc := 151) hx hb dX6_lay_151 rfl (lv_at hl 0 rfl) ?_
                              refine vXgRX6_10_0 (pc := 152) hx hb hts mU_16 inU6 hown hK hP dX6_lay_152 ?_
                              refine vXgRX6_64_1 (pc := 155) hx hb hts mU_112 inU4 hown hK hP (x := (gI T135 1)) rfl dX6_lay_155 ?_
                              refine lv_imul (pc := 158) hx hb dX6_lay_158 ?_
                              refine lv_iload (pc := 159) hx hb dX6_lay_159 (lv_at hl 5 rfl) ?_
                              refine lv_iadd (pc := 161) hx hb dX6_lay_161 ?_
                              refine lv_aload_n (pc := 162) hx hb dX6_lay_162 rfl (lv_at hl 0 rfl) ?_
                              refine lv_iload_n (pc := 163) hx hb dX6_lay_163 rfl (lv_at hl 1 rfl) ?_
                              refine lv_iload (pc := 164) hx hb dX6_lay_164 (lv_at hl 4 rfl) ?_
                              refine lv_iload (pc := 166) hx hb dX6_lay_166 (lv_at hl 5 rfl) ?_
                              obtain ⟨r168, hc168, hq135⟩ := hf_b hq135
                              refine cl_V (pc := 168) (As := [.int r25, .int u7_120, .int u8_135]) (rest := [.int ((u7_120 * (gI T135 1)) + u8_135), .ref (A 32)]) hx hb hml hown hts (kX6_solutionAbove l D A B _ T135 r25 u7_120 u8_135 r168 hc168) (cwV 3 hts gwRX6_168 rfl rfl rfl hdX6_solutionAbove ⟨Nat.le_of_ble_eq_true rfl, Nat.le_of_ble_eq_true rfl⟩) hN hK hP hD hS hA (va_recv hK hP (ci := 6) (q0 := 0) rfl (eX_0 A B _)) rfl hl.1 rfl (Nat.le_of_ble_eq_true rfl) dX6_lay_168 (st1 := [.long r168, .int ((u7_120 * (gI T135 1)) + u8_135), .ref (A 32)]) rfl ⟨Nat.zero_le _, Nat.zero_le _⟩ (fun H locs hP hD hS => ?_)
                              refine lv_lload (pc := 171) hx hb dX6_lay_171 (lv_at hl 2 rfl) ?_
                              obtain ⟨hg173, hq135⟩ := hf_g hq135
                              refine lv_ldiv (pc := 173) hx hb dX6_lay_173 hg173 ?_
                              obtain ⟨r174, hc174, hq135⟩ := hf_b hq135
                              refine cl_V (pc := 174) (As := [.int ((u7_120 * (gI T135 1)) + u8_135), .long (r168 / r63)]) (rest := []) hx hb hml hown hts (kX2_write_32 l D A B _ T135 ((u7_120 * (gI T135 1)) + u8_135) (r168 / r63) r174 hc174) (cwV 2 hts gwRX6_227 rfl rfl rfl hdX2_write ⟨Nat.le_of_ble_eq_true rfl, Nat.le_of_ble_eq_true rfl⟩) hN hK hP hD hS hA (va_recv hK hP (ci := 2) (q0 := 32) rfl (eX_32 A B _)) rfl hl.1 rfl (Nat.le_of_ble_eq_true rfl) dX6_lay_174 (st1 := []) rfl ⟨Nat.zero_le _, Nat.zero_le _⟩ (fun H locs hP hD hS => ?_)
                              refine lv_iinc (pc := 177) hx hb (v := u8_135 + 1) (lv' := [(8, .int (u8_135 + 1)), (0, .ref (A 0)), (3, .int r25), (4, .long r63), (6, .ref (A 32)), (7, .int u7_120)]) dX6_lay_177 hl (k := 5) rfl rfl (by decide) rfl (fun ls hl => ?_)
                              refine lv_goto (pc := 180) hx hb (tgt := 135) dX6_lay_180 (by decide) ?_
                              exact ih135 r174 (u8_135 + 1) H locs ls hq135 hP hD hS (lv_sub hl [1, 2, 3, 4, 5, 0] rfl)
                        exact lp135 256 T120 0 H locs ls hq135 hP hD hS (lv_sub hl [1, 2, 3, 4, 5, 0] rfl)
                  exact lp120 256 r114 0 H locs ls hq120 hP hD hS (lv_sub hl [4, 3, 2, 1, 0] rfl)
                · have hf := hf_f e93_1 hf
                  by_cases e93_2 : a2 = (2 : Int32)
                  · have hf := hf_t e93_2 hf
                    refine vXrq_29_2 (pc := 93) hx hb hK hP e93_2 dX6_lay_93 ?_
                    refine lv_astore (pc := 94) hx hb (lv' := [(6, .ref (A 34)), (4, .long r63), (3, .int r25), (0, .ref (A 0)), (1, .int a1), (2, .int a2)]) dX6_lay_94 hl (by decide) rfl (fun ls hl => ?_)
                    refine lv_aload (pc := 96) hx hb dX6_lay_96 (lv_at hl 0 rfl) ?_
                    refine lv_iconst (pc := 98) hx hb (v := 2) dX6_lay_98 (by decide) ?_
                    refine lv_aload_n (pc := 99) hx hb dX6_lay_99 rfl (lv_at hl 3 rfl) ?_
                    refine vXgRX6_10_0 (pc := 100) hx hb hts mU_16 inU6 hown hK hP dX6_lay_100 ?_
                    refine vXgRX6_60_1 (pc := 103) hx hb hts mU_111 inU4 hown hK hP (x := (gI r45 0)) rfl dX6_lay_103 ?_
                    refine lv_aload_n (pc := 106) hx hb dX6_lay_106 rfl (lv_at hl 3 rfl) ?_
                    refine vXgRX6_10_0 (pc := 107) hx hb hts mU_16 inU6 hown hK hP dX6_lay_107 ?_
                    refine vXgRX6_64_1 (pc := 110) hx hb hts mU_112 inU4 hown hK hP (x := (gI r45 1)) rfl dX6_lay_110 ?_
                    refine lv_imul (pc := 113) hx hb dX6_lay_113 ?_
                    obtain ⟨r114, hc114, hf⟩ := hf_b hf
                    refine cl_V (pc := 114) (As := [.int 2, .int ((gI r45 0) * (gI r45 1))]) (rest := []) hx hb hml hown hts (kX2_renew_34 l D A B _ r45 2 ((gI r45 0) * (gI r45 1)) r114 hc114) (cwV 2 hts gwRX6_224 rfl rfl rfl hdX2_renew ⟨Nat.le_of_ble_eq_true rfl, Nat.le_of_ble_eq_true rfl⟩) hN hK hP hD hS hA (va_recv hK hP (ci := 2) (q0 := 34) rfl (eX_34 A B _)) rfl hl.1 rfl (Nat.le_of_ble_eq_true rfl) dX6_lay_114 (st1 := []) rfl ⟨Nat.zero_le _, Nat.zero_le _⟩ (fun H locs hP hD hS => ?_)
                    refine lv_iconst (pc := 117) hx hb (v := 0) dX6_lay_117 (by decide) ?_
                    refine lv_istore (pc := 118) hx hb (lv' := [(7, .int 0), (6, .ref (A 34)), (4, .long r63), (3, .int r25), (0, .ref (A 0)), (1, .int a1), (2, .int a2)]) dX6_lay_118 hl (by decide) rfl (fun ls hl => ?_)
                    obtain ⟨q120, hq120, hf⟩ := hf_b hf
                    have hk120 : ∀ (H : Heap) (locs : List Loc) (ls : Array Slot), va_P D vwCl (wX A B q120) H → va_D Ad (wX A B q120) → va_S Ad s.heap H locs → lv_has ls 9 [(0, .ref (A 0)), (4, .long r63)] → W p l e rm_X6_lay s m args below meth c H locs 0 0 Q (F0 m 189 ls []) := by
                      intro H locs ls hP hD hS hl
                      refine lv_aload_n (pc := 189) hx hb dX6_lay_189 rfl (lv_at hl 0 rfl) ?_
                      refine vXgRX6_25_0 (pc := 190) hx hb hts mU_22 inU6 hown hK hP dX6_lay_190 ?_
                      refine vXgRX6_172_19 (pc := 193) hx hb hts mU_603 inU1 hown hK hP (x := (gL q120 0)) rfl dX6_lay_193 ?_
                      refine lv_lload (pc := 196) hx hb dX6_lay_196 (lv_at hl 1 rfl) ?_
                      obtain ⟨hg198, hf⟩ := hf_g hf
                      refine lv_ldiv (pc := 198) hx hb dX6_lay_198 hg198 ?_
                      refine lv_l2i (pc := 199) hx hb (v := ((gL q120 0) / r63).toInt32) dX6_lay_199 rfl ?_
                      obtain rfl := Option.some.inj hf
                      exact hR H locs 200 ls hP hD hS dX6_lay_200
                    have lp120 : ∀ (n : Nat) (T120 : w_S) (u7_120 : Int32) (H : Heap) (locs : List Loc) (ls : Array Slot), fX6_lay_L120_34 r25 r63 n T120 u7_120 = some q120 → va_P D vwCl (wX A B T120) H → va_D Ad (wX A B T120) → va_S Ad s.heap H locs → lv_has ls 9 [(0, .ref (A 0)), (3, .int r25), (4, .long r63), (6, .ref (A 34)), (7, .int u7_120)] → W p l e rm_X6_lay s m args below meth c H locs 0 0 Q (F0 m 120 ls []) := by
                      intro n120
                      induction n120 with
                      | zero => intro T120 u7_120 H locs ls hq120; exact hf_0 hq120
                      | succ n120 ih120 =>
                        intro T120 u7_120 H locs ls hq120 hP hD hS hl
                        rw [fX6_lay_L120_34] at hq120
                        refine lv_iload (pc := 120) hx hb dX6_lay_120 (lv_at hl 4 rfl) ?_
                        refine lv_aload_n (pc := 122) hx hb dX6_lay_122 rfl (lv_at hl 0 rfl) ?_
                        refine vXgRX6_10_0 (pc := 123) hx hb hts mU_16 inU6 hown hK hP dX6_lay_123 ?_
                        refine vXgRX6_60_1 (pc := 126) hx hb hts mU_111 inU4 hown hK hP (x := (gI T120 0)) rfl dX6_lay_126 ?_
                        refine lv_icmp_ge (pc := 129) hx hb (tgt := 189) dX6_lay_129 (by decide) (fun c_129 => ?_) (fun c_129 => ?_)
                        · have hq120 := hf_t c_129 hq120
                          obtain rfl := Option.some.inj hq120
                          exact hk120 H locs ls hP hD hS (lv_sub hl [0, 2] rfl)
                        · have hq120 := hf_f c_129 hq120
                          refine lv_iconst (pc := 132) hx hb (v := 0) dX6_lay_132 (by decide) ?_
                          refine lv_istore (pc := 133) hx hb (lv' := [(8, .int 0), (0, .ref (A 0)), (3, .int r25), (4, .long r63), (6, .ref (A 34)), (7, .int u7_120)]) dX6_lay_133 hl (by decide) rfl (fun ls hl => ?_)
                          obtain ⟨q135, hq135, hq120⟩ := hf_b hq120
                          have hk135 : ∀ (H : Heap) (locs : List Loc) (ls : Array Slot), va_P D vwCl (wX A B q135) H → va_D Ad (wX A B q135) → va_S Ad s.heap H locs → lv_has ls 9 [(0, .ref (A 0)), (3, .int r25), (4, .long r63), (6, .ref (A 34)), (7, .int u7_120)] → W p l e rm_X6_lay s m args below meth c H locs 0 0 Q (F0 m 183 ls []) := by
                            intro H locs ls hP hD hS hl
                            refine lv_iinc (pc := 183) hx hb (v := u7_120 + 1) (lv' := [(7, .int (u7_120 + 1)), (0, .ref (A 0)), (3, .int r25), (4, .long r63), (6, .ref (A 34))]) dX6_lay_183 hl (k := 4) rfl rfl (by decide) rfl (fun ls hl => ?_)
                            refine lv_goto (pc := 186) hx hb (tgt := 120) dX6_lay_186 (by decide) ?_
                            exact ih120 q135 (u7_120 + 1) H locs ls hq120 hP hD hS (lv_sub hl [1, 2, 3, 4, 0] rfl)
                          have lp135 : ∀ (n : Nat) (T135 : w_S) (u8_135 : Int32) (H : Heap) (locs : List Loc) (ls : Array Slot), fX6_lay_L135_34 r25 r63 u7_120 n T135 u8_135 = some q135 → va_P D vwCl (wX A B T135) H → va_D Ad (wX A B T135) → va_S Ad s.heap H locs → lv_has ls 9 [(0, .ref (A 0)), (3, .int r25), (4, .long r63), (6, .ref (A 34)), (7, .int u7_120), (8, .int u8_135)] → W p l e rm_X6_lay s m args below meth c H locs 0 0 Q (F0 m 135 ls []) := by
                            intro n135
                            induction n135 with
                            | zero => intro T135 u8_135 H locs ls hq135; exact hf_0 hq135
                            | succ n135 ih135 =>
                              intro T135 u8_135 H locs ls hq135 hP hD hS hl
                              rw [fX6_lay_L135_34] at hq135
                              refine lv_iload (pc := 135) hx hb dX6_lay_135 (lv_at hl 5 rfl) ?_
                              refine lv_aload_n (pc := 137) hx hb dX6_lay_137 rfl (lv_at hl 0 rfl) ?_
                              refine vXgRX6_10_0 (pc := 138) hx hb hts mU_16 inU6 hown hK hP dX6_lay_138 ?_
                              refine vXgRX6_64_1 (pc := 141) hx hb hts mU_112 inU4 hown hK hP (x := (gI T135 1)) rfl dX6_lay_141 ?_
                              refine lv_icmp_ge (pc := 144) hx hb (tgt := 183) dX6_lay_144 (by decide) (fun c_144 => ?_) (fun c_144 => ?_)
                              · have hq135 := hf_t c_144 hq135
                                obtain rfl := Option.some.inj hq135
                                exact hk135 H locs ls hP hD hS (lv_sub hl [0, 1, 2, 3, 4] rfl)
                              · have hq135 := hf_f c_144 hq135
                                refine lv_aload (pc := 147) hx hb dX6_lay_147 (lv_at hl 3 rfl) ?_
                                refine lv_iload (pc := 149) hx hb dX6_lay_149 (lv_at hl 4 rfl) ?_
                                refine lv_aload_n (pc := 151) hx hb dX6_lay_151 rfl (lv_at hl 0 rfl) ?_
                                refine vXgRX6_10_0 (pc := 152) hx hb hts mU_16 inU6 hown hK hP dX6_lay_152 ?_
                                refine vXgRX6_64_1 (pc := 155) hx hb hts mU_112 inU4 hown hK hP (x := (gI T135 1)) rfl dX6_lay_155 ?_
                                refine lv_imul (pc := 158) hx hb dX6_lay_158 ?_
                                refine lv_iload (pc := 159) hx hb dX6_lay_159 (lv_at hl 5 rfl) ?_
                                refine lv_iadd (pc := 161) hx hb dX6_lay_161 ?_
                                refine lv_aload_n (pc := 162) hx hb dX6_lay_162 rfl (lv_at hl 0 rfl) ?_
                                refine lv_iload_n (pc := 163) hx hb dX6_lay_163 rfl (lv_at hl 1 rfl) ?_
                                refine lv_iload (pc := 164) hx hb dX6_lay_164 (lv_at hl 4 rfl) ?_
                                refine lv_iload (pc := 166) hx hb dX6_lay_166 (lv_at hl 5 rfl) ?_
                                obtain ⟨r168, hc168, hq135⟩ := hf_b hq135
                                refine cl_V (pc := 168) (As := [.int r25, .int u7_120, .int u8_135]) (rest := [.int ((u7_120 * (gI T135 1)) + u8_135), .ref (A 34)]) hx hb hml hown hts (kX6_solutionAbove l D A B _ T135 r25 u7_120 u8_135 r168 hc168) (cwV 3 hts gwRX6_168 rfl rfl rfl hdX6_solutionAbove ⟨Nat.le_of_ble_eq_true rfl, Nat.le_of_ble_eq_true rfl⟩) hN hK hP hD hS hA (va_recv hK hP (ci := 6) (q0 := 0) rfl (eX_0 A B _)) rfl hl.1 rfl (Nat.le_of_ble_eq_true rfl) dX6_lay_168 (st1 := [.long r168, .int ((u7_120 * (gI T135 1)) + u8_135), .ref (A 34)]) rfl ⟨Nat.zero_le _, Nat.zero_le _⟩ (fun H locs hP hD hS => ?_)
                                refine lv_lload (pc := 171) hx hb dX6_lay_171 (lv_at hl 2 rfl) ?_
                                obtain ⟨hg173, hq135⟩ := hf_g hq135
                                refine lv_ldiv (pc := 173) hx hb dX6_lay_173 hg173 ?_
                                obtain ⟨r174, hc174, hq135⟩ := hf_b hq135
                                refine cl_V (pc := 174) (As := [.int ((u7_120 * (gI T135 1)) + u8_135), .long (r168 / r63)]) (rest := []) hx hb hml hown hts (kX2_write_34 l D A B _ T135 ((u7_120 * (gI T135 1)) + u8_135) (r168 / r63) r174 hc174) (cwV 2 hts gwRX6_227 rfl rfl rfl hdX2_write ⟨Nat.le_of_ble_eq_true rfl, Nat.le_of_ble_eq_true rfl⟩) hN hK hP hD hS hA (va_recv hK hP (ci := 2) (q0 := 34) rfl (eX_34 A B _)) rfl hl.1 rfl (Nat.le_of_ble_eq_true rfl) dX6_lay_174 (st1 := []) rfl ⟨Nat.zero_le _, Nat.zero_le _⟩ (fun H locs hP hD hS => ?_)
                                refine lv_iinc (pc := 177) hx hb (v := u8_135 + 1) (lv' := [(8, .int (u8_135 + 1)), (0, .ref (A 0)), (3, .int r25), (4, .long r63), (6, .ref (A 34)), (7, .int u7_120)]) dX6_lay_177 hl (k := 5) rfl rfl (by decide) rfl (fun ls hl => ?_)
                                refine lv_goto (pc := 180) hx hb (tgt := 135) dX6_lay_180 (by decide) ?_
                                exact ih135 r174 (u8_135 + 1) H locs ls hq135 hP hD hS (lv_sub hl [1, 2, 3, 4, 5, 0] rfl)
                          exact lp135 256 T120 0 H locs ls hq135 hP hD hS (lv_sub hl [1, 2, 3, 4, 5, 0] rfl)
                    exact lp120 256 r114 0 H locs ls hq120 hP hD hS (lv_sub hl [4, 3, 2, 1, 0] rfl)
                  · have hf := hf_f e93_2 hf
                    by_cases e93_3 : a2 = (3 : Int32)
                    · have hf := hf_t e93_3 hf
                      refine vXrq_29_3 (pc := 93) hx hb hK hP e93_3 dX6_lay_93 ?_
                      refine lv_astore (pc := 94) hx hb (lv' := [(6, .ref (A 36)), (4, .long r63), (3, .int r25), (0, .ref (A 0)), (1, .int a1), (2, .int a2)]) dX6_lay_94 hl (by decide) rfl (fun ls hl => ?_)
                      refine lv_aload (pc := 96) hx hb dX6_lay_96 (lv_at hl 0 rfl) ?_
                      refine lv_iconst (pc := 98) hx hb (v := 2) dX6_lay_98 (by decide) ?_
                      refine lv_aload_n (pc := 99) hx hb dX6_lay_99 rfl (lv_at hl 3 rfl) ?_
                      refine vXgRX6_10_0 (pc := 100) hx hb hts mU_16 inU6 hown hK hP dX6_lay_100 ?_
                      refine vXgRX6_60_1 (pc := 103) hx hb hts mU_111 inU4 hown hK hP (x := (gI r45 0)) rfl dX6_lay_103 ?_
                      refine lv_aload_n (pc := 106) hx hb dX6_lay_106 rfl (lv_at hl 3 rfl) ?_
                      refine vXgRX6_10_0 (pc := 107) hx hb hts mU_16 inU6 hown hK hP dX6_lay_107 ?_
                      refine vXgRX6_64_1 (pc := 110) hx hb hts mU_112 inU4 hown hK hP (x := (gI r45 1)) rfl dX6_lay_110 ?_
                      refine lv_imul (pc := 113) hx hb dX6_lay_113 ?_
                      obtain ⟨r114, hc114, hf⟩ := hf_b hf
                      refine cl_V (pc := 114) (As := [.int 2, .int ((gI r45 0) * (gI r45 1))]) (rest := []) hx hb hml hown hts (kX2_renew_36 l D A B _ r45 2 ((gI r45 0) * (gI r45 1)) r114 hc114) (cwV 2 hts gwRX6_224 rfl rfl rfl hdX2_renew ⟨Nat.le_of_ble_eq_true rfl, Nat.le_of_ble_eq_true rfl⟩) hN hK hP hD hS hA (va_recv hK hP (ci := 2) (q0 := 36) rfl (eX_36 A B _)) rfl hl.1 rfl (Nat.le_of_ble_eq_true rfl) dX6_lay_114 (st1 := []) rfl ⟨Nat.zero_le _, Nat.zero_le _⟩ (fun H locs hP hD hS => ?_)
                      refine lv_iconst (pc := 117) hx hb (v := 0) dX6_lay_117 (by decide) ?_
                      refine lv_istore (pc := 118) hx hb (lv' := [(7, .int 0), (6, .ref (A 36)), (4, .long r63), (3, .int r25), (0, .ref (A 0)), (1, .int a1), (2, .int a2)]) dX6_lay_118 hl (by decide) rfl (fun ls hl => ?_)
                      obtain ⟨q120, hq120, hf⟩ := hf_b hf
                      have hk120 : ∀ (H : Heap) (locs : List Loc) (ls : Array Slot), va_P D vwCl (wX A B q120) H → va_D Ad (wX A B q120) → va_S Ad s.heap H locs → lv_has ls 9 [(0, .ref (A 0)), (4, .long r63)] → W p l e rm_X6_lay s m args below meth c H locs 0 0 Q (F0 m 189 ls []) := by
                        intro H locs ls hP hD hS hl
                        refine lv_aload_n (pc := 189) hx hb dX6_lay_189 rfl (lv_at hl 0 rfl) ?_
                        refine vXgRX6_25_0 (pc := 190) hx hb hts mU_22 inU6 hown hK hP dX6_lay_190 ?_
                        refine vXgRX6_172_19 (pc := 193) hx hb hts mU_603 inU1 hown hK hP (x := (gL q120 0)) rfl dX6_lay_193 ?_
                        refine lv_lload (pc := 196) hx hb dX6_lay_196 (lv_at hl 1 rfl) ?_
                        obtain ⟨hg198, hf⟩ := hf_g hf
                        refine lv_ldiv (pc := 198) hx hb dX6_lay_198 hg198 ?_
                        refine lv_l2i (pc := 199) hx hb (v := ((gL q120 0) / r63).toInt32) dX6_lay_199 rfl ?_
                        obtain rfl := Option.some.inj hf
                        exact hR H locs 200 ls hP hD hS dX6_lay_200
                      have lp120 : ∀ (n : Nat) (T120 : w_S) (u7_120 : Int32) (H : Heap) (locs : List Loc) (ls : Array Slot), fX6_lay_L120_36 r25 r63 n T120 u7_120 = some q120 → va_P D vwCl (wX A B T120) H → va_D Ad (wX A B T120) → va_S Ad s.heap H locs → lv_has ls 9 [(0, .ref (A 0)), (3, .int r25), (4, .long r63), (6, .ref (A 36)), (7, .int u7_120)] → W p l e rm_X6_lay s m args below meth c H locs 0 0 Q (F0 m 120 ls []) := by
                        intro n120
                        induction n120 with
                        | zero => intro T120 u7_120 H locs ls hq120; exact hf_0 hq120
                        | succ n120 ih120 =>
                          intro T120 u7_120 H locs ls hq120 hP hD hS hl
                          rw [fX6_lay_L120_36] at hq120
                          refine lv_iload (pc := 120) hx hb dX6_lay_120 (lv_at hl 4 rfl) ?_
                          refine lv_aload_n (pc := 122) hx hb dX6_lay_122 rfl (lv_at hl 0 rfl) ?_
                          refine vXgRX6_10_0 (pc := 123) hx hb hts mU_16 inU6 hown hK hP dX6_lay_123 ?_
                          refine vXgRX6_60_1 (pc := 126) hx hb hts mU_111 inU4 hown hK hP (x := (gI T120 0)) rfl dX6_lay_126 ?_
                          refine lv_icmp_ge (pc := 129) hx hb (tgt := 189) dX6_lay_129 (by decide) (fun c_129 => ?_) (fun c_129 => ?_)
                          · have hq120 := hf_t c_129 hq120
                            obtain rfl := Option.some.inj hq120
                            exact hk120 H locs ls hP hD hS (lv_sub hl [0, 2] rfl)
                          · have hq120 := hf_f c_129 hq120
                            refine lv_iconst (pc := 132) hx hb (v := 0) dX6_lay_132 (by decide) ?_
                            refine lv_istore (pc := 133) hx hb (lv' := [(8, .int 0), (0, .ref (A 0)), (3, .int r25), (4, .long r63), (6, .ref (A 36)), (7, .int u7_120)]) dX6_lay_133 hl (by decide) rfl (fun ls hl => ?_)
                            obtain ⟨q135, hq135, hq120⟩ := hf_b hq120
                            have hk135 : ∀ (H : Heap) (locs : List Loc) (ls : Array Slot), va_P D vwCl (wX A B q135) H → va_D Ad (wX A B q135) → va_S Ad s.heap H locs → lv_has ls 9 [(0, .ref (A 0)), (3, .int r25), (4, .long r63), (6, .ref (A 36)), (7, .int u7_120)] → W p l e rm_X6_lay s m args below meth c H locs 0 0 Q (F0 m 183 ls []) := by
                              intro H locs ls hP hD hS hl
                              refine lv_iinc (pc := 183) hx hb (v := u7_120 + 1) (lv' := [(7, .int (u7_120 + 1)), (0, .ref (A 0)), (3, .int r25), (4, .long r63), (6, .ref (A 36))]) dX6_lay_183 hl (k := 4) rfl rfl (by decide) rfl (fun ls hl => ?_)
                              refine lv_goto (pc := 186) hx hb (tgt := 120) dX6_lay_186 (by decide) ?_
                              exact ih120 q135 (u7_120 + 1) H locs ls hq120 hP hD hS (lv_sub hl [1, 2, 3, 4, 0] rfl)
                            have lp135 : ∀ (n : Nat) (T135 : w_S) (u8_135 : Int32) (H : Heap) (locs : List Loc) (ls : Array Slot), fX6_lay_L135_36 r25 r63 u7_120 n T135 u8_135 = some q135 → va_P D vwCl (wX A B T135) H → va_D Ad (wX A B T135) → va_S Ad s.heap H locs → lv_has ls 9 [(0, .ref (A 0)), (3, .int r25), (4, .long r63), (6, .ref (A 36)), (7, .int u7_120), (8, .int u8_135)] → W p l e rm_X6_lay s m args below meth c H locs 0 0 Q (F0 m 135 ls []) := by
                              intro n135
                              induction n135 with
                              | zero => intro T135 u8_135 H locs ls hq135; exact hf_0 hq135
                              | succ n135 ih135 =>
                                intro T135 u8_135 H locs ls hq135 hP hD hS hl
                                rw [fX6_lay_L135_36] at hq135
                                refine lv_iload (pc := 135) hx hb dX6_lay_135 (lv_at hl 5 rfl) ?_
                                refine lv_aload_n (pc := 137) hx hb dX6_lay_137 rfl (lv_at hl 0 rfl) ?_
                                refine vXgRX6_10_0 (pc := 138) hx hb hts mU_16 inU6 hown hK hP dX6_lay_138 ?_
                                refine vXgRX6_64_1 (pc := 141) hx hb hts mU_112 inU4 hown hK hP (x := (gI T135 1)) rfl dX6_lay_141 ?_
                                refine lv_icmp_ge (pc := 144) hx hb (tgt := 183) dX6_lay_144 (by decide) (fun c_144 => ?_) (fun c_144 => ?_)
                                · have hq135 := hf_t c_144 hq135
                                  obtain rfl := Option.some.inj hq135
                                  exact hk135 H locs ls hP hD hS (lv_sub hl [0, 1, 2, 3, 4] rfl)
                                · have hq135 := hf_f c_144 hq135
                                  refine lv_aload (pc := 147) hx hb dX6_lay_147 (lv_at hl 3 rfl) ?_
                                  refine lv_iload (pc := 149) hx hb dX6_lay_149 (lv_at hl 4 rfl) ?_
                                  refine lv_aload_n (pc := 151) hx hb dX6_lay_151 rfl (lv_at hl 0 rfl) ?_
                                  refine vXgRX6_10_0 (pc := 152) hx hb hts mU_16 inU6 hown hK hP dX6_lay_152 ?_
                                  refine vXgRX6_64_1 (pc := 155) hx hb hts mU_112 inU4 hown hK hP (x := (gI T135 1)) rfl dX6_lay_155 ?_
                                  refine lv_imul (pc := 158) hx hb dX6_lay_158 ?_
                                  refine lv_iload (pc := 159) hx hb dX6_lay_159 (lv_at hl 5 rfl) ?_
                                  refine lv_iadd (pc := 161) hx hb dX6_lay_161 ?_
                                  refine lv_aload_n (pc := 162) hx hb dX6_lay_162 rfl (lv_at hl 0 rfl) ?_
                                  refine lv_iload_n (pc := 163) hx hb dX6_lay_163 rfl (lv_at hl 1 rfl) ?_
                                  refine lv_iload (pc := 164) hx hb dX6_lay_164 (lv_at hl 4 rfl) ?_
                                  refine lv_iload (pc := 166) hx hb dX6_lay_166 (lv_at hl 5 rfl) ?_
                                  obtain ⟨r168, hc168, hq135⟩ := hf_b hq135
                                  refine cl_V (pc := 168) (As := [.int r25, .int u7_120, .int u8_135]) (rest := [.int ((u7_120 * (gI T135 1)) + u8_135), .ref (A 36)]) hx hb hml hown hts (kX6_solutionAbove l D A B _ T135 r25 u7_120 u8_135 r168 hc168) (cwV 3 hts gwRX6_168 rfl rfl rfl hdX6_solutionAbove ⟨Nat.le_of_ble_eq_true rfl, Nat.le_of_ble_eq_true rfl⟩) hN hK hP hD hS hA (va_recv hK hP (ci := 6) (q0 := 0) rfl (eX_0 A B _)) rfl hl.1 rfl (Nat.le_of_ble_eq_true rfl) dX6_lay_168 (st1 := [.long r168, .int ((u7_120 * (gI T135 1)) + u8_135), .ref (A 36)]) rfl ⟨Nat.zero_le _, Nat.zero_le _⟩ (fun H locs hP hD hS => ?_)
                                  refine lv_lload (pc := 171) hx hb dX6_lay_171 (lv_at hl 2 rfl) ?_
                                  obtain ⟨hg173, hq135⟩ := hf_g hq135
                                  refine lv_ldiv (pc := 173) hx hb dX6_lay_173 hg173 ?_
                                  obtain ⟨r174, hc174, hq135⟩ := hf_b hq135
                                  refine cl_V (pc := 174) (As := [.int ((u7_120 * (gI T135 1)) + u8_135), .long (r168 / r63)]) (rest := []) hx hb hml hown hts (kX2_write_36 l D A B _ T135 ((u7_120 * (gI T135 1)) + u8_135) (r168 / r63) r174 hc174) (cwV 2 hts gwRX6_227 rfl rfl rfl hdX2_write ⟨Nat.le_of_ble_eq_true rfl, Nat.le_of_ble_eq_true rfl⟩) hN hK hP hD hS hA (va_recv hK hP (ci := 2) (q0 := 36) rfl (eX_36 A B _)) rfl hl.1 rfl (Nat.le_of_ble_eq_true rfl) dX6_lay_174 (st1 := []) rfl ⟨Nat.zero_le _, Nat.zero_le _⟩ (fun H locs hP hD hS => ?_)
                                  refine lv_iinc (pc := 177) hx hb (v := u8_135 + 1) (lv' := [(8, .int (u8_135 + 1)), (0, .ref (A 0)), (3, .int r25), (4, .long r63), (6, .ref (A 36)), (7, .int u7_120)]) dX6_lay_177 hl (k := 5) rfl rfl (by decide) rfl (fun ls hl => ?_)
                                  refine lv_goto (pc := 180) hx hb (tgt := 135) dX6_lay_180 (by decide) ?_
                                  exact ih135 r174 (u8_135 + 1) H locs ls hq135 hP hD hS (lv_sub hl [1, 2, 3, 4, 5, 0] rfl)
                            exact lp135 256 T120 0 H locs ls hq135 hP hD hS (lv_sub hl [1, 2, 3, 4, 5, 0] rfl)
                      exact lp120 256 r114 0 H locs ls hq120 hP hD hS (lv_sub hl [4, 3, 2, 1, 0] rfl)
                    · have hf := hf_f e93_3 hf
                      exact hf_0 hf
            · have hf := hf_t c_82 hf
              refine lv_bipush (pc := 85) hx hb (v := (-16)) dX6_lay_85 (by decide) ?_
              obtain rfl := Option.some.inj hf
              exact hR H locs 87 ls hP hD hS dX6_lay_87
        · have hf := hf_t c_55 hf
          refine lv_bipush (pc := 58) hx hb (v := (-3)) dX6_lay_58 (by decide) ?_
          obtain rfl := Option.some.inj hf
          exact hR H locs 60 ls hP hD hS dX6_lay_60
      · have hf := hf_t c_37 hf
        refine lv_bipush (pc := 40) hx hb (v := (-4)) dX6_lay_40 (by decide) ?_
        obtain rfl := Option.some.inj hf
        exact hR H locs 42 ls hP hD hS dX6_lay_42
    · have hf := hf_t c_15 hf
      refine lv_iconst (pc := 18) hx hb (v := (-1)) dX6_lay_18 (by decide) ?_
      obtain rfl := Option.some.inj hf
      exact hR H locs 19 ls hP hD hS dX6_lay_19
set_option maxHeartbeats 4000000 in
set_option maxRecDepth 100000 in
theorem kX2_read_30 (l : Launch) (D : va_G) (A : Nat → Nat) (B : Nat → ClassId) (sz : Nat) (S : w_S) (a1 : Int32) (z : Int64) (hf : fX2_read_30 S a1 = some z) : MetW l yX2_read (wsO yX2_read cX2_read 2 (some .long)) rm_X2_read [.ref (A 30), .int a1] D (tyB B) (wX A B S) (wX A B S) sz (some (.long z)) := by
  refine MetW.mkL (cc := cX2_read) (maxL := 2) (by decide) (Nat.le_of_ble_eq_true rfl) ?_
  intro p e s m args below meth c Ad Q hx hb hts hown hml hN hK hA hR H locs ls hP hD hS hl
  have hl : lv_has ls 2 [(0, .ref (A 30)), (1, .int a1)] := hl
  rw [fX2_read_30] at hf
  refine lv_iload_n (pc := 0) hx hb dX2_read_0 rfl (lv_at hl 1 rfl) ?_
  refine lv_if_lt (pc := 1) hx hb (tgt := 27) dX2_read_1 (by decide) (fun c_1 => ?_) (fun c_1 => ?_)
  · have hf := hf_t c_1 hf
    refine lv_lconst (pc := 27) hx hb (v := 0) dX2_read_27 (by decide) ?_
    obtain rfl := Option.some.inj hf
    exact hR H locs 28 ls hP hD hS dX2_read_28
  · have hf := hf_f c_1 hf
    refine lv_iload_n (pc := 4) hx hb dX2_read_4 rfl (lv_at hl 1 rfl) ?_
    refine lv_aload_n (pc := 5) hx hb dX2_read_5 rfl (lv_at hl 0 rfl) ?_
    refine vXgRX2_28_30 (pc := 6) hx hb hts mU_767 inU2 hown hK hP (x := (gI S 29)) rfl dX2_read_6 ?_
    refine lv_icmp_ge (pc := 9) hx hb (tgt := 27) dX2_read_9 (by decide) (fun c_9 => ?_) (fun c_9 => ?_)
    · have hf := hf_t c_9 hf
      refine lv_lconst (pc := 27) hx hb (v := 0) dX2_read_27 (by decide) ?_
      obtain rfl := Option.some.inj hf
      exact hR H locs 28 ls hP hD hS dX2_read_28
    · have hf := hf_f c_9 hf
      refine lv_iload_n (pc := 12) hx hb dX2_read_12 rfl (lv_at hl 1 rfl) ?_
      refine lv_bipush (pc := 13) hx hb (v := 40) dX2_read_13 (by decide) ?_
      refine lv_icmp_ge (pc := 15) hx hb (tgt := 27) dX2_read_15 (by decide) (fun c_15 => ?_) (fun c_15 => ?_)
      · have hf := hf_t c_15 hf
        refine lv_lconst (pc := 27) hx hb (v := 0) dX2_read_27 (by decide) ?_
        obtain rfl := Option.some.inj hf
        exact hR H locs 28 ls hP hD hS dX2_read_28
      · have hf := hf_f c_15 hf
        refine lv_aload_n (pc := 18) hx hb dX2_read_18 rfl (lv_at hl 0 rfl) ?_
        refine vXgRX2_15_30 (pc := 19) hx hb hts mU_72 inU2 hown hK hP dX2_read_19 ?_
        refine lv_iload_n (pc := 22) hx hb dX2_read_22 rfl (lv_at hl 1 rfl) ?_
        obtain ⟨hg23, hf⟩ := hf_g hf
        refine vXra_31 (pc := 23) hx hb hK hP (f := (gB S 2)) rfl hg23 dX2_read_23 ?_
        refine lv_goto (pc := 24) hx hb (tgt := 28) dX2_read_24 (by decide) ?_
        obtain rfl := Option.some.inj hf
        exact hR H locs 28 ls hP hD hS dX2_read_28
