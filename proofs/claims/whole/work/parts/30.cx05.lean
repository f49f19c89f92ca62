set_option maxHeartbeats 4000000 in
set_option maxRecDepth 100000 in
theorem kX6_sumAt_30 (l : Launch) (D : va_G) (A : Nat → Nat) (B : Nat → ClassId) (sz : Nat) (S : w_S) (a1 : Int32) (a2 : Int32) (a4 : Int32) (a5 : Int32) (z : Int64) (hf : fX6_sumAt_30 S a1 a2 a4 a5 = some z) : MetW l yX6_sumAt (wsO yX6_sumAt cX6_sumAt 9 (some .long)) rm_X6_sumAt [.ref (A 0), .int a1, .int a2, .ref (A 30), .int a4, .int a5] D (tyB B) (wX A B S) (wX A B S) sz (some (.long z)) := by
  refine MetW.mkL (cc := cX6_sumAt) (maxL := 9) (by decide) (Nat.le_of_ble_eq_true rfl) ?_
  intro p e s m args below meth c Ad Q hx hb hts hown hml hN hK hA hR H locs ls hP hD hS hl
  have hl : lv_has ls 9 [(0, .ref (A 0)), (1, .int a1), (2, .int a2), (3, .ref (A 30)), (4, .int a4), (5, .int a5)] := hl
  rw [fX6_sumAt_30] at hf
  refine lv_lconst (pc := 0) hx hb (v := 0) dX6_sumAt_0 (by decide) ?_
  refine lv_lstore (pc := 1) hx hb (lv' := [(6, .long 0), (0, .ref (A 0)), (1, .int a1), (2, .int a2), (3, .ref (A 30)), (4, .int a4), (5, .int a5)]) dX6_sumAt_1 hl (by decide) rfl (fun ls hl => ?_)
  refine lv_iconst (pc := 3) hx hb (v := 0) dX6_sumAt_3 (by decide) ?_
  refine lv_istore (pc := 4) hx hb (lv' := [(8, .int 0), (6, .long 0), (0, .ref (A 0)), (1, .int a1), (2, .int a2), (3, .ref (A 30)), (4, .int a4), (5, .int a5)]) dX6_sumAt_4 hl (by decide) rfl (fun ls hl => ?_)
  obtain ⟨q6, hq6, hf⟩ := hf_b hf
  have hk6 : ∀ (H : Heap) (locs : List Loc) (ls : Array Slot), va_P D vwCl (wX A B S) H → va_D Ad (wX A B S) → va_S Ad s.heap H locs → lv_has ls 9 [(0, .ref (A 0)), (1, .int a1), (3, .ref (A 30)), (4, .int a4), (5, .int a5), (6, .long q6)] → W p l e rm_X6_sumAt s m args below meth c H locs 0 0 Q (F0 m 60 ls []) := by
    intro H locs ls hP hD hS hl
    refine lv_iconst (pc := 60) hx hb (v := 0) dX6_sumAt_60 (by decide) ?_
    refine lv_istore (pc := 61) hx hb (lv' := [(8, .int 0), (0, .ref (A 0)), (1, .int a1), (3, .ref (A 30)), (4, .int a4), (5, .int a5), (6, .long q6)]) dX6_sumAt_61 hl (by decide) rfl (fun ls hl => ?_)
    obtain ⟨q63, hq63, hf⟩ := hf_b hf
    have hk63 : ∀ (H : Heap) (locs : List Loc) (ls : Array Slot), va_P D vwCl (wX A B S) H → va_D Ad (wX A B S) → va_S Ad s.heap H locs → lv_has ls 9 [(6, .long q63)] → W p l e rm_X6_sumAt s m args below meth c H locs 0 0 Q (F0 m 117 ls []) := by
      intro H locs ls hP hD hS hl
      refine lv_lload (pc := 117) hx hb dX6_sumAt_117 (lv_at hl 0 rfl) ?_
      obtain rfl := Option.some.inj hf
      exact hR H locs 119 ls hP hD hS dX6_sumAt_119
    have lp63 : ∀ (n : Nat) (u6_63 : Int64) (u8_63 : Int32) (H : Heap) (locs : List Loc) (ls : Array Slot), fX6_sumAt_30_L63 S a1 a4 a5 n u6_63 u8_63 = some q63 → va_P D vwCl (wX A B S) H → va_D Ad (wX A B S) → va_S Ad s.heap H locs → lv_has ls 9 [(0, .ref (A 0)), (1, .int a1), (3, .ref (A 30)), (4, .int a4), (5, .int a5), (6, .long u6_63), (8, .int u8_63)] → W p l e rm_X6_sumAt s m args below meth c H locs 0 0 Q (F0 m 63 ls []) := by
      intro n63
      induction n63 with
      | zero => intro u6_63 u8_63 H locs ls hq63; exact hf_0 hq63
      | succ n63 ih63 =>
        intro u6_63 u8_63 H locs ls hq63 hP hD hS hl
        rw [fX6_sumAt_30_L63] at hq63
        refine lv_iload (pc := 63) hx hb dX6_sumAt_63 (lv_at hl 6 rfl) ?_
        refine lv_aload_n (pc := 65) hx hb dX6_sumAt_65 rfl (lv_at hl 0 rfl) ?_
        refine vXgRX6_10_0 (pc := 66) hx hb hts mU_16 inU6 hown hK hP dX6_sumAt_66 ?_
        refine vXgRX6_64_1 (pc := 69) hx hb hts mU_112 inU4 hown hK hP (x := (gI S 1)) rfl dX6_sumAt_69 ?_
        refine lv_icmp_ge (pc := 72) hx hb (tgt := 117) dX6_sumAt_72 (by decide) (fun c_72 => ?_) (fun c_72 => ?_)
        · have hq63 := hf_t c_72 hq63
          obtain rfl := Option.some.inj hq63
          exact hk63 H locs ls hP hD hS (lv_sub hl [5] rfl)
        · have hq63 := hf_f c_72 hq63
          refine lv_lload (pc := 75) hx hb dX6_sumAt_75 (lv_at hl 5 rfl) ?_
          refine lv_aload_n (pc := 77) hx hb dX6_sumAt_77 rfl (lv_at hl 2 rfl) ?_
          refine lv_iload (pc := 78) hx hb dX6_sumAt_78 (lv_at hl 3 rfl) ?_
          refine lv_aload_n (pc := 80) hx hb dX6_sumAt_80 rfl (lv_at hl 0 rfl) ?_
          refine vXgRX6_10_0 (pc := 81) hx hb hts mU_16 inU6 hown hK hP dX6_sumAt_81 ?_
          refine vXgRX6_64_1 (pc := 84) hx hb hts mU_112 inU4 hown hK hP (x := (gI S 1)) rfl dX6_sumAt_84 ?_
          refine lv_imul (pc := 87) hx hb dX6_sumAt_87 ?_
          refine lv_iload (pc := 88) hx hb dX6_sumAt_88 (lv_at hl 6 rfl) ?_
          refine lv_iadd (pc := 90) hx hb dX6_sumAt_90 ?_
          obtain ⟨r91, hc91, hq63⟩ := hf_b hq63
          refine cl_V (pc := 91) (As := [.int ((a4 * (gI S 1)) + u8_63)]) (rest := [.long u6_63]) hx hb hml hown hts (kX2_read_30 l D A B _ S ((a4 * (gI S 1)) + u8_63) r91 hc91) (cwV 1 hts gwRX6_258 rfl rfl rfl hdX2_read ⟨Nat.le_of_ble_eq_true rfl, Nat.le_of_ble_eq_true rfl⟩) hN hK hP hD hS hA (va_recv hK hP (ci := 2) (q0 := 30) rfl (eX_30 A B _)) rfl hl.1 rfl (Nat.le_of_ble_eq_true rfl) dX6_sumAt_91 (st1 := [.long r91, .long u6_63]) rfl ⟨Nat.zero_le _, Nat.zero_le _⟩ (fun H locs hP hD hS => ?_)
          refine lv_aload_n (pc := 94) hx hb dX6_sumAt_94 rfl (lv_at hl 0 rfl) ?_
          refine vXgRX6_10_0 (pc := 95) hx hb hts mU_16 inU6 hown hK hP dX6_sumAt_95 ?_
          refine lv_iload_n (pc := 98) hx hb dX6_sumAt_98 rfl (lv_at hl 1 rfl) ?_
          refine lv_iload (pc := 99) hx hb dX6_sumAt_99 (lv_at hl 6 rfl) ?_
          refine lv_iload (pc := 101) hx hb dX6_sumAt_101 (lv_at hl 4 rfl) ?_
          obtain ⟨r103, hc103, hq63⟩ := hf_b hq63
          refine cl_V (pc := 103) (As := [.int a1, .int u8_63, .int a5]) (rest := [.long r91, .long u6_63]) hx hb hml hown hts (kX4_rightEntry_1 l D A B _ S a1 u8_63 a5 r103 hc103) (cwV 3 hts gwRX6_162 rfl rfl rfl hdX4_rightEntry ⟨Nat.le_of_ble_eq_true rfl, Nat.le_of_ble_eq_true rfl⟩) hN hK hP hD hS hA (va_recv hK hP (ci := 4) (q0 := 1) rfl (eX_1 A B _)) rfl hl.1 rfl (Nat.le_of_ble_eq_true rfl) dX6_sumAt_103 (st1 := [.int r103, .long r91, .long u6_63]) rfl ⟨Nat.zero_le _, Nat.zero_le _⟩ (fun H locs hP hD hS => ?_)
          refine lv_i2l (pc := 106) hx hb (v := r103.toInt64) dX6_sumAt_106 rfl ?_
          refine lv_lmul (pc := 107) hx hb dX6_sumAt_107 ?_
          refine lv_ladd (pc := 108) hx hb dX6_sumAt_108 ?_
          refine lv_lstore (pc := 109) hx hb (lv' := [(6, .long (u6_63 + (r91 * r103.toInt64))), (0, .ref (A 0)), (1, .int a1), (3, .ref (A 30)), (4, .int a4), (5, .int a5), (8, .int u8_63)]) dX6_sumAt_109 hl (by decide) rfl (fun ls hl => ?_)
          refine lv_iinc (pc := 111) hx hb (v := u8_63 + 1) (lv' := [(8, .int (u8_63 + 1)), (6, .long (u6_63 + (r91 * r103.toInt64))), (0, .ref (A 0)), (1, .int a1), (3, .ref (A 30)), (4, .int a4), (5, .int a5)]) dX6_sumAt_111 hl (k := 6) rfl rfl (by decide) rfl (fun ls hl => ?_)
          refine lv_goto (pc := 114) hx hb (tgt := 63) dX6_sumAt_114 (by decide) ?_
          exact ih63 (u6_63 + (r91 * r103.toInt64)) (u8_63 + 1) H locs ls hq63 hP hD hS (lv_sub hl [2, 3, 4, 5, 6, 1, 0] rfl)
    exact lp63 256 q6 0 H locs ls hq63 hP hD hS (lv_sub hl [1, 2, 3, 4, 5, 6, 0] rfl)
  have lp6 : ∀ (n : Nat) (u6_6 : Int64) (u8_6 : Int32) (H : Heap) (locs : List Loc) (ls : Array Slot), fX6_sumAt_30_L6 S a1 a2 a4 a5 n u6_6 u8_6 = some q6 → va_P D vwCl (wX A B S) H → va_D Ad (wX A B S) → va_S Ad s.heap H locs → lv_has ls 9 [(0, .ref (A 0)), (1, .int a1), (2, .int a2), (3, .ref (A 30)), (4, .int a4), (5, .int a5), (6, .long u6_6), (8, .int u8_6)] → W p l e rm_X6_sumAt s m args below meth c H locs 0 0 Q (F0 m 6 ls []) := by
    intro n6
    induction n6 with
    | zero => intro u6_6 u8_6 H locs ls hq6; exact hf_0 hq6
    | succ n6 ih6 =>
      intro u6_6 u8_6 H locs ls hq6 hP hD hS hl
      rw [fX6_sumAt_30_L6] at hq6
      refine lv_iload (pc := 6) hx hb dX6_sumAt_6 (lv_at hl 7 rfl) ?_
      refine lv_aload_n (pc := 8) hx hb dX6_sumAt_8 rfl (lv_at hl 0 rfl) ?_
      refine vXgRX6_10_0 (pc := 9) hx hb hts mU_16 inU6 hown hK hP dX6_sumAt_9 ?_
      refine vXgRX6_60_1 (pc := 12) hx hb hts mU_111 inU4 hown hK hP (x := (gI S 0)) rfl dX6_sumAt_12 ?_
      refine lv_icmp_ge (pc := 15) hx hb (tgt := 60) dX6_sumAt_15 (by decide) (fun c_15 => ?_) (fun c_15 => ?_)
      · have hq6 := hf_t c_15 hq6
        obtain rfl := Option.some.inj hq6
        exact hk6 H locs ls hP hD hS (lv_sub hl [0, 1, 3, 4, 5, 6] rfl)
      · have hq6 := hf_f c_15 hq6
        refine lv_lload (pc := 18) hx hb dX6_sumAt_18 (lv_at hl 6 rfl) ?_
        refine lv_aload_n (pc := 20) hx hb dX6_sumAt_20 rfl (lv_at hl 0 rfl) ?_
        refine vXgRX6_10_0 (pc := 21) hx hb hts mU_16 inU6 hown hK hP dX6_sumAt_21 ?_
        refine lv_iload_n (pc := 24) hx hb dX6_sumAt_24 rfl (lv_at hl 2 rfl) ?_
        refine lv_iload (pc := 25) hx hb dX6_sumAt_25 (lv_at hl 4 rfl) ?_
        refine lv_iload (pc := 27) hx hb dX6_sumAt_27 (lv_at hl 7 rfl) ?_
        obtain ⟨r29, hc29, hq6⟩ := hf_b hq6
        refine cl_V (pc := 29) (As := [.int a2, .int a4, .int u8_6]) (rest := [.long u6_6]) hx hb hml hown hts (kX4_leftEntry_1 l D A B _ S a2 a4 u8_6 r29 hc29) (cwV 3 hts gwRX6_348 rfl rfl rfl hdX4_leftEntry ⟨Nat.le_of_ble_eq_true rfl, Nat.le_of_ble_eq_true rfl⟩) hN hK hP hD hS hA (va_recv hK hP (ci := 4) (q0 := 1) rfl (eX_1 A B _)) rfl hl.1 rfl (Nat.le_of_ble_eq_true rfl) dX6_sumAt_29 (st1 := [.int r29, .long u6_6]) rfl ⟨Nat.zero_le _, Nat.zero_le _⟩ (fun H locs hP hD hS => ?_)
        refine lv_i2l (pc := 32) hx hb (v := r29.toInt64) dX6_sumAt_32 rfl ?_
        refine lv_aload_n (pc := 33) hx hb dX6_sumAt_33 rfl (lv_at hl 3 rfl) ?_
        refine lv_iload (pc := 34) hx hb dX6_sumAt_34 (lv_at hl 7 rfl) ?_
        refine lv_aload_n (pc := 36) hx hb dX6_sumAt_36 rfl (lv_at hl 0 rfl) ?_
        refine vXgRX6_10_0 (pc := 37) hx hb hts mU_16 inU6 hown hK hP dX6_sumAt_37 ?_
        refine vXgRX6_64_1 (pc := 40) hx hb hts mU_112 inU4 hown hK hP (x := (gI S 1)) rfl dX6_sumAt_40 ?_
        refine lv_imul (pc := 43) hx hb dX6_sumAt_43 ?_
        refine lv_iload (pc := 44) hx hb dX6_sumAt_44 (lv_at hl 5 rfl) ?_
        refine lv_iadd (pc := 46) hx hb dX6_sumAt_46 ?_
        obtain ⟨r47, hc47, hq6⟩ := hf_b hq6
        refine cl_V (pc := 47) (As := [.int ((u8_6 * (gI S 1)) + a5)]) (rest := [.long r29.toInt64, .long u6_6]) hx hb hml hown hts (kX2_read_30 l D A B _ S ((u8_6 * (gI S 1)) + a5) r47 hc47) (cwV 1 hts gwRX6_258 rfl rfl rfl hdX2_read ⟨Nat.le_of_ble_eq_true rfl, Nat.le_of_ble_eq_true rfl⟩) hN hK hP hD hS hA (va_recv hK hP (ci := 2) (q0 := 30) rfl (eX_30 A B _)) rfl hl.1 rfl (Nat.le_of_ble_eq_true rfl) dX6_sumAt_47 (st1 := [.long r47, .long r29.toInt64, .long u6_6]) rfl ⟨Nat.zero_le _, Nat.zero_le _⟩ (fun H locs hP hD hS => ?_)
        refine lv_lmul (pc := 50) hx hb dX6_sumAt_50 ?_
        refine lv_ladd (pc := 51) hx hb dX6_sumAt_51 ?_
        refine lv_lstore (pc := 52) hx hb (lv' := [(6, .long (u6_6 + (r29.toInt64 * r47))), (0, .ref (A 0)), (1, .int a1), (2, .int a2), (3, .ref (A 30)), (4, .int a4), (5, .int a5), (8, .int u8_6)]) dX6_sumAt_52 hl (by decide) rfl (fun ls hl => ?_)
        refine lv_iinc (pc := 54) hx hb (v := u8_6 + 1) (lv' := [(8, .int (u8_6 + 1)), (6, .long (u6_6 + (r29.toInt64 * r47))), (0, .ref (A 0)), (1, .int a1), (2, .int a2), (3, .ref (A 30)), (4, .int a4), (5, .int a5)]) dX6_sumAt_54 hl (k := 7) rfl rfl (by decide) rfl (fun ls hl => ?_)
        refine lv_goto (pc := 57) hx hb (tgt := 6) dX6_sumAt_57 (by decide) ?_
        exact ih6 (u6_6 + (r29.toInt64 * r47)) (u8_6 + 1) H locs ls hq6 hP hD hS (lv_sub hl [2, 3, 4, 5, 6, 7, 1, 0] rfl)
  exact lp6 256 0 0 H locs ls hq6 hP hD hS (lv_sub hl [2, 3, 4, 5, 6, 7, 1, 0] rfl)
set_option maxHeartbeats 4000000 in
set_option maxRecDepth 100000 in
theorem kX6_firstWrong_30 (l : Launch) (D : va_G) (A : Nat → Nat) (B : Nat → ClassId) (sz : Nat) (S : w_S) (a1 : Int32) (a2 : Int32) (a4 : Int32) (z : Int32) (hf : fX6_firstWrong_30 S a1 a2 a4 = some z) : MetW l yX6_firstWrong (wsO yX6_firstWrong cX6_firstWrong 7 (some .int)) rm_X6_firstWrong [.ref (A 0), .int a1, .int a2, .ref (A 30), .int a4] D (tyB B) (wX A B S) (wX A B S) sz (some (.int z)) := by
  refine MetW.mkI (cc := cX6_firstWrong) (maxL := 7) (by decide) (Nat.le_of_ble_eq_true rfl) ?_
  intro p e s m args below meth c Ad Q hx hb hts hown hml hN hK hA hR H locs ls hP hD hS hl
  have hl : lv_has ls 7 [(0, .ref (A 0)), (1, .int a1), (2, .int a2), (3, .ref (A 30)), (4, .int a4)] := hl
  rw [fX6_firstWrong_30] at hf
  refine lv_iconst (pc := 0) hx hb (v := 0) dX6_firstWrong_0 (by decide) ?_
  refine lv_istore (pc := 1) hx hb (lv' := [(5, .int 0), (0, .ref (A 0)), (1, .int a1), (2, .int a2), (3, .ref (A 30)), (4, .int a4)]) dX6_firstWrong_1 hl (by decide) rfl (fun ls hl => ?_)
  have hk3 : ∀  (H : Heap) (locs : List Loc) (ls : Array Slot), some ((gI S 0) * (gI S 1)) = some z → va_P D vwCl (wX A B S) H → va_D Ad (wX A B S) → va_S Ad s.heap H locs → lv_has ls 7 [(0, .ref (A 0))] → W p l e rm_X6_firstWrong s m args below meth c H locs 0 0 Q (F0 m 88 ls []) := by
    intro  H locs ls hf hP hD hS hl
    refine lv_aload_n (pc := 88) hx hb dX6_firstWrong_88 rfl (lv_at hl 0 rfl) ?_
    refine vXgRX6_10_0 (pc := 89) hx hb hts mU_16 inU6 hown hK hP dX6_firstWrong_89 ?_
    refine vXgRX6_60_1 (pc := 92) hx hb hts mU_111 inU4 hown hK hP (x := (gI S 0)) rfl dX6_firstWrong_92 ?_
    refine lv_aload_n (pc := 95) hx hb dX6_firstWrong_95 rfl (lv_at hl 0 rfl) ?_
    refine vXgRX6_10_0 (pc := 96) hx hb hts mU_16 inU6 hown hK hP dX6_firstWrong_96 ?_
    refine vXgRX6_64_1 (pc := 99) hx hb hts mU_112 inU4 hown hK hP (x := (gI S 1)) rfl dX6_firstWrong_99 ?_
    refine lv_imul (pc := 102) hx hb dX6_firstWrong_102 ?_
    obtain rfl := Option.some.inj hf
    exact hR H locs 103 ls hP hD hS dX6_firstWrong_103
  have lp3 : ∀ (n : Nat) (u5_3 : Int32) (H : Heap) (locs : List Loc) (ls : Array Slot), fX6_firstWrong_30_L3 (some ((gI S 0) * (gI S 1))) S a1 a2 a4 n u5_3 = some z → va_P D vwCl (wX A B S) H → va_D Ad (wX A B S) → va_S Ad s.heap H locs → lv_has ls 7 [(0, .ref (A 0)), (1, .int a1), (2, .int a2), (3, .ref (A 30)), (4, .int a4), (5, .int u5_3)] → W p l e rm_X6_firstWrong s m args below meth c H locs 0 0 Q (F0 m 3 ls []) := by
    intro n3
    induction n3 with
    | zero => intro u5_3 H locs ls hf; exact hf_0 hf
    | succ n3 ih3 =>
      intro u5_3 H locs ls hf hP hD hS hl
      rw [fX6_firstWrong_30_L3] at hf
      refine lv_iload (pc := 3) hx hb dX6_firstWrong_3 (lv_at hl 5 rfl) ?_
      refine lv_aload_n (pc := 5) hx hb dX6_firstWrong_5 rfl (lv_at hl 0 rfl) ?_
      refine vXgRX6_10_0 (pc := 6) hx hb hts mU_16 inU6 hown hK hP dX6_firstWrong_6 ?_
      refine vXgRX6_60_1 (pc := 9) hx hb hts mU_111 inU4 hown hK hP (x := (gI S 0)) rfl dX6_firstWrong_9 ?_
      refine lv_icmp_ge (pc := 12) hx hb (tgt := 88) dX6_firstWrong_12 (by decide) (fun c_12 => ?_) (fun c_12 => ?_)
      · have hf := hf_t c_12 hf
        exact hk3  H locs ls hf hP hD hS (lv_sub hl [0] rfl)
      · have hf := hf_f c_12 hf
        refine lv_iconst (pc := 15) hx hb (v := 0) dX6_firstWrong_15 (by decide) ?_
        refine lv_istore (pc := 16) hx hb (lv' := [(6, .int 0), (0, .ref (A 0)), (1, .int a1), (2, .int a2), (3, .ref (A 30)), (4, .int a4), (5, .int u5_3)]) dX6_firstWrong_16 hl (by decide) rfl (fun ls hl => ?_)
        have hk18 : ∀  (H : Heap) (locs : List Loc) (ls : Array Slot), fX6_firstWrong_30_L3 (some ((gI S 0) * (gI S 1))) S a1 a2 a4 n3 (u5_3 + 1) = some z → va_P D vwCl (wX A B S) H → va_D Ad (wX A B S) → va_S Ad s.heap H locs → lv_has ls 7 [(0, .ref (A 0)), (1, .int a1), (2, .int a2), (3, .ref (A 30)), (4, .int a4), (5, .int u5_3)] → W p l e rm_X6_firstWrong s m args below meth c H locs 0 0 Q (F0 m 82 ls []) := by
          intro  H locs ls hf hP hD hS hl
          refine lv_iinc (pc := 82) hx hb (v := u5_3 + 1) (lv' := [(5, .int (u5_3 + 1)), (0, .ref (A 0)), (1, .int a1), (2, .int a2), (3, .ref (A 30)), (4, .int a4)]) dX6_firstWrong_82 hl (k := 5) rfl rfl (by decide) rfl (fun ls hl => ?_)
          refine lv_goto (pc := 85) hx hb (tgt := 3) dX6_firstWrong_85 (by decide) ?_
          exact ih3 (u5_3 + 1) H locs ls hf hP hD hS (lv_sub hl [1, 2, 3, 4, 5, 0] rfl)
        have lp18 : ∀ (n : Nat) (u6_18 : Int32) (H : Heap) (locs : List Loc) (ls : Array Slot), fX6_firstWrong_30_L18 (fX6_firstWrong_30_L3 (some ((gI S 0) * (gI S 1))) S a1 a2 a4 n3 (u5_3 + 1)) S a1 a2 a4 u5_3 n u6_18 = some z → va_P D vwCl (wX A B S) H → va_D Ad (wX A B S) → va_S Ad s.heap H locs → lv_has ls 7 [(0, .ref (A 0)), (1, .int a1), (2, .int a2), (3, .ref (A 30)), (4, .int a4), (5, .int u5_3), (6, .int u6_18)] → W p l e rm_X6_firstWrong s m args below meth c H locs 0 0 Q (F0 m 18 ls []) := by
          intro n18
          induction n18 with
          | zero => intro u6_18 H locs ls hf; exact hf_0 hf
          | succ n18 ih18 =>
            intro u6_18 H locs ls hf hP hD hS hl
            rw [fX6_firstWrong_30_L18] at hf
            refine lv_iload (pc := 18) hx hb dX6_firstWrong_18 (lv_at hl 6 rfl) ?_
            refine lv_aload_n (pc := 20) hx hb dX6_firstWrong_20 rfl (lv_at hl 0 rfl) ?_
            refine vXgRX6_10_0 (pc := 21) hx hb hts mU_16 inU6 hown hK hP dX6_firstWrong_21 ?_
            refine vXgRX6_64_1 (pc := 24) hx hb hts mU_112 inU4 hown hK hP (x := (gI S 1)) rfl dX6_firstWrong_24 ?_
            refine lv_icmp_ge (pc := 27) hx hb (tgt := 82) dX6_firstWrong_27 (by decide) (fun c_27 => ?_) (fun c_27 => ?_)
            · have hf := hf_t c_27 hf
              exact hk18  H locs ls hf hP hD hS (lv_sub hl [0, 1, 2, 3, 4, 5] rfl)
            · have hf := hf_f c_27 hf
              refine lv_aload_n (pc := 30) hx hb dX6_firstWrong_30 rfl (lv_at hl 0 rfl) ?_
              refine lv_iload_n (pc := 31) hx hb dX6_firstWrong_31 rfl (lv_at hl 1 rfl) ?_
              refine lv_iload_n (pc := 32) hx hb dX6_firstWrong_32 rfl (lv_at hl 2 rfl) ?_
              refine lv_aload_n (pc := 33) hx hb dX6_firstWrong_33 rfl (lv_at hl 3 rfl) ?_
              refine lv_iload (pc := 34) hx hb dX6_firstWrong_34 (lv_at hl 5 rfl) ?_
              refine lv_iload (pc := 36) hx hb dX6_firstWrong_36 (lv_at hl 6 rfl) ?_
              obtain ⟨r38, hc38, hf⟩ := hf_b hf
              refine cl_V (pc := 38) (As := [.int a1, .int a2, .ref (A 30), .int u5_3, .int u6_18]) (rest := []) hx hb hml hown hts (kX6_sumAt_30 l D A B _ S a1 a2 u5_3 u6_18 r38 hc38) (cwV 5 hts gwRX6_355 rfl rfl rfl hdX6_sumAt ⟨Nat.le_of_ble_eq_true rfl, Nat.le_of_ble_eq_true rfl⟩) hN hK hP hD hS hA (va_recv hK hP (ci := 6) (q0 := 0) rfl (eX_0 A B _)) rfl hl.1 rfl (Nat.le_of_ble_eq_true rfl) dX6_firstWrong_38 (st1 := [.long r38]) rfl ⟨Nat.zero_le _, Nat.zero_le _⟩ (fun H locs hP hD hS => ?_)
              refine lv_iload (pc := 41) hx hb dX6_firstWrong_41 (lv_at hl 4 rfl) ?_
              refine lv_i2l (pc := 43) hx hb (v := a4.toInt64) dX6_firstWrong_43 rfl ?_
              refine lv_aload_n (pc := 44) hx hb dX6_firstWrong_44 rfl (lv_at hl 0 rfl) ?_
              refine vXgRX6_10_0 (pc := 45) hx hb hts mU_16 inU6 hown hK hP dX6_firstWrong_45 ?_
              refine lv_iconst (pc := 48) hx hb (v := 2) dX6_firstWrong_48 (by decide) ?_
              refine lv_iload (pc := 49) hx hb dX6_firstWrong_49 (lv_at hl 5 rfl) ?_
              refine lv_iload (pc := 51) hx hb dX6_firstWrong_51 (lv_at hl 6 rfl) ?_
              obtain ⟨r53, hc53, hf⟩ := hf_b hf
              refine cl_V (pc := 53) (As := [.int 2, .int u5_3, .int u6_18]) (rest := [.long a4.toInt64, .long r38]) hx hb hml hown hts (kX4_entry_1 l D A B _ S 2 u5_3 u6_18 r53 hc53) (cwV 3 hts gwRX6_79 rfl rfl rfl hdX4_entry ⟨Nat.le_of_ble_eq_true rfl, Nat.le_of_ble_eq_true rfl⟩) hN hK hP hD hS hA (va_recv hK hP (ci := 4) (q0 := 1) rfl (eX_1 A B _)) rfl hl.1 rfl (Nat.le_of_ble_eq_true rfl) dX6_firstWrong_53 (st1 := [.int r53, .long a4.toInt64, .long r38]) rfl ⟨Nat.zero_le _, Nat.zero_le _⟩ (fun H locs hP hD hS => ?_)
              refine lv_i2l (pc := 56) hx hb (v := r53.toInt64) dX6_firstWrong_56 rfl ?_
              refine lv_lmul (pc := 57) hx hb dX6_firstWrong_57 ?_
              refine W.lcmp (pc := 58) hx hb dX6_firstWrong_58 ?_
              refine lv_if_eq (pc := 59) hx hb (tgt := 76) dX6_firstWrong_59 (by decide) (fun c_59 => ?_) (fun c_59 => ?_)
              · have c_59 := lg_eq0.mp c_59
                have hf := hf_t c_59 hf
                refine lv_iinc (pc := 76) hx hb (v := u6_18 + 1) (lv' := [(6, .int (u6_18 + 1)), (0, .ref (A 0)), (1, .int a1), (2, .int a2), (3, .ref (A 30)), (4, .int a4), (5, .int u5_3)]) dX6_firstWrong_76 hl (k := 6) rfl rfl (by decide) rfl (fun ls hl => ?_)
                refine lv_goto (pc := 79) hx hb (tgt := 18) dX6_firstWrong_79 (by decide) ?_
                exact ih18 (u6_18 + 1) H locs ls hf hP hD hS (lv_sub hl [1, 2, 3, 4, 5, 6, 0] rfl)
              · have c_59 := fun h9 => c_59 (lg_eq0.mpr h9)
                have hf := hf_f c_59 hf
                refine lv_iload (pc := 62) hx hb dX6_firstWrong_62 (lv_at hl 5 rfl) ?_
                refine lv_aload_n (pc := 64) hx hb dX6_firstWrong_64 rfl (lv_at hl 0 rfl) ?_
                refine vXgRX6_10_0 (pc := 65) hx hb hts mU_16 inU6 hown hK hP dX6_firstWrong_65 ?_
                refine vXgRX6_64_1 (pc := 68) hx hb hts mU_112 inU4 hown hK hP (x := (gI S 1)) rfl dX6_firstWrong_68 ?_
                refine lv_imul (pc := 71) hx hb dX6_firstWrong_71 ?_
                refine lv_iload (pc := 72) hx hb dX6_firstWrong_72 (lv_at hl 6 rfl) ?_
                refine lv_iadd (pc := 74) hx hb dX6_firstWrong_74 ?_
                obtain rfl := Option.some.inj hf
                exact hR H locs 75 ls hP hD hS dX6_firstWrong_75
        exact lp18 256 0 H locs ls hf hP hD hS (lv_sub hl [1, 2, 3, 4, 5, 6, 0] rfl)
  exact lp3 256 0 H locs ls hf hP hD hS (lv_sub hl [1, 2, 3, 4, 5, 0] rfl)
set_option maxHeartbeats 4000000 in
set_option maxRecDepth 100000 in
theorem kX2_read_32 (l : Launch) (D : va_G) (A : Nat → Nat) (B : Nat → ClassId) (sz : Nat) (S : w_S) (a1 : Int32) (z : Int64) (hf : fX2_read_32 S a1 = some z) : MetW l yX2_read (wsO yX2_read cX2_read 2 (some .long)) rm_X2_read [.ref (A 32), .int a1] D (tyB B) (wX A B S) (wX A B S) sz (some (.long z)) := by
  refine MetW.mkL (cc := cX2_read) (maxL := 2) (by decide) (Nat.le_of_ble_eq_true rfl) ?_
  intro p e s m args below meth c Ad Q hx hb hts hown hml hN hK hA hR H locs ls hP hD hS hl
  have hl : lv_has ls 2 [(0, .ref (A 32)), (1, .int a1)] := hl
  rw [fX2_read_32] at hf
  refine lv_iload_n (pc := 0) hx hb dX2_read_0 rfl (lv_at hl 1 rfl) ?_
  refine lv_if_lt (pc := 1) hx hb (tgt := 27) dX2_read_1 (by decide) (fun c_1 => ?_) (fun c_1 => ?_)
  · have hf := hf_t c_1 hf
    refine lv_lconst (pc := 27) hx hb (v := 0) dX2_read_27 (by decide) ?_
    obtain rfl := Option.some.inj hf
    exact hR H locs 28 ls hP hD hS dX2_read_28
  · have hf := hf_f c_1 hf
    refine lv_iload_n (pc := 4) hx hb dX2_read_4 rfl (lv_at hl 1 rfl) ?_
    refine lv_aload_n (pc := 5) hx hb dX2_read_5 rfl (lv_at hl 0 rfl) ?_
    refine vXgRX2_28_32 (pc := 6) hx hb hts mU_767 inU2 hown hK hP (x := (gI S 31)) rfl dX2_read_6 ?_
    refine lv_icmp_ge (pc := 9) hx hb (tgt := 27) dX2_read_9 (by decide) (fun c_9 => ?_) (fun c_9 => ?_)
    · have hf := hf_t c_9 hf
      refine lv_lconst (pc := 27) hx hb (v := 0) dX2_read_27 (by decide) ?_
      obtain rfl := Option.some.inj hf
      exact hR H locs 28 ls hP hD hS dX2_read_28
    · have hf := hf_f c_9 hf
      refine lv_iload_n (pc := 12) hx hb dX2_read_12 rfl (lv_at hl 1 rfl) ?_
      refine lv_bipush (pc := 13) hx hb (v := 40) dX2_read_13 (by decide) ?_
      refine lv_icmp_ge (pc := 15) hx hb (tgt := 27) dX2_read_15 (by decide) (fun c_15 => ?_) (fun c_15 => ?_)
      · have hf := hf_t c_15 hf
        refine lv_lconst (pc := 27) hx hb (v := 0) dX2_read_27 (by decide) ?_
        obtain rfl := Option.some.inj hf
        exact hR H locs 28 ls hP hD hS dX2_read_28
      · have hf := hf_f c_15 hf
        refine lv_aload_n (pc := 18) hx hb dX2_read_18 rfl (lv_at hl 0 rfl) ?_
        refine vXgRX2_15_32 (pc := 19) hx hb hts mU_72 inU2 hown hK hP dX2_read_19 ?_
        refine lv_iload_n (pc := 22) hx hb dX2_read_22 rfl (lv_at hl 1 rfl) ?_
        obtain ⟨hg23, hf⟩ := hf_g hf
        refine vXra_33 (pc := 23) hx hb hK hP (f := (gB S 3)) rfl hg23 dX2_read_23 ?_
        refine lv_goto (pc := 24) hx hb (tgt := 28) dX2_read_24 (by decide) ?_
        obtain rfl := Option.some.inj hf
        exact hR H locs 28 ls hP hD hS dX2_read_28
set_option maxHeartbeats 4000000 in
set_option maxRecDepth 100000 in
theorem kX6_sumAt_32 (l : Launch) (D : va_G) (A : Nat → Nat) (B : Nat → ClassId) (sz : Nat) (S : w_S) (a1 : Int32) (a2 : Int32) (a4 : Int32) (a5 : Int32) (z : Int64) (hf : fX6_sumAt_32 S a1 a2 a4 a5 = some z) : MetW l yX6_sumAt (wsO yX6_sumAt cX6_sumAt 9 (some .long)) rm_X6_sumAt [.ref (A 0), .int a1, .int a2, .ref (A 32), .int a4, .int a5] D (tyB B) (wX A B S) (wX A B S) sz (some (.long z)) := by
  refine MetW.mkL (cc := cX6_sumAt) (maxL := 9) (by decide) (Nat.le_of_ble_eq_true rfl) ?_
  intro p e s m args below meth c Ad Q hx hb hts hown hml hN hK hA hR H locs ls hP hD hS hl
  have hl : lv_has ls 9 [(0, .ref (A 0)), (1, .int a1), (2, .int a2), (3, .ref (A 32)), (4, .int a4), (5, .int a5)] := hl
  rw [fX6_sumAt_32] at hf
  refine lv_lconst (pc := 0) hx hb (v := 0) dX6_sumAt_0 (by decide) ?_
  refine lv_lstore (pc := 1) hx hb (lv' := [(6, .long 0), (0, .ref (A 0)), (1, .int a1), (2, .int a2), (3, .ref (A 32)), (4, .int a4), (5, .int a5)]) dX6_sumAt_1 hl (by decide) rfl (fun ls hl => ?_)
  refine lv_iconst (pc := 3) hx hb (v := 0) dX6_sumAt_3 (by decide) ?_
  refine lv_istore (pc := 4) hx hb (lv' := [(8, .int 0), (6, .long 0), (0, .ref (A 0)), (1, .int a1), (2, .int a2), (3, .ref (A 32)), (4, .int a4), (5, .int a5)]) dX6_sumAt_4 hl (by decide) rfl (fun ls hl => ?_)
  obtain ⟨q6, hq6, hf⟩ := hf_b hf
  have hk6 : ∀ (H : Heap) (locs : List Loc) (ls : Array Slot), va_P D vwCl (wX A B S) H → va_D Ad (wX A B S) → va_S Ad s.heap H locs → lv_has ls 9 [(0, .ref (A 0)), (1, .int a1), (3, .ref (A 32)), (4, .int a4), (5, .int a5), (6, .long q6)] → W p l e rm_X6_sumAt s m args below meth c H locs 0 0 Q (F0 m 60 ls []) := by
    intro H locs ls hP hD hS hl
    refine lv_iconst (pc := 60) hx hb (v := 0) dX6_sumAt_60 (by decide) ?_
    refine lv_istore (pc := 61) hx hb (lv' := [(8, .int 0), (0, .ref (A 0)), (1, .int a1), (3, .ref (A 32)), (4, .int a4), (5, .int a5), (6, .long q6)]) dX6_sumAt_61 hl (by decide) rfl (fun ls hl => ?_)
    obtain ⟨q63, hq63, hf⟩ := hf_b hf
    have hk63 : ∀ (H : Heap) (locs : List Loc) (ls : Array Slot), va_P D vwCl (wX A B S) H → va_D Ad (wX A B S) → va_S Ad s.heap H locs → lv_has ls 9 [(6, .long q63)] → W p l e rm_X6_sumAt s m args below meth c H locs 0 0 Q (F0 m 117 ls []) := by
      intro H locs ls hP hD hS hl
      refine lv_lload (pc := 117) hx hb dX6_sumAt_117 (lv_at hl 0 rfl) ?_
      obtain rfl := Option.some.inj hf
      exact hR H locs 119 ls hP hD hS dX6_sumAt_119
    have lp63 : ∀ (n : Nat) (u6_63 : Int64) (u8_63 : Int32) (H : Heap) (locs : List Loc) (ls : Array Slot), fX6_sumAt_32_L63 S a1 a4 a5 n u6_63 u8_63 = some q63 → va_P D vwCl (wX A B S) H → va_D Ad (wX A B S) → va_S Ad s.heap H locs → lv_has ls 9 [(0, .ref (A 0)), (1, .int a1), (3, .ref (A 32)), (4, .int a4), (5, .int a5), (6, .long u6_63), (8, .int u8_63)] → W p l e rm_X6_sumAt s m args below meth c H locs 0 0 Q (F0 m 63 ls []) := by
      intro n63
      induction n63 with
      | zero => intro u6_63 u8_63 H locs ls hq63; exact hf_0 hq63
      | succ n63 ih63 =>
        intro u6_63 u8_63 H locs ls hq63 hP hD hS hl
        rw [fX6_sumAt_32_L63] at hq63
        refine lv_iload (pc := 63) hx hb dX6_sumAt_63 (lv_at hl 6 rfl) ?_
        refine lv_aload_n (pc := 65) hx hb dX6_sumAt_65 rfl (lv_at hl 0 rfl) ?_
        refine vXgRX6_10_0 (pc := 66) hx hb hts mU_16 inU6 hown hK hP dX6_sumAt_66 ?_
        refine vXgRX6_64_1 (pc := 69) hx hb hts mU_112 inU4 hown hK hP (x := (gI S 1)) rfl dX6_sumAt_69 ?_
        refine lv_icmp_ge (pc := 72) hx hb (tgt := 117) dX6_sumAt_72 (by decide) (fun c_72 => ?_) (fun c_72 => ?_)
        · have hq63 := hf_t c_72 hq63
          obtain rfl := Option.some.inj hq63
          exact hk63 H locs ls hP hD hS (lv_sub hl [5] rfl)
        · have hq63 := hf_f c_72 hq63
          refine lv_lload (pc := 75) hx hb dX6_sumAt_75 (lv_at hl 5 rfl) ?_
          refine lv_aload_n (pc := 77) hx hb dX6_sumAt_77 rfl (lv_at hl 2 rfl) ?_
          refine lv_iload (pc := 78) hx hb dX6_sumAt_78 (lv_at hl 3 rfl) ?_
          refine lv_aload_n (pc := 80) hx hb dX6_sumAt_80 rfl (lv_at hl 0 rfl) ?_
          refine vXgRX6_10_0 (pc := 81) hx hb hts mU_16 inU6 hown hK hP dX6_sumAt_81 ?_
          refine vXgRX6_64_1 (pc := 84) hx hb hts mU_112 inU4 hown hK hP (x := (gI S 1)) rfl dX6_sumAt_84 ?_
          refine lv_imul (pc := 87) hx hb dX6_sumAt_87 ?_
          refine lv_iload (pc := 88) hx hb dX6_sumAt_88 (lv_at hl 6 rfl) ?_
          refine lv_iadd (pc := 90) hx hb dX6_sumAt_90 ?_
          obtain ⟨r91, hc91, hq63⟩ := hf_b hq63
          refine cl_V (pc := 91) (As := [.int ((a4 * (gI S 1)) + u8_63)]) (rest := [.long u6_63]) hx hb hml hown hts (kX2_read_32 l D A B _ S ((a4 * (gI S 1)) + u8_63) r91 hc91) (cwV 1 hts gwRX6_258 rfl rfl rfl hdX2_read ⟨Nat.le_of_ble_eq_true rfl, Nat.le_of_ble_eq_true rfl⟩) hN hK hP hD hS hA (va_recv hK hP (ci := 2) (q0 := 32) rfl (eX_32 A B _)) rfl hl.1 rfl (Nat.le_of_ble_eq_true rfl) dX6_sumAt_91 (st1 := [.long r91, .long u6_63]) rfl ⟨Nat.zero_le _, Nat.zero_le _⟩ (fun H locs hP hD hS => ?_)
          refine lv_aload_n (pc := 94) hx hb dX6_sumAt_94 rfl (lv_at hl 0 rfl) ?_
          refine vXgRX6_10_0 (pc := 95) hx hb hts mU_16 inU6 hown hK hP dX6_sumAt_95 ?_
          refine lv_iload_n (pc := 98) hx hb dX6_sumAt_98 rfl (lv_at hl 1 rfl) ?_
          refine lv_iload (pc := 99) hx hb dX6_sumAt_99 (lv_at hl 6 rfl) ?_
          refine lv_iload (pc := 101) hx hb dX6_sumAt_101 (lv_at hl 4 rfl) ?_
          obtain ⟨r103, hc103, hq63⟩ := hf_b hq63
          refine cl_V (pc := 103) (As := [.int a1, .int u8_63, .int a5]) (rest := [.long r91, .long u6_63]) hx hb hml hown hts (kX4_rightEntry_1 l D A B _ S a1 u8_63 a5 r103 hc103) (cwV 3 hts gwRX6_162 rfl rfl rfl hdX4_rightEntry ⟨Nat.le_of_ble_eq_true rfl, Nat.le_of_ble_eq_true rfl⟩) hN hK hP hD hS hA (va_recv hK hP (ci := 4) (q0 := 1) rfl (eX_1 A B _)) rfl hl.1 rfl (Nat.le_of_ble_eq_true rfl) dX6_sumAt_103 (st1 := [.int r103, .long r91, .long u6_63]) rfl ⟨Nat.zero_le _, Nat.zero_le _⟩ (fun H locs hP hD hS => ?_)
          refine lv_i2l (pc := 106) hx hb (v := r103.toInt64) dX6_sumAt_106 rfl ?_
          refine lv_lmul (pc := 107) hx hb dX6_sumAt_107 ?_
          refine lv_ladd (pc := 108) hx hb dX6_sumAt_108 ?_
          refine lv_lstore (pc := 109) hx hb (lv' := [(6, .long (u6_63 + (r91 * r103.toInt64))), (0, .ref (A 0)), (1, .int a1), (3, .ref (A 32)), (4, .int a4), (5, .int a5), (8, .int u8_63)]) dX6_sumAt_109 hl (by decide) rfl (fun ls hl => ?_)
          refine lv_iinc (pc := 111) hx hb (v := u8_63 + 1) (lv' := [(8, .int (u8_63 + 1)), (6, .long (u6_63 + (r91 * r103.toInt64))), (0, .ref (A 0)), (1, .int a1), (3, .ref (A 32)), (4, .int a4), (5, .int a5)]) dX6_sumAt_111 hl (k := 6) rfl rfl (by decide) rfl (fun ls hl => ?_)
          refine lv_goto (pc := 114) hx hb (tgt := 63) dX6_sumAt_114 (by decide) ?_
          exact ih63 (u6_63 + (r91 * r103.toInt64)) (u8_63 + 1) H locs ls hq63 hP hD hS (lv_sub hl [2, 3, 4, 5, 6, 1, 0] rfl)
    exact lp63 256 q6 0 H locs ls hq63 hP hD hS (lv_sub hl [1, 2, 3, 4, 5, 6, 0] rfl)
  have lp6 : ∀ (n : Nat) (u6_6 : Int64) (u8_6 : Int32) (H : Heap) (locs : List Loc) (ls : Array Slot), fX6_sumAt_32_L6 S a1 a2 a4 a5 n u6_6 u8_6 = some q6 → va_P D vwCl (wX A B S) H → va_D Ad (wX A B S) → va_S Ad s.heap H locs → lv_has ls 9 [(0, .ref (A 0)), (1, .int a1), (2, .int a2), (3, .ref (A 32)), (4, .int a4), (5, .int a5), (6, .long u6_6), (8, .int u8_6)] → W p l e rm_X6_sumAt s m args below meth c H locs 0 0 Q (F0 m 6 ls []) := by
    intro n6
    induction n6 with
    | zero => intro u6_6 u8_6 H locs ls hq6; exact hf_0 hq6
    | succ n6 ih6 =>
      intro u6_6 u8_6 H locs ls hq6 hP hD hS hl
      rw [fX6_sumAt_32_L6] at hq6
      refine lv_iload (pc := 6) hx hb dX6_sumAt_6 (lv_at hl 7 rfl) ?_
      refine lv_aload_n (pc := 8) hx hb dX6_sumAt_8 rfl (lv_at hl 0 rfl) ?_
      refine vXgRX6_10_0 (pc := 9) hx hb hts mU_16 inU6 hown hK hP dX6_sumAt_9 ?_
      refine vXgRX6_60_1 (pc := 12) hx hb hts mU_111 inU4 hown hK hP (x := (gI S 0)) rfl dX6_sumAt_12 ?_
      refine lv_icmp_ge (pc := 15) hx hb (tgt := 60) dX6_sumAt_15 (by decide) (fun c_15 => ?_) (fun c_15 => ?_)
      · have hq6 := hf_t c_15 hq6
        obtain rfl := Option.some.inj hq6
        exact hk6 H locs ls hP hD hS (lv_sub hl [0, 1, 3, 4, 5, 6] rfl)
      · have hq6 := hf_f c_15 hq6
        refine lv_lload (pc := 18) hx hb dX6_sumAt_18 (lv_at hl 6 rfl) ?_
        refine lv_aload_n (pc := 20) hx hb dX6_sumAt_20 rfl (lv_at hl 0 rfl) ?_
        refine vXgRX6_10_0 (pc := 21) hx hb hts mU_16 inU6 hown hK hP dX6_sumAt_21 ?_
        refine lv_iload_n (pc := 24) hx hb dX6_sumAt_24 rfl (lv_at hl 2 rfl) ?_
        refine lv_iload (pc := 25) hx hb dX6_sumAt_25 (lv_at hl 4 rfl) ?_
        refine lv_iload (pc := 27) hx hb dX6_sumAt_27 (lv_at hl 7 rfl) ?_
        obtain ⟨r29, hc29, hq6⟩ := hf_b hq6
        refine cl_V (pc := 29) (As := [.int a2, .int a4, .int u8_6]) (rest := [.long u6_6]) hx hb hml hown hts (kX4_leftEntry_1 l D A B _ S a2 a4 u8_6 r29 hc29) (cwV 3 hts gwRX6_348 rfl rfl rfl hdX4_leftEntry ⟨Nat.le_of_ble_eq_true rfl, Nat.le_of_ble_eq_true rfl⟩) hN hK hP hD hS hA (va_recv hK hP (ci := 4) (q0 := 1) rfl (eX_1 A B _)) rfl hl.1 rfl (Nat.le_of_ble_eq_true rfl) dX6_sumAt_29 (st1 := [.int r29, .long u6_6]) rfl ⟨Nat.zero_le _, Nat.zero_le _⟩ (fun H locs hP hD hS => ?_)
        refine lv_i2l (pc := 32) hx hb (v := r29.toInt64) dX6_sumAt_32 rfl ?_
        refine lv_aload_n (pc := 33) hx hb dX6_sumAt_33 rfl (lv_at hl 3 rfl) ?_
        refine lv_iload (pc := 34) hx hb dX6_sumAt_34 (lv_at hl 7 rfl) ?_
        refine lv_aload_n (pc := 36) hx hb dX6_sumAt_36 rfl (lv_at hl 0 rfl) ?_
        refine vXgRX6_10_0 (pc := 37) hx hb hts mU_16 inU6 hown hK hP dX6_sumAt_37 ?_
        refine vXgRX6_64_1 (pc := 40) hx hb hts mU_112 inU4 hown hK hP (x := (gI S 1)) rfl dX6_sumAt_40 ?_
        refine lv_imul (pc := 43) hx hb dX6_sumAt_43 ?_
        refine lv_iload (pc := 44) hx hb dX6_sumAt_44 (lv_at hl 5 rfl) ?_
        refine lv_iadd (pc := 46) hx hb dX6_sumAt_46 ?_
        obtain ⟨r47, hc47, hq6⟩ := hf_b hq6
        refine cl_V (pc := 47) (As := [.int ((u8_6 * (gI S 1)) + a5)]) (rest := [.long r29.toInt64, .long u6_6]) hx hb hml hown hts (kX2_read_32 l D A B _ S ((u8_6 * (gI S 1)) + a5) r47 hc47) (cwV 1 hts gwRX6_258 rfl rfl rfl hdX2_read ⟨Nat.le_of_ble_eq_true rfl, Nat.le_of_ble_eq_true rfl⟩) hN hK hP hD hS hA (va_recv hK hP (ci := 2) (q0 := 32) rfl (eX_32 A B _)) rfl hl.1 rfl (Nat.le_of_ble_eq_true rfl) dX6_sumAt_47 (st1 := [.long r47, .long r29.toInt64, .long u6_6]) rfl ⟨Nat.zero_le _, Nat.zero_le _⟩ (fun H locs hP hD hS => ?_)
        refine lv_lmul (pc := 50) hx hb dX6_sumAt_50 ?_
        refine lv_ladd (pc := 51) hx hb dX6_sumAt_51 ?_
        refine lv_lstore (pc := 52) hx hb (lv' := [(6, .long (u6_6 + (r29.toInt64 * r47))), (0, .ref (A 0)), (1, .int a1), (2, .int a2), (3, .ref (A 32)), (4, .int a4), (5, .int a5), (8, .int u8_6)]) dX6_sumAt_52 hl (by decide) rfl (fun ls hl => ?_)
        refine lv_iinc (pc := 54) hx hb (v := u8_6 + 1) (lv' := [(8, .int (u8_6 + 1)), (6, .long (u6_6 + (r29.toInt64 * r47))), (0, .ref (A 0)), (1, .int a1), (2, .int a2), (3, .ref (A 32)), (4, .int a4), (5, .int a5)]) dX6_sumAt_54 hl (k := 7) rfl rfl (by decide) rfl (fun ls hl => ?_)
        refine lv_goto (pc := 57) hx hb (tgt := 6) dX6_sumAt_57 (by decide) ?_
        exact ih6 (u6_6 + (r29.toInt64 * r47)) (u8_6 + 1) H locs ls hq6 hP hD hS (lv_sub hl [2, 3, 4, 5, 6, 7, 1, 0] rfl)
  exact lp6 256 0 0 H locs ls hq6 hP hD hS (lv_sub hl [2, 3, 4, 5, 6, 7, 1, 0] rfl)
set_option maxHeartbeats 4000000 in
set_option maxRecDepth 100000 in
theorem kX6_firstWrong_32 (l : Launch) (D : va_G) (A : Nat → Nat) (B : Nat → ClassId) (sz : Nat) (S : w_S) (a1 : Int32) (a2 : Int32) (a4 : Int32) (z : Int32) (hf : fX6_firstWrong_32 S a1 a2 a4 = some z) : MetW l yX6_firstWrong (wsO yX6_firstWrong cX6_firstWrong 7 (some .int)) rm_X6_firstWrong [.ref (A 0), .int a1, .int a2, .ref (A 32), .int a4] D (tyB B) (wX A B S) (wX A B S) sz (some (.int z)) := by
  refine MetW.mkI (cc := cX6_firstWrong) (maxL := 7) (by decide) (Nat.le_of_ble_eq_true rfl) ?_
  intro p e s m args below meth c Ad Q hx hb hts hown hml hN hK hA hR H locs ls hP hD hS hl
  have hl : lv_has ls 7 [(0, .ref (A 0)), (1, .int a1), (2, .int a2), (3, .ref (A 32)), (4, .int a4)] := hl
  rw [fX6_firstWrong_32] at hf
  refine lv_iconst (pc := 0) hx hb (v := 0) dX6_firstWrong_0 (by decide) ?_
  refine lv_istore (pc := 1) hx hb (lv' := [(5, .int 0), (0, .ref (A 0)), (1, .int a1), (2, .int a2), (3, .ref (A 32)), (4, .int a4)]) dX6_firstWrong_1 hl (by decide) rfl (fun ls hl => ?_)
  have hk3 : ∀  (H : Heap) (locs : List Loc) (ls : Array Slot), some ((gI S 0) * (gI S 1)) = some z → va_P D vwCl (wX A B S) H → va_D Ad (wX A B S) → va_S Ad s.heap H locs → lv_has ls 7 [(0, .ref (A 0))] → W p l e rm_X6_firstWrong s m args below meth c H locs 0 0 Q (F0 m 88 ls []) := by
    intro  H locs ls hf hP hD hS hl
    refine lv_aload_n (pc := 88) hx hb dX6_firstWrong_88 rfl (lv_at hl 0 rfl) ?_
    refine vXgRX6_10_0 (pc := 89) hx hb hts mU_16 inU6 hown hK hP dX6_firstWrong_89 ?_
    refine vXgRX6_60_1 (pc := 92) hx hb hts mU_111 inU4 hown hK hP (x := (gI S 0)) rfl dX6_firstWrong_92 ?_
    refine lv_aload_n (pc := 95) hx hb dX6_firstWrong_95 rfl (lv_at hl 0 rfl) ?_
    refine vXgRX6_10_0 (pc := 96) hx hb hts mU_16 inU6 hown hK hP dX6_firstWrong_96 ?_
    refine vXgRX6_64_1 (pc := 99) hx hb hts mU_112 inU4 hown hK hP (x := (gI S 1)) rfl dX6_firstWrong_99 ?_
    refine lv_imul (pc := 102) hx hb dX6_firstWrong_102 ?_
    obtain rfl := Option.some.inj hf
    exact hR H locs 103 ls hP hD hS dX6_firstWrong_103
  have lp3 : ∀ (n : Nat) (u5_3 : Int32) (H : Heap) (locs : List Loc) (ls : Array Slot), fX6_firstWrong_32_L3 (some ((gI S 0) * (gI S 1))) S a1 a2 a4 n u5_3 = some z → va_P D vwCl (wX A B S) H → va_D Ad (wX A B S) → va_S Ad s.heap H locs → lv_has ls 7 [(0, .ref (A 0)), (1, .int a1), (2, .int a2), (3, .ref (A 32)), (4, .int a4), (5, .int u5_3)] → W p l e rm_X6_firstWrong s m args below meth c H locs 0 0 Q (F0 m 3 ls []) := by
    intro n3
    induction n3 with
    | zero => intro u5_3 H locs ls hf; exact hf_0 hf
    | succ n3 ih3 =>
      intro u5_3 H locs ls hf hP hD hS hl
      rw [fX6_firstWrong_32_L3] at hf
      refine lv_iload (pc := 3) hx hb dX6_firstWrong_3 (lv_at hl 5 rfl) ?_
      refine lv_aload_n (pc := 5) hx hb dX6_firstWrong_5 rfl (lv_at hl 0 rfl) ?_
      refine vXgRX6_10_0 (pc := 6) hx hb hts mU_16 inU6 hown hK hP dX6_firstWrong_6 ?_
      refine vXgRX6_60_1 (pc := 9) hx hb hts mU_111 inU4 hown hK hP (x := (gI S 0)) rfl dX6_firstWrong_9 ?_
      refine lv_icmp_ge (pc := 12) hx hb (tgt := 88) dX6_firstWrong_12 (by decide) (fun c_12 => ?_) (fun c_12 => ?_)
      · have hf := hf_t c_12 hf
        exact hk3  H locs ls hf hP hD hS (lv_sub hl [0] rfl)
      · have hf := hf_f c_12 hf
        refine lv_iconst (pc := 15) hx hb (v := 0) dX6_firstWrong_15 (by decide) ?_
        refine lv_istore (pc := 16) hx hb (lv' := [(6, .int 0), (0, .ref (A 0)), (1, .int a1), (2, .int a2), (3, .ref (A 32)), (4, .int a4), (5, .int u5_3)]) dX6_firstWrong_16 hl (by decide) rfl (fun ls hl => ?_)
        have hk18 : ∀  (H : Heap) (locs : List Loc) (ls : Array Slot), fX6_firstWrong_32_L3 (some ((gI S 0) * (gI S 1))) S a1 a2 a4 n3 (u5_3 + 1) = some z → va_P D vwCl (wX A B S) H → va_D Ad (wX A B S) → va_S Ad s.heap H locs → lv_has ls 7 [(0, .ref (A 0)), (1, .int a1), (2, .int a2), (3, .ref (A 32)), (4, .int a4), (5, .int u5_3)] → W p l e rm_X6_firstWrong s m args below meth c H locs 0 0 Q (F0 m 82 ls []) := by
          intro  H locs ls hf hP hD hS hl
          refine lv_iinc (pc := 82) hx hb (v := u5_3 + 1) (lv' := [(5, .int (u5_3 + 1)), (0, .ref (A 0)), (1, .int a1), (2, .int a2), (3, .ref (A 32)), (4, .int a4)]) dX6_firstWrong_82 hl (k := 5) rfl rfl (by decide) rfl (fun ls hl => ?_)
          refine lv_goto (pc := 85) hx hb (tgt := 3) dX6_firstWrong_85 (by decide) ?_
          exact ih3 (u5_3 + 1) H locs ls hf hP hD hS (lv_sub hl [1, 2, 3, 4, 5, 0] rfl)
        have lp18 : ∀ (n : Nat) (u6_18 : Int32) (H : Heap) (locs : List Loc) (ls : Array Slot), fX6_firstWrong_32_L18 (fX6_firstWrong_32_L3 (some ((gI S 0) * (gI S 1))) S a1 a2 a4 n3 (u5_3 + 1)) S a1 a2 a4 u5_3 n u6_18 = some z → va_P D vwCl (wX A B S) H → va_D Ad (wX A B S) → va_S Ad s.heap H locs → lv_has ls 7 [(0, .ref (A 0)), (1, .int a1), (2, .int a2), (3, .ref (A 32)), (4, .int a4), (5, .int u5_3), (6, .int u6_18)] → W p l e rm_X6_firstWrong s m args below meth c H locs 0 0 Q (F0 m 18 ls []) := by
          intro n18
          induction n18 with
          | zero => intro u6_18 H locs ls hf; exact hf_0 hf
          | succ n18 ih18 =>
            intro u6_18 H locs ls hf hP hD hS hl
            rw [fX6_firstWrong_32_L18] at hf
            refine lv_iload (pc := 18) hx hb dX6_firstWrong_18 (lv_at hl 6 rfl) ?_
            refine lv_aload_n (pc := 20) hx hb dX6_firstWrong_20 rfl (lv_at hl 0 rfl) ?_
            refine vXgRX6_10_0 (pc := 21) hx hb hts mU_16 inU6 hown hK hP dX6_firstWrong_21 ?_
            refine vXgRX6_64_1 (pc := 24) hx hb hts mU_112 inU4 hown hK hP (x := (gI S 1)) rfl dX6_firstWrong_24 ?_
            refine lv_icmp_ge (pc := 27) hx hb (tgt := 82) dX6_firstWrong_27 (by decide) (fun c_27 => ?_) (fun c_27 => ?_)
            · have hf := hf_t c_27 hf
              exact hk18  H locs ls hf hP hD hS (lv_sub hl [0, 1, 2, 3, 4, 5] rfl)
            · have hf := hf_f c_27 hf
              refine lv_aload_n (pc := 30) hx hb dX6_firstWrong_30 rfl (lv_at hl 0 rfl) ?_
              refine lv_iload_n (pc := 31) hx hb dX6_firstWrong_31 rfl (lv_at hl 1 rfl) ?_
              refine lv_iload_n (pc := 32) hx hb dX6_firstWrong_32 rfl (lv_at hl 2 rfl) ?_
              refine lv_aload_n (pc := 33) hx hb dX6_firstWrong_33 rfl (lv_at hl 3 rfl) ?_
              refine lv_iload (pc := 34) hx hb dX6_firstWrong_34 (lv_at hl 5 rfl) ?_
              refine lv_iload (pc := 36) hx hb dX6_firstWrong_36 (lv_at hl 6 rfl) ?_
              obtain ⟨r38, hc38, hf⟩ := hf_b hf
              refine cl_V (pc := 38) (As := [.int a1, .int a2, .ref (A 32), .int u5_3, .int u6_18]) (rest := []) hx hb hml hown hts (kX6_sumAt_32 l D A B _ S a1 a2 u5_3 u6_18 r38 hc38) (cwV 5 hts gwRX6_355 rfl rfl rfl hdX6_sumAt ⟨Nat.le_of_ble_eq_true rfl, Nat.le_of_ble_eq_true rfl⟩) hN hK hP hD hS hA (va_recv hK hP (ci := 6) (q0 := 0) rfl (eX_0 A B _)) rfl hl.1 rfl (Nat.le_of_ble_eq_true rfl) dX6_firstWrong_38 (st1 := [.long r38]) rfl ⟨Nat.zero_le _, Nat.zero_le _⟩ (fun H locs hP hD hS => ?_)
              refine lv_iload (pc := 41) hx hb dX6_firstWrong_41 (lv_at hl 4 rfl) ?_
              refine lv_i2l (pc := 43) hx hb (v := a4.toInt64) dX6_firstWrong_43 rfl ?_
              refine lv_aload_n (pc := 44) hx hb dX6_firstWrong_44 rfl (lv_at hl 0 rfl) ?_
              refine vXgRX6_10_0 (pc := 45) hx hb hts mU_16 inU6 hown hK hP dX6_firstWrong_45 ?_
              refine lv_iconst (pc := 48) hx hb (v := 2) dX6_firstWrong_48 (by decide) ?_
              refine lv_iload (pc := 49) hx hb dX6_firstWrong_49 (lv_at hl 5 rfl) ?_
              refine lv_iload (pc := 51) hx hb dX6_firstWrong_51 (lv_at hl 6 rfl) ?_
              obtain ⟨r53, hc53, hf⟩ := hf_b hf
              refine cl_V (pc := 53) (As := [.int 2, .int u5_3, .int u6_18]) (rest := [.long a4.toInt64, .long r38]) hx hb hml hown hts (kX4_entry_1 l D A B _ S 2 u5_3 u6_18 r53 hc53) (cwV 3 hts gwRX6_79 rfl rfl rfl hdX4_entry ⟨Nat.le_of_ble_eq_true rfl, Nat.le_of_ble_eq_true rfl⟩) hN hK hP hD hS hA (va_recv hK hP (ci := 4) (q0 := 1) rfl (eX_1 A B _)) rfl hl.1 rfl (Nat.le_of_ble_eq_true rfl) dX6_firstWrong_53 (st1 := [.int r53, .long a4.toInt64, .long r38]) rfl ⟨Nat.zero_le _, Nat.zero_le _⟩ (fun H locs hP hD hS => ?_)
              refine lv_i2l (pc := 56) hx hb (v := r53.toInt64) dX6_firstWrong_56 rfl ?_
              refine lv_lmul (pc := 57) hx hb dX6_firstWrong_57 ?_
              refine W.lcmp (pc := 58) hx hb dX6_firstWrong_58 ?_
              refine lv_if_eq (pc := 59) hx hb (tgt := 76) dX6_firstWrong_59 (by decide) (fun c_59 => ?_) (fun c_59 => ?_)
              · have c_59 := lg_eq0.mp c_59
                have hf := hf_t c_59 hf
                refine lv_iinc (pc := 76) hx hb (v := u6_18 + 1) (lv' := [(6, .int (u6_18 + 1)), (0, .ref (A 0)), (1, .int a1), (2, .int a2), (3, .ref (A 32)), (4, .int a4), (5, .int u5_3)]) dX6_firstWrong_76 hl (k := 6) rfl rfl (by decide) rfl (fun ls hl => ?_)
                refine lv_goto (pc := 79) hx hb (tgt := 18) dX6_firstWrong_79 (by decide) ?_
                exact ih18 (u6_18 + 1) H locs ls hf hP hD hS (lv_sub hl [1, 2, 3, 4, 5, 6, 0] rfl)
              · have c_59 := fun h9 => c_59 (lg_eq0.mpr h9)
                have hf := hf_f c_59 hf
                refine lv_iload (pc := 62) hx hb dX6_firstWrong_62 (lv_at hl 5 rfl) ?_
                refine lv_aload_n (pc := 64) hx hb dX6_firstWrong_64 rfl (lv_at hl 0 rfl) ?_
                refine vXgRX6_10_0 (pc := 65) hx hb hts mU_16 inU6 hown hK hP dX6_firstWrong_65 ?_
                refine vXgRX6_64_1 (pc := 68) hx hb hts mU_112 inU4 hown hK hP (x := (gI S 1)) rfl dX6_firstWrong_68 ?_
                refine lv_imul (pc := 71) hx hb dX6_firstWrong_71 ?_
                refine lv_iload (pc := 72) hx hb dX6_firstWrong_72 (lv_at hl 6 rfl) ?_
                refine lv_iadd (pc := 74) hx hb dX6_firstWrong_74 ?_
                obtain rfl := Option.some.inj hf
                exact hR H locs 75 ls hP hD hS dX6_firstWrong_75
        exact lp18 256 0 H locs ls hf hP hD hS (lv_sub hl [1, 2, 3, 4, 5, 6, 0] rfl)
  exact lp3 256 0 H locs ls hf hP hD hS (lv_sub hl [1, 2, 3, 4, 5, 0] rfl)
set_option maxHeartbeats 4000000 in
set_option maxRecDepth 100000 in
theorem kX2_read_34 (l : Launch) (D : va_G) (A : Nat → Nat) (B : Nat → ClassId) (sz : Nat) (S : w_S) (a1 : Int32) (z : Int64) (hf : fX2_read_34 S a1 = some z) : MetW l yX2_read (wsO yX2_read cX2_read 2 (some .long)) rm_X2_read [.ref (A 34), .int a1] D (tyB B) (wX A B S) (wX A B S) sz (some (.long z)) := by
  refine MetW.mkL (cc := cX2_read) (maxL := 2) (by decide) (Nat.le_of_ble_eq_true rfl) ?_
  intro p e s m args below meth c Ad Q hx hb hts hown hml hN hK hA hR H locs ls hP hD hS hl
  have hl : lv_has ls 2 [(0, .ref (A 34)), (1, .int a1)] := hl
  rw [fX2_read_34] at hf
  refine lv_iload_n (pc := 0) hx hb dX2_read_0 rfl (lv_at hl 1 rfl) ?_
  refine lv_if_lt (pc := 1) hx hb (tgt := 27) dX2_read_1 (by decide) (fun c_1 => ?_) (fun c_1 => ?_)
  · have hf := hf_t c_1 hf
    refine lv_lconst (pc := 27) hx hb (v := 0) dX2_read_27 (by decide) ?_
    obtain rfl := Option.some.inj hf
    exact hR H locs 28 ls hP hD hS dX2_read_28
  · have hf := hf_f c_1 hf
    refine lv_iload_n (pc := 4) hx hb dX2_read_4 rfl (lv_at hl 1 rfl) ?_
    refine lv_aload_n (pc := 5) hx hb dX2_read_5 rfl (lv_at hl 0 rfl) ?_
    refine vXgRX2_28_34 (pc := 6) hx hb hts mU_767 inU2 hown hK hP (x := (gI S 33)) rfl dX2_read_6 ?_
    refine lv_icmp_ge (pc := 9) hx hb (tgt := 27) dX2_read_9 (by decide) (fun c_9 => ?_) (fun c_9 => ?_)
    · have hf := hf_t c_9 hf
      refine lv_lconst (pc := 27) hx hb (v := 0) dX2_read_27 (by decide) ?_
      obtain rfl := Option.some.inj hf
      exact hR H locs 28 ls hP hD hS dX2_read_28
    · have hf := hf_f c_9 hf
      refine lv_iload_n (pc := 12) hx hb dX2_read_12 rfl (lv_at hl 1 rfl) ?_
      refine lv_bipush (pc := 13) hx hb (v := 40) dX2_read_13 (by decide) ?_
      refine lv_icmp_ge (pc := 15) hx hb (tgt := 27) dX2_read_15 (by decide) (fun c_15 => ?_) (fun c_15 => ?_)
      · have hf := hf_t c_15 hf
        refine lv_lconst (pc := 27) hx hb (v := 0) dX2_read_27 (by decide) ?_
        obtain rfl := Option.some.inj hf
        exact hR H locs 28 ls hP hD hS dX2_read_28
      · have hf := hf_f c_15 hf
        refine lv_aload_n (pc := 18) hx hb dX2_read_18 rfl (lv_at hl 0 rfl) ?_
        refine vXgRX2_15_34 (pc := 19) hx hb hts mU_72 inU2 hown hK hP dX2_read_19 ?_
        refine lv_iload_n (pc := 22) hx hb dX2_read_22 rfl (lv_at hl 1 rfl) ?_
        obtain ⟨hg23, hf⟩ := hf_g hf
        refine vXra_35 (pc := 23) hx hb hK hP (f := (gB S 4)) rfl hg23 dX2_read_23 ?_
        refine lv_goto (pc := 24) hx hb (tgt := 28) dX2_read_24 (by decide) ?_
        obtain rfl := Option.some.inj hf
        exact hR H locs 28 ls hP hD hS dX2_read_28
set_option maxHeartbeats 4000000 in
set_option maxRecDepth 100000 in
theorem kX6_sumAt_34 (l : Launch) (D : va_G) (A : Nat → Nat) (B : Nat → ClassId) (sz : Nat) (S : w_S) (a1 : Int32) (a2 : Int32) (a4 : Int32) (a5 : Int32) (z : Int64) (hf : fX6_sumAt_34 S a1 a2 a4 a5 = some z) : MetW l yX6_sumAt (wsO yX6_sumAt cX6_sumAt 9 (some .long)) rm_X6_sumAt [.ref (A 0), .int a1, .int a2, .ref (A 34), .int a4, .int a5] D (tyB B) (wX A B S) (wX A B S) sz (some (.long z)) := by
  refine MetW.mkL (cc := cX6_sumAt) (maxL := 9) (by decide) (Nat.le_of_ble_eq_true rfl) ?_
  intro p e s m args below meth c Ad Q hx hb hts hown hml hN hK hA hR H locs ls hP hD hS hl
  have hl : lv_has ls 9 [(0, .ref (A 0)), (1, .int a1), (2, .int a2), (3, .ref (A 34)), (4, .int a4), (5, .int a5)] := hl
  rw [fX6_sumAt_34] at hf
  refine lv_lconst (pc := 0) hx hb (v := 0) dX6_sumAt_0 (by decide) ?_
  refine lv_lstore (pc := 1) hx hb (lv' := [(6, .long 0), (0, .ref (A 0)), (1, .int a1), (2, .int a2), (3, .ref (A 34)), (4, .int a4), (5, .int a5)]) dX6_sumAt_1 hl (by decide) rfl (fun ls hl => ?_)
  refine lv_iconst (pc := 3) hx hb (v := 0) dX6_sumAt_3 (by decide) ?_
  refine lv_istore (pc := 4) hx hb (lv' := [(8, .int 0), (6, .long 0), (0, .ref (A 0)), (1, .int a1), (2, .int a2), (3, .ref (A 34)), (4, .int a4), (5, .int a5)]) dX6_sumAt_4 hl (by decide) rfl (fun ls hl => ?_)
  obtain ⟨q6, hq6, hf⟩ := hf_b hf
  have hk6 : ∀ (H : Heap) (locs : List Loc) (ls : Array Slot), va_P D vwCl (wX A B S) H → va_D Ad (wX A B S) → va_S Ad s.heap H locs → lv_has ls 9 [(0, .ref (A 0)), (1, .int a1), (3, .ref (A 34)), (4, .int a4), (5, .int a5), (6, .long q6)] → W p l e rm_X6_sumAt s m args below meth c H locs 0 0 Q (F0 m 60 ls []) := by
    intro H locs ls hP hD hS hl
    refine lv_iconst (pc := 60) hx hb (v := 0) dX6_sumAt_60 (by decide) ?_
    refine lv_istore (pc := 61) hx hb (lv' := [(8, .int 0), (0, .ref (A 0)), (1, .int a1), (3, .ref (A 34)), (4, .int a4), (5, .int a5), (6, .long q6)]) dX6_sumAt_61 hl (by decide) rfl (fun ls hl => ?_)
    obtain ⟨q63, hq63, hf⟩ := hf_b hf
    have hk63 : ∀ (H : Heap) (locs : List Loc) (ls : Array Slot), va_P D vwCl (wX A B S) H → va_D Ad (wX A B S) → va_S Ad s.heap H locs → lv_has ls 9 [(6, .long q63)] → W p l e rm_X6_sumAt s m args below meth c H locs 0 0 Q (F0 m 117 ls []) := by
      intro H locs ls hP hD hS hl
      refine lv_lload (pc := 117) hx hb dX6_sumAt_117 (lv_at hl 0 rfl) ?_
      obtain rfl := Option.some.inj hf
      exact hR H locs 119 ls hP hD hS dX6_sumAt_119
    have lp63 : ∀ (n : Nat) (u6_63 : Int64) (u8_63 : Int32) (H : Heap) (locs : List Loc) (ls : Array Slot), fX6_sumAt_34_L63 S a1 a4 a5 n u6_63 u8_63 = some q63 → va_P D vwCl (wX A B S) H → va_D Ad (wX A B S) → va_S Ad s.heap H locs → lv_has ls 9 [(0, .ref (A 0)), (1, .int a1), (3, .ref (A 34)), (4, .int a4), (5, .int a5), (6, .long u6_63), (8, .int u8_63)] → W p l e rm_X6_sumAt s m args below meth c H locs 0 0 Q (F0 m 63 ls []) := by
      intro n63
      induction n63 with
      | zero => intro u6_63 u8_63 H locs ls hq63; exact hf_0 hq63
      | succ n63 ih63 =>
        intro u6_63 u8_63 H locs ls hq63 hP hD hS hl
        rw [fX6_sumAt_34_L63] at hq63
        refine lv_iload (pc := 63) hx hb dX6_sumAt_63 (lv_at hl 6 rfl) ?_
        refine lv_aload_n (pc := 65) hx hb dX6_sumAt_65 rfl (lv_at hl 0 rfl) ?_
        refine vXgRX6_10_0 (pc := 66) hx hb hts mU_16 inU6 hown hK hP dX6_sumAt_66 ?_
        refine vXgRX6_64_1 (pc := 69) hx hb hts mU_112 inU4 hown hK hP (x := (gI S 1)) rfl dX6_sumAt_69 ?_
        refine lv_icmp_ge (pc := 72) hx hb (tgt := 117) dX6_sumAt_72 (by decide) (fun c_72 => ?_) (fun c_72 => ?_)
        · have hq63 := hf_t c_72 hq63
          obtain rfl := Option.some.inj hq63
          exact hk63 H locs ls hP hD hS (lv_sub hl [5] rfl)
        · have hq63 := hf_f c_72 hq63
          refine lv_lload (pc := 75) hx hb dX6_sumAt_75 (lv_at hl 5 rfl) ?_
          refine lv_aload_n (pc := 77) hx hb dX6_sumAt_77 rfl (lv_at hl 2 rfl) ?_
          refine lv_iload (pc := 78) hx hb dX6_sumAt_78 (lv_at hl 3 rfl) ?_
          refine lv_aload_n (pc := 80) hx hb dX6_sumAt_80 rfl (lv_at hl 0 rfl) ?_
          refine vXgRX6_10_0 (pc := 81) hx hb hts mU_16 inU6 hown hK hP dX6_sumAt_81 ?_
          refine vXgRX6_64_1 (pc := 84) hx hb hts mU_112 inU4 hown hK hP (x := (gI S 1)) rfl dX6_sumAt_84 ?_
          refine lv_imul (pc := 87) hx hb dX6_sumAt_87 ?_
          refine lv_iload (pc := 88) hx hb dX6_sumAt_88 (lv_at hl 6 rfl) ?_
          refine lv_iadd (pc := 90) hx hb dX6_sumAt_90 ?_
          obtain ⟨r91, hc91, hq63⟩ := hf_b hq63
          refine cl_V (pc := 91) (As := [.int ((a4 * (gI S 1)) + u8_63)]) (rest := [.long u6_63]) hx hb hml hown hts (kX2_read_34 l D A B _ S ((a4 * (gI S 1)) + u8_63) r91 hc91) (cwV 1 hts gwRX6_258 rfl rfl rfl hdX2_read ⟨Nat.le_of_ble_eq_true rfl, Nat.le_of_ble_eq_true rfl⟩) hN hK hP hD hS hA (va_recv hK hP (ci := 2) (q0 := 34) rfl (eX_34 A B _)) rfl hl.1 rfl (Nat.le_of_ble_eq_true rfl) dX6_sumAt_91 (st1 := [.long r91, .long u6_63]) rfl ⟨Nat.zero_le _, Nat.zero_le _⟩ (fun H locs hP hD hS => ?_)
          refine lv_aload_n (pc := 94) hx hb dX6_sumAt_94 rfl (lv_at hl 0 rfl) ?_
          refine vXgRX6_10_0 (pc := 95) hx hb hts mU_16 inU6 hown hK hP dX6_sumAt_95 ?_
          refine lv_iload_n (pc := 98) hx hb dX6_sumAt_98 rfl (lv_at hl 1 rfl) ?_
          refine lv_iload (pc := 99) hx hb dX6_sumAt_99 (lv_at hl 6 rfl) ?_
          refine lv_iload (pc := 101) hx hb dX6_sumAt_101 (lv_at hl 4 rfl) ?_
          obtain ⟨r103, hc103, hq63⟩ := hf_b hq63
          refine cl_V (pc := 103) (As := [.int a1, .int u8_63, .int a5]) (rest := [.long r91, .long u6_63]) hx hb hml hown hts (kX4_rightEntry_1 l D A B _ S a1 u8_63 a5 r103 hc103) (cwV 3 hts gwRX6_162 rfl rfl rfl hdX4_rightEntry ⟨Nat.le_of_ble_eq_true rfl, Nat.le_of_ble_eq_true rfl⟩) hN hK hP hD hS hA (va_recv hK hP (ci := 4) (q0 := 1) rfl (eX_1 A B _)) rfl hl.1 rfl (Nat.le_of_ble_eq_true rfl) dX6_sumAt_103 (st1 := [.int r103, .long r91, .long u6_63]) rfl ⟨Nat.zero_le _, Nat.zero_le _⟩ (fun H locs hP hD hS => ?_)
          refine lv_i2l (pc := 106) hx hb (v := r103.toInt64) dX6_sumAt_106 rfl ?_
          refine lv_lmul (pc := 107) hx hb dX6_sumAt_107 ?_
          refine lv_ladd (pc := 108) hx hb dX6_sumAt_108 ?_
          refine lv_lstore (pc := 109) hx hb (lv' := [(6, .long (u6_63 + (r91 * r103.toInt64))), (0, .ref (A 0)), (1, .int a1), (3, .ref (A 34)), (4, .int a4), (5, .int a5), (8, .int u8_63)]) dX6_sumAt_109 hl (by decide) rfl (fun ls hl => ?_)
          refine lv_iinc (pc := 111) hx hb (v := u8_63 + 1) (lv' := [(8, .int (u8_63 + 1)), (6, .long (u6_63 + (r91 * r103.toInt64))), (0, .ref (A 0)), (1, .int a1), (3, .ref (A 34)), (4, .int a4), (5, .int a5)]) dX6_sumAt_111 hl (k := 6) rfl rfl (by decide) rfl (fun ls hl => ?_)
          refine lv_goto (pc := 114) hx hb (tgt := 63) dX6_sumAt_114 (by decide) ?_
          exact ih63 (u6_63 + (r91 * r103.toInt64)) (u8_63 + 1) H locs ls hq63 hP hD hS (lv_sub hl [2, 3, 4, 5, 6, 1, 0] rfl)
    exact lp63 256 q6 0 H locs ls hq63 hP hD hS (lv_sub hl [1, 2, 3, 4, 5, 6, 0] rfl)
  have lp6 : ∀ (n : Nat) (u6_6 : Int64) (u8_6 : Int32) (H : Heap) (locs : List Loc) (ls : Array Slot), fX6_sumAt_34_L6 S a1 a2 a4 a5 n u6_6 u8_6 = some q6 → va_P D vwCl (wX A B S) H → va_D Ad (wX A B S) → va_S Ad s.heap H locs → lv_has ls 9 [(0, .ref (A 0)), (1, .int a1), (2, .int a2), (3, .ref (A 34)), (4, .int a4), (5, .int a5), (6, .long u6_6), (8, .int u8_6)] → W p l e rm_X6_sumAt s m args below meth c H locs 0 0 Q (F0 m 6 ls []) := by
    intro n6
    induction n6 with
    | zero => intro u6_6 u8_6 H locs ls hq6; exact hf_0 hq6
    | succ n6 ih6 =>
      intro u6_6 u8_6 H locs ls hq6 hP hD hS hl
      rw [fX6_sumAt_34_L6] at hq6
      refine lv_iload (pc := 6) hx hb dX6_sumAt_6 (lv_at hl 7 rfl) ?_
      refine lv_aload_n (pc := 8) hx hb dX6_sumAt_8 rfl (lv_at hl 0 rfl) ?_
      refine vXgRX6_10_0 (pc := 9) hx hb hts mU_16 inU6 hown hK hP dX6_sumAt_9 ?_
      refine vXgRX6_60_1 (pc := 12) hx hb hts mU_111 inU4 hown hK hP (x := (gI S 0)) rfl dX6_sumAt_12 ?_
      refine lv_icmp_ge (pc := 15) hx hb (tgt := 60) dX6_sumAt_15 (by decide) (fun c_15 => ?_) (fun c_15 => ?_)
      · have hq6 := hf_t c_15 hq6
        obtain rfl := Option.some.inj hq6
        exact hk6 H locs ls hP hD hS (lv_sub hl [0, 1, 3, 4, 5, 6] rfl)
      · have hq6 := hf_f c_15 hq6
        refine lv_lload (pc := 18) hx hb dX6_sumAt_18 (lv_at hl 6 rfl) ?_
        refine lv_aload_n (pc := 20) hx hb dX6_sumAt_20 rfl (lv_at hl 0 rfl) ?_
        refine vXgRX6_10_0 (pc := 21) hx hb hts mU_16 inU6 hown hK hP dX6_sumAt_21 ?_
        refine lv_iload_n (pc := 24) hx hb dX6_sumAt_24 rfl (lv_at hl 2 rfl) ?_
        refine lv_iload (pc := 25) hx hb dX6_sumAt_25 (lv_at hl 4 rfl) ?_
        refine lv_iload (pc := 27) hx hb dX6_sumAt_27 (lv_at hl 7 rfl) ?_
        obtain ⟨r29, hc29, hq6⟩ := hf_b hq6
        refine cl_V (pc := 29) (As := [.int a2, .int a4, .int u8_6]) (rest := [.long u6_6]) hx hb hml hown hts (kX4_leftEntry_1 l D A B _ S a2 a4 u8_6 r29 hc29) (cwV 3 hts gwRX6_348 rfl rfl rfl hdX4_leftEntry ⟨Nat.le_of_ble_eq_true rfl, Nat.le_of_ble_eq_true rfl⟩) hN hK hP hD hS hA (va_recv hK hP (ci := 4) (q0 := 1) rfl (eX_1 A B _)) rfl hl.1 rfl (Nat.le_of_ble_eq_true rfl) dX6_sumAt_29 (st1 := [.int r29, .long u6_6]) rfl ⟨Nat.zero_le _, Nat.zero_le _⟩ (fun H locs hP hD hS => ?_)
        refine lv_i2l (pc := 32) hx hb (v := r29.toInt64) dX6_sumAt_32 rfl ?_
        refine lv_aload_n (pc := 33) hx hb dX6_sumAt_33 rfl (lv_at hl 3 rfl) ?_
        refine lv_iload (pc := 34) hx hb dX6_sumAt_34 (lv_at hl 7 rfl) ?_
        refine lv_aload_n (pc := 36) hx hb dX6_sumAt_36 rfl (lv_at hl 0 rfl) ?_
        refine vXgRX6_10_0 (pc := 37) hx hb hts mU_16 inU6 hown hK hP dX6_sumAt_37 ?_
        refine vXgRX6_64_1 (pc := 40) hx hb hts mU_112 inU4 hown hK hP (x := (gI S 1)) rfl dX6_sumAt_40 ?_
        refine lv_imul (pc := 43) hx hb dX6_sumAt_43 ?_
        refine lv_iload (pc := 44) hx hb dX6_sumAt_44 (lv_at hl 5 rfl) ?_
        refine lv_iadd (pc := 46) hx hb dX6_sumAt_46 ?_
        obtain ⟨r47, hc47, hq6⟩ := hf_b hq6
        refine cl_V (pc := 47) (As := [.int ((u8_6 * (gI S 1)) + a5)]) (rest := [.long r29.toInt64, .long u6_6]) hx hb hml hown hts (kX2_read_34 l D A B _ S ((u8_6 * (gI S 1)) + a5) r47 hc47) (cwV 1 hts gwRX6_258 rfl rfl rfl hdX2_read ⟨Nat.le_of_ble_eq_true rfl, Nat.le_of_ble_eq_true rfl⟩) hN hK hP hD hS hA (va_recv hK hP (ci := 2) (q0 := 34) rfl (eX_34 A B _)) rfl hl.1 rfl (Nat.le_of_ble_eq_true rfl) dX6_sumAt_47 (st1 := [.long r47, .long r29.toInt64, .long u6_6]) rfl ⟨Nat.zero_le _, Nat.zero_le _⟩ (fun H locs hP hD hS => ?_)
        refine lv_lmul (pc := 50) hx hb dX6_sumAt_50 ?_
        refine lv_ladd (pc := 51) hx hb dX6_sumAt_51 ?_
        refine lv_lstore (pc := 52) hx hb (lv' := [(6, .long (u6_6 + (r29.toInt64 * r47))), (0, .ref (A 0)), (1, .int a1), (2, .int a2), (3, .ref (A 34)), (4, .int a4), (5, .int a5), (8, .int u8_6)]) dX6_sumAt_52 hl (by decide) rfl (fun ls hl => ?_)
        refine lv_iinc (pc := 54) hx hb (v := u8_6 + 1) (lv' := [(8, .int (u8_6 + 1)), (6, .long (u6_6 + (r29.toInt64 * r47))), (0, .ref (A 0)), (1, .int a1), (2, .int a2), (3, .ref (A 34)), (4, .int a4), (5, .int a5)]) dX6_sumAt_54 hl (k := 7) rfl rfl (by decide) rfl (fun ls hl => ?_)
        refine lv_goto (pc := 57) hx hb (tgt := 6) dX6_sumAt_57 (by decide) ?_
        exact ih6 (u6_6 + (r29.toInt64 * r47)) (u8_6 + 1) H locs ls hq6 hP hD hS (lv_sub hl [2, 3, 4, 5, 6, 7, 1, 0] rfl)
  exact lp6 256 0 0 H locs ls hq6 hP hD hS (lv_sub hl [2, 3, 4, 5, 6, 7, 1, 0] rfl)
set_option maxHeartbeats 4000000 in
set_option maxRecDepth 100000 in
theorem kX6_firstWrong_34 (l : Launch) (D : va_G) (A : Nat → Nat) (B : Nat → ClassId) (sz : Nat) (S : w_S) (a1 : Int32) (a2 : Int32) (a4 : Int32) (z : Int32) (hf : fX6_firstWrong_34 S a1 a2 a4 = some z) : MetW l yX6_firstWrong (wsO yX6_firstWrong cX6_firstWrong 7 (some .int)) rm_X6_firstWrong [.ref (A 0), .int a1, .int a2, .ref (A 34), .int a4] D (tyB B) (wX A B S) (wX A B S) sz (some (.int z)) := by
  refine MetW.mkI (cc := cX6_firstWrong) (maxL := 7) (by decide) (Nat.le_of_ble_eq_true rfl) ?_
  intro p e s m args below meth c Ad Q hx hb hts hown hml hN hK hA hR H locs ls hP hD hS hl
  have hl : lv_has ls 7 [(0, .ref (A 0)), (1, .int a1), (2, .int a2), (3, .ref (A 34)), (4, .int a4)] := hl
  rw [fX6_firstWrong_34] at hf
  refine lv_iconst (pc := 0) hx hb (v := 0) dX6_firstWrong_0 (by decide) ?_
  refine lv_istore (pc := 1) hx hb (lv' := [(5, .int 0), (0, .ref (A 0)), (1, .int a1), (2, .int a2), (3, .ref (A 34)), (4, .int a4)]) dX6_firstWrong_1 hl (by decide) rfl (fun ls hl => ?_)
  have hk3 : ∀  (H : Heap) (locs : List Loc) (ls : Array Slot), some ((gI S 0) * (gI S 1)) = some z → va_P D vwCl (wX A B S) H → va_D Ad (wX A B S) → va_S Ad s.heap H locs → lv_has ls 7 [(0, .ref (A 0))] → W p l e rm_X6_firstWrong s m args below meth c H locs 0 0 Q (F0 m 88 ls []) := by
    intro  H locs ls hf hP hD hS hl
    refine lv_aload_n (pc := 88) hx hb dX6_firstWrong_88 rfl (lv_at hl 0 rfl) ?_
    refine vXgRX6_10_0 (pc := 89) hx hb hts mU_16 inU6 hown hK hP dX6_firstWrong_89 ?_
    refine vXgRX6_60_1 (pc := 92) hx hb hts mU_111 inU4 hown hK hP (x := (gI S 0)) rfl dX6_firstWrong_92 ?_
    refine lv_aload_n (pc := 95) hx hb dX6_firstWrong_95 rfl (lv_at hl 0 rfl) ?_
    refine vXgRX6_10_0 (pc := 96) hx hb hts mU_16 inU6 hown hK hP dX6_firstWrong_96 ?_
    refine vXgRX6_64_1 (pc := 99) hx hb hts mU_112 inU4 hown hK hP (x := (gI S 1)) rfl dX6_firstWrong_99 ?_
    refine lv_imul (pc := 102) hx hb dX6_firstWrong_102 ?_
    obtain rfl := Option.some.inj hf
    exact hR H locs 103 ls hP hD hS dX6_firstWrong_103
  have lp3 : ∀ (n : Nat) (u5_3 : Int32) (H : Heap) (locs : List Loc) (ls : Array Slot), fX6_firstWrong_34_L3 (some ((gI S 0) * (gI S 1))) S a1 a2 a4 n u5_3 = some z → va_P D vwCl (wX A B S) H → va_D Ad (wX A B S) → va_S Ad s.heap H locs → lv_has ls 7 [(0, .ref (A 0)), (1, .int a1), (2, .int a2), (3, .ref (A 34)), (4, .int a4), (5, .int u5_3)] → W p l e rm_X6_firstWrong s m args below meth c H locs 0 0 Q (F0 m 3 ls []) := by
    intro n3
    induction n3 with
    | zero => intro u5_3 H locs ls hf; exact hf_0 hf
    | succ n3 ih3 =>
      intro u5_3 H locs ls hf hP hD hS hl
      rw [fX6_firstWrong_34_L3] at hf
      refine lv_iload (pc := 3) hx hb dX6_firstWrong_3 (lv_at hl 5 rfl) ?_
      refine lv_aload_n (pc := 5) hx hb dX6_firstWrong_5 rfl (lv_at hl 0 rfl) ?_
      refine vXgRX6_10_0 (pc := 6) hx hb hts mU_16 inU6 hown hK hP dX6_firstWrong_6 ?_
      refine vXgRX6_60_1 (pc := 9) hx hb hts mU_111 inU4 hown hK hP (x := (gI S 0)) rfl dX6_firstWrong_9 ?_
      refine lv_icmp_ge (pc := 12) hx hb (tgt := 88) dX6_firstWrong_12 (by decide) (fun c_12 => ?_) (fun c_12 => ?_)
      · have hf := hf_t c_12 hf
        exact hk3  H locs ls hf hP hD hS (lv_sub hl [0] rfl)
      · have hf := hf_f c_12 hf
        refine lv_iconst (pc := 15) hx hb (v := 0) dX6_firstWrong_15 (by decide) ?_
        refine lv_istore (pc := 16) hx hb (lv' := [(6, .int 0), (0, .ref (A 0)), (1, .int a1), (2, .int a2), (3, .ref (A 34)), (4, .int a4), (5, .int u5_3)]) dX6_firstWrong_16 hl (by decide) rfl (fun ls hl => ?_)
        have hk18 : ∀  (H : Heap) (locs : List Loc) (ls : Array Slot), fX6_firstWrong_34_L3 (some ((gI S 0) * (gI S 1))) S a1 a2 a4 n3 (u5_3 + 1) = some z → va_P D vwCl (wX A B S) H → va_D Ad (wX A B S) → va_S Ad s.heap H locs → lv_has ls 7 [(0, .ref (A 0)), (1, .int a1), (2, .int a2), (3, .ref (A 34)), (4, .int a4), (5, .int u5_3)] → W p l e rm_X6_firstWrong s m args below meth c H locs 0 0 Q (F0 m 82 ls []) := by
          intro  H locs ls hf hP hD hS hl
          refine lv_iinc (pc := 82) hx hb (v := u5_3 + 1) (lv' := [(5, .int (u5_3 + 1)), (0, .ref (A 0)), (1, .int a1), (2, .int a2), (3, .ref (A 34)), (4, .int a4)]) dX6_firstWrong_82 hl (k := 5) rfl rfl (by decide) rfl (fun ls hl => ?_)
          refine lv_goto (pc := 85) hx hb (tgt := 3) dX6_firstWrong_85 (by decide) ?_
          exact ih3 (u5_3 + 1) H locs ls hf hP hD hS (lv_sub hl [1, 2, 3, 4, 5, 0] rfl)
        have lp18 : ∀ (n : Nat) (u6_18 : Int32) (H : Heap) (locs : List Loc) (ls : Array Slot), fX6_firstWrong_34_L18 (fX6_firstWrong_34_L3 (some ((gI S 0) * (gI S 1))) S a1 a2 a4 n3 (u5_3 + 1)) S a1 a2 a4 u5_3 n u6_18 = some z → va_P D vwCl (wX A B S) H → va_D Ad (wX A B S) → va_S Ad s.heap H locs → lv_has ls 7 [(0, .ref (A 0)), (1, .int a1), (2, .int a2), (3, .ref (A 34)), (4, .int a4), (5, .int u5_3), (6, .int u6_18)] → W p l e rm_X6_firstWrong s m args below meth c H locs 0 0 Q (F0 m 18 ls []) := by
          intro n18
          induction n18 with
          | zero => intro u6_18 H locs ls hf; exact hf_0 hf
          | succ n18 ih18 =>
            intro u6_18 H locs ls hf hP hD hS hl
            rw [fX6_firstWrong_34_L18] at hf
            refine lv_iload (pc := 18) hx hb dX6_firstWrong_18 (lv_at hl 6 rfl) ?_
            refine lv_aload_n (pc := 20) hx hb dX6_firstWrong_20 rfl (lv_at hl 0 rfl) ?_
            refine vXgRX6_10_0 (pc := 21) hx hb hts mU_16 inU6 hown hK hP dX6_firstWrong_21 ?_
            refine vXgRX6_64_1 (pc := 24) hx hb hts mU_112 inU4 hown hK hP (x := (gI S 1)) rfl dX6_firstWrong_24 ?_
            refine lv_icmp_ge (pc := 27) hx hb (tgt := 82) dX6_firstWrong_27 (by decide) (fun c_27 => ?_) (fun c_27 => ?_)
            · have hf := hf_t c_27 hf
              exact hk18  H locs ls hf hP hD hS (lv_sub hl [0, 1, 2, 3, 4, 5] rfl)
            · have hf := hf_f c_27 hf
              refine lv_aload_n (pc := 30) hx hb dX6_firstWrong_30 rfl (lv_at hl 0 rfl) ?_
              refine lv_iload_n (pc := 31) hx hb dX6_firstWrong_31 rfl (lv_at hl 1 rfl) ?_
              refine lv_iload_n (pc := 32) hx hb dX6_firstWrong_32 rfl (lv_at hl 2 rfl) ?_
              refine lv_aload_n (pc := 33) hx hb dX6_firstWrong_33 rfl (lv_at hl 3 rfl) ?_
              refine lv_iload (pc := 34) hx hb dX6_firstWrong_34 (lv_at hl 5 rfl) ?_
              refine lv_iload (pc := 36) hx hb dX6_firstWrong_36 (lv_at hl 6 rfl) ?_
              obtain ⟨r38, hc38, hf⟩ := hf_b hf
              refine cl_V (pc := 38) (As := [.int a1, .int a2, .ref (A 34), .int u5_3, .int u6_18]) (rest := []) hx hb hml hown hts (kX6_sumAt_34 l D A B _ S a1 a2 u5_3 u6_18 r38 hc38) (cwV 5 hts gwRX6_355 rfl rfl rfl hdX6_sumAt ⟨Nat.le_of_ble_eq_true rfl, Nat.le_of_ble_eq_true rfl⟩) hN hK hP hD hS hA (va_recv hK hP (ci := 6) (q0 := 0) rfl (eX_0 A B _)) rfl hl.1 rfl (Nat.le_of_ble_eq_true rfl) dX6_firstWrong_38 (st1 := [.long r38]) rfl ⟨Nat.zero_le _, Nat.zero_le _⟩ (fun H locs hP hD hS => ?_)
              refine lv_iload (pc := 41) hx hb dX6_firstWrong_41 (lv_at hl 4 rfl) ?_
              refine lv_i2l (pc := 43) hx hb (v := a4.toInt64) dX6_firstWrong_43 rfl ?_
              refine lv_aload_n (pc := 44) hx hb dX6_firstWrong_44 rfl (lv_at hl 0 rfl) ?_
              refine vXgRX6_10_0 (pc := 45) hx hb hts mU_16 inU6 hown hK hP dX6_firstWrong_45 ?_
              refine lv_iconst (pc := 48) hx hb (v := 2) dX6_firstWrong_48 (by decide) ?_
              refine lv_iload (pc := 49) hx hb dX6_firstWrong_49 (lv_at hl 5 rfl) ?_
              refine lv_iload (pc := 51) hx hb dX6_firstWrong_51 (lv_at hl 6 rfl) ?_
              obtain ⟨r53, hc53, hf⟩ := hf_b hf
              refine cl_V (pc := 53) (As := [.int 2, .int u5_3, .int u6_18]) (rest := [.long a4.toInt64, .long r38]) hx hb hml hown hts (kX4_entry_1 l D A B _ S 2 u5_3 u6_18 r53 hc53) (cwV 3 hts gwRX6_79 rfl rfl rfl hdX4_entry ⟨Nat.le_of_ble_eq_true rfl, Nat.le_of_ble_eq_true rfl⟩) hN hK hP hD hS hA (va_recv hK hP (ci := 4) (q0 := 1) rfl (eX_1 A B _)) rfl hl.1 rfl (Nat.le_of_ble_eq_true rfl) dX6_firstWrong_53 (st1 := [.int r53, .long a4.toInt64, .long r38]) rfl ⟨Nat.zero_le _, Nat.zero_le _⟩ (fun H locs hP hD hS => ?_)
              refine lv_i2l (pc := 56) hx hb (v := r53.toInt64) dX6_firstWrong_56 rfl ?_
              refine lv_lmul (pc := 57) hx hb dX6_firstWrong_57 ?_
              refine W.lcmp (pc := 58) hx hb dX6_firstWrong_58 ?_
              refine lv_if_eq (pc := 59) hx hb (tgt := 76) dX6_firstWrong_59 (by decide) (fun c_59 => ?_) (fun c_59 => ?_)
              · have c_59 := lg_eq0.mp c_59
                have hf := hf_t c_59 hf
                refine lv_iinc (pc := 76) hx hb (v := u6_18 + 1) (lv' := [(6, .int (u6_18 + 1)), (0, .ref (A 0)), (1, .int a1), (2, .int a2), (3, .ref (A 34)), (4, .int a4), (5, .int u5_3)]) dX6_firstWrong_76 hl (k := 6) rfl rfl (by decide) rfl (fun ls hl => ?_)
                refine lv_goto (pc := 79) hx hb (tgt := 18) dX6_firstWrong_79 (by decide) ?_
                exact ih18 (u6_18 + 1) H locs ls hf hP hD hS (lv_sub hl [1, 2, 3, 4, 5, 6, 0] rfl)
              · have c_59 := fun h9 => c_59 (lg_eq0.mpr h9)
                have hf := hf_f c_59 hf
                refine lv_iload (pc := 62) hx hb dX6_firstWrong_62 (lv_at hl 5 rfl) ?_
                refine lv_aload_n (pc := 64) hx hb dX6_firstWrong_64 rfl (lv_at hl 0 rfl) ?_
                refine vXgRX6_10_0 (pc := 65) hx hb hts mU_16 inU6 hown hK hP dX6_firstWrong_65 ?_
                refine vXgRX6_64_1 (pc := 68) hx hb hts mU_112 inU4 hown hK hP (x := (gI S 1)) rfl dX6_firstWrong_68 ?_
                refine lv_imul (pc := 71) hx hb dX6_firstWrong_71 ?_
                refine lv_iload (pc := 72) hx hb dX6_firstWrong_72 (lv_at hl 6 rfl) ?_
                refine lv_iadd (pc := 74) hx hb dX6_firstWrong_74 ?_
                obtain rfl := Option.some.inj hf
                exact hR H locs 75 ls hP hD hS dX6_firstWrong_75
        exact lp18 256 0 H locs ls hf hP hD hS (lv_sub hl [1, 2, 3, 4, 5, 6, 0] rfl)
  exact lp3 256 0 H locs ls hf hP hD hS (lv_sub hl [1, 2, 3, 4, 5, 0] rfl)
set_option maxHeartbeats 4000000 in
set_option maxRecDepth 100000 in
theorem kX2_read_36 (l : Launch) (D : va_G) (A : Nat → Nat) (B : Nat → ClassId) (sz : Nat) (S : w_S) (a1 : Int32) (z : Int64) (hf : fX2_read_36 S a1 = some z) : MetW l yX2_read (wsO yX2_read cX2_read 2 (some .long)) rm_X2_read [.ref (A 36), .int a1] D (tyB B) (wX A B S) (wX A B S) sz (some (.long z)) := by
  refine MetW.mkL (cc := cX2_read) (maxL := 2) (by decide) (Nat.le_of_ble_eq_true rfl) ?_
  intro p e s m args below meth c Ad Q hx hb hts hown hml hN hK hA hR H locs ls hP hD hS hl
  have hl : lv_has ls 2 [(0, .ref (A 36)), (1, .int a1)] := hl
  rw [fX2_read_36] at hf
  refine lv_iload_n (pc := 0) hx hb dX2_read_0 rfl (lv_at hl 1 rfl) ?_
  refine lv_if_lt (pc := 1) hx hb (tgt := 27) dX2_read_1 (by decide) (fun c_1 => ?_) (fun c_1 => ?_)
  · have hf := hf_t c_1 hf
    refine lv_lconst (pc := 27) hx hb (v := 0) dX2_read_27 (by decide) ?_
    obtain rfl := Option.some.inj hf
    exact hR H locs 28 ls hP hD hS dX2_read_28
  · have hf := hf_f c_1 hf
    refine lv_iload_n (pc := 4) hx hb dX2_read_4 rfl (lv_at hl 1 rfl) ?_
    refine lv_aload_n (pc := 5) hx hb dX2_read_5 rfl (lv_at hl 0 rfl) ?_
    refine vXgRX2_28_36 (pc := 6) hx hb hts mU_767 inU2 hown hK hP (x := (gI S 35)) rfl dX2_read_6 ?_
    refine lv_icmp_ge (pc := 9) hx hb (tgt := 27) dX2_read_9 (by decide) (fun c_9 => ?_) (fun c_9 => ?_)
    · have hf := hf_t c_9 hf
      refine lv_lconst (pc := 27) hx hb (v := 0) dX2_read_27 (by decide) ?_
      obtain rfl := Option.some.inj hf
      exact hR H locs 28 ls hP hD hS dX2_read_28
    · have hf := hf_f c_9 hf
      refine lv_iload_n (pc := 12) hx hb dX2_read_12 rfl (lv_at hl 1 rfl) ?_
      refine lv_bipush (pc := 13) hx hb (v := 40) dX2_read_13 (by decide) ?_
      refine lv_icmp_ge (pc := 15) hx hb (tgt := 27) dX2_read_15 (by decide) (fun c_15 => ?_) (fun c_15 => ?_)
      · have hf := hf_t c_15 hf
        refine lv_lconst (pc := 27) hx hb (v := 0) dX2_read_27 (by decide) ?_
        obtain rfl := Option.some.inj hf
        exact hR H locs 28 ls hP hD hS dX2_read_28
      · have hf := hf_f c_15 hf
        refine lv_aload_n (pc := 18) hx hb dX2_read_18 rfl (lv_at hl 0 rfl) ?_
        refine vXgRX2_15_36 (pc := 19) hx hb hts mU_72 inU2 hown hK hP dX2_read_19 ?_
        refine lv_iload_n (pc := 22) hx hb dX2_read_22 rfl (lv_at hl 1 rfl) ?_
        obtain ⟨hg23, hf⟩ := hf_g hf
        refine vXra_37 (pc := 23) hx hb hK hP (f := (gB S 5)) rfl hg23 dX2_read_23 ?_
        refine lv_goto (pc := 24) hx hb (tgt := 28) dX2_read_24 (by decide) ?_
        obtain rfl := Option.some.inj hf
        exact hR H locs 28 ls hP hD hS dX2_read_28
set_option maxHeartbeats 4000000 in
set_option maxRecDepth 100000 in
theorem kX6_sumAt_36 (l : Launch) (D : va_G) (A : Nat → Nat) (B : Nat → ClassId) (sz : Nat) (S : w_S) (a1 : Int32) (a2 : Int32) (a4 : Int32) (a5 : Int32) (z : Int64) (hf : fX6_sumAt_36 S a1 a2 a4 a5 = some z) : MetW l yX6_sumAt (wsO yX6_sumAt cX6_sumAt 9 (some .long)) rm_X6_sumAt [.ref (A 0), .int a1, .int a2, .ref (A 36), .int a4, .int a5] D (tyB B) (wX A B S) (wX A B S) sz (some (.long z)) := by
  refine MetW.mkL (cc := cX6_sumAt) (maxL := 9) (by decide) (Nat.le_of_ble_eq_true rfl) ?_
  intro p e s m args below meth c Ad Q hx hb hts hown hml hN hK hA hR H locs ls hP hD hS hl
  have hl : lv_has ls 9 [(0, .ref (A 0)), (1, .int a1), (2, .int a2), (3, .ref (A 36)), (4, .int a4), (5, .int a5)] := hl
  rw [fX6_sumAt_36] at hf
  refine lv_lconst (pc := 0) hx hb (v := 0) dX6_sumAt_0 (by decide) ?_
  refine lv_lstore (pc := 1) hx hb (lv' := [(6, .long 0), (0, .ref (A 0)), (1, .int a1), (2, .int a2), (3, .ref (A 36)), (4, .int a4), (5, .int a5)]) dX6_sumAt_1 hl (by decide) rfl (fun ls hl => ?_)
  refine lv_iconst (pc := 3) hx hb (v := 0) dX6_sumAt_3 (by decide) ?_
  refine lv_istore (pc := 4) hx hb (lv' := [(8, .int 0), (6, .long 0), (0, .ref (A 0)), (1, .int a1), (2, .int a2), (3, .ref (A 36)), (4, .int a4), (5, .int a5)]) dX6_sumAt_4 hl (by decide) rfl (fun ls hl => ?_)
  obtain ⟨q6, hq6, hf⟩ := hf_b hf
  have hk6 : ∀ (H : Heap) (locs : List Loc) (ls : Array Slot), va_P D vwCl (wX A B S) H → va_D Ad (wX A B S) → va_S Ad s.heap H locs → lv_has ls 9 [(0, .ref (A 0)), (1, .int a1), (3, .ref (A 36)), (4, .int a4), (5, .int a5), (6, .long q6)] → W p l e rm_X6_sumAt s m args below meth c H locs 0 0 Q (F0 m 60 ls []) := by
    intro H locs ls hP hD hS hl
    refine lv_iconst (pc := 60) hx hb (v := 0) dX6_sumAt_60 (by decide) ?_
    refine lv_istore (pc := 61) hx hb (lv' := [(8, .int 0), (0, .ref (A 0)), (1, .int a1), (3, .ref (A 36)), (4, .int a4), (5, .int a5), (6, .long q6)]) dX6_sumAt_61 hl (by decide) rfl (fun ls hl => ?_)
    obtain ⟨q63, hq63, hf⟩ := hf_b hf
    have hk63 : ∀ (H : Heap) (locs : List Loc) (ls : Array Slot), va_P D vwCl (wX A B S) H → va_D Ad (wX A B S) → va_S Ad s.heap H locs → lv_has ls 9 [(6, .long q63)] → W p l e rm_X6_sumAt s m args below meth c H locs 0 0 Q (F0 m 117 ls []) := by
      intro H locs ls hP hD hS hl
      refine lv_lload (pc := 117) hx hb dX6_sumAt_117 (lv_at hl 0 rfl) ?_
      obtain rfl := Option.some.inj hf
      exact hR H locs 119 ls hP hD hS dX6_sumAt_119
    have lp63 : ∀ (n : Nat) (u6_63 : Int64) (u8_63 : Int32) (H : Heap) (locs : List Loc) (ls : Array Slot), fX6_sumAt_36_L63 S a1 a4 a5 n u6_63 u8_63 = some q63 → va_P D vwCl (wX A B S) H → va_D Ad (wX A B S) → va_S Ad s.heap H locs → lv_has ls 9 [(0, .ref (A 0)), (1, .int a1), (3, .ref (A 36)), (4, .int a4), (5, .int a5), (6, .long u6_63), (8, .int u8_63)] → W p l e rm_X6_sumAt s m args below meth c H locs 0 0 Q (F0 m 63 ls []) := by
      intro n63
      induction n63 with
      | zero => intro u6_63 u8_63 H locs ls hq63; exact hf_0 hq63
      | succ n63 ih63 =>
        intro u6_63 u8_63 H locs ls hq63 hP hD hS hl
        rw [fX6_sumAt_36_L63] at hq63
        refine lv_iload (pc := 63) hx hb dX6_sumAt_63 (lv_at hl 6 rfl) ?_
        refine lv_aload_n (pc := 65) hx hb dX6_sumAt_65 rfl (lv_at hl 0 rfl) ?_
        refine vXgRX6_10_0 (pc := 66) hx hb hts mU_16 inU6 hown hK hP dX6_sumAt_66 ?_
        refine vXgRX6_64_1 (pc := 69) hx hb hts mU_112 inU4 hown hK hP (x := (gI S 1)) rfl dX6_sumAt_69 ?_
        refine lv_icmp_ge (pc := 72) hx hb (tgt := 117) dX6_sumAt_72 (by decide) (fun c_72 => ?_) (fun c_72 => ?_)
        · have hq63 := hf_t c_72 hq63
          obtain rfl := Option.some.inj hq63
          exact hk63 H locs ls hP hD hS (lv_sub hl [5] rfl)
        · have hq63 := hf_f c_72 hq63
          refine lv_lload (pc := 75) hx hb dX6_sumAt_75 (lv_at hl 5 rfl) ?_
          refine lv_aload_n (pc := 77) hx hb dX6_sumAt_77 rfl (lv_at hl 2 rfl) ?_
          refine lv_iload (pc := 78) hx hb dX6_sumAt_78 (lv_at hl 3 rfl) ?_
          refine lv_aload_n (pc := 80) hx hb dX6_sumAt_80 rfl (lv_at hl 0 rfl) ?_
          refine vXgRX6_10_0 (pc := 81) hx hb hts mU_16 inU6 hown hK hP dX6_sumAt_81 ?_
          refine vXgRX6_64_1 (pc := 84) hx hb hts mU_112 inU4 hown hK hP (x := (gI S 1)) rfl dX6_sumAt_84 ?_
          refine lv_imul (pc := 87) hx hb dX6_sumAt_87 ?_
          refine lv_iload (pc := 88) hx hb dX6_sumAt_88 (lv_at hl 6 rfl) ?_
          refine lv_iadd (pc := 90) hx hb dX6_sumAt_90 ?_
          obtain ⟨r91, hc91, hq63⟩ := hf_b hq63
          refine cl_V (pc := 91) (As := [.int ((a4 * (gI S 1)) + u8_63)]) (rest := [.long u6_63]) hx hb hml hown hts (kX2_read_36 l D A B _ S ((a4 * (gI S 1)) + u8_63) r91 hc91) (cwV 1 hts gwRX6_258 rfl rfl rfl hdX2_read ⟨Nat.le_of_ble_eq_true rfl, Nat.le_of_ble_eq_true rfl⟩) hN hK hP hD hS hA (va_recv hK hP (ci := 2) (q0 := 36) rfl (eX_36 A B _)) rfl hl.1 rfl (Nat.le_of_ble_eq_true rfl) dX6_sumAt_91 (st1 := [.long r91, .long u6_63]) rfl ⟨Nat.zero_le _, Nat.zero_le _⟩ (fun H locs hP hD hS => ?_)
          refine lv_aload_n (pc := 94) hx hb dX6_sumAt_94 rfl (lv_at hl 0 rfl) ?_
          refine vXgRX6_10_0 (pc := 95) hx hb hts mU_16 inU6 hown hK hP dX6_sumAt_95 ?_
          refine lv_iload_n (pc := 98) hx hb dX6_sumAt_98 rfl (lv_at hl 1 rfl) ?_
          refine lv_iload (pc := 99) hx hb dX6_sumAt_99 (lv_at hl 6 rfl) ?_
          refine lv_iload (pc := 101) hx hb dX6_sumAt_101 (lv_at hl 4 rfl) ?_
          obtain ⟨r103, hc103, hq63⟩ := hf_b hq63
          refine cl_V (pc := 103) (As := [.int a1, .int u8_63, .int a5]) (rest := [.long r91, .long u6_63]) hx hb hml hown hts (kX4_rightEntry_1 l D A B _ S a1 u8_63 a5 r103 hc103) (cwV 3 hts gwRX6_162 rfl rfl rfl hdX4_rightEntry ⟨Nat.le_of_ble_eq_true rfl, Nat.le_of_ble_eq_true rfl⟩) hN hK hP hD hS hA (va_recv hK hP (ci := 4) (q0 := 1) rfl (eX_1 A B _)) rfl hl.1 rfl (Nat.le_of_ble_eq_true rfl) dX6_sumAt_103 (st1 := [.int r103, .long r91, .long u6_63]) rfl ⟨Nat.zero_le _, Nat.zero_le _⟩ (fun H locs hP hD hS => ?_)
          refine lv_i2l (pc := 106) hx hb (v := r103.toInt64) dX6_sumAt_106 rfl ?_
          refine lv_lmul (pc := 107) hx hb dX6_sumAt_107 ?_
          refine lv_ladd (pc := 108) hx hb dX6_sumAt_108 ?_
          refine lv_lstore (pc := 109) hx hb (lv' := [(6, .long (u6_63 + (r91 * r103.toInt64))), (0, .ref (A 0)), (1, .int a1), (3, .ref (A 36)), (4, .int a4), (5, .int a5), (8, .int u8_63)]) dX6_sumAt_109 hl (by decide) rfl (fun ls hl => ?_)
          refine lv_iinc (pc := 111) hx hb (v := u8_63 + 1) (lv' := [(8, .int (u8_63 + 1)), (6, .long (u6_63 + (r91 * r103.toInt64))), (0, .ref (A 0)), (1, .int a1), (3, .ref (A 36)), (4, .int a4), (5, .int a5)]) dX6_sumAt_111 hl (k := 6) rfl rfl (by decide) rfl (fun ls hl => ?_)
          refine lv_goto (pc := 114) hx hb (tgt := 63) dX6_sumAt_114 (by decide) ?_
          exact ih63 (u6_63 + (r91 * r103.toInt64)) (u8_63 + 1) H locs ls hq63 hP hD hS (lv_sub hl [2, 3, 4, 5, 6, 1, 0] rfl)
    exact lp63 256 q6 0 H locs ls hq63 hP hD hS (lv_sub hl [1, 2, 3, 4, 5, 6, 0] rfl)
  have lp6 : ∀ (n : Nat) (u6_6 : Int64) (u8_6 : Int32) (H : Heap) (locs : List Loc) (ls : Array Slot), fX6_sumAt_36_L6 S a1 a2 a4 a5 n u6_6 u8_6 = some q6 → va_P D vwCl (wX A B S) H → va_D Ad (wX A B S) → va_S Ad s.heap H locs → lv_has ls 9 [(0, .ref (A 0)), (1, .int a1), (2, .int a2), (3, .ref (A 36)), (4, .int a4), (5, .int a5), (6, .long u6_6), (8, .int u8_6)] → W p l e rm_X6_sumAt s m args below meth c H locs 0 0 Q (F0 m 6 ls []) := by
    intro n6
    induction n6 with
    | zero => intro u6_6 u8_6 H locs ls hq6; exact hf_0 hq6
    | succ n6 ih6 =>
      intro u6_6 u8_6 H locs ls hq6 hP hD hS hl
      rw [fX6_sumAt_36_L6] at hq6
      refine lv_iload (pc := 6) hx hb dX6_sumAt_6 (lv_at hl 7 rfl) ?_
      refine lv_aload_n (pc := 8) hx hb dX6_sumAt_8 rfl (lv_at hl 0 rfl) ?_
      refine vXgRX6_10_0 (pc := 9) hx hb hts mU_16 inU6 hown hK hP dX6_sumAt_9 ?_
      refine vXgRX6_60_1 (pc := 12) hx hb hts mU_111 inU4 hown hK hP (x := (gI S 0)) rfl dX6_sumAt_12 ?_
      refine lv_icmp_ge (pc := 15) hx hb (tgt := 60) dX6_sumAt_15 (by decide) (fun c_15 => ?_) (fun c_15 => ?_)
      · have hq6 := hf_t c_15 hq6
        obtain rfl := Option.some.inj hq6
        exact hk6 H locs ls hP hD hS (lv_sub hl [0, 1, 3, 4, 5, 6] rfl)
      · have hq6 := hf_f c_15 hq6
        refine lv_lload (pc := 18) hx hb dX6_sumAt_18 (lv_at hl 6 rfl) ?_
        refine lv_aload_n (pc := 20) hx hb dX6_sumAt_20 rfl (lv_at hl 0 rfl) ?_
        refine vXgRX6_10_0 (pc := 21) hx hb hts mU_16 inU6 hown hK hP dX6_sumAt_21 ?_
        refine lv_iload_n (pc := 24) hx hb dX6_sumAt_24 rfl (lv_at hl 2 rfl) ?_
        refine lv_iload (pc := 25) hx hb dX6_sumAt_25 (lv_at hl 4 rfl) ?_
        refine lv_iload (pc := 27) hx hb dX6_sumAt_27 (lv_at hl 7 rfl) ?_
        obtain ⟨r29, hc29, hq6⟩ := hf_b hq6
        refine cl_V (pc := 29) (As := [.int a2, .int a4, .int u8_6]) (rest := [.long u6_6]) hx hb hml hown hts (kX4_leftEntry_1 l D A B _ S a2 a4 u8_6 r29 hc29) (cwV 3 hts gwRX6_348 rfl rfl rfl hdX4_leftEntry ⟨Nat.le_of_ble_eq_true rfl, Nat.le_of_ble_eq_true rfl⟩) hN hK hP hD hS hA (va_recv hK hP (ci := 4) (q0 := 1) rfl (eX_1 A B _)) rfl hl.1 rfl (Nat.le_of_ble_eq_true rfl) dX6_sumAt_29 (st1 := [.int r29, .long u6_6]) rfl ⟨Nat.zero_le _, Nat.zero_le _⟩ (fun H locs hP hD hS => ?_)
        refine lv_i2l (pc := 32) hx hb (v := r29.toInt64) dX6_sumAt_32 rfl ?_
        refine lv_aload_n (pc := 33) hx hb dX6_sumAt_33 rfl (lv_at hl 3 rfl) ?_
        refine lv_iload (pc := 34) hx hb dX6_sumAt_34 (lv_at hl 7 rfl) ?_
        refine lv_aload_n (pc := 36) hx hb dX6_sumAt_36 rfl (lv_at hl 0 rfl) ?_
        refine vXgRX6_10_0 (pc := 37) hx hb hts mU_16 inU6 hown hK hP dX6_sumAt_37 ?_
        refine vXgRX6_64_1 (pc := 40) hx hb hts mU_112 inU4 hown hK hP (x := (gI S 1)) rfl dX6_sumAt_40 ?_
        refine lv_imul (pc := 43) hx hb dX6_sumAt_43 ?_
        refine lv_iload (pc := 44) hx hb dX6_sumAt_44 (lv_at hl 5 rfl) ?_
        refine lv_iadd (pc := 46) hx hb dX6_sumAt_46 ?_
        obtain ⟨r47, hc47, hq6⟩ := hf_b hq6
        refine cl_V (pc := 47) (As := [.int ((u8_6 * (gI S 1)) + a5)]) (rest := [.long r29.toInt64, .long u6_6]) hx hb hml hown hts (kX2_read_36 l D A B _ S ((u8_6 * (gI S 1)) + a5) r47 hc47) (cwV 1 hts gwRX6_258 rfl rfl rfl hdX2_read ⟨Nat.le_of_ble_eq_true rfl, Nat.le_of_ble_eq_true rfl⟩) hN hK hP hD hS hA (va_recv hK hP (ci := 2) (q0 := 36) rfl (eX_36 A B _)) rfl hl.1 rfl (Nat.le_of_ble_eq_true rfl) dX6_sumAt_47 (st1 := [.long r47, .long r29.toInt64, .long u6_6]) rfl ⟨Nat.zero_le _, Nat.zero_le _⟩ (fun H locs hP hD hS => ?_)
        refine lv_lmul (pc := 50) hx hb dX6_sumAt_50 ?_
        refine lv_ladd (pc := 51) hx hb dX6_sumAt_51 ?_
        refine lv_lstore (pc := 52) hx hb (lv' := [(6, .long (u6_6 + (r29.toInt64 * r47))), (0, .ref (A 0)), (1, .int a1), (2, .int a2), (3, .ref (A 36)), (4, .int a4), (5, .int a5), (8, .int u8_6)]) dX6_sumAt_52 hl (by decide) rfl (fun ls hl => ?_)
        refine lv_iinc (pc := 54) hx hb (v := u8_6 + 1) (lv' := [(8, .int (u8_6 + 1)), (6, .long (u6_6 + (r29.toInt64 * r47))), (0, .ref (A 0)), (1, .int a1), (2, .int a2), (3, .ref (A 36)), (4, .int a4), (5, .int a5)]) dX6_sumAt_54 hl (k := 7) rfl rfl (by decide) rfl (fun ls hl => ?_)
        refine lv_goto (pc := 57) hx hb (tgt := 6) dX6_sumAt_57 (by decide) ?_
        exact ih6 (u6_6 + (r29.toInt64 * r47)) (u8_6 + 1) H locs ls hq6 hP hD hS (lv_sub hl [2, 3, 4, 5, 6, 7, 1, 0] rfl)
  exact lp6 256 0 0 H locs ls hq6 hP hD hS (lv_sub hl [2, 3, 4, 5, 6, 7, 1, 0] rfl)
set_option maxHeartbeats 4000000 in
set_option maxRecDepth 100000 in
theorem kX6_firstWrong_36 (l : Launch) (D : va_G) (A : Nat → Nat) (B : Nat → ClassId) (sz : Nat) (S : w_S) (a1 : Int32) (a2 : Int32) (a4 : Int32) (z : Int32) (hf : fX6_firstWrong_36 S a1 a2 a4 = some z) : MetW l yX6_firstWrong (wsO yX6_firstWrong cX6_firstWrong 7 (some .int)) rm_X6_firstWrong [.ref (A 0), .int a1, .int a2, .ref (A 36), .int a4] D (tyB B) (wX A B S) (wX A B S) sz (some (.int z)) := by
  refine MetW.mkI (cc := cX6_firstWrong) (maxL := 7) (by decide) (Nat.le_of_ble_eq_true rfl) ?_
  intro p e s m args below meth c Ad Q hx hb hts hown hml hN hK hA hR H locs ls hP hD hS hl
  have hl : lv_has ls 7 [(0, .ref (A 0)), (1, .int a1), (2, .int a2), (3, .ref (A 36)), (4, .int a4)] := hl
  rw [fX6_firstWrong_36] at hf
  refine lv_iconst (pc := 0) hx hb (v := 0) dX6_firstWrong_0 (by decide) ?_
  refine lv_istore (pc := 1) hx hb (lv' := [(5, .int 0), (0, .ref (A 0)), (1, .int a1), (2, .int a2), (3, .ref (A 36)), (4, .int a4)]) dX6_firstWrong_1 hl (by decide) rfl (fun ls hl => ?_)
  have hk3 : ∀  (H : Heap) (locs : List Loc) (ls : Array Slot), some ((gI S 0) * (gI S 1)) = some z → va_P D vwCl (wX A B S) H → va_D Ad (wX A B S) → va_S Ad s.heap H locs → lv_has ls 7 [(0, .ref (A 0))] → W p l e rm_X6_firstWrong s m args below meth c H locs 0 0 Q (F0 m 88 ls []) := by
    intro  H locs ls hf hP hD hS hl
    refine lv_aload_n (pc := 88) hx hb dX6_firstWrong_88 rfl (lv_at hl 0 rfl) ?_
    refine vXgRX6_10_0 (pc := 89) hx hb hts mU_16 inU6 hown hK hP dX6_firstWrong_89 ?_
    refine vXgRX6_60_1 (pc := 92) hx hb hts mU_111 inU4 hown hK hP (x := (gI S 0)) rfl dX6_firstWrong_92 ?_
    refine lv_aload_n (pc := 95) hx hb dX6_firstWrong_95 rfl (lv_at hl 0 rfl) ?_
    refine vXgRX6_10_0 (pc := 96) hx hb hts mU_16 inU6 hown hK hP dX6_firstWrong_96 ?_
    refine vXgRX6_64_1 (pc := 99) hx hb hts mU_112 inU4 hown hK hP (x := (gI S 1)) rfl dX6_firstWrong_99 ?_
    refine lv_imul (pc := 102) hx hb dX6_firstWrong_102 ?_
    obtain rfl := Option.some.inj hf
    exact hR H locs 103 ls hP hD hS dX6_firstWrong_103
  have lp3 : ∀ (n : Nat) (u5_3 : Int32) (H : Heap) (locs : List Loc) (ls : Array Slot), fX6_firstWrong_36_L3 (some ((gI S 0) * (gI S 1))) S a1 a2 a4 n u5_3 = some z → va_P D vwCl (wX A B S) H → va_D Ad (wX A B S) → va_S Ad s.heap H locs → lv_has ls 7 [(0, .ref (A 0)), (1, .int a1), (2, .int a2), (3, .ref (A 36)), (4, .int a4), (5, .int u5_3)] → W p l e rm_X6_firstWrong s m args below meth c H locs 0 0 Q (F0 m 3 ls []) := by
    intro n3
    induction n3 with
    | zero => intro u5_3 H locs ls hf; exact hf_0 hf
    | succ n3 ih3 =>
      intro u5_3 H locs ls hf hP hD hS hl
      rw [fX6_firstWrong_36_L3] at hf
      refine lv_iload (pc := 3) hx hb dX6_firstWrong_3 (lv_at hl 5 rfl) ?_
      refine lv_aload_n (pc := 5) hx hb dX6_firstWrong_5 rfl (lv_at hl 0 rfl) ?_
      refine vXgRX6_10_0 (pc := 6) hx hb hts mU_16 inU6 hown hK hP dX6_firstWrong_6 ?_
      refine vXgRX6_60_1 (pc := 9) hx hb hts mU_111 inU4 hown hK hP (x := (gI S 0)) rfl dX6_firstWrong_9 ?_
      refine lv_icmp_ge (pc := 12) hx hb (tgt := 88) dX6_firstWrong_12 (by decide) (fun c_12 => ?_) (fun c_12 => ?_)
      · have hf := hf_t c_12 hf
        exact hk3  H locs ls hf hP hD hS (lv_sub hl [0] rfl)
      · have hf := hf_f c_12 hf
        refine lv_iconst (pc := 15) hx hb (v := 0) dX6_firstWrong_15 (by decide) ?_
        refine lv_istore (pc := 16) hx hb (lv' := [(6, .int 0), (0, .ref (A 0)), (1, .int a1), (2, .int a2), (3, .ref (A 36)), (4, .int a4), (5, .int u5_3)]) dX6_firstWrong_16 hl (by decide) rfl (fun ls hl => ?_)
        have hk18 : ∀  (H : Heap) (locs : List Loc) (ls : Array Slot), fX6_firstWrong_36_L3 (some ((gI S 0) * (gI S 1))) S a1 a2 a4 n3 (u5_3 + 1) = some z → va_P D vwCl (wX A B S) H → va_D Ad (wX A B S) → va_S Ad s.heap H locs → lv_has ls 7 [(0, .ref (A 0)), (1, .int a1), (2, .int a2), (3, .ref (A 36)), (4, .int a4), (5, .int u5_3)] → W p l e rm_X6_firstWrong s m args below meth c H locs 0 0 Q (F0 m 82 ls []) := by
          intro  H locs ls hf hP hD hS hl
          refine lv_iinc (pc := 82) hx hb (v := u5_3 + 1) (lv' := [(5, .int (u5_3 + 1)), (0, .ref (A 0)), (1, .int a1), (2, .int a2), (3, .ref (A 36)), (4, .int a4)]) dX6_firstWrong_82 hl (k := 5) rfl rfl (by decide) rfl (fun ls hl => ?_)
          refine lv_goto (pc := 85) hx hb (tgt := 3) dX6_firstWrong_85 (by decide) ?_
          exact ih3 (u5_3 + 1) H locs ls hf hP hD hS (lv_sub hl [1, 2, 3, 4, 5, 0] rfl)
        have lp18 : ∀ (n : Nat) (u6_18 : Int32) (H : Heap) (locs : List Loc) (ls : Array Slot), fX6_firstWrong_36_L18 (fX6_firstWrong_36_L3 (some ((gI S 0) * (gI S 1))) S a1 a2 a4 n3 (u5_3 + 1)) S a1 a2 a4 u5_3 n u6_18 = some z → va_P D vwCl (wX A B S) H → va_D Ad (wX A B S) → va_S Ad s.heap H locs → lv_has ls 7 [(0, .ref (A 0)), (1, .int a1), (2, .int a2), (3, .ref (A 36)), (4, .int a4), (5, .int u5_3), (6, .int u6_18)] → W p l e rm_X6_firstWrong s m args below meth c H locs 0 0 Q (F0 m 18 ls []) := by
          intro n18
          induction n18 with
          | zero => intro u6_18 H locs ls hf; exact hf_0 hf
          | succ n18 ih18 =>
            intro u6_18 H locs ls hf hP hD hS hl
            rw [fX6_firstWrong_36_L18] at hf
            refine lv_iload (pc := 18) hx hb dX6_firstWrong_18 (lv_at hl 6 rfl) ?_
            refine lv_aload_n (pc := 20) hx hb dX6_firstWrong_20 rfl (lv_at hl 0 rfl) ?_
            refine vXgRX6_10_0 (pc := 21) hx hb hts mU_16 inU6 hown hK hP dX6_firstWrong_21 ?_
            refine vXgRX6_64_1 (pc := 24) hx hb hts mU_112 inU4 hown hK hP (x := (gI S 1)) rfl dX6_firstWrong_24 ?_
            refine lv_icmp_ge (pc := 27) hx hb (tgt := 82) dX6_firstWrong_27 (by decide) (fun c_27 => ?_) (fun c_27 => ?_)
            · have hf := hf_t c_27 hf
              exact hk18  H locs ls hf hP hD hS (lv_sub hl [0, 1, 2, 3, 4, 5] rfl)
            · have hf := hf_f c_27 hf
              refine lv_aload_n (pc := 30) hx hb dX6_firstWrong_30 rfl (lv_at hl 0 rfl) ?_
              refine lv_iload_n (pc := 31) hx hb dX6_firstWrong_31 rfl (lv_at hl 1 rfl) ?_
              refine lv_iload_n (pc := 32) hx hb dX6_firstWrong_32 rfl (lv_at hl 2 rfl) ?_
              refine lv_aload_n (pc := 33) hx hb dX6_firstWrong_33 rfl (lv_at hl 3 rfl) ?_
              refine lv_iload (pc := 34) hx hb dX6_firstWrong_34 (lv_at hl 5 rfl) ?_
              refine lv_iload (pc := 36) hx hb dX6_firstWrong_36 (lv_at hl 6 rfl) ?_
              obtain ⟨r38, hc38, hf⟩ := hf_b hf
              refine cl_V (pc := 38) (As := [.int a1, .int a2, .ref (A 36), .int u5_3, .int u6_18]) (rest := []) hx hb hml hown hts (kX6_sumAt_36 l D A B _ S a1 a2 u5_3 u6_18 r38 hc38) (cwV 5 hts gwRX6_355 rfl rfl rfl hdX6_sumAt ⟨Nat.le_of_ble_eq_true rfl, Nat.le_of_ble_eq_true rfl⟩) hN hK hP hD hS hA (va_recv hK hP (ci := 6) (q0 := 0) rfl (eX_0 A B _)) rfl hl.1 rfl (Nat.le_of_ble_eq_true rfl) dX6_firstWrong_38 (st1 := [.long r38]) rfl ⟨Nat.zero_le _, Nat.zero_le _⟩ (fun H locs hP hD hS => ?_)
              refine lv_iload (pc := 41) hx hb dX6_firstWrong_41 (lv_at hl 4 rfl) ?_
              refine lv_i2l (pc := 43) hx hb (v := a4.toInt64) dX6_firstWrong_43 rfl ?_
              refine lv_aload_n (pc := 44) hx hb dX6_firstWrong_44 rfl (lv_at hl 0 rfl) ?_
              refine vXgRX6_10_0 (pc := 45) hx hb hts mU_16 inU6 hown hK hP dX6_firstWrong_45 ?_
              refine lv_iconst (pc := 48) hx hb (v := 2) dX6_firstWrong_48 (by decide) ?_
              refine lv_iload (pc := 49) hx hb dX6_firstWrong_49 (lv_at hl 5 rfl) ?_
              refine lv_iload (pc := 51) hx hb dX6_firstWrong_51 (lv_at hl 6 rfl) ?_
              obtain ⟨r53, hc53, hf⟩ := hf_b hf
              refine cl_V (pc := 53) (As := [.int 2, .int u5_3, .int u6_18]) (rest := [.long a4.toInt64, .long r38]) hx hb hml hown hts (kX4_entry_1 l D A B _ S 2 u5_3 u6_18 r53 hc53) (cwV 3 hts gwRX6_79 rfl rfl rfl hdX4_entry ⟨Nat.le_of_ble_eq_true rfl, Nat.le_of_ble_eq_true rfl⟩) hN hK hP hD hS hA (va_recv hK hP (ci := 4) (q0 := 1) rfl (eX_1 A B _)) rfl hl.1 rfl (Nat.le_of_ble_eq_true rfl) dX6_firstWrong_53 (st1 := [.int r53, .long a4.toInt64, .long r38]) rfl ⟨Nat.zero_le _, Nat.zero_le _⟩ (fun H locs hP hD hS => ?_)
              refine lv_i2l (pc := 56) hx hb (v := r53.toInt64) dX6_firstWrong_56 rfl ?_
              refine lv_lmul (pc := 57) hx hb dX6_firstWrong_57 ?_
              refine W.lcmp (pc := 58) hx hb dX6_firstWrong_58 ?_
              refine lv_if_eq (pc := 59) hx hb (tgt := 76) dX6_firstWrong_59 (by decide) (fun c_59 => ?_) (fun c_59 => ?_)
              · have c_59 := lg_eq0.mp c_59
                have hf := hf_t c_59 hf
                refine lv_iinc (pc := 76) hx hb (v := u6_18 + 1) (lv' := [(6, .int (u6_18 + 1)), (0, .ref (A 0)), (1, .int a1), (2, .int a2), (3, .ref (A 36)), (4, .int a4), (5, .int u5_3)]) dX6_firstWrong_76 hl (k := 6) rfl rfl (by decide) rfl (fun ls hl => ?_)
                refine lv_goto (pc := 79) hx hb (tgt := 18) dX6_firstWrong_79 (by decide) ?_
                exact ih18 (u6_18 + 1) H locs ls hf hP hD hS (lv_sub hl [1, 2, 3, 4, 5, 6, 0] rfl)
              · have c_59 := fun h9 => c_59 (lg_eq0.mpr h9)
                have hf := hf_f c_59 hf
                refine lv_iload (pc := 62) hx hb dX6_firstWrong_62 (lv_at hl 5 rfl) ?_
                refine lv_aload_n (pc := 64) hx hb dX6_firstWrong_64 rfl (lv_at hl 0 rfl) ?_
                refine vXgRX6_10_0 (pc := 65) hx hb hts mU_16 inU6 hown hK hP dX6_firstWrong_65 ?_
                refine vXgRX6_64_1 (pc := 68) hx hb hts mU_112 inU4 hown hK hP (x := (gI S 1)) rfl dX6_firstWrong_68 ?_
                refine lv_imul (pc := 71) hx hb dX6_firstWrong_71 ?_
                refine lv_iload (pc := 72) hx hb dX6_firstWrong_72 (lv_at hl 6 rfl) ?_
                refine lv_iadd (pc := 74) hx hb dX6_firstWrong_74 ?_
                obtain rfl := Option.some.inj hf
                exact hR H locs 75 ls hP hD hS dX6_firstWrong_75
        exact lp18 256 0 H locs ls hf hP hD hS (lv_sub hl [1, 2, 3, 4, 5, 6, 0] rfl)
  exact lp3 256 0 H locs ls hf hP hD hS (lv_sub hl [1, 2, 3, 4, 5, 0] rfl)
