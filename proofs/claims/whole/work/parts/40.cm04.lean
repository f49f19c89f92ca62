set_option maxHeartbeats 4000000 in
set_option maxRecDepth 100000 in
theorem kX7_against (l : Launch) (D : va_G) (A : Nat → Nat) (B : Nat → ClassId) (sz : Nat) (S : w_S) (a1 : Int32) (z : Int32) (hf : fX7_against S a1 = some z) : MetW l yX7_against (wsO yX7_against cX7_against 2 (some .int)) rm_X7_against [.ref (A 0), .int a1] D (tyB B) (wM A B S) (wM A B S) sz (some (.int z)) := by
  refine MetW.mkI (cc := cX7_against) (maxL := 2) (by decide) (Nat.le_of_ble_eq_true rfl) ?_
  intro p e s m args below meth c Ad Q hx hb hts hown hml hN hK hA hR H locs ls hP hD hS hl
  have hl : lv_has ls 2 [(0, .ref (A 0)), (1, .int a1)] := hl
  rw [fX7_against] at hf
  refine lv_aload_n (pc := 0) hx hb dX7_against_0 rfl (lv_at hl 0 rfl) ?_
  refine vMgRX7_67_0 (pc := 1) hx hb hts mU_99 inU7 hown hK hP dX7_against_1 ?_
  refine lv_iload_n (pc := 4) hx hb dX7_against_4 rfl (lv_at hl 1 rfl) ?_
  obtain ⟨hg5, hf⟩ := hf_g hf
  refine vMra_16 (pc := 5) hx hb hK hP (f := (gA S 12)) rfl hg5 dX7_against_5 ?_
  refine lv_iconst (pc := 6) hx hb (v := 2) dX7_against_6 (by decide) ?_
  refine lv_icmp_eq (pc := 7) hx hb (tgt := 27) dX7_against_7 (by decide) (fun c_7 => ?_) (fun c_7 => ?_)
  · have hf := hf_t c_7 hf
    refine lv_aload_n (pc := 27) hx hb dX7_against_27 rfl (lv_at hl 0 rfl) ?_
    refine vMgRX7_70_0 (pc := 28) hx hb hts mU_100 inU7 hown hK hP dX7_against_28 ?_
    refine lv_iload_n (pc := 31) hx hb dX7_against_31 rfl (lv_at hl 1 rfl) ?_
    obtain ⟨hg32, hf⟩ := hf_g hf
    refine vMra_17 (pc := 32) hx hb hK hP (f := (gA S 13)) rfl hg32 dX7_against_32 ?_
    refine lv_aload_n (pc := 33) hx hb dX7_against_33 rfl (lv_at hl 0 rfl) ?_
    refine vMgRX7_19_0 (pc := 34) hx hb hts mU_84 inU7 hown hK hP (x := (gI S 0)) rfl dX7_against_34 ?_
    refine lv_aload_n (pc := 37) hx hb dX7_against_37 rfl (lv_at hl 0 rfl) ?_
    refine vMgRX7_23_0 (pc := 38) hx hb hts mU_85 inU7 hown hK hP (x := (gI S 1)) rfl dX7_against_38 ?_
    refine lv_imul (pc := 41) hx hb dX7_against_41 ?_
    refine lv_icmp_ne (pc := 42) hx hb (tgt := 49) dX7_against_42 (by decide) (fun c_42 => ?_) (fun c_42 => ?_)
    · have hf := hf_f c_42 hf
      refine lv_bipush (pc := 49) hx hb (v := (-12)) dX7_against_49 (by decide) ?_
      obtain rfl := Option.some.inj hf
      exact hR H locs 51 ls hP hD hS dX7_against_51
    · have hf := hf_t c_42 hf
      refine lv_iconst (pc := 45) hx hb (v := 0) dX7_against_45 (by decide) ?_
      refine lv_goto (pc := 46) hx hb (tgt := 51) dX7_against_46 (by decide) ?_
      obtain rfl := Option.some.inj hf
      exact hR H locs 51 ls hP hD hS dX7_against_51
  · have hf := hf_f c_7 hf
    refine lv_aload_n (pc := 10) hx hb dX7_against_10 rfl (lv_at hl 0 rfl) ?_
    refine vMgRX7_67_0 (pc := 11) hx hb hts mU_99 inU7 hown hK hP dX7_against_11 ?_
    refine lv_iload_n (pc := 14) hx hb dX7_against_14 rfl (lv_at hl 1 rfl) ?_
    obtain ⟨hg15, hf⟩ := hf_g hf
    refine vMra_16 (pc := 15) hx hb hK hP (f := (gA S 12)) rfl hg15 dX7_against_15 ?_
    refine lv_if_ge (pc := 16) hx hb (tgt := 24) dX7_against_16 (by decide) (fun c_16 => ?_) (fun c_16 => ?_)
    · have hf := hf_t c_16 hf
      refine lv_bipush (pc := 24) hx hb (v := (-13)) dX7_against_24 (by decide) ?_
      obtain rfl := Option.some.inj hf
      exact hR H locs 26 ls hP hD hS dX7_against_26
    · have hf := hf_f c_16 hf
      refine lv_bipush (pc := 19) hx hb (v := (-11)) dX7_against_19 (by decide) ?_
      refine lv_goto (pc := 21) hx hb (tgt := 26) dX7_against_21 (by decide) ?_
      obtain rfl := Option.some.inj hf
      exact hR H locs 26 ls hP hD hS dX7_against_26
set_option maxHeartbeats 4000000 in
set_option maxRecDepth 100000 in
theorem kX7_firstOff (l : Launch) (D : va_G) (A : Nat → Nat) (B : Nat → ClassId) (sz : Nat) (S : w_S) (a1 : Int32) (a2 : Int32) (a3 : Int32) (a4 : Int32) (z : Int32) (hf : fX7_firstOff S a1 a2 a3 a4 = some z) : MetW l yX7_firstOff (wsO yX7_firstOff cX7_firstOff 9 (some .int)) rm_X7_firstOff [.ref (A 0), .int a1, .int a2, .int a3, .int a4] D (tyB B) (wM A B S) (wM A B S) sz (some (.int z)) := by
  refine MetW.mkI (cc := cX7_firstOff) (maxL := 9) (by decide) (Nat.le_of_ble_eq_true rfl) ?_
  intro p e s m args below meth c Ad Q hx hb hts hown hml hN hK hA hR H locs ls hP hD hS hl
  have hl : lv_has ls 9 [(0, .ref (A 0)), (1, .int a1), (2, .int a2), (3, .int a3), (4, .int a4)] := hl
  rw [fX7_firstOff] at hf
  refine lv_iconst (pc := 0) hx hb (v := 0) dX7_firstOff_0 (by decide) ?_
  refine lv_istore (pc := 1) hx hb (lv' := [(5, .int 0), (0, .ref (A 0)), (1, .int a1), (2, .int a2), (3, .int a3), (4, .int a4)]) dX7_firstOff_1 hl (by decide) rfl (fun ls hl => ?_)
  have hk3 : ∀  (H : Heap) (locs : List Loc) (ls : Array Slot), some ((gI S 0) * (gI S 1)) = some z → va_P D vwCl (wM A B S) H → va_D Ad (wM A B S) → va_S Ad s.heap H locs → lv_has ls 9 [(0, .ref (A 0))] → W p l e rm_X7_firstOff s m args below meth c H locs 0 0 Q (F0 m 135 ls []) := by
    intro  H locs ls hf hP hD hS hl
    refine lv_aload_n (pc := 135) hx hb dX7_firstOff_135 rfl (lv_at hl 0 rfl) ?_
    refine vMgRX7_19_0 (pc := 136) hx hb hts mU_84 inU7 hown hK hP (x := (gI S 0)) rfl dX7_firstOff_136 ?_
    refine lv_aload_n (pc := 139) hx hb dX7_firstOff_139 rfl (lv_at hl 0 rfl) ?_
    refine vMgRX7_23_0 (pc := 140) hx hb hts mU_85 inU7 hown hK hP (x := (gI S 1)) rfl dX7_firstOff_140 ?_
    refine lv_imul (pc := 143) hx hb dX7_firstOff_143 ?_
    obtain rfl := Option.some.inj hf
    exact hR H locs 144 ls hP hD hS dX7_firstOff_144
  have lp3 : ∀ (n : Nat) (u5_3 : Int32) (H : Heap) (locs : List Loc) (ls : Array Slot), fX7_firstOff_L3 (some ((gI S 0) * (gI S 1))) S a1 a2 a3 a4 n u5_3 = some z → va_P D vwCl (wM A B S) H → va_D Ad (wM A B S) → va_S Ad s.heap H locs → lv_has ls 9 [(0, .ref (A 0)), (1, .int a1), (2, .int a2), (3, .int a3), (4, .int a4), (5, .int u5_3)] → W p l e rm_X7_firstOff s m args below meth c H locs 0 0 Q (F0 m 3 ls []) := by
    intro n3
    induction n3 with
    | zero => intro u5_3 H locs ls hf; exact hf_0 hf
    | succ n3 ih3 =>
      intro u5_3 H locs ls hf hP hD hS hl
      rw [fX7_firstOff_L3] at hf
      refine lv_iload (pc := 3) hx hb dX7_firstOff_3 (lv_at hl 5 rfl) ?_
      refine lv_aload_n (pc := 5) hx hb dX7_firstOff_5 rfl (lv_at hl 0 rfl) ?_
      refine vMgRX7_19_0 (pc := 6) hx hb hts mU_84 inU7 hown hK hP (x := (gI S 0)) rfl dX7_firstOff_6 ?_
      refine lv_aload_n (pc := 9) hx hb dX7_firstOff_9 rfl (lv_at hl 0 rfl) ?_
      refine vMgRX7_23_0 (pc := 10) hx hb hts mU_85 inU7 hown hK hP (x := (gI S 1)) rfl dX7_firstOff_10 ?_
      refine lv_imul (pc := 13) hx hb dX7_firstOff_13 ?_
      refine lv_icmp_ge (pc := 14) hx hb (tgt := 135) dX7_firstOff_14 (by decide) (fun c_14 => ?_) (fun c_14 => ?_)
      · have hf := hf_t c_14 hf
        exact hk3  H locs ls hf hP hD hS (lv_sub hl [0] rfl)
      · have hf := hf_f c_14 hf
        refine lv_lconst (pc := 17) hx hb (v := 0) dX7_firstOff_17 (by decide) ?_
        refine lv_lstore (pc := 18) hx hb (lv' := [(6, .long 0), (0, .ref (A 0)), (1, .int a1), (2, .int a2), (3, .int a3), (4, .int a4), (5, .int u5_3)]) dX7_firstOff_18 hl (by decide) rfl (fun ls hl => ?_)
        refine lv_iconst (pc := 20) hx hb (v := 0) dX7_firstOff_20 (by decide) ?_
        refine lv_istore (pc := 21) hx hb (lv' := [(8, .int 0), (6, .long 0), (0, .ref (A 0)), (1, .int a1), (2, .int a2), (3, .int a3), (4, .int a4), (5, .int u5_3)]) dX7_firstOff_21 hl (by decide) rfl (fun ls hl => ?_)
        obtain ⟨q23, hq23, hf⟩ := hf_b hf
        have hk23 : ∀ (H : Heap) (locs : List Loc) (ls : Array Slot), va_P D vwCl (wM A B S) H → va_D Ad (wM A B S) → va_S Ad s.heap H locs → lv_has ls 9 [(0, .ref (A 0)), (1, .int a1), (2, .int a2), (3, .int a3), (4, .int a4), (5, .int u5_3), (6, .long q23)] → W p l e rm_X7_firstOff s m args below meth c H locs 0 0 Q (F0 m 96 ls []) := by
          intro H locs ls hP hD hS hl
          refine lv_lload (pc := 96) hx hb dX7_firstOff_96 (lv_at hl 6 rfl) ?_
          refine lv_iload (pc := 98) hx hb dX7_firstOff_98 (lv_at hl 4 rfl) ?_
          refine lv_i2l (pc := 100) hx hb (v := a4.toInt64) dX7_firstOff_100 rfl ?_
          refine lv_aload_n (pc := 101) hx hb dX7_firstOff_101 rfl (lv_at hl 0 rfl) ?_
          refine lv_iconst (pc := 102) hx hb (v := 2) dX7_firstOff_102 (by decide) ?_
          refine lv_iload (pc := 103) hx hb dX7_firstOff_103 (lv_at hl 5 rfl) ?_
          refine lv_aload_n (pc := 105) hx hb dX7_firstOff_105 rfl (lv_at hl 0 rfl) ?_
          refine vMgRX7_23_0 (pc := 106) hx hb hts mU_85 inU7 hown hK hP (x := (gI S 1)) rfl dX7_firstOff_106 ?_
          obtain ⟨hg109, hf⟩ := hf_g hf
          refine lv_idiv (pc := 109) hx hb dX7_firstOff_109 hg109 ?_
          refine lv_iload (pc := 110) hx hb dX7_firstOff_110 (lv_at hl 5 rfl) ?_
          refine lv_aload_n (pc := 112) hx hb dX7_firstOff_112 rfl (lv_at hl 0 rfl) ?_
          refine vMgRX7_23_0 (pc := 113) hx hb hts mU_85 inU7 hown hK hP (x := (gI S 1)) rfl dX7_firstOff_113 ?_
          obtain ⟨hg116, hf⟩ := hf_g hf
          refine lv_irem (pc := 116) hx hb dX7_firstOff_116 hg116 ?_
          obtain ⟨r117, hc117, hf⟩ := hf_b hf
          refine cl_V (pc := 117) (As := [.int 2, .int (u5_3 / (gI S 1)), .int (u5_3 - u5_3 / (gI S 1) * (gI S 1))]) (rest := [.long a4.toInt64, .long q23]) hx hb hml hown hts (kX7_its l D A B _ S 2 (u5_3 / (gI S 1)) (u5_3 - u5_3 / (gI S 1) * (gI S 1)) r117 hc117) (cwV 3 hts gwRX7_128 rfl rfl rfl hdX7_its ⟨Nat.le_of_ble_eq_true rfl, Nat.le_of_ble_eq_true rfl⟩) hN hK hP hD hS hA (va_recv hK hP (ci := 7) (q0 := 0) rfl (eM_0 A B _)) rfl hl.1 rfl (Nat.le_of_ble_eq_true rfl) dX7_firstOff_117 (st1 := [.int r117, .long a4.toInt64, .long q23]) rfl ⟨Nat.zero_le _, Nat.zero_le _⟩ (fun H locs hP hD hS => ?_)
          refine lv_i2l (pc := 120) hx hb (v := r117.toInt64) dX7_firstOff_120 rfl ?_
          refine lv_lmul (pc := 121) hx hb dX7_firstOff_121 ?_
          refine W.lcmp (pc := 122) hx hb dX7_firstOff_122 ?_
          refine lv_if_eq (pc := 123) hx hb (tgt := 129) dX7_firstOff_123 (by decide) (fun c_123 => ?_) (fun c_123 => ?_)
          · have c_123 := lg_eq0.mp c_123
            have hf := hf_t c_123 hf
            refine lv_iinc (pc := 129) hx hb (v := u5_3 + 1) (lv' := [(5, .int (u5_3 + 1)), (0, .ref (A 0)), (1, .int a1), (2, .int a2), (3, .int a3), (4, .int a4), (6, .long q23)]) dX7_firstOff_129 hl (k := 5) rfl rfl (by decide) rfl (fun ls hl => ?_)
            refine lv_goto (pc := 132) hx hb (tgt := 3) dX7_firstOff_132 (by decide) ?_
            exact ih3 (u5_3 + 1) H locs ls hf hP hD hS (lv_sub hl [1, 2, 3, 4, 5, 0] rfl)
          · have c_123 := fun h9 => c_123 (lg_eq0.mpr h9)
            have hf := hf_f c_123 hf
            refine lv_iload (pc := 126) hx hb dX7_firstOff_126 (lv_at hl 5 rfl) ?_
            obtain rfl := Option.some.inj hf
            exact hR H locs 128 ls hP hD hS dX7_firstOff_128
        have lp23 : ∀ (n : Nat) (u6_23 : Int64) (u8_23 : Int32) (H : Heap) (locs : List Loc) (ls : Array Slot), fX7_firstOff_L23 S a1 a2 a3 a4 u5_3 n u6_23 u8_23 = some q23 → va_P D vwCl (wM A B S) H → va_D Ad (wM A B S) → va_S Ad s.heap H locs → lv_has ls 9 [(0, .ref (A 0)), (1, .int a1), (2, .int a2), (3, .int a3), (4, .int a4), (5, .int u5_3), (6, .long u6_23), (8, .int u8_23)] → W p l e rm_X7_firstOff s m args below meth c H locs 0 0 Q (F0 m 23 ls []) := by
          intro n23
          induction n23 with
          | zero => intro u6_23 u8_23 H locs ls hq23; exact hf_0 hq23
          | succ n23 ih23 =>
            intro u6_23 u8_23 H locs ls hq23 hP hD hS hl
            rw [fX7_firstOff_L23] at hq23
            refine lv_iload (pc := 23) hx hb dX7_firstOff_23 (lv_at hl 7 rfl) ?_
            refine lv_aload_n (pc := 25) hx hb dX7_firstOff_25 rfl (lv_at hl 0 rfl) ?_
            refine vMgRX7_19_0 (pc := 26) hx hb hts mU_84 inU7 hown hK hP (x := (gI S 0)) rfl dX7_firstOff_26 ?_
            refine lv_aload_n (pc := 29) hx hb dX7_firstOff_29 rfl (lv_at hl 0 rfl) ?_
            refine vMgRX7_23_0 (pc := 30) hx hb hts mU_85 inU7 hown hK hP (x := (gI S 1)) rfl dX7_firstOff_30 ?_
            refine lv_imul (pc := 33) hx hb dX7_firstOff_33 ?_
            refine lv_icmp_ge (pc := 34) hx hb (tgt := 96) dX7_firstOff_34 (by decide) (fun c_34 => ?_) (fun c_34 => ?_)
            · have hq23 := hf_t c_34 hq23
              obtain rfl := Option.some.inj hq23
              exact hk23 H locs ls hP hD hS (lv_sub hl [0, 1, 2, 3, 4, 5, 6] rfl)
            · have hq23 := hf_f c_34 hq23
              refine lv_lload (pc := 37) hx hb dX7_firstOff_37 (lv_at hl 6 rfl) ?_
              refine lv_aload_n (pc := 39) hx hb dX7_firstOff_39 rfl (lv_at hl 0 rfl) ?_
              refine lv_iload_n (pc := 40) hx hb dX7_firstOff_40 rfl (lv_at hl 2 rfl) ?_
              refine lv_iload_n (pc := 41) hx hb dX7_firstOff_41 rfl (lv_at hl 3 rfl) ?_
              refine lv_iload (pc := 42) hx hb dX7_firstOff_42 (lv_at hl 5 rfl) ?_
              refine lv_aload_n (pc := 44) hx hb dX7_firstOff_44 rfl (lv_at hl 0 rfl) ?_
              refine vMgRX7_23_0 (pc := 45) hx hb hts mU_85 inU7 hown hK hP (x := (gI S 1)) rfl dX7_firstOff_45 ?_
              obtain ⟨hg48, hq23⟩ := hf_g hq23
              refine lv_idiv (pc := 48) hx hb dX7_firstOff_48 hg48 ?_
              refine lv_iload (pc := 49) hx hb dX7_firstOff_49 (lv_at hl 5 rfl) ?_
              refine lv_aload_n (pc := 51) hx hb dX7_firstOff_51 rfl (lv_at hl 0 rfl) ?_
              refine vMgRX7_23_0 (pc := 52) hx hb hts mU_85 inU7 hown hK hP (x := (gI S 1)) rfl dX7_firstOff_52 ?_
              obtain ⟨hg55, hq23⟩ := hf_g hq23
              refine lv_irem (pc := 55) hx hb dX7_firstOff_55 hg55 ?_
              refine lv_iload (pc := 56) hx hb dX7_firstOff_56 (lv_at hl 7 rfl) ?_
              refine lv_aload_n (pc := 58) hx hb dX7_firstOff_58 rfl (lv_at hl 0 rfl) ?_
              refine vMgRX7_23_0 (pc := 59) hx hb hts mU_85 inU7 hown hK hP (x := (gI S 1)) rfl dX7_firstOff_59 ?_
              obtain ⟨hg62, hq23⟩ := hf_g hq23
              refine lv_idiv (pc := 62) hx hb dX7_firstOff_62 hg62 ?_
              refine lv_iload (pc := 63) hx hb dX7_firstOff_63 (lv_at hl 7 rfl) ?_
              refine lv_aload_n (pc := 65) hx hb dX7_firstOff_65 rfl (lv_at hl 0 rfl) ?_
              refine vMgRX7_23_0 (pc := 66) hx hb hts mU_85 inU7 hown hK hP (x := (gI S 1)) rfl dX7_firstOff_66 ?_
              obtain ⟨hg69, hq23⟩ := hf_g hq23
              refine lv_irem (pc := 69) hx hb dX7_firstOff_69 hg69 ?_
              obtain ⟨r70, hc70, hq23⟩ := hf_b hq23
              refine cl_V (pc := 70) (As := [.int a2, .int a3, .int (u5_3 / (gI S 1)), .int (u5_3 - u5_3 / (gI S 1) * (gI S 1)), .int (u8_23 / (gI S 1)), .int (u8_23 - u8_23 / (gI S 1) * (gI S 1))]) (rest := [.long u6_23]) hx hb hml hown hts (kX7_times0 l D A B _ S a2 a3 (u5_3 / (gI S 1)) (u5_3 - u5_3 / (gI S 1) * (gI S 1)) (u8_23 / (gI S 1)) (u8_23 - u8_23 / (gI S 1) * (gI S 1)) r70 hc70) (cwV 6 hts gwRX7_222 rfl rfl rfl hdX7_times0 ⟨Nat.le_of_ble_eq_true rfl, Nat.le_of_ble_eq_true rfl⟩) hN hK hP hD hS hA (va_recv hK hP (ci := 7) (q0 := 0) rfl (eM_0 A B _)) rfl hl.1 rfl (Nat.le_of_ble_eq_true rfl) dX7_firstOff_70 (st1 := [.int r70, .long u6_23]) rfl ⟨Nat.zero_le _, Nat.zero_le _⟩ (fun H locs hP hD hS => ?_)
              refine lv_i2l (pc := 73) hx hb (v := r70.toInt64) dX7_firstOff_73 rfl ?_
              refine lv_aload_n (pc := 74) hx hb dX7_firstOff_74 rfl (lv_at hl 0 rfl) ?_
              refine vMgRX7_73_0 (pc := 75) hx hb hts mU_101 inU7 hown hK hP dX7_firstOff_75 ?_
              refine lv_bipush (pc := 78) hx hb (v := 40) dX7_firstOff_78 (by decide) ?_
              refine lv_iload_n (pc := 80) hx hb dX7_firstOff_80 rfl (lv_at hl 1 rfl) ?_
              refine lv_imul (pc := 81) hx hb dX7_firstOff_81 ?_
              refine lv_iload (pc := 82) hx hb dX7_firstOff_82 (lv_at hl 7 rfl) ?_
              refine lv_iadd (pc := 84) hx hb dX7_firstOff_84 ?_
              obtain ⟨hg85, hq23⟩ := hf_g hq23
              refine vMra_18 (pc := 85) hx hb hK hP (f := (gB S 3)) rfl hg85 dX7_firstOff_85 ?_
              refine lv_lmul (pc := 86) hx hb dX7_firstOff_86 ?_
              refine lv_ladd (pc := 87) hx hb dX7_firstOff_87 ?_
              refine lv_lstore (pc := 88) hx hb (lv' := [(6, .long (u6_23 + (r70.toInt64 * ((gB S 3) ((40 * a1) + u8_23).toNatClampNeg)))), (0, .ref (A 0)), (1, .int a1), (2, .int a2), (3, .int a3), (4, .int a4), (5, .int u5_3), (8, .int u8_23)]) dX7_firstOff_88 hl (by decide) rfl (fun ls hl => ?_)
              refine lv_iinc (pc := 90) hx hb (v := u8_23 + 1) (lv' := [(8, .int (u8_23 + 1)), (6, .long (u6_23 + (r70.toInt64 * ((gB S 3) ((40 * a1) + u8_23).toNatClampNeg)))), (0, .ref (A 0)), (1, .int a1), (2, .int a2), (3, .int a3), (4, .int a4), (5, .int u5_3)]) dX7_firstOff_90 hl (k := 7) rfl rfl (by decide) rfl (fun ls hl => ?_)
              refine lv_goto (pc := 93) hx hb (tgt := 23) dX7_firstOff_93 (by decide) ?_
              exact ih23 (u6_23 + (r70.toInt64 * ((gB S 3) ((40 * a1) + u8_23).toNatClampNeg))) (u8_23 + 1) H locs ls hq23 hP hD hS (lv_sub hl [2, 3, 4, 5, 6, 7, 1, 0] rfl)
        exact lp23 256 0 0 H locs ls hq23 hP hD hS (lv_sub hl [2, 3, 4, 5, 6, 7, 1, 0] rfl)
  exact lp3 256 0 H locs ls hf hP hD hS (lv_sub hl [1, 2, 3, 4, 5, 0] rfl)
set_option maxHeartbeats 4000000 in
set_option maxRecDepth 100000 in
theorem kX7_isShaped (l : Launch) (D : va_G) (A : Nat → Nat) (B : Nat → ClassId) (sz : Nat) (S : w_S) (a1 : Int32) (a2 : Int32) (z : Int32) (hf : fX7_isShaped S a1 a2 = some z) : MetW l yX7_isShaped (wsO yX7_isShaped cX7_isShaped 11 (some .boolean)) rm_X7_isShaped [.ref (A 0), .int a1, .int a2] D (tyB B) (wM A B S) (wM A B S) sz (some (.int z)) := by
  refine MetW.mkZ (cc := cX7_isShaped) (maxL := 11) (by decide) (Nat.le_of_ble_eq_true rfl) ?_
  intro p e s m args below meth c Ad Q hx hb hts hown hml hN hK hA hR H locs ls hP hD hS hl
  have hl : lv_has ls 11 [(0, .ref (A 0)), (1, .int a1), (2, .int a2)] := hl
  rw [fX7_isShaped] at hf
  refine lv_iconst (pc := 0) hx hb (v := 1) dX7_isShaped_0 (by decide) ?_
  refine lv_istore_n (pc := 1) hx hb (lv' := [(3, .int 1), (0, .ref (A 0)), (1, .int a1), (2, .int a2)]) dX7_isShaped_1 rfl hl (by decide) rfl (fun ls hl => ?_)
  refine lv_iconst (pc := 2) hx hb (v := 0) dX7_isShaped_2 (by decide) ?_
  refine lv_istore (pc := 3) hx hb (lv' := [(4, .int 0), (3, .int 1), (0, .ref (A 0)), (1, .int a1), (2, .int a2)]) dX7_isShaped_3 hl (by decide) rfl (fun ls hl => ?_)
  obtain ⟨q5, hq5, hf⟩ := hf_b hf
  have hk5 : ∀ (H : Heap) (locs : List Loc) (ls : Array Slot), va_P D vwCl (wM A B S) H → va_D Ad (wM A B S) → va_S Ad s.heap H locs → lv_has ls 11 [(3, .int q5)] → W p l e rm_X7_isShaped s m args below meth c H locs 0 0 Q (F0 m 141 ls []) := by
    intro H locs ls hP hD hS hl
    refine lv_iload_n (pc := 141) hx hb dX7_isShaped_141 rfl (lv_at hl 0 rfl) ?_
    obtain ⟨hg142, hf⟩ := hf_g hf
    obtain rfl := Option.some.inj hf
    exact hR H locs 142 ls hP hD hS (nz_of hg142) dX7_isShaped_142
  have lp5 : ∀ (n : Nat) (u3_5 : Int32) (u4_5 : Int32) (H : Heap) (locs : List Loc) (ls : Array Slot), fX7_isShaped_L5 S a1 a2 n u3_5 u4_5 = some q5 → va_P D vwCl (wM A B S) H → va_D Ad (wM A B S) → va_S Ad s.heap H locs → lv_has ls 11 [(0, .ref (A 0)), (1, .int a1), (2, .int a2), (3, .int u3_5), (4, .int u4_5)] → W p l e rm_X7_isShaped s m args below meth c H locs 0 0 Q (F0 m 5 ls []) := by
    intro n5
    induction n5 with
    | zero => intro u3_5 u4_5 H locs ls hq5; exact hf_0 hq5
    | succ n5 ih5 =>
      intro u3_5 u4_5 H locs ls hq5 hP hD hS hl
      rw [fX7_isShaped_L5] at hq5
      refine lv_iload (pc := 5) hx hb dX7_isShaped_5 (lv_at hl 4 rfl) ?_
      refine lv_aload_n (pc := 7) hx hb dX7_isShaped_7 rfl (lv_at hl 0 rfl) ?_
      refine vMgRX7_19_0 (pc := 8) hx hb hts mU_84 inU7 hown hK hP (x := (gI S 0)) rfl dX7_isShaped_8 ?_
      refine lv_aload_n (pc := 11) hx hb dX7_isShaped_11 rfl (lv_at hl 0 rfl) ?_
      refine vMgRX7_23_0 (pc := 12) hx hb hts mU_85 inU7 hown hK hP (x := (gI S 1)) rfl dX7_isShaped_12 ?_
      refine lv_imul (pc := 15) hx hb dX7_isShaped_15 ?_
      refine lv_icmp_ge (pc := 16) hx hb (tgt := 141) dX7_isShaped_16 (by decide) (fun c_16 => ?_) (fun c_16 => ?_)
      · have hq5 := hf_t c_16 hq5
        obtain rfl := Option.some.inj hq5
        exact hk5 H locs ls hP hD hS (lv_sub hl [3] rfl)
      · have hq5 := hf_f c_16 hq5
        refine lv_iload_n (pc := 19) hx hb dX7_isShaped_19 rfl (lv_at hl 2 rfl) ?_
        refine lv_iconst (pc := 20) hx hb (v := 4) dX7_isShaped_20 (by decide) ?_
        refine lv_icmp_lt (pc := 21) hx hb (tgt := 141) dX7_isShaped_21 (by decide) (fun c_21 => ?_) (fun c_21 => ?_)
        · have hq5 := hf_t c_21 hq5
          obtain rfl := Option.some.inj hq5
          exact hk5 H locs ls hP hD hS (lv_sub hl [3] rfl)
        · have hq5 := hf_f c_21 hq5
          refine lv_iload (pc := 24) hx hb dX7_isShaped_24 (lv_at hl 4 rfl) ?_
          refine lv_aload_n (pc := 26) hx hb dX7_isShaped_26 rfl (lv_at hl 0 rfl) ?_
          refine vMgRX7_23_0 (pc := 27) hx hb hts mU_85 inU7 hown hK hP (x := (gI S 1)) rfl dX7_isShaped_27 ?_
          obtain ⟨hg30, hq5⟩ := hf_g hq5
          refine lv_idiv (pc := 30) hx hb dX7_isShaped_30 hg30 ?_
          refine lv_istore (pc := 31) hx hb (lv' := [(5, .int (u4_5 / (gI S 1))), (0, .ref (A 0)), (1, .int a1), (2, .int a2), (3, .int u3_5), (4, .int u4_5)]) dX7_isShaped_31 hl (by decide) rfl (fun ls hl => ?_)
          refine lv_iload (pc := 33) hx hb dX7_isShaped_33 (lv_at hl 5 rfl) ?_
          refine lv_aload_n (pc := 35) hx hb dX7_isShaped_35 rfl (lv_at hl 1 rfl) ?_
          refine vMgRX7_23_0 (pc := 36) hx hb hts mU_85 inU7 hown hK hP (x := (gI S 1)) rfl dX7_isShaped_36 ?_
          obtain ⟨hg39, hq5⟩ := hf_g hq5
          refine lv_irem (pc := 39) hx hb dX7_isShaped_39 hg39 ?_
          refine lv_istore (pc := 40) hx hb (lv' := [(6, .int (u4_5 - u4_5 / (gI S 1) * (gI S 1))), (5, .int (u4_5 / (gI S 1))), (0, .ref (A 0)), (1, .int a1), (2, .int a2), (3, .int u3_5), (4, .int u4_5)]) dX7_isShaped_40 hl (by decide) rfl (fun ls hl => ?_)
          refine lv_aload_n (pc := 42) hx hb dX7_isShaped_42 rfl (lv_at hl 2 rfl) ?_
          refine vMgRX7_73_0 (pc := 43) hx hb hts mU_101 inU7 hown hK hP dX7_isShaped_43 ?_
          refine lv_bipush (pc := 46) hx hb (v := 40) dX7_isShaped_46 (by decide) ?_
          refine lv_iload_n (pc := 48) hx hb dX7_isShaped_48 rfl (lv_at hl 3 rfl) ?_
          refine lv_imul (pc := 49) hx hb dX7_isShaped_49 ?_
          refine lv_iload (pc := 50) hx hb dX7_isShaped_50 (lv_at hl 6 rfl) ?_
          refine lv_iadd (pc := 52) hx hb dX7_isShaped_52 ?_
          obtain ⟨hg53, hq5⟩ := hf_g hq5
          refine vMra_18 (pc := 53) hx hb hK hP (f := (gB S 3)) rfl hg53 dX7_isShaped_53 ?_
          refine lv_lstore (pc := 54) hx hb (lv' := [(7, .long ((gB S 3) ((40 * a1) + u4_5).toNatClampNeg)), (6, .int (u4_5 - u4_5 / (gI S 1) * (gI S 1))), (5, .int (u4_5 / (gI S 1))), (0, .ref (A 0)), (1, .int a1), (2, .int a2), (3, .int u3_5), (4, .int u4_5)]) dX7_isShaped_54 hl (by decide) rfl (fun ls hl => ?_)
          refine lv_aload_n (pc := 56) hx hb dX7_isShaped_56 rfl (lv_at hl 3 rfl) ?_
          refine vMgRX7_73_0 (pc := 57) hx hb hts mU_101 inU7 hown hK hP dX7_isShaped_57 ?_
          refine lv_bipush (pc := 60) hx hb (v := 40) dX7_isShaped_60 (by decide) ?_
          refine lv_iload_n (pc := 62) hx hb dX7_isShaped_62 rfl (lv_at hl 4 rfl) ?_
          refine lv_imul (pc := 63) hx hb dX7_isShaped_63 ?_
          refine lv_aload_n (pc := 64) hx hb dX7_isShaped_64 rfl (lv_at hl 3 rfl) ?_
          refine vMgRX7_23_0 (pc := 65) hx hb hts mU_85 inU7 hown hK hP (x := (gI S 1)) rfl dX7_isShaped_65 ?_
          refine lv_iload (pc := 68) hx hb dX7_isShaped_68 (lv_at hl 1 rfl) ?_
          refine lv_imul (pc := 70) hx hb dX7_isShaped_70 ?_
          refine lv_iadd (pc := 71) hx hb dX7_isShaped_71 ?_
          refine lv_iload (pc := 72) hx hb dX7_isShaped_72 (lv_at hl 2 rfl) ?_
          refine lv_iadd (pc := 74) hx hb dX7_isShaped_74 ?_
          obtain ⟨hg75, hq5⟩ := hf_g hq5
          refine vMra_18 (pc := 75) hx hb hK hP (f := (gB S 3)) rfl hg75 dX7_isShaped_75 ?_
          refine lv_lstore (pc := 76) hx hb (lv' := [(9, .long ((gB S 3) (((40 * a1) + ((gI S 1) * (u4_5 - u4_5 / (gI S 1) * (gI S 1)))) + (u4_5 / (gI S 1))).toNatClampNeg)), (7, .long ((gB S 3) ((40 * a1) + u4_5).toNatClampNeg)), (6, .int (u4_5 - u4_5 / (gI S 1) * (gI S 1))), (5, .int (u4_5 / (gI S 1))), (0, .ref (A 0)), (1, .int a1), (2, .int a2), (3, .int u3_5), (4, .int u4_5)]) dX7_isShaped_76 hl (by decide) rfl (fun ls hl => ?_)
          refine lv_iload_n (pc := 78) hx hb dX7_isShaped_78 rfl (lv_at hl 7 rfl) ?_
          refine lv_if_eq (pc := 79) hx hb (tgt := 133) dX7_isShaped_79 (by decide) (fun c_79 => ?_) (fun c_79 => ?_)
          · have hq5 := hf_t c_79 hq5
            refine lv_iconst (pc := 133) hx hb (v := 0) dX7_isShaped_133 (by decide) ?_
            refine lv_istore_n (pc := 134) hx hb (lv' := [(3, .int 0), (9, .long ((gB S 3) (((40 * a1) + ((gI S 1) * (u4_5 - u4_5 / (gI S 1) * (gI S 1)))) + (u4_5 / (gI S 1))).toNatClampNeg)), (7, .long ((gB S 3) ((40 * a1) + u4_5).toNatClampNeg)), (6, .int (u4_5 - u4_5 / (gI S 1) * (gI S 1))), (5, .int (u4_5 / (gI S 1))), (0, .ref (A 0)), (1, .int a1), (2, .int a2), (4, .int u4_5)]) dX7_isShaped_134 rfl hl (by decide) rfl (fun ls hl => ?_)
            refine lv_iinc (pc := 135) hx hb (v := u4_5 + 1) (lv' := [(4, .int (u4_5 + 1)), (3, .int 0), (9, .long ((gB S 3) (((40 * a1) + ((gI S 1) * (u4_5 - u4_5 / (gI S 1) * (gI S 1)))) + (u4_5 / (gI S 1))).toNatClampNeg)), (7, .long ((gB S 3) ((40 * a1) + u4_5).toNatClampNeg)), (6, .int (u4_5 - u4_5 / (gI S 1) * (gI S 1))), (5, .int (u4_5 / (gI S 1))), (0, .ref (A 0)), (1, .int a1), (2, .int a2)]) dX7_isShaped_135 hl (k := 8) rfl rfl (by decide) rfl (fun ls hl => ?_)
            refine lv_goto (pc := 138) hx hb (tgt := 5) dX7_isShaped_138 (by decide) ?_
            exact ih5 0 (u4_5 + 1) H locs ls hq5 hP hD hS (lv_sub hl [6, 7, 8, 1, 0] rfl)
          · have hq5 := hf_f c_79 hq5
            refine lv_iload_n (pc := 82) hx hb dX7_isShaped_82 rfl (lv_at hl 6 rfl) ?_
            refine lv_iconst (pc := 83) hx hb (v := 4) dX7_isShaped_83 (by decide) ?_
            refine lv_icmp_ne (pc := 84) hx hb (tgt := 104) dX7_isShaped_84 (by decide) (fun c_84 => ?_) (fun c_84 => ?_)
            · have hq5 := hf_f c_84 hq5
              refine lv_iload_n (pc := 104) hx hb dX7_isShaped_104 rfl (lv_at hl 6 rfl) ?_
              refine lv_iconst (pc := 105) hx hb (v := 5) dX7_isShaped_105 (by decide) ?_
              refine lv_icmp_ne (pc := 106) hx hb (tgt := 120) dX7_isShaped_106 (by decide) (fun c_106 => ?_) (fun c_106 => ?_)
              · have hq5 := hf_f c_106 hq5
                refine lv_lload (pc := 120) hx hb dX7_isShaped_120 (lv_at hl 1 rfl) ?_
                refine lv_lload (pc := 122) hx hb dX7_isShaped_122 (lv_at hl 0 rfl) ?_
                refine lv_lneg (pc := 124) hx hb dX7_isShaped_124 ?_
                refine W.lcmp (pc := 125) hx hb dX7_isShaped_125 ?_
                refine lv_if_ne (pc := 126) hx hb (tgt := 133) dX7_isShaped_126 (by decide) (fun c_126 => ?_) (fun c_126 => ?_)
                · have c_126 := fun h9 => c_126 (lg_eq0.mpr h9)
                  have hq5 := hf_f c_126 hq5
                  refine lv_iconst (pc := 133) hx hb (v := 0) dX7_isShaped_133 (by decide) ?_
                  refine lv_istore_n (pc := 134) hx hb (lv' := [(3, .int 0), (9, .long ((gB S 3) (((40 * a1) + ((gI S 1) * (u4_5 - u4_5 / (gI S 1) * (gI S 1)))) + (u4_5 / (gI S 1))).toNatClampNeg)), (7, .long ((gB S 3) ((40 * a1) + u4_5).toNatClampNeg)), (6, .int (u4_5 - u4_5 / (gI S 1) * (gI S 1))), (5, .int (u4_5 / (gI S 1))), (0, .ref (A 0)), (1, .int a1), (2, .int a2), (4, .int u4_5)]) dX7_isShaped_134 rfl hl (by decide) rfl (fun ls hl => ?_)
                  refine lv_iinc (pc := 135) hx hb (v := u4_5 + 1) (lv' := [(4, .int (u4_5 + 1)), (3, .int 0), (9, .long ((gB S 3) (((40 * a1) + ((gI S 1) * (u4_5 - u4_5 / (gI S 1) * (gI S 1)))) + (u4_5 / (gI S 1))).toNatClampNeg)), (7, .long ((gB S 3) ((40 * a1) + u4_5).toNatClampNeg)), (6, .int (u4_5 - u4_5 / (gI S 1) * (gI S 1))), (5, .int (u4_5 / (gI S 1))), (0, .ref (A 0)), (1, .int a1), (2, .int a2)]) dX7_isShaped_135 hl (k := 8) rfl rfl (by decide) rfl (fun ls hl => ?_)
                  refine lv_goto (pc := 138) hx hb (tgt := 5) dX7_isShaped_138 (by decide) ?_
                  exact ih5 0 (u4_5 + 1) H locs ls hq5 hP hD hS (lv_sub hl [6, 7, 8, 1, 0] rfl)
                · have c_126 := lg_eq0.mp c_126
                  have hq5 := hf_t c_126 hq5
                  refine lv_iconst (pc := 129) hx hb (v := 1) dX7_isShaped_129 (by decide) ?_
                  refine lv_goto (pc := 130) hx hb (tgt := 134) dX7_isShaped_130 (by decide) ?_
                  refine lv_istore_n (pc := 134) hx hb (lv' := [(3, .int 1), (9, .long ((gB S 3) (((40 * a1) + ((gI S 1) * (u4_5 - u4_5 / (gI S 1) * (gI S 1)))) + (u4_5 / (gI S 1))).toNatClampNeg)), (7, .long ((gB S 3) ((40 * a1) + u4_5).toNatClampNeg)), (6, .int (u4_5 - u4_5 / (gI S 1) * (gI S 1))), (5, .int (u4_5 / (gI S 1))), (0, .ref (A 0)), (1, .int a1), (2, .int a2), (4, .int u4_5)]) dX7_isShaped_134 rfl hl (by decide) rfl (fun ls hl => ?_)
                  refine lv_iinc (pc := 135) hx hb (v := u4_5 + 1) (lv' := [(4, .int (u4_5 + 1)), (3, .int 1), (9, .long ((gB S 3) (((40 * a1) + ((gI S 1) * (u4_5 - u4_5 / (gI S 1) * (gI S 1)))) + (u4_5 / (gI S 1))).toNatClampNeg)), (7, .long ((gB S 3) ((40 * a1) + u4_5).toNatClampNeg)), (6, .int (u4_5 - u4_5 / (gI S 1) * (gI S 1))), (5, .int (u4_5 / (gI S 1))), (0, .ref (A 0)), (1, .int a1), (2, .int a2)]) dX7_isShaped_135 hl (k := 8) rfl rfl (by decide) rfl (fun ls hl => ?_)
                  refine lv_goto (pc := 138) hx hb (tgt := 5) dX7_isShaped_138 (by decide) ?_
                  exact ih5 1 (u4_5 + 1) H locs ls hq5 hP hD hS (lv_sub hl [6, 7, 8, 1, 0] rfl)
              · have hq5 := hf_t c_106 hq5
                refine lv_lload (pc := 109) hx hb dX7_isShaped_109 (lv_at hl 1 rfl) ?_
                refine lv_lload (pc := 111) hx hb dX7_isShaped_111 (lv_at hl 0 rfl) ?_
                refine W.lcmp (pc := 113) hx hb dX7_isShaped_113 ?_
                refine lv_if_ne (pc := 114) hx hb (tgt := 133) dX7_isShaped_114 (by decide) (fun c_114 => ?_) (fun c_114 => ?_)
                · have c_114 := fun h9 => c_114 (lg_eq0.mpr h9)
                  have hq5 := hf_f c_114 hq5
                  refine lv_iconst (pc := 133) hx hb (v := 0) dX7_isShaped_133 (by decide) ?_
                  refine lv_istore_n (pc := 134) hx hb (lv' := [(3, .int 0), (9, .long ((gB S 3) (((40 * a1) + ((gI S 1) * (u4_5 - u4_5 / (gI S 1) * (gI S 1)))) + (u4_5 / (gI S 1))).toNatClampNeg)), (7, .long ((gB S 3) ((40 * a1) + u4_5).toNatClampNeg)), (6, .int (u4_5 - u4_5 / (gI S 1) * (gI S 1))), (5, .int (u4_5 / (gI S 1))), (0, .ref (A 0)), (1, .int a1), (2, .int a2), (4, .int u4_5)]) dX7_isShaped_134 rfl hl (by decide) rfl (fun ls hl => ?_)
                  refine lv_iinc (pc := 135) hx hb (v := u4_5 + 1) (lv' := [(4, .int (u4_5 + 1)), (3, .int 0), (9, .long ((gB S 3) (((40 * a1) + ((gI S 1) * (u4_5 - u4_5 / (gI S 1) * (gI S 1)))) + (u4_5 / (gI S 1))).toNatClampNeg)), (7, .long ((gB S 3) ((40 * a1) + u4_5).toNatClampNeg)), (6, .int (u4_5 - u4_5 / (gI S 1) * (gI S 1))), (5, .int (u4_5 / (gI S 1))), (0, .ref (A 0)), (1, .int a1), (2, .int a2)]) dX7_isShaped_135 hl (k := 8) rfl rfl (by decide) rfl (fun ls hl => ?_)
                  refine lv_goto (pc := 138) hx hb (tgt := 5) dX7_isShaped_138 (by decide) ?_
                  exact ih5 0 (u4_5 + 1) H locs ls hq5 hP hD hS (lv_sub hl [6, 7, 8, 1, 0] rfl)
                · have c_114 := lg_eq0.mp c_114
                  have hq5 := hf_t c_114 hq5
                  refine lv_goto (pc := 117) hx hb (tgt := 129) dX7_isShaped_117 (by decide) ?_
                  refine lv_iconst (pc := 129) hx hb (v := 1) dX7_isShaped_129 (by decide) ?_
                  refine lv_goto (pc := 130) hx hb (tgt := 134) dX7_isShaped_130 (by decide) ?_
                  refine lv_istore_n (pc := 134) hx hb (lv' := [(3, .int 1), (9, .long ((gB S 3) (((40 * a1) + ((gI S 1) * (u4_5 - u4_5 / (gI S 1) * (gI S 1)))) + (u4_5 / (gI S 1))).toNatClampNeg)), (7, .long ((gB S 3) ((40 * a1) + u4_5).toNatClampNeg)), (6, .int (u4_5 - u4_5 / (gI S 1) * (gI S 1))), (5, .int (u4_5 / (gI S 1))), (0, .ref (A 0)), (1, .int a1), (2, .int a2), (4, .int u4_5)]) dX7_isShaped_134 rfl hl (by decide) rfl (fun ls hl => ?_)
                  refine lv_iinc (pc := 135) hx hb (v := u4_5 + 1) (lv' := [(4, .int (u4_5 + 1)), (3, .int 1), (9, .long ((gB S 3) (((40 * a1) + ((gI S 1) * (u4_5 - u4_5 / (gI S 1) * (gI S 1)))) + (u4_5 / (gI S 1))).toNatClampNeg)), (7, .long ((gB S 3) ((40 * a1) + u4_5).toNatClampNeg)), (6, .int (u4_5 - u4_5 / (gI S 1) * (gI S 1))), (5, .int (u4_5 / (gI S 1))), (0, .ref (A 0)), (1, .int a1), (2, .int a2)]) dX7_isShaped_135 hl (k := 8) rfl rfl (by decide) rfl (fun ls hl => ?_)
                  refine lv_goto (pc := 138) hx hb (tgt := 5) dX7_isShaped_138 (by decide) ?_
                  exact ih5 1 (u4_5 + 1) H locs ls hq5 hP hD hS (lv_sub hl [6, 7, 8, 1, 0] rfl)
            · have hq5 := hf_t c_84 hq5
              refine lv_iload (pc := 87) hx hb dX7_isShaped_87 (lv_at hl 3 rfl) ?_
              refine lv_iload (pc := 89) hx hb dX7_isShaped_89 (lv_at hl 2 rfl) ?_
              refine lv_icmp_eq (pc := 91) hx hb (tgt := 129) dX7_isShaped_91 (by decide) (fun c_91 => ?_) (fun c_91 => ?_)
              · have hq5 := hf_t c_91 hq5
                refine lv_iconst (pc := 129) hx hb (v := 1) dX7_isShaped_129 (by decide) ?_
                refine lv_goto (pc := 130) hx hb (tgt := 134) dX7_isShaped_130 (by decide) ?_
                refine lv_istore_n (pc := 134) hx hb (lv' := [(3, .int 1), (9, .long ((gB S 3) (((40 * a1) + ((gI S 1) * (u4_5 - u4_5 / (gI S 1) * (gI S 1)))) + (u4_5 / (gI S 1))).toNatClampNeg)), (7, .long ((gB S 3) ((40 * a1) + u4_5).toNatClampNeg)), (6, .int (u4_5 - u4_5 / (gI S 1) * (gI S 1))), (5, .int (u4_5 / (gI S 1))), (0, .ref (A 0)), (1, .int a1), (2, .int a2), (4, .int u4_5)]) dX7_isShaped_134 rfl hl (by decide) rfl (fun ls hl => ?_)
                refine lv_iinc (pc := 135) hx hb (v := u4_5 + 1) (lv' := [(4, .int (u4_5 + 1)), (3, .int 1), (9, .long ((gB S 3) (((40 * a1) + ((gI S 1) * (u4_5 - u4_5 / (gI S 1) * (gI S 1)))) + (u4_5 / (gI S 1))).toNatClampNeg)), (7, .long ((gB S 3) ((40 * a1) + u4_5).toNatClampNeg)), (6, .int (u4_5 - u4_5 / (gI S 1) * (gI S 1))), (5, .int (u4_5 / (gI S 1))), (0, .ref (A 0)), (1, .int a1), (2, .int a2)]) dX7_isShaped_135 hl (k := 8) rfl rfl (by decide) rfl (fun ls hl => ?_)
                refine lv_goto (pc := 138) hx hb (tgt := 5) dX7_isShaped_138 (by decide) ?_
                exact ih5 1 (u4_5 + 1) H locs ls hq5 hP hD hS (lv_sub hl [6, 7, 8, 1, 0] rfl)
              · have hq5 := hf_f c_91 hq5
                refine lv_lload (pc := 94) hx hb dX7_isShaped_94 (lv_at hl 1 rfl) ?_
                refine lv_lconst (pc := 96) hx hb (v := 0) dX7_isShaped_96 (by decide) ?_
                refine W.lcmp (pc := 97) hx hb dX7_isShaped_97 ?_
                refine lv_if_ne (pc := 98) hx hb (tgt := 133) dX7_isShaped_98 (by decide) (fun c_98 => ?_) (fun c_98 => ?_)
                · have c_98 := fun h9 => c_98 (lg_eq0.mpr h9)
                  have hq5 := hf_f c_98 hq5
                  refine lv_iconst (pc := 133) hx hb (v := 0) dX7_isShaped_133 (by decide) ?_
                  refine lv_istore_n (pc := 134) hx hb (lv' := [(3, .int 0), (9, .long ((gB S 3) (((40 * a1) + ((gI S 1) * (u4_5 - u4_5 / (gI S 1) * (gI S 1)))) + (u4_5 / (gI S 1))).toNatClampNeg)), (7, .long ((gB S 3) ((40 * a1) + u4_5).toNatClampNeg)), (6, .int (u4_5 - u4_5 / (gI S 1) * (gI S 1))), (5, .int (u4_5 / (gI S 1))), (0, .ref (A 0)), (1, .int a1), (2, .int a2), (4, .int u4_5)]) dX7_isShaped_134 rfl hl (by decide) rfl (fun ls hl => ?_)
                  refine lv_iinc (pc := 135) hx hb (v := u4_5 + 1) (lv' := [(4, .int (u4_5 + 1)), (3, .int 0), (9, .long ((gB S 3) (((40 * a1) + ((gI S 1) * (u4_5 - u4_5 / (gI S 1) * (gI S 1)))) + (u4_5 / (gI S 1))).toNatClampNeg)), (7, .long ((gB S 3) ((40 * a1) + u4_5).toNatClampNeg)), (6, .int (u4_5 - u4_5 / (gI S 1) * (gI S 1))), (5, .int (u4_5 / (gI S 1))), (0, .ref (A 0)), (1, .int a1), (2, .int a2)]) dX7_isShaped_135 hl (k := 8) rfl rfl (by decide) rfl (fun ls hl => ?_)
                  refine lv_goto (pc := 138) hx hb (tgt := 5) dX7_isShaped_138 (by decide) ?_
                  exact ih5 0 (u4_5 + 1) H locs ls hq5 hP hD hS (lv_sub hl [6, 7, 8, 1, 0] rfl)
                · have c_98 := lg_eq0.mp c_98
                  have hq5 := hf_t c_98 hq5
                  refine lv_goto (pc := 101) hx hb (tgt := 129) dX7_isShaped_101 (by decide) ?_
                  refine lv_iconst (pc := 129) hx hb (v := 1) dX7_isShaped_129 (by decide) ?_
                  refine lv_goto (pc := 130) hx hb (tgt := 134) dX7_isShaped_130 (by decide) ?_
                  refine lv_istore_n (pc := 134) hx hb (lv' := [(3, .int 1), (9, .long ((gB S 3) (((40 * a1) + ((gI S 1) * (u4_5 - u4_5 / (gI S 1) * (gI S 1)))) + (u4_5 / (gI S 1))).toNatClampNeg)), (7, .long ((gB S 3) ((40 * a1) + u4_5).toNatClampNeg)), (6, .int (u4_5 - u4_5 / (gI S 1) * (gI S 1))), (5, .int (u4_5 / (gI S 1))), (0, .ref (A 0)), (1, .int a1), (2, .int a2), (4, .int u4_5)]) dX7_isShaped_134 rfl hl (by decide) rfl (fun ls hl => ?_)
                  refine lv_iinc (pc := 135) hx hb (v := u4_5 + 1) (lv' := [(4, .int (u4_5 + 1)), (3, .int 1), (9, .long ((gB S 3) (((40 * a1) + ((gI S 1) * (u4_5 - u4_5 / (gI S 1) * (gI S 1)))) + (u4_5 / (gI S 1))).toNatClampNeg)), (7, .long ((gB S 3) ((40 * a1) + u4_5).toNatClampNeg)), (6, .int (u4_5 - u4_5 / (gI S 1) * (gI S 1))), (5, .int (u4_5 / (gI S 1))), (0, .ref (A 0)), (1, .int a1), (2, .int a2)]) dX7_isShaped_135 hl (k := 8) rfl rfl (by decide) rfl (fun ls hl => ?_)
                  refine lv_goto (pc := 138) hx hb (tgt := 5) dX7_isShaped_138 (by decide) ?_
                  exact ih5 1 (u4_5 + 1) H locs ls hq5 hP hD hS (lv_sub hl [6, 7, 8, 1, 0] rfl)
  exact lp5 256 1 0 H locs ls hq5 hP hD hS (lv_sub hl [2, 3, 4, 1, 0] rfl)
set_option maxHeartbeats 4000000 in
set_option maxRecDepth 100000 in
theorem kX7_judge (l : Launch) (D : va_G) (A : Nat → Nat) (B : Nat → ClassId) (sz : Nat) (S : w_S) (a1 : Int32) (a2 : Int32) (a3 : Int32) (z : Int32) (hf : fX7_judge S a1 a2 a3 = some z) : MetW l yX7_judge (wsO yX7_judge cX7_judge 5 (some .int)) rm_X7_judge [.ref (A 0), .int a1, .int a2, .int a3] D (tyB B) (wM A B S) (wM A B S) sz (some (.int z)) := by
  refine MetW.mkI (cc := cX7_judge) (maxL := 5) (by decide) (Nat.le_of_ble_eq_true rfl) ?_
  intro p e s m args below meth c Ad Q hx hb hts hown hml hN hK hA hR H locs ls hP hD hS hl
  have hl : lv_has ls 5 [(0, .ref (A 0)), (1, .int a1), (2, .int a2), (3, .int a3)] := hl
  rw [fX7_judge] at hf
  refine lv_aload_n (pc := 0) hx hb dX7_judge_0 rfl (lv_at hl 0 rfl) ?_
  refine lv_iload_n (pc := 1) hx hb dX7_judge_1 rfl (lv_at hl 1 rfl) ?_
  obtain ⟨r2, hc2, hf⟩ := hf_b hf
  refine cl_V (pc := 2) (As := [.int a1]) (rest := []) hx hb hml hown hts (kX7_isEquation l D A B _ S a1 r2 hc2) (cwV 1 hts gwRX7_203 rfl rfl rfl hdX7_isEquation ⟨Nat.le_of_ble_eq_true rfl, Nat.le_of_ble_eq_true rfl⟩) hN hK hP hD hS hA (va_recv hK hP (ci := 7) (q0 := 0) rfl (eM_0 A B _)) rfl hl.1 rfl (Nat.le_of_ble_eq_true rfl) dX7_judge_2 (st1 := [.int r2]) rfl ⟨Nat.zero_le _, Nat.zero_le _⟩ (fun H locs hP hD hS => ?_)
  refine lv_if_eq (pc := 5) hx hb (tgt := 20) dX7_judge_5 (by decide) (fun c_5 => ?_) (fun c_5 => ?_)
  · have hf := hf_t c_5 hf
    refine lv_iconst (pc := 20) hx hb (v := (-1)) dX7_judge_20 (by decide) ?_
    obtain rfl := Option.some.inj hf
    exact hR H locs 21 ls hP hD hS dX7_judge_21
  · have hf := hf_f c_5 hf
    refine lv_iload_n (pc := 8) hx hb dX7_judge_8 rfl (lv_at hl 2 rfl) ?_
    obtain ⟨r9, hc9, hf⟩ := hf_b hf
    refine cl_S (pc := 9) (As := [.int a2]) (rest := []) hx hb hml hown hts (kX7_isSheet l D A B _ S a2 r9 hc9) (va_cwS 1 hts gwRX7_303 rfl rfl rfl hdX7_isSheet ⟨Nat.le_of_ble_eq_true rfl, Nat.le_of_ble_eq_true rfl⟩) hN hK hP hD hS hA rfl hl.1 rfl (Nat.le_of_ble_eq_true rfl) dX7_judge_9 (st1 := [.int r9]) rfl ⟨Nat.zero_le _, Nat.zero_le _⟩ (fun H locs hP hD hS => ?_)
    refine lv_if_eq (pc := 12) hx hb (tgt := 20) dX7_judge_12 (by decide) (fun c_12 => ?_) (fun c_12 => ?_)
    · have hf := hf_t c_12 hf
      refine lv_iconst (pc := 20) hx hb (v := (-1)) dX7_judge_20 (by decide) ?_
      obtain rfl := Option.some.inj hf
      exact hR H locs 21 ls hP hD hS dX7_judge_21
    · have hf := hf_f c_12 hf
      refine lv_iload_n (pc := 15) hx hb dX7_judge_15 rfl (lv_at hl 3 rfl) ?_
      refine lv_iconst (pc := 16) hx hb (v := 1) dX7_judge_16 (by decide) ?_
      refine lv_icmp_ge (pc := 17) hx hb (tgt := 22) dX7_judge_17 (by decide) (fun c_17 => ?_) (fun c_17 => ?_)
      · have hf := hf_t c_17 hf
        refine lv_aload_n (pc := 22) hx hb dX7_judge_22 rfl (lv_at hl 0 rfl) ?_
        refine lv_aload_n (pc := 23) hx hb dX7_judge_23 rfl (lv_at hl 0 rfl) ?_
        refine vMgRX7_29_0 (pc := 24) hx hb hts mU_87 inU7 hown hK hP dX7_judge_24 ?_
        refine lv_iload_n (pc := 27) hx hb dX7_judge_27 rfl (lv_at hl 1 rfl) ?_
        obtain ⟨hg28, hf⟩ := hf_g hf
        refine vMra_4 (pc := 28) hx hb hK hP (f := (gA S 3)) rfl hg28 dX7_judge_28 ?_
        obtain ⟨r29, hc29, hf⟩ := hf_b hf
        refine cl_V (pc := 29) (As := [.int ((gA S 3) a1.toNatClampNeg)]) (rest := []) hx hb hml hown hts (kX7_isLike l D A B _ S ((gA S 3) a1.toNatClampNeg) r29 hc29) (cwV 1 hts gwRX7_209 rfl rfl rfl hdX7_isLike ⟨Nat.le_of_ble_eq_true rfl, Nat.le_of_ble_eq_true rfl⟩) hN hK hP hD hS hA (va_recv hK hP (ci := 7) (q0 := 0) rfl (eM_0 A B _)) rfl hl.1 rfl (Nat.le_of_ble_eq_true rfl) dX7_judge_29 (st1 := [.int r29]) rfl ⟨Nat.zero_le _, Nat.zero_le _⟩ (fun H locs hP hD hS => ?_)
        refine lv_if_ne (pc := 32) hx hb (tgt := 38) dX7_judge_32 (by decide) (fun c_32 => ?_) (fun c_32 => ?_)
        · have hf := hf_f c_32 hf
          refine lv_aload_n (pc := 38) hx hb dX7_judge_38 rfl (lv_at hl 0 rfl) ?_
          refine lv_iload_n (pc := 39) hx hb dX7_judge_39 rfl (lv_at hl 2 rfl) ?_
          obtain ⟨r40, hc40, hf⟩ := hf_b hf
          refine cl_V (pc := 40) (As := [.int a2]) (rest := []) hx hb hml hown hts (kX7_against l D A B _ S a2 r40 hc40) (cwV 1 hts gwRX7_309 rfl rfl rfl hdX7_against ⟨Nat.le_of_ble_eq_true rfl, Nat.le_of_ble_eq_true rfl⟩) hN hK hP hD hS hA (va_recv hK hP (ci := 7) (q0 := 0) rfl (eM_0 A B _)) rfl hl.1 rfl (Nat.le_of_ble_eq_true rfl) dX7_judge_40 (st1 := [.int r40]) rfl ⟨Nat.zero_le _, Nat.zero_le _⟩ (fun H locs hP hD hS => ?_)
          refine lv_if_ge (pc := 43) hx hb (tgt := 52) dX7_judge_43 (by decide) (fun c_43 => ?_) (fun c_43 => ?_)
          · have hf := hf_t c_43 hf
            refine lv_aload_n (pc := 52) hx hb dX7_judge_52 rfl (lv_at hl 0 rfl) ?_
            refine lv_iload_n (pc := 53) hx hb dX7_judge_53 rfl (lv_at hl 2 rfl) ?_
            refine lv_aload_n (pc := 54) hx hb dX7_judge_54 rfl (lv_at hl 0 rfl) ?_
            refine vMgRX7_29_0 (pc := 55) hx hb hts mU_87 inU7 hown hK hP dX7_judge_55 ?_
            refine lv_iload_n (pc := 58) hx hb dX7_judge_58 rfl (lv_at hl 1 rfl) ?_
            obtain ⟨hg59, hf⟩ := hf_g hf
            refine vMra_4 (pc := 59) hx hb hK hP (f := (gA S 3)) rfl hg59 dX7_judge_59 ?_
            refine lv_aload_n (pc := 60) hx hb dX7_judge_60 rfl (lv_at hl 0 rfl) ?_
            refine vMgRX7_32_0 (pc := 61) hx hb hts mU_88 inU7 hown hK hP dX7_judge_61 ?_
            refine lv_iload_n (pc := 64) hx hb dX7_judge_64 rfl (lv_at hl 1 rfl) ?_
            obtain ⟨hg65, hf⟩ := hf_g hf
            refine vMra_5 (pc := 65) hx hb hK hP (f := (gA S 4)) rfl hg65 dX7_judge_65 ?_
            refine lv_iload_n (pc := 66) hx hb dX7_judge_66 rfl (lv_at hl 3 rfl) ?_
            obtain ⟨r67, hc67, hf⟩ := hf_b hf
            refine cl_V (pc := 67) (As := [.int a2, .int ((gA S 3) a1.toNatClampNeg), .int ((gA S 4) a1.toNatClampNeg), .int a3]) (rest := []) hx hb hml hown hts (kX7_firstOff l D A B _ S a2 ((gA S 3) a1.toNatClampNeg) ((gA S 4) a1.toNatClampNeg) a3 r67 hc67) (cwV 4 hts gwRX7_312 rfl rfl rfl hdX7_firstOff ⟨Nat.le_of_ble_eq_true rfl, Nat.le_of_ble_eq_true rfl⟩) hN hK hP hD hS hA (va_recv hK hP (ci := 7) (q0 := 0) rfl (eM_0 A B _)) rfl hl.1 rfl (Nat.le_of_ble_eq_true rfl) dX7_judge_67 (st1 := [.int r67]) rfl ⟨Nat.zero_le _, Nat.zero_le _⟩ (fun H locs hP hD hS => ?_)
            refine lv_istore (pc := 70) hx hb (lv' := [(4, .int r67), (0, .ref (A 0)), (1, .int a1), (2, .int a2), (3, .int a3)]) dX7_judge_70 hl (by decide) rfl (fun ls hl => ?_)
            refine lv_iload (pc := 72) hx hb dX7_judge_72 (lv_at hl 0 rfl) ?_
            refine lv_aload_n (pc := 74) hx hb dX7_judge_74 rfl (lv_at hl 1 rfl) ?_
            refine vMgRX7_19_0 (pc := 75) hx hb hts mU_84 inU7 hown hK hP (x := (gI S 0)) rfl dX7_judge_75 ?_
            refine lv_aload_n (pc := 78) hx hb dX7_judge_78 rfl (lv_at hl 1 rfl) ?_
            refine vMgRX7_23_0 (pc := 79) hx hb hts mU_85 inU7 hown hK hP (x := (gI S 1)) rfl dX7_judge_79 ?_
            refine lv_imul (pc := 82) hx hb dX7_judge_82 ?_
            refine lv_icmp_lt (pc := 83) hx hb (tgt := 100) dX7_judge_83 (by decide) (fun c_83 => ?_) (fun c_83 => ?_)
            · have hf := hf_t c_83 hf
              refine lv_iconst (pc := 100) hx hb (v := 1) dX7_judge_100 (by decide) ?_
              refine lv_iload (pc := 101) hx hb dX7_judge_101 (lv_at hl 0 rfl) ?_
              refine lv_iadd (pc := 103) hx hb dX7_judge_103 ?_
              refine lv_goto (pc := 104) hx hb (tgt := 108) dX7_judge_104 (by decide) ?_
              obtain rfl := Option.some.inj hf
              exact hR H locs 108 ls hP hD hS dX7_judge_108
            · have hf := hf_f c_83 hf
              refine lv_aload_n (pc := 86) hx hb dX7_judge_86 rfl (lv_at hl 1 rfl) ?_
              refine lv_iload_n (pc := 87) hx hb dX7_judge_87 rfl (lv_at hl 3 rfl) ?_
              refine lv_aload_n (pc := 88) hx hb dX7_judge_88 rfl (lv_at hl 1 rfl) ?_
              refine vMgRX7_29_0 (pc := 89) hx hb hts mU_87 inU7 hown hK hP dX7_judge_89 ?_
              refine lv_iload_n (pc := 92) hx hb dX7_judge_92 rfl (lv_at hl 2 rfl) ?_
              obtain ⟨hg93, hf⟩ := hf_g hf
              refine vMra_4 (pc := 93) hx hb hK hP (f := (gA S 3)) rfl hg93 dX7_judge_93 ?_
              obtain ⟨r94, hc94, hf⟩ := hf_b hf
              refine cl_V (pc := 94) (As := [.int a2, .int ((gA S 3) a1.toNatClampNeg)]) (rest := []) hx hb hml hown hts (kX7_isShaped l D A B _ S a2 ((gA S 3) a1.toNatClampNeg) r94 hc94) (cwV 2 hts gwRX7_316 rfl rfl rfl hdX7_isShaped ⟨Nat.le_of_ble_eq_true rfl, Nat.le_of_ble_eq_true rfl⟩) hN hK hP hD hS hA (va_recv hK hP (ci := 7) (q0 := 0) rfl (eM_0 A B _)) rfl hl.1 rfl (Nat.le_of_ble_eq_true rfl) dX7_judge_94 (st1 := [.int r94]) rfl ⟨Nat.zero_le _, Nat.zero_le _⟩ (fun H locs hP hD hS => ?_)
              refine lv_if_ne (pc := 97) hx hb (tgt := 107) dX7_judge_97 (by decide) (fun c_97 => ?_) (fun c_97 => ?_)
              · have hf := hf_f c_97 hf
                refine lv_iconst (pc := 107) hx hb (v := 0) dX7_judge_107 (by decide) ?_
                obtain rfl := Option.some.inj hf
                exact hR H locs 108 ls hP hD hS dX7_judge_108
              · have hf := hf_t c_97 hf
                refine lv_iconst (pc := 100) hx hb (v := 1) dX7_judge_100 (by decide) ?_
                refine lv_iload (pc := 101) hx hb dX7_judge_101 (lv_at hl 0 rfl) ?_
                refine lv_iadd (pc := 103) hx hb dX7_judge_103 ?_
                refine lv_goto (pc := 104) hx hb (tgt := 108) dX7_judge_104 (by decide) ?_
                obtain rfl := Option.some.inj hf
                exact hR H locs 108 ls hP hD hS dX7_judge_108
          · have hf := hf_f c_43 hf
            refine lv_aload_n (pc := 46) hx hb dX7_judge_46 rfl (lv_at hl 0 rfl) ?_
            refine lv_iload_n (pc := 47) hx hb dX7_judge_47 rfl (lv_at hl 2 rfl) ?_
            obtain ⟨r48, hc48, hf⟩ := hf_b hf
            refine cl_V (pc := 48) (As := [.int a2]) (rest := []) hx hb hml hown hts (kX7_against l D A B _ S a2 r48 hc48) (cwV 1 hts gwRX7_309 rfl rfl rfl hdX7_against ⟨Nat.le_of_ble_eq_true rfl, Nat.le_of_ble_eq_true rfl⟩) hN hK hP hD hS hA (va_recv hK hP (ci := 7) (q0 := 0) rfl (eM_0 A B _)) rfl hl.1 rfl (Nat.le_of_ble_eq_true rfl) dX7_judge_48 (st1 := [.int r48]) rfl ⟨Nat.zero_le _, Nat.zero_le _⟩ (fun H locs hP hD hS => ?_)
            obtain rfl := Option.some.inj hf
            exact hR H locs 51 ls hP hD hS dX7_judge_51
        · have hf := hf_t c_32 hf
          refine lv_bipush (pc := 35) hx hb (v := (-4)) dX7_judge_35 (by decide) ?_
          obtain rfl := Option.some.inj hf
          exact hR H locs 37 ls hP hD hS dX7_judge_37
      · have hf := hf_f c_17 hf
        refine lv_iconst (pc := 20) hx hb (v := (-1)) dX7_judge_20 (by decide) ?_
        obtain rfl := Option.some.inj hf
        exact hR H locs 21 ls hP hD hS dX7_judge_21
set_option maxHeartbeats 4000000 in
set_option maxRecDepth 100000 in
theorem kX7_kinds (l : Launch) (D : va_G) (A : Nat → Nat) (B : Nat → ClassId) (sz : Nat) (S : w_S) (a1 : Int32) (a2 : Int32) (z : Int32) (hf : fX7_kinds S a1 a2 = some z) : MetW l yX7_kinds (wsO yX7_kinds cX7_kinds 5 (some .int)) rm_X7_kinds [.ref (A 0), .int a1, .int a2] D (tyB B) (wM A B S) (wM A B S) sz (some (.int z)) := by
  refine MetW.mkI (cc := cX7_kinds) (maxL := 5) (by decide) (Nat.le_of_ble_eq_true rfl) ?_
  intro p e s m args below meth c Ad Q hx hb hts hown hml hN hK hA hR H locs ls hP hD hS hl
  have hl : lv_has ls 5 [(0, .ref (A 0)), (1, .int a1), (2, .int a2)] := hl
  rw [fX7_kinds] at hf
  refine lv_iload_n (pc := 0) hx hb dX7_kinds_0 rfl (lv_at hl 1 rfl) ?_
  obtain ⟨r1, hc1, hf⟩ := hf_b hf
  refine cl_S (pc := 1) (As := [.int a1]) (rest := []) hx hb hml hown hts (kX7_isSheet l D A B _ S a1 r1 hc1) (va_cwS 1 hts gwRX7_303 rfl rfl rfl hdX7_isSheet ⟨Nat.le_of_ble_eq_true rfl, Nat.le_of_ble_eq_true rfl⟩) hN hK hP hD hS hA rfl hl.1 rfl (Nat.le_of_ble_eq_true rfl) dX7_kinds_1 (st1 := [.int r1]) rfl ⟨Nat.zero_le _, Nat.zero_le _⟩ (fun H locs hP hD hS => ?_)
  refine lv_if_eq (pc := 4) hx hb (tgt := 21) dX7_kinds_4 (by decide) (fun c_4 => ?_) (fun c_4 => ?_)
  · have hf := hf_t c_4 hf
    refine lv_iconst (pc := 21) hx hb (v := (-1)) dX7_kinds_21 (by decide) ?_
    obtain rfl := Option.some.inj hf
    exact hR H locs 22 ls hP hD hS dX7_kinds_22
  · have hf := hf_f c_4 hf
    refine lv_iload_n (pc := 7) hx hb dX7_kinds_7 rfl (lv_at hl 2 rfl) ?_
    refine lv_i2l (pc := 8) hx hb (v := a2.toInt64) dX7_kinds_8 rfl ?_
    refine lv_ldc2 (pc := 9) hx hb (v := (-2)) hown (hts (.constantLong RX7 201 (-2)) mU_383) dX7_kinds_9 ?_
    refine lv_ldc2 (pc := 12) hx hb (v := 2) hown (hts (.constantLong RX7 97 (2)) mU_167) dX7_kinds_12 ?_
    obtain ⟨r15, hc15, hf⟩ := hf_b hf
    refine cl_S (pc := 15) (As := [.long a2.toInt64, .long (-2), .long 2]) (rest := []) hx hb hml hown hts (kX7_in l D A B _ S a2.toInt64 (-2) 2 r15 hc15) (va_cwS 3 hts gwRX7_99 rfl rfl rfl hdX7_in ⟨Nat.le_of_ble_eq_true rfl, Nat.le_of_ble_eq_true rfl⟩) hN hK hP hD hS hA rfl hl.1 rfl (Nat.le_of_ble_eq_true rfl) dX7_kinds_15 (st1 := [.int r15]) rfl ⟨Nat.zero_le _, Nat.zero_le _⟩ (fun H locs hP hD hS => ?_)
    refine lv_if_ne (pc := 18) hx hb (tgt := 23) dX7_kinds_18 (by decide) (fun c_18 => ?_) (fun c_18 => ?_)
    · have hf := hf_f c_18 hf
      refine lv_aload_n (pc := 23) hx hb dX7_kinds_23 rfl (lv_at hl 0 rfl) ?_
      refine lv_iload_n (pc := 24) hx hb dX7_kinds_24 rfl (lv_at hl 1 rfl) ?_
      obtain ⟨r25, hc25, hf⟩ := hf_b hf
      refine cl_V (pc := 25) (As := [.int a1]) (rest := []) hx hb hml hown hts (kX7_against l D A B _ S a1 r25 hc25) (cwV 1 hts gwRX7_309 rfl rfl rfl hdX7_against ⟨Nat.le_of_ble_eq_true rfl, Nat.le_of_ble_eq_true rfl⟩) hN hK hP hD hS hA (va_recv hK hP (ci := 7) (q0 := 0) rfl (eM_0 A B _)) rfl hl.1 rfl (Nat.le_of_ble_eq_true rfl) dX7_kinds_25 (st1 := [.int r25]) rfl ⟨Nat.zero_le _, Nat.zero_le _⟩ (fun H locs hP hD hS => ?_)
      refine lv_if_ge (pc := 28) hx hb (tgt := 37) dX7_kinds_28 (by decide) (fun c_28 => ?_) (fun c_28 => ?_)
      · have hf := hf_t c_28 hf
        refine lv_iconst (pc := 37) hx hb (v := 0) dX7_kinds_37 (by decide) ?_
        refine lv_istore_n (pc := 38) hx hb (lv' := [(3, .int 0), (0, .ref (A 0)), (1, .int a1), (2, .int a2)]) dX7_kinds_38 rfl hl (by decide) rfl (fun ls hl => ?_)
        refine lv_iconst (pc := 39) hx hb (v := 0) dX7_kinds_39 (by decide) ?_
        refine lv_istore (pc := 40) hx hb (lv' := [(4, .int 0), (3, .int 0), (0, .ref (A 0)), (1, .int a1), (2, .int a2)]) dX7_kinds_40 hl (by decide) rfl (fun ls hl => ?_)
        obtain ⟨q42, hq42, hf⟩ := hf_b hf
        have hk42 : ∀ (H : Heap) (locs : List Loc) (ls : Array Slot), va_P D vwCl (wM A B S) H → va_D Ad (wM A B S) → va_S Ad s.heap H locs → lv_has ls 5 [(3, .int q42)] → W p l e rm_X7_kinds s m args below meth c H locs 0 0 Q (F0 m 106 ls []) := by
          intro H locs ls hP hD hS hl
          refine lv_iload_n (pc := 106) hx hb dX7_kinds_106 rfl (lv_at hl 0 rfl) ?_
          obtain rfl := Option.some.inj hf
          exact hR H locs 107 ls hP hD hS dX7_kinds_107
        have lp42 : ∀ (n : Nat) (u3_42 : Int32) (u4_42 : Int32) (H : Heap) (locs : List Loc) (ls : Array Slot), fX7_kinds_L42 S a1 a2 n u3_42 u4_42 = some q42 → va_P D vwCl (wM A B S) H → va_D Ad (wM A B S) → va_S Ad s.heap H locs → lv_has ls 5 [(0, .ref (A 0)), (1, .int a1), (2, .int a2), (3, .int u3_42), (4, .int u4_42)] → W p l e rm_X7_kinds s m args below meth c H locs 0 0 Q (F0 m 42 ls []) := by
          intro n42
          induction n42 with
          | zero => intro u3_42 u4_42 H locs ls hq42; exact hf_0 hq42
          | succ n42 ih42 =>
            intro u3_42 u4_42 H locs ls hq42 hP hD hS hl
            rw [fX7_kinds_L42] at hq42
            refine lv_iload (pc := 42) hx hb dX7_kinds_42 (lv_at hl 4 rfl) ?_
            refine lv_bipush (pc := 44) hx hb (v := 6) dX7_kinds_44 (by decide) ?_
            refine lv_icmp_gt (pc := 46) hx hb (tgt := 106) dX7_kinds_46 (by decide) (fun c_46 => ?_) (fun c_46 => ?_)
            · have hq42 := hf_t c_46 hq42
              obtain rfl := Option.some.inj hq42
              exact hk42 H locs ls hP hD hS (lv_sub hl [3] rfl)
            · have hq42 := hf_f c_46 hq42
              refine lv_iload_n (pc := 49) hx hb dX7_kinds_49 rfl (lv_at hl 3 rfl) ?_
              refine lv_aload_n (pc := 50) hx hb dX7_kinds_50 rfl (lv_at hl 0 rfl) ?_
              refine lv_iload (pc := 51) hx hb dX7_kinds_51 (lv_at hl 4 rfl) ?_
              obtain ⟨r53, hc53, hq42⟩ := hf_b hq42
              refine cl_V (pc := 53) (As := [.int u4_42]) (rest := [.int u3_42]) hx hb hml hown hts (kX7_isLike l D A B _ S u4_42 r53 hc53) (cwV 1 hts gwRX7_209 rfl rfl rfl hdX7_isLike ⟨Nat.le_of_ble_eq_true rfl, Nat.le_of_ble_eq_true rfl⟩) hN hK hP hD hS hA (va_recv hK hP (ci := 7) (q0 := 0) rfl (eM_0 A B _)) rfl hl.1 rfl (Nat.le_of_ble_eq_true rfl) dX7_kinds_53 (st1 := [.int r53, .int u3_42]) rfl ⟨Nat.zero_le _, Nat.zero_le _⟩ (fun H locs hP hD hS => ?_)
              refine lv_if_eq (pc := 56) hx hb (tgt := 97) dX7_kinds_56 (by decide) (fun c_56 => ?_) (fun c_56 => ?_)
              · have hq42 := hf_t c_56 hq42
                refine lv_iconst (pc := 97) hx hb (v := 0) dX7_kinds_97 (by decide) ?_
                refine lv_ior (pc := 98) hx hb dX7_kinds_98 ?_
                refine lv_istore_n (pc := 99) hx hb (lv' := [(3, .int (u3_42 ||| 0)), (0, .ref (A 0)), (1, .int a1), (2, .int a2), (4, .int u4_42)]) dX7_kinds_99 rfl hl (by decide) rfl (fun ls hl => ?_)
                refine lv_iinc (pc := 100) hx hb (v := u4_42 + 1) (lv' := [(4, .int (u4_42 + 1)), (3, .int (u3_42 ||| 0)), (0, .ref (A 0)), (1, .int a1), (2, .int a2)]) dX7_kinds_100 hl (k := 4) rfl rfl (by decide) rfl (fun ls hl => ?_)
                refine lv_goto (pc := 103) hx hb (tgt := 42) dX7_kinds_103 (by decide) ?_
                exact ih42 (u3_42 ||| 0) (u4_42 + 1) H locs ls hq42 hP hD hS (lv_sub hl [2, 3, 4, 1, 0] rfl)
              · have hq42 := hf_f c_56 hq42
                refine lv_aload_n (pc := 59) hx hb dX7_kinds_59 rfl (lv_at hl 0 rfl) ?_
                refine lv_iload_n (pc := 60) hx hb dX7_kinds_60 rfl (lv_at hl 1 rfl) ?_
                refine lv_iload (pc := 61) hx hb dX7_kinds_61 (lv_at hl 4 rfl) ?_
                refine lv_iload_n (pc := 63) hx hb dX7_kinds_63 rfl (lv_at hl 2 rfl) ?_
                refine lv_iconst (pc := 64) hx hb (v := 1) dX7_kinds_64 (by decide) ?_
                obtain ⟨r65, hc65, hq42⟩ := hf_b hq42
                refine cl_V (pc := 65) (As := [.int a1, .int u4_42, .int a2, .int 1]) (rest := [.int u3_42]) hx hb hml hown hts (kX7_firstOff l D A B _ S a1 u4_42 a2 1 r65 hc65) (cwV 4 hts gwRX7_312 rfl rfl rfl hdX7_firstOff ⟨Nat.le_of_ble_eq_true rfl, Nat.le_of_ble_eq_true rfl⟩) hN hK hP hD hS hA (va_recv hK hP (ci := 7) (q0 := 0) rfl (eM_0 A B _)) rfl hl.1 rfl (Nat.le_of_ble_eq_true rfl) dX7_kinds_65 (st1 := [.int r65, .int u3_42]) rfl ⟨Nat.zero_le _, Nat.zero_le _⟩ (fun H locs hP hD hS => ?_)
                refine lv_aload_n (pc := 68) hx hb dX7_kinds_68 rfl (lv_at hl 0 rfl) ?_
                refine vMgRX7_19_0 (pc := 69) hx hb hts mU_84 inU7 hown hK hP (x := (gI S 0)) rfl dX7_kinds_69 ?_
                refine lv_aload_n (pc := 72) hx hb dX7_kinds_72 rfl (lv_at hl 0 rfl) ?_
                refine vMgRX7_23_0 (pc := 73) hx hb hts mU_85 inU7 hown hK hP (x := (gI S 1)) rfl dX7_kinds_73 ?_
                refine lv_imul (pc := 76) hx hb dX7_kinds_76 ?_
                refine lv_icmp_ne (pc := 77) hx hb (tgt := 97) dX7_kinds_77 (by decide) (fun c_77 => ?_) (fun c_77 => ?_)
                · have hq42 := hf_f c_77 hq42
                  refine lv_iconst (pc := 97) hx hb (v := 0) dX7_kinds_97 (by decide) ?_
                  refine lv_ior (pc := 98) hx hb dX7_kinds_98 ?_
                  refine lv_istore_n (pc := 99) hx hb (lv' := [(3, .int (u3_42 ||| 0)), (0, .ref (A 0)), (1, .int a1), (2, .int a2), (4, .int u4_42)]) dX7_kinds_99 rfl hl (by decide) rfl (fun ls hl => ?_)
                  refine lv_iinc (pc := 100) hx hb (v := u4_42 + 1) (lv' := [(4, .int (u4_42 + 1)), (3, .int (u3_42 ||| 0)), (0, .ref (A 0)), (1, .int a1), (2, .int a2)]) dX7_kinds_100 hl (k := 4) rfl rfl (by decide) rfl (fun ls hl => ?_)
                  refine lv_goto (pc := 103) hx hb (tgt := 42) dX7_kinds_103 (by decide) ?_
                  exact ih42 (u3_42 ||| 0) (u4_42 + 1) H locs ls hq42 hP hD hS (lv_sub hl [2, 3, 4, 1, 0] rfl)
                · have hq42 := hf_t c_77 hq42
                  refine lv_aload_n (pc := 80) hx hb dX7_kinds_80 rfl (lv_at hl 0 rfl) ?_
                  refine lv_iload_n (pc := 81) hx hb dX7_kinds_81 rfl (lv_at hl 1 rfl) ?_
                  refine lv_iload (pc := 82) hx hb dX7_kinds_82 (lv_at hl 4 rfl) ?_
                  obtain ⟨r84, hc84, hq42⟩ := hf_b hq42
                  refine cl_V (pc := 84) (As := [.int a1, .int u4_42]) (rest := [.int u3_42]) hx hb hml hown hts (kX7_isShaped l D A B _ S a1 u4_42 r84 hc84) (cwV 2 hts gwRX7_316 rfl rfl rfl hdX7_isShaped ⟨Nat.le_of_ble_eq_true rfl, Nat.le_of_ble_eq_true rfl⟩) hN hK hP hD hS hA (va_recv hK hP (ci := 7) (q0 := 0) rfl (eM_0 A B _)) rfl hl.1 rfl (Nat.le_of_ble_eq_true rfl) dX7_kinds_84 (st1 := [.int r84, .int u3_42]) rfl ⟨Nat.zero_le _, Nat.zero_le _⟩ (fun H locs hP hD hS => ?_)
                  refine lv_if_eq (pc := 87) hx hb (tgt := 97) dX7_kinds_87 (by decide) (fun c_87 => ?_) (fun c_87 => ?_)
                  · have hq42 := hf_t c_87 hq42
                    refine lv_iconst (pc := 97) hx hb (v := 0) dX7_kinds_97 (by decide) ?_
                    refine lv_ior (pc := 98) hx hb dX7_kinds_98 ?_
                    refine lv_istore_n (pc := 99) hx hb (lv' := [(3, .int (u3_42 ||| 0)), (0, .ref (A 0)), (1, .int a1), (2, .int a2), (4, .int u4_42)]) dX7_kinds_99 rfl hl (by decide) rfl (fun ls hl => ?_)
                    refine lv_iinc (pc := 100) hx hb (v := u4_42 + 1) (lv' := [(4, .int (u4_42 + 1)), (3, .int (u3_42 ||| 0)), (0, .ref (A 0)), (1, .int a1), (2, .int a2)]) dX7_kinds_100 hl (k := 4) rfl rfl (by decide) rfl (fun ls hl => ?_)
                    refine lv_goto (pc := 103) hx hb (tgt := 42) dX7_kinds_103 (by decide) ?_
                    exact ih42 (u3_42 ||| 0) (u4_42 + 1) H locs ls hq42 hP hD hS (lv_sub hl [2, 3, 4, 1, 0] rfl)
                  · have hq42 := hf_f c_87 hq42
                    refine lv_iconst (pc := 90) hx hb (v := 1) dX7_kinds_90 (by decide) ?_
                    refine lv_iload (pc := 91) hx hb dX7_kinds_91 (lv_at hl 4 rfl) ?_
                    refine lv_ishl (pc := 93) hx hb dX7_kinds_93 ?_
                    refine lv_goto (pc := 94) hx hb (tgt := 98) dX7_kinds_94 (by decide) ?_
                    refine lv_ior (pc := 98) hx hb dX7_kinds_98 ?_
                    refine lv_istore_n (pc := 99) hx hb (lv' := [(3, .int (u3_42 ||| (1 <<< (u4_42 &&& 31)))), (0, .ref (A 0)), (1, .int a1), (2, .int a2), (4, .int u4_42)]) dX7_kinds_99 rfl hl (by decide) rfl (fun ls hl => ?_)
                    refine lv_iinc (pc := 100) hx hb (v := u4_42 + 1) (lv' := [(4, .int (u4_42 + 1)), (3, .int (u3_42 ||| (1 <<< (u4_42 &&& 31)))), (0, .ref (A 0)), (1, .int a1), (2, .int a2)]) dX7_kinds_100 hl (k := 4) rfl rfl (by decide) rfl (fun ls hl => ?_)
                    refine lv_goto (pc := 103) hx hb (tgt := 42) dX7_kinds_103 (by decide) ?_
                    exact ih42 (u3_42 ||| (1 <<< (u4_42 &&& 31))) (u4_42 + 1) H locs ls hq42 hP hD hS (lv_sub hl [2, 3, 4, 1, 0] rfl)
        exact lp42 256 0 0 H locs ls hq42 hP hD hS (lv_sub hl [2, 3, 4, 1, 0] rfl)
      · have hf := hf_f c_28 hf
        refine lv_aload_n (pc := 31) hx hb dX7_kinds_31 rfl (lv_at hl 0 rfl) ?_
        refine lv_iload_n (pc := 32) hx hb dX7_kinds_32 rfl (lv_at hl 1 rfl) ?_
        obtain ⟨r33, hc33, hf⟩ := hf_b hf
        refine cl_V (pc := 33) (As := [.int a1]) (rest := []) hx hb hml hown hts (kX7_against l D A B _ S a1 r33 hc33) (cwV 1 hts gwRX7_309 rfl rfl rfl hdX7_against ⟨Nat.le_of_ble_eq_true rfl, Nat.le_of_ble_eq_true rfl⟩) hN hK hP hD hS hA (va_recv hK hP (ci := 7) (q0 := 0) rfl (eM_0 A B _)) rfl hl.1 rfl (Nat.le_of_ble_eq_true rfl) dX7_kinds_33 (st1 := [.int r33]) rfl ⟨Nat.zero_le _, Nat.zero_le _⟩ (fun H locs hP hD hS => ?_)
        obtain rfl := Option.some.inj hf
        exact hR H locs 36 ls hP hD hS dX7_kinds_36
    · have hf := hf_t c_18 hf
      refine lv_iconst (pc := 21) hx hb (v := (-1)) dX7_kinds_21 (by decide) ?_
      obtain rfl := Option.some.inj hf
      exact hR H locs 22 ls hP hD hS dX7_kinds_22
set_option maxHeartbeats 4000000 in
set_option maxRecDepth 100000 in
theorem kX7_ratio (l : Launch) (D : va_G) (A : Nat → Nat) (B : Nat → ClassId) (sz : Nat) (S : w_S) (a1 : Int64) (a3 : Int64) (a5 : Int32) (z : Int64) (hf : fX7_ratio a1 a3 a5 = some z) : MetW l yX7_ratio (wsO yX7_ratio cX7_ratio 17 (some .long)) rm_X7_ratio [.ref (A 0), .long a1, .long a3, .int a5] D (tyB B) (wM A B S) (wM A B S) sz (some (.long z)) := by
  refine MetW.mkL (cc := cX7_ratio) (maxL := 17) (by decide) (Nat.le_of_ble_eq_true rfl) ?_
  intro p e s m args below meth c Ad Q hx hb hts hown hml hN hK hA hR H locs ls hP hD hS hl
  have hl : lv_has ls 17 [(0, .ref (A 0)), (1, .long a1), (3, .long a3), (5, .int a5)] := hl
  rw [fX7_ratio] at hf
  refine lv_iload (pc := 0) hx hb dX7_ratio_0 (lv_at hl 3 rfl) ?_
  refine lv_i2l (pc := 2) hx hb (v := a5.toInt64) dX7_ratio_2 rfl ?_
  refine lv_lconst (pc := 3) hx hb (v := 0) dX7_ratio_3 (by decide) ?_
  refine lv_lconst (pc := 4) hx hb (v := 1) dX7_ratio_4 (by decide) ?_
  obtain ⟨r5, hc5, hf⟩ := hf_b hf
  refine cl_S (pc := 5) (As := [.long a5.toInt64, .long 0, .long 1]) (rest := []) hx hb hml hown hts (kX7_in l D A B _ S a5.toInt64 0 1 r5 hc5) (va_cwS 3 hts gwRX7_99 rfl rfl rfl hdX7_in ⟨Nat.le_of_ble_eq_true rfl, Nat.le_of_ble_eq_true rfl⟩) hN hK hP hD hS hA rfl hl.1 rfl (Nat.le_of_ble_eq_true rfl) dX7_ratio_5 (st1 := [.int r5]) rfl ⟨Nat.zero_le _, Nat.zero_le _⟩ (fun H locs hP hD hS => ?_)
  refine lv_if_ne (pc := 8) hx hb (tgt := 16) dX7_ratio_8 (by decide) (fun c_8 => ?_) (fun c_8 => ?_)
  · have hf := hf_f c_8 hf
    refine lv_lload_n (pc := 16) hx hb dX7_ratio_16 rfl (lv_at hl 2 rfl) ?_
    refine lv_lconst (pc := 17) hx hb (v := 0) dX7_ratio_17 (by decide) ?_
    refine W.lcmp (pc := 18) hx hb dX7_ratio_18 ?_
    refine lv_if_ne (pc := 19) hx hb (tgt := 28) dX7_ratio_19 (by decide) (fun c_19 => ?_) (fun c_19 => ?_)
    · have c_19 := fun h9 => c_19 (lg_eq0.mpr h9)
      have hf := hf_f c_19 hf
      refine lv_lload_n (pc := 28) hx hb dX7_ratio_28 rfl (lv_at hl 1 rfl) ?_
      refine lv_lconst (pc := 29) hx hb (v := 0) dX7_ratio_29 (by decide) ?_
      obtain ⟨q40, hv40, hf⟩ := hf_b hf
      have hj40 : ∀ (H : Heap) (locs : List Loc) (ls : Array Slot), va_P D vwCl (wM A B S) H → va_D Ad (wM A B S) → va_S Ad s.heap H locs → lv_has ls 17 [(1, .long a1), (3, .long a3), (5, .int a5)] → W p l e rm_X7_ratio s m args below meth c H locs 0 0 Q (F0 m 40 ls [.long q40]) := by
        intro H locs ls hP hD hS hl
        refine lv_lstore (pc := 40) hx hb (lv' := [(6, .long q40), (1, .long a1), (3, .long a3), (5, .int a5)]) dX7_ratio_40 hl (by decide) rfl (fun ls hl => ?_)
        refine lv_lload_n (pc := 42) hx hb dX7_ratio_42 rfl (lv_at hl 2 rfl) ?_
        refine lv_lconst (pc := 43) hx hb (v := 0) dX7_ratio_43 (by decide) ?_
        obtain ⟨q54, hv54, hf⟩ := hf_b hf
        have hj54 : ∀ (H : Heap) (locs : List Loc) (ls : Array Slot), va_P D vwCl (wM A B S) H → va_D Ad (wM A B S) → va_S Ad s.heap H locs → lv_has ls 17 [(1, .long a1), (3, .long a3), (5, .int a5), (6, .long q40)] → W p l e rm_X7_ratio s m args below meth c H locs 0 0 Q (F0 m 54 ls [.long q54]) := by
          intro H locs ls hP hD hS hl
          refine lv_lstore (pc := 54) hx hb (lv' := [(8, .long q54), (1, .long a1), (3, .long a3), (5, .int a5), (6, .long q40)]) dX7_ratio_54 hl (by decide) rfl (fun ls hl => ?_)
          refine lv_lload (pc := 56) hx hb dX7_ratio_56 (lv_at hl 4 rfl) ?_
          refine lv_lstore (pc := 58) hx hb (lv' := [(10, .long q40), (8, .long q54), (1, .long a1), (3, .long a3), (5, .int a5), (6, .long q40)]) dX7_ratio_58 hl (by decide) rfl (fun ls hl => ?_)
          refine lv_lload (pc := 60) hx hb dX7_ratio_60 (lv_at hl 1 rfl) ?_
          refine lv_lstore (pc := 62) hx hb (lv' := [(12, .long q54), (10, .long q40), (8, .long q54), (1, .long a1), (3, .long a3), (5, .int a5), (6, .long q40)]) dX7_ratio_62 hl (by decide) rfl (fun ls hl => ?_)
          obtain ⟨q64, hq64, hf⟩ := hf_b hf
          have hk64 : ∀ (H : Heap) (locs : List Loc) (ls : Array Slot), va_P D vwCl (wM A B S) H → va_D Ad (wM A B S) → va_S Ad s.heap H locs → lv_has ls 17 [(1, .long a1), (3, .long a3), (5, .int a5), (6, .long q40), (8, .long q54), (10, .long q64)] → W p l e rm_X7_ratio s m args below meth c H locs 0 0 Q (F0 m 89 ls []) := by
            intro H locs ls hP hD hS hl
            refine lv_lload (pc := 89) hx hb dX7_ratio_89 (lv_at hl 5 rfl) ?_
            refine lv_ldc2 (pc := 91) hx hb (v := (-9223372036854775808)) hown (hts (.constantLong RX7 321 (-9223372036854775808)) mU_846) dX7_ratio_91 ?_
            obtain ⟨q121, hv121, hf⟩ := hf_b hf
            have hj121 : ∀ (H : Heap) (locs : List Loc) (ls : Array Slot), va_P D vwCl (wM A B S) H → va_D Ad (wM A B S) → va_S Ad s.heap H locs → lv_has ls 17 [(1, .long a1), (3, .long a3), (5, .int a5), (8, .long q54), (10, .long q64)] → W p l e rm_X7_ratio s m args below meth c H locs 0 0 Q (F0 m 121 ls [.long q121]) := by
              intro H locs ls hP hD hS hl
              refine lv_lstore (pc := 121) hx hb (lv' := [(12, .long q121), (1, .long a1), (3, .long a3), (5, .int a5), (8, .long q54), (10, .long q64)]) dX7_ratio_121 hl (by decide) rfl (fun ls hl => ?_)
              refine lv_lload (pc := 123) hx hb dX7_ratio_123 (lv_at hl 5 rfl) ?_
              refine lv_ldc2 (pc := 125) hx hb (v := (-9223372036854775808)) hown (hts (.constantLong RX7 321 (-9223372036854775808)) mU_846) dX7_ratio_125 ?_
              obtain ⟨q155, hv155, hf⟩ := hf_b hf
              have hj155 : ∀ (H : Heap) (locs : List Loc) (ls : Array Slot), va_P D vwCl (wM A B S) H → va_D Ad (wM A B S) → va_S Ad s.heap H locs → lv_has ls 17 [(1, .long a1), (3, .long a3), (5, .int a5), (12, .long q121)] → W p l e rm_X7_ratio s m args below meth c H locs 0 0 Q (F0 m 155 ls [.long q155]) := by
                intro H locs ls hP hD hS hl
                refine lv_lstore (pc := 155) hx hb (lv' := [(14, .long q155), (1, .long a1), (3, .long a3), (5, .int a5), (12, .long q121)]) dX7_ratio_155 hl (by decide) rfl (fun ls hl => ?_)
                refine lv_lload_n (pc := 157) hx hb dX7_ratio_157 rfl (lv_at hl 1 rfl) ?_
                refine lv_lconst (pc := 158) hx hb (v := 0) dX7_ratio_158 (by decide) ?_
                obtain ⟨q168, hv168, hf⟩ := hf_b hf
                have hj168 : ∀ (H : Heap) (locs : List Loc) (ls : Array Slot), va_P D vwCl (wM A B S) H → va_D Ad (wM A B S) → va_S Ad s.heap H locs → lv_has ls 17 [(3, .long a3), (5, .int a5), (12, .long q121), (14, .long q155)] → W p l e rm_X7_ratio s m args below meth c H locs 0 0 Q (F0 m 168 ls [.int q168]) := by
                  intro H locs ls hP hD hS hl
                  refine lv_lload_n (pc := 168) hx hb dX7_ratio_168 rfl (lv_at hl 0 rfl) ?_
                  refine lv_lconst (pc := 169) hx hb (v := 0) dX7_ratio_169 (by decide) ?_
                  obtain ⟨q179, hv179, hf⟩ := hf_b hf
                  have hj179 : ∀ (H : Heap) (locs : List Loc) (ls : Array Slot), va_P D vwCl (wM A B S) H → va_D Ad (wM A B S) → va_S Ad s.heap H locs → lv_has ls 17 [(5, .int a5), (12, .long q121), (14, .long q155)] → W p l e rm_X7_ratio s m args below meth c H locs 0 0 Q (F0 m 179 ls [.int q179, .int q168]) := by
                    intro H locs ls hP hD hS hl
                    obtain ⟨q187, hv187, hf⟩ := hf_b hf
                    have hj187 : ∀ (H : Heap) (locs : List Loc) (ls : Array Slot), va_P D vwCl (wM A B S) H → va_D Ad (wM A B S) → va_S Ad s.heap H locs → lv_has ls 17 [(5, .int a5), (12, .long q121), (14, .long q155)] → W p l e rm_X7_ratio s m args below meth c H locs 0 0 Q (F0 m 187 ls [.int q187]) := by
                      intro H locs ls hP hD hS hl
                      refine lv_istore (pc := 187) hx hb (lv' := [(16, .int q187), (5, .int a5), (12, .long q121), (14, .long q155)]) dX7_ratio_187 hl (by decide) rfl (fun ls hl => ?_)
                      refine lv_lload (pc := 189) hx hb dX7_ratio_189 (lv_at hl 3 rfl) ?_
                      refine lv_ldc2 (pc := 191) hx hb (v := (-9223372036854775808)) hown (hts (.constantLong RX7 321 (-9223372036854775808)) mU_846) dX7_ratio_191 ?_
                      refine W.lcmp (pc := 194) hx hb dX7_ratio_194 ?_
                      refine lv_if_eq (pc := 195) hx hb (tgt := 212) dX7_ratio_195 (by decide) (fun c_195 => ?_) (fun c_195 => ?_)
                      · have c_195 := lg_eq0.mp c_195
                        have hf := hf_t c_195 hf
                        refine lv_bipush (pc := 212) hx hb (v := (-16)) dX7_ratio_212 (by decide) ?_
                        obtain ⟨r214, hc214, hf⟩ := hf_b hf
                        refine cl_S (pc := 214) (As := [.int (-16)]) (rest := []) hx hb hml hown hts (kX7_told l D A B _ S (-16) r214 hc214) (va_cwS 1 hts gwRX7_140 rfl rfl rfl hdX7_told ⟨Nat.le_of_ble_eq_true rfl, Nat.le_of_ble_eq_true rfl⟩) hN hK hP hD hS hA rfl hl.1 rfl (Nat.le_of_ble_eq_true rfl) dX7_ratio_214 (st1 := [.long r214]) rfl ⟨Nat.zero_le _, Nat.zero_le _⟩ (fun H locs hP hD hS => ?_)
                        obtain rfl := Option.some.inj hf
                        exact hR H locs 217 ls hP hD hS dX7_ratio_217
                      · have c_195 := fun h9 => c_195 (lg_eq0.mpr h9)
                        have hf := hf_f c_195 hf
                        refine lv_iload (pc := 198) hx hb dX7_ratio_198 (lv_at hl 0 rfl) ?_
                        refine lv_if_ne (pc := 200) hx hb (tgt := 218) dX7_ratio_200 (by decide) (fun c_200 => ?_) (fun c_200 => ?_)
                        · have hf := hf_f c_200 hf
                          refine lv_iload (pc := 218) hx hb dX7_ratio_218 (lv_at hl 1 rfl) ?_
                          refine lv_iconst (pc := 220) hx hb (v := 1) dX7_ratio_220 (by decide) ?_
                          refine lv_icmp_ne (pc := 221) hx hb (tgt := 230) dX7_ratio_221 (by decide) (fun c_221 => ?_) (fun c_221 => ?_)
                          · have hf := hf_f c_221 hf
                            refine lv_iload (pc := 230) hx hb dX7_ratio_230 (lv_at hl 0 rfl) ?_
                            refine lv_if_eq (pc := 232) hx hb (tgt := 240) dX7_ratio_232 (by decide) (fun c_232 => ?_) (fun c_232 => ?_)
                            · have hf := hf_t c_232 hf
                              refine lv_lload (pc := 240) hx hb dX7_ratio_240 (lv_at hl 2 rfl) ?_
                              refine lv_lneg (pc := 242) hx hb dX7_ratio_242 ?_
                              obtain rfl := Option.some.inj hf
                              exact hR H locs 243 ls hP hD hS dX7_ratio_243
                            · have hf := hf_f c_232 hf
                              refine lv_lload (pc := 235) hx hb dX7_ratio_235 (lv_at hl 2 rfl) ?_
                              refine lv_goto (pc := 237) hx hb (tgt := 243) dX7_ratio_237 (by decide) ?_
                              obtain rfl := Option.some.inj hf
                              exact hR H locs 243 ls hP hD hS dX7_ratio_243
                          · have hf := hf_t c_221 hf
                            refine lv_lload (pc := 224) hx hb dX7_ratio_224 (lv_at hl 3 rfl) ?_
                            refine lv_lneg (pc := 226) hx hb dX7_ratio_226 ?_
                            refine lv_goto (pc := 227) hx hb (tgt := 243) dX7_ratio_227 (by decide) ?_
                            obtain rfl := Option.some.inj hf
                            exact hR H locs 243 ls hP hD hS dX7_ratio_243
                        · have hf := hf_t c_200 hf
                          refine lv_lload (pc := 203) hx hb dX7_ratio_203 (lv_at hl 2 rfl) ?_
                          refine lv_ldc2 (pc := 205) hx hb (v := (-9223372036854775808)) hown (hts (.constantLong RX7 321 (-9223372036854775808)) mU_846) dX7_ratio_205 ?_
                          refine W.lcmp (pc := 208) hx hb dX7_ratio_208 ?_
                          refine lv_if_ne (pc := 209) hx hb (tgt := 218) dX7_ratio_209 (by decide) (fun c_209 => ?_) (fun c_209 => ?_)
                          · have c_209 := fun h9 => c_209 (lg_eq0.mpr h9)
                            have hf := hf_f c_209 hf
                            refine lv_iload (pc := 218) hx hb dX7_ratio_218 (lv_at hl 1 rfl) ?_
                            refine lv_iconst (pc := 220) hx hb (v := 1) dX7_ratio_220 (by decide) ?_
                            refine lv_icmp_ne (pc := 221) hx hb (tgt := 230) dX7_ratio_221 (by decide) (fun c_221 => ?_) (fun c_221 => ?_)
                            · have hf := hf_f c_221 hf
                              refine lv_iload (pc := 230) hx hb dX7_ratio_230 (lv_at hl 0 rfl) ?_
                              refine lv_if_eq (pc := 232) hx hb (tgt := 240) dX7_ratio_232 (by decide) (fun c_232 => ?_) (fun c_232 => ?_)
                              · have hf := hf_t c_232 hf
                                refine lv_lload (pc := 240) hx hb dX7_ratio_240 (lv_at hl 2 rfl) ?_
                                refine lv_lneg (pc := 242) hx hb dX7_ratio_242 ?_
                                obtain rfl := Option.some.inj hf
                                exact hR H locs 243 ls hP hD hS dX7_ratio_243
                              · have hf := hf_f c_232 hf
                                refine lv_lload (pc := 235) hx hb dX7_ratio_235 (lv_at hl 2 rfl) ?_
                                refine lv_goto (pc := 237) hx hb (tgt := 243) dX7_ratio_237 (by decide) ?_
                                obtain rfl := Option.some.inj hf
                                exact hR H locs 243 ls hP hD hS dX7_ratio_243
                            · have hf := hf_t c_221 hf
                              refine lv_lload (pc := 224) hx hb dX7_ratio_224 (lv_at hl 3 rfl) ?_
                              refine lv_lneg (pc := 226) hx hb dX7_ratio_226 ?_
                              refine lv_goto (pc := 227) hx hb (tgt := 243) dX7_ratio_227 (by decide) ?_
                              obtain rfl := Option.some.inj hf
                              exact hR H locs 243 ls hP hD hS dX7_ratio_243
                          · have c_209 := lg_eq0.mp c_209
                            have hf := hf_t c_209 hf
                            refine lv_bipush (pc := 212) hx hb (v := (-16)) dX7_ratio_212 (by decide) ?_
                            obtain ⟨r214, hc214, hf⟩ := hf_b hf
                            refine cl_S (pc := 214) (As := [.int (-16)]) (rest := []) hx hb hml hown hts (kX7_told l D A B _ S (-16) r214 hc214) (va_cwS 1 hts gwRX7_140 rfl rfl rfl hdX7_told ⟨Nat.le_of_ble_eq_true rfl, Nat.le_of_ble_eq_true rfl⟩) hN hK hP hD hS hA rfl hl.1 rfl (Nat.le_of_ble_eq_true rfl) dX7_ratio_214 (st1 := [.long r214]) rfl ⟨Nat.zero_le _, Nat.zero_le _⟩ (fun H locs hP hD hS => ?_)
                            obtain rfl := Option.some.inj hf
                            exact hR H locs 217 ls hP hD hS dX7_ratio_217
                    refine lv_icmp_eq (pc := 179) hx hb (tgt := 186) dX7_ratio_179 (by decide) (fun c_179 => ?_) (fun c_179 => ?_)
                    · have hv187 := hf_t c_179 hv187
                      refine lv_iconst (pc := 186) hx hb (v := 0) dX7_ratio_186 (by decide) ?_
                      obtain rfl := Option.some.inj hv187
                      exact hj187 H locs ls hP hD hS (lv_sub hl [0, 1, 2] rfl)
                    · have hv187 := hf_f c_179 hv187
                      refine lv_iconst (pc := 182) hx hb (v := 1) dX7_ratio_182 (by decide) ?_
                      refine lv_goto (pc := 183) hx hb (tgt := 187) dX7_ratio_183 (by decide) ?_
                      obtain rfl := Option.some.inj hv187
                      exact hj187 H locs ls hP hD hS (lv_sub hl [0, 1, 2] rfl)
                  refine W.lcmp (pc := 170) hx hb dX7_ratio_170 ?_
                  refine lv_if_ge (pc := 171) hx hb (tgt := 178) dX7_ratio_171 (by decide) (fun c_171 => ?_) (fun c_171 => ?_)
                  · have c_171 := lg_ge0.mp c_171
                    have hv179 := hf_f c_171 hv179
                    refine lv_iconst (pc := 178) hx hb (v := 0) dX7_ratio_178 (by decide) ?_
                    obtain rfl := Option.some.inj hv179
                    exact hj179 H locs ls hP hD hS (lv_sub hl [1, 2, 3] rfl)
                  · have c_171 := Classical.byContradiction fun h9 => c_171 (lg_ge0.mpr h9)
                    have hv179 := hf_t c_171 hv179
                    refine lv_iconst (pc := 174) hx hb (v := 1) dX7_ratio_174 (by decide) ?_
                    refine lv_goto (pc := 175) hx hb (tgt := 179) dX7_ratio_175 (by decide) ?_
                    obtain rfl := Option.some.inj hv179
                    exact hj179 H locs ls hP hD hS (lv_sub hl [1, 2, 3] rfl)
                refine W.lcmp (pc := 159) hx hb dX7_ratio_159 ?_
                refine lv_if_ge (pc := 160) hx hb (tgt := 167) dX7_ratio_160 (by decide) (fun c_160 => ?_) (fun c_160 => ?_)
                · have c_160 := lg_ge0.mp c_160
                  have hv168 := hf_f c_160 hv168
                  refine lv_iconst (pc := 167) hx hb (v := 0) dX7_ratio_167 (by decide) ?_
                  obtain rfl := Option.some.inj hv168
                  exact hj168 H locs ls hP hD hS (lv_sub hl [2, 3, 4, 0] rfl)
                · have c_160 := Classical.byContradiction fun h9 => c_160 (lg_ge0.mpr h9)
                  have hv168 := hf_t c_160 hv168
                  refine lv_iconst (pc := 163) hx hb (v := 1) dX7_ratio_163 (by decide) ?_
                  refine lv_goto (pc := 164) hx hb (tgt := 168) dX7_ratio_164 (by decide) ?_
                  obtain rfl := Option.some.inj hv168
                  exact hj168 H locs ls hP hD hS (lv_sub hl [2, 3, 4, 0] rfl)
              refine W.lcmp (pc := 128) hx hb dX7_ratio_128 ?_
              refine lv_if_ne (pc := 129) hx hb (tgt := 149) dX7_ratio_129 (by decide) (fun c_129 => ?_) (fun c_129 => ?_)
              · have c_129 := fun h9 => c_129 (lg_eq0.mpr h9)
                have hv155 := hf_f c_129 hv155
                refine lv_lload (pc := 149) hx hb dX7_ratio_149 (lv_at hl 4 rfl) ?_
                refine lv_lload (pc := 151) hx hb dX7_ratio_151 (lv_at hl 5 rfl) ?_
                refine lv_lneg (pc := 153) hx hb dX7_ratio_153 ?_
                obtain ⟨hg154, hv155⟩ := hf_g hv155
                refine lv_ldiv (pc := 154) hx hb dX7_ratio_154 hg154 ?_
                obtain rfl := Option.some.inj hv155
                exact hj155 H locs ls hP hD hS (lv_sub hl [1, 2, 3, 0] rfl)
              · have c_129 := lg_eq0.mp c_129
                have hv155 := hf_t c_129 hv155
                refine lv_lload (pc := 132) hx hb dX7_ratio_132 (lv_at hl 4 rfl) ?_
                refine lv_lconst (pc := 134) hx hb (v := 0) dX7_ratio_134 (by decide) ?_
                refine W.lcmp (pc := 135) hx hb dX7_ratio_135 ?_
                refine lv_if_ne (pc := 136) hx hb (tgt := 143) dX7_ratio_136 (by decide) (fun c_136 => ?_) (fun c_136 => ?_)
                · have c_136 := fun h9 => c_136 (lg_eq0.mpr h9)
                  have hv155 := hf_f c_136 hv155
                  refine lv_ldc2 (pc := 143) hx hb (v := (-1)) hown (hts (.constantLong RX7 323 (-1)) mU_847) dX7_ratio_143 ?_
                  refine lv_goto (pc := 146) hx hb (tgt := 155) dX7_ratio_146 (by decide) ?_
                  obtain rfl := Option.some.inj hv155
                  exact hj155 H locs ls hP hD hS (lv_sub hl [1, 2, 3, 0] rfl)
                · have c_136 := lg_eq0.mp c_136
                  have hv155 := hf_t c_136 hv155
                  refine lv_lconst (pc := 139) hx hb (v := 0) dX7_ratio_139 (by decide) ?_
                  refine lv_goto (pc := 140) hx hb (tgt := 155) dX7_ratio_140 (by decide) ?_
                  obtain rfl := Option.some.inj hv155
                  exact hj155 H locs ls hP hD hS (lv_sub hl [1, 2, 3, 0] rfl)
            refine W.lcmp (pc := 94) hx hb dX7_ratio_94 ?_
            refine lv_if_ne (pc := 95) hx hb (tgt := 115) dX7_ratio_95 (by decide) (fun c_95 => ?_) (fun c_95 => ?_)
            · have c_95 := fun h9 => c_95 (lg_eq0.mpr h9)
              have hv121 := hf_f c_95 hv121
              refine lv_lload (pc := 115) hx hb dX7_ratio_115 (lv_at hl 3 rfl) ?_
              refine lv_lload (pc := 117) hx hb dX7_ratio_117 (lv_at hl 5 rfl) ?_
              refine lv_lneg (pc := 119) hx hb dX7_ratio_119 ?_
              obtain ⟨hg120, hv121⟩ := hf_g hv121
              refine lv_ldiv (pc := 120) hx hb dX7_ratio_120 hg120 ?_
              obtain rfl := Option.some.inj hv121
              exact hj121 H locs ls hP hD hS (lv_sub hl [0, 1, 2, 4, 5] rfl)
            · have c_95 := lg_eq0.mp c_95
              have hv121 := hf_t c_95 hv121
              refine lv_lload (pc := 98) hx hb dX7_ratio_98 (lv_at hl 3 rfl) ?_
              refine lv_lconst (pc := 100) hx hb (v := 0) dX7_ratio_100 (by decide) ?_
              refine W.lcmp (pc := 101) hx hb dX7_ratio_101 ?_
              refine lv_if_ne (pc := 102) hx hb (tgt := 109) dX7_ratio_102 (by decide) (fun c_102 => ?_) (fun c_102 => ?_)
              · have c_102 := fun h9 => c_102 (lg_eq0.mpr h9)
                have hv121 := hf_f c_102 hv121
                refine lv_ldc2 (pc := 109) hx hb (v := (-1)) hown (hts (.constantLong RX7 323 (-1)) mU_847) dX7_ratio_109 ?_
                refine lv_goto (pc := 112) hx hb (tgt := 121) dX7_ratio_112 (by decide) ?_
                obtain rfl := Option.some.inj hv121
                exact hj121 H locs ls hP hD hS (lv_sub hl [0, 1, 2, 4, 5] rfl)
              · have c_102 := lg_eq0.mp c_102
                have hv121 := hf_t c_102 hv121
                refine lv_lconst (pc := 105) hx hb (v := 0) dX7_ratio_105 (by decide) ?_
                refine lv_goto (pc := 106) hx hb (tgt := 121) dX7_ratio_106 (by decide) ?_
                obtain rfl := Option.some.inj hv121
                exact hj121 H locs ls hP hD hS (lv_sub hl [0, 1, 2, 4, 5] rfl)
          have lp64 : ∀ (n : Nat) (u10_64 : Int64) (u12_64 : Int64) (H : Heap) (locs : List Loc) (ls : Array Slot), fX7_ratio_L64 a1 a3 a5 q40 q54 n u10_64 u12_64 = some q64 → va_P D vwCl (wM A B S) H → va_D Ad (wM A B S) → va_S Ad s.heap H locs → lv_has ls 17 [(1, .long a1), (3, .long a3), (5, .int a5), (6, .long q40), (8, .long q54), (10, .long u10_64), (12, .long u12_64)] → W p l e rm_X7_ratio s m args below meth c H locs 0 0 Q (F0 m 64 ls []) := by
            intro n64
            induction n64 with
            | zero => intro u10_64 u12_64 H locs ls hq64; exact hf_0 hq64
            | succ n64 ih64 =>
              intro u10_64 u12_64 H locs ls hq64 hP hD hS hl
              rw [fX7_ratio_L64] at hq64
              refine lv_lload (pc := 64) hx hb dX7_ratio_64 (lv_at hl 6 rfl) ?_
              refine lv_lconst (pc := 66) hx hb (v := 0) dX7_ratio_66 (by decide) ?_
              refine W.lcmp (pc := 67) hx hb dX7_ratio_67 ?_
              refine lv_if_eq (pc := 68) hx hb (tgt := 89) dX7_ratio_68 (by decide) (fun c_68 => ?_) (fun c_68 => ?_)
              · have c_68 := lg_eq0.mp c_68
                have hq64 := hf_t c_68 hq64
                obtain rfl := Option.some.inj hq64
                exact hk64 H locs ls hP hD hS (lv_sub hl [0, 1, 2, 3, 4, 5] rfl)
              · have c_68 := fun h9 => c_68 (lg_eq0.mpr h9)
                have hq64 := hf_f c_68 hq64
                refine lv_lload (pc := 71) hx hb dX7_ratio_71 (lv_at hl 5 rfl) ?_
                refine lv_lload (pc := 73) hx hb dX7_ratio_73 (lv_at hl 6 rfl) ?_
                obtain ⟨hg75, hq64⟩ := hf_g hq64
                refine lv_lrem (pc := 75) hx hb dX7_ratio_75 hg75 ?_
                refine lv_lstore (pc := 76) hx hb (lv' := [(14, .long (u10_64 - u10_64 / u12_64 * u12_64)), (1, .long a1), (3, .long a3), (5, .int a5), (6, .long q40), (8, .long q54), (10, .long u10_64), (12, .long u12_64)]) dX7_ratio_76 hl (by decide) rfl (fun ls hl => ?_)
                refine lv_lload (pc := 78) hx hb dX7_ratio_78 (lv_at hl 7 rfl) ?_
                refine lv_lstore (pc := 80) hx hb (lv' := [(10, .long u12_64), (14, .long (u10_64 - u10_64 / u12_64 * u12_64)), (1, .long a1), (3, .long a3), (5, .int a5), (6, .long q40), (8, .long q54), (12, .long u12_64)]) dX7_ratio_80 hl (by decide) rfl (fun ls hl => ?_)
                refine lv_lload (pc := 82) hx hb dX7_ratio_82 (lv_at hl 1 rfl) ?_
                refine lv_lstore (pc := 84) hx hb (lv' := [(12, .long (u10_64 - u10_64 / u12_64 * u12_64)), (10, .long u12_64), (14, .long (u10_64 - u10_64 / u12_64 * u12_64)), (1, .long a1), (3, .long a3), (5, .int a5), (6, .long q40), (8, .long q54)]) dX7_ratio_84 hl (by decide) rfl (fun ls hl => ?_)
                refine lv_goto (pc := 86) hx hb (tgt := 64) dX7_ratio_86 (by decide) ?_
                exact ih64 u12_64 (u10_64 - u10_64 / u12_64 * u12_64) H locs ls hq64 hP hD hS (lv_sub hl [3, 4, 5, 6, 7, 1, 0] rfl)
          exact lp64 256 q40 q54 H locs ls hq64 hP hD hS (lv_sub hl [3, 4, 5, 6, 2, 1, 0] rfl)
        refine W.lcmp (pc := 44) hx hb dX7_ratio_44 ?_
        refine lv_if_ge (pc := 45) hx hb (tgt := 52) dX7_ratio_45 (by decide) (fun c_45 => ?_) (fun c_45 => ?_)
        · have c_45 := lg_ge0.mp c_45
          have hv54 := hf_f c_45 hv54
          refine lv_lload_n (pc := 52) hx hb dX7_ratio_52 rfl (lv_at hl 2 rfl) ?_
          refine lv_lneg (pc := 53) hx hb dX7_ratio_53 ?_
          obtain rfl := Option.some.inj hv54
          exact hj54 H locs ls hP hD hS (lv_sub hl [1, 2, 3, 0] rfl)
        · have c_45 := Classical.byContradiction fun h9 => c_45 (lg_ge0.mpr h9)
          have hv54 := hf_t c_45 hv54
          refine lv_lload_n (pc := 48) hx hb dX7_ratio_48 rfl (lv_at hl 2 rfl) ?_
          refine lv_goto (pc := 49) hx hb (tgt := 54) dX7_ratio_49 (by decide) ?_
          obtain rfl := Option.some.inj hv54
          exact hj54 H locs ls hP hD hS (lv_sub hl [1, 2, 3, 0] rfl)
      refine W.lcmp (pc := 30) hx hb dX7_ratio_30 ?_
      refine lv_if_ge (pc := 31) hx hb (tgt := 38) dX7_ratio_31 (by decide) (fun c_31 => ?_) (fun c_31 => ?_)
      · have c_31 := lg_ge0.mp c_31
        have hv40 := hf_f c_31 hv40
        refine lv_lload_n (pc := 38) hx hb dX7_ratio_38 rfl (lv_at hl 1 rfl) ?_
        refine lv_lneg (pc := 39) hx hb dX7_ratio_39 ?_
        obtain rfl := Option.some.inj hv40
        exact hj40 H locs ls hP hD hS (lv_sub hl [1, 2, 3] rfl)
      · have c_31 := Classical.byContradiction fun h9 => c_31 (lg_ge0.mpr h9)
        have hv40 := hf_t c_31 hv40
        refine lv_lload_n (pc := 34) hx hb dX7_ratio_34 rfl (lv_at hl 1 rfl) ?_
        refine lv_goto (pc := 35) hx hb (tgt := 40) dX7_ratio_35 (by decide) ?_
        obtain rfl := Option.some.inj hv40
        exact hj40 H locs ls hP hD hS (lv_sub hl [1, 2, 3] rfl)
    · have c_19 := lg_eq0.mp c_19
      have hf := hf_t c_19 hf
      refine lv_bipush (pc := 22) hx hb (v := (-15)) dX7_ratio_22 (by decide) ?_
      obtain ⟨r24, hc24, hf⟩ := hf_b hf
      refine cl_S (pc := 24) (As := [.int (-15)]) (rest := []) hx hb hml hown hts (kX7_told l D A B _ S (-15) r24 hc24) (va_cwS 1 hts gwRX7_140 rfl rfl rfl hdX7_told ⟨Nat.le_of_ble_eq_true rfl, Nat.le_of_ble_eq_true rfl⟩) hN hK hP hD hS hA rfl hl.1 rfl (Nat.le_of_ble_eq_true rfl) dX7_ratio_24 (st1 := [.long r24]) rfl ⟨Nat.zero_le _, Nat.zero_le _⟩ (fun H locs hP hD hS => ?_)
      obtain rfl := Option.some.inj hf
      exact hR H locs 27 ls hP hD hS dX7_ratio_27
  · have hf := hf_t c_8 hf
    refine lv_iconst (pc := 11) hx hb (v := (-1)) dX7_ratio_11 (by decide) ?_
    obtain ⟨r12, hc12, hf⟩ := hf_b hf
    refine cl_S (pc := 12) (As := [.int (-1)]) (rest := []) hx hb hml hown hts (kX7_told l D A B _ S (-1) r12 hc12) (va_cwS 1 hts gwRX7_140 rfl rfl rfl hdX7_told ⟨Nat.le_of_ble_eq_true rfl, Nat.le_of_ble_eq_true rfl⟩) hN hK hP hD hS hA rfl hl.1 rfl (Nat.le_of_ble_eq_true rfl) dX7_ratio_12 (st1 := [.long r12]) rfl ⟨Nat.zero_le _, Nat.zero_le _⟩ (fun H locs hP hD hS => ?_)
    obtain rfl := Option.some.inj hf
    exact hR H locs 15 ls hP hD hS dX7_ratio_15
set_option maxHeartbeats 4000000 in
set_option maxRecDepth 100000 in
theorem kX7_seed (l : Launch) (D : va_G) (A : Nat → Nat) (B : Nat → ClassId) (sz : Nat) (S : w_S) (a1 : Int32) (z : Int32 × w_S) (hf : fX7_seed S a1 = some z) : MetW l yX7_seed (wsO yX7_seed cX7_seed 3 (some .int)) rm_X7_seed [.ref (A 0), .int a1] D (tyB B) (wM A B S) (wM A B z.2) sz (some (.int z.1)) := by
  refine MetW.mkI (cc := cX7_seed) (maxL := 3) (by decide) (Nat.le_of_ble_eq_true rfl) ?_
  intro p e s m args below meth c Ad Q hx hb hts hown hml hN hK hA hR H locs ls hP hD hS hl
  have hl : lv_has ls 3 [(0, .ref (A 0)), (1, .int a1)] := hl
  rw [fX7_seed] at hf
  refine lv_aload_n (pc := 0) hx hb dX7_seed_0 rfl (lv_at hl 0 rfl) ?_
  refine vMgRX7_26_0 (pc := 1) hx hb hts mU_86 inU7 hown hK hP (x := (gI S 3)) rfl dX7_seed_1 ?_
  refine lv_istore_n (pc := 4) hx hb (lv' := [(2, .int (gI S 3)), (0, .ref (A 0)), (1, .int a1)]) dX7_seed_4 rfl hl (by decide) rfl (fun ls hl => ?_)
  refine lv_aload_n (pc := 5) hx hb dX7_seed_5 rfl (lv_at hl 1 rfl) ?_
  refine lv_iload_n (pc := 6) hx hb dX7_seed_6 rfl (lv_at hl 2 rfl) ?_
  refine vMpRX7_26_0 (pc := 7) hx hb hts mU_86 inU7 hown hK hP hD hS dX7_seed_7 (fun H locs hP hD hS => ?_)
  refine lv_iload_n (pc := 10) hx hb dX7_seed_10 rfl (lv_at hl 0 rfl) ?_
  obtain rfl := Option.some.inj hf
  exact hR H locs 11 ls hP hD hS dX7_seed_11
set_option maxHeartbeats 4000000 in
set_option maxRecDepth 100000 in
theorem kX7_lots (l : Launch) (D : va_G) (A : Nat → Nat) (B : Nat → ClassId) (sz : Nat) (S : w_S) (z : w_S) (hf : fX7_lots S = some z) : MetW l yX7_lots (wsO yX7_lots cX7_lots 4 none) rm_X7_lots [.ref (A 0)] D (tyB B) (wM A B S) (wM A B z) sz (none) := by
  refine MetW.mkV (cc := cX7_lots) (maxL := 4) (by decide) (Nat.le_of_ble_eq_true rfl) ?_
  intro p e s m args below meth c Ad Q hx hb hts hown hml hN hK hA hR H locs ls hP hD hS hl
  have hl : lv_has ls 4 [(0, .ref (A 0))] := hl
  rw [fX7_lots] at hf
  refine lv_iconst (pc := 0) hx hb (v := 0) dX7_lots_0 (by decide) ?_
  refine lv_istore_n (pc := 1) hx hb (lv' := [(1, .int 0), (0, .ref (A 0))]) dX7_lots_1 rfl hl (by decide) rfl (fun ls hl => ?_)
  obtain ⟨q2, hq2, hf⟩ := hf_b hf
  have hk2 : ∀ (H : Heap) (locs : List Loc) (ls : Array Slot), va_P D vwCl (wM A B q2) H → va_D Ad (wM A B q2) → va_S Ad s.heap H locs → lv_has ls 4 [] → W p l e rm_X7_lots s m args below meth c H locs 0 0 Q (F0 m 111 ls []) := by
    intro H locs ls hP hD hS hl
    obtain rfl := Option.some.inj hf
    exact hR H locs 111 ls hP hD hS dX7_lots_111
  have lp2 : ∀ (n : Nat) (T2 : w_S) (u1_2 : Int32) (H : Heap) (locs : List Loc) (ls : Array Slot), fX7_lots_L2  n T2 u1_2 = some q2 → va_P D vwCl (wM A B T2) H → va_D Ad (wM A B T2) → va_S Ad s.heap H locs → lv_has ls 4 [(0, .ref (A 0)), (1, .int u1_2)] → W p l e rm_X7_lots s m args below meth c H locs 0 0 Q (F0 m 2 ls []) := by
    intro n2
    induction n2 with
    | zero => intro T2 u1_2 H locs ls hq2; exact hf_0 hq2
    | succ n2 ih2 =>
      intro T2 u1_2 H locs ls hq2 hP hD hS hl
      rw [fX7_lots_L2] at hq2
      refine lv_iload_n (pc := 2) hx hb dX7_lots_2 rfl (lv_at hl 1 rfl) ?_
      refine lv_iconst (pc := 3) hx hb (v := 3) dX7_lots_3 (by decide) ?_
      refine lv_icmp_ge (pc := 4) hx hb (tgt := 111) dX7_lots_4 (by decide) (fun c_4 => ?_) (fun c_4 => ?_)
      · have hq2 := hf_t c_4 hq2
        obtain rfl := Option.some.inj hq2
        exact hk2 H locs ls hP hD hS (lv_sub hl [] rfl)
      · have hq2 := hf_f c_4 hq2
        refine lv_iconst (pc := 7) hx hb (v := 0) dX7_lots_7 (by decide) ?_
        refine lv_istore_n (pc := 8) hx hb (lv' := [(2, .int 0), (0, .ref (A 0)), (1, .int u1_2)]) dX7_lots_8 rfl hl (by decide) rfl (fun ls hl => ?_)
        obtain ⟨q9, hq9, hq2⟩ := hf_b hq2
        have hk9 : ∀ (H : Heap) (locs : List Loc) (ls : Array Slot), va_P D vwCl (wM A B q9) H → va_D Ad (wM A B q9) → va_S Ad s.heap H locs → lv_has ls 4 [(0, .ref (A 0)), (1, .int u1_2)] → W p l e rm_X7_lots s m args below meth c H locs 0 0 Q (F0 m 105 ls []) := by
          intro H locs ls hP hD hS hl
          refine lv_iinc (pc := 105) hx hb (v := u1_2 + 1) (lv' := [(1, .int (u1_2 + 1)), (0, .ref (A 0))]) dX7_lots_105 hl (k := 1) rfl rfl (by decide) rfl (fun ls hl => ?_)
          refine lv_goto (pc := 108) hx hb (tgt := 2) dX7_lots_108 (by decide) ?_
          exact ih2 q9 (u1_2 + 1) H locs ls hq2 hP hD hS (lv_sub hl [1, 0] rfl)
        have lp9 : ∀ (n : Nat) (T9 : w_S) (u2_9 : Int32) (H : Heap) (locs : List Loc) (ls : Array Slot), fX7_lots_L9 u1_2 n T9 u2_9 = some q9 → va_P D vwCl (wM A B T9) H → va_D Ad (wM A B T9) → va_S Ad s.heap H locs → lv_has ls 4 [(0, .ref (A 0)), (1, .int u1_2), (2, .int u2_9)] → W p l e rm_X7_lots s m args below meth c H locs 0 0 Q (F0 m 9 ls []) := by
          intro n9
          induction n9 with
          | zero => intro T9 u2_9 H locs ls hq9; exact hf_0 hq9
          | succ n9 ih9 =>
            intro T9 u2_9 H locs ls hq9 hP hD hS hl
            rw [fX7_lots_L9] at hq9
            refine lv_iload_n (pc := 9) hx hb dX7_lots_9 rfl (lv_at hl 2 rfl) ?_
            refine lv_aload_n (pc := 10) hx hb dX7_lots_10 rfl (lv_at hl 0 rfl) ?_
            refine lv_iload_n (pc := 11) hx hb dX7_lots_11 rfl (lv_at hl 1 rfl) ?_
            obtain ⟨r12, hc12, hq9⟩ := hf_b hq9
            refine cl_V (pc := 12) (As := [.int u1_2]) (rest := [.int u2_9]) hx hb hml hown hts (kX7_rowsOf l D A B _ T9 u1_2 r12 hc12) (cwV 1 hts gwRX7_103 rfl rfl rfl hdX7_rowsOf ⟨Nat.le_of_ble_eq_true rfl, Nat.le_of_ble_eq_true rfl⟩) hN hK hP hD hS hA (va_recv hK hP (ci := 7) (q0 := 0) rfl (eM_0 A B _)) rfl hl.1 rfl (Nat.le_of_ble_eq_true rfl) dX7_lots_12 (st1 := [.int r12, .int u2_9]) rfl ⟨Nat.zero_le _, Nat.zero_le _⟩ (fun H locs hP hD hS => ?_)
            refine lv_icmp_ge (pc := 15) hx hb (tgt := 105) dX7_lots_15 (by decide) (fun c_15 => ?_) (fun c_15 => ?_)
            · have hq9 := hf_t c_15 hq9
              obtain rfl := Option.some.inj hq9
              exact hk9 H locs ls hP hD hS (lv_sub hl [0, 1] rfl)
            · have hq9 := hf_f c_15 hq9
              refine lv_iconst (pc := 18) hx hb (v := 0) dX7_lots_18 (by decide) ?_
              refine lv_istore_n (pc := 19) hx hb (lv' := [(3, .int 0), (0, .ref (A 0)), (1, .int u1_2), (2, .int u2_9)]) dX7_lots_19 rfl hl (by decide) rfl (fun ls hl => ?_)
              obtain ⟨q20, hq20, hq9⟩ := hf_b hq9
              have hk20 : ∀ (H : Heap) (locs : List Loc) (ls : Array Slot), va_P D vwCl (wM A B q20) H → va_D Ad (wM A B q20) → va_S Ad s.heap H locs → lv_has ls 4 [(0, .ref (A 0)), (1, .int u1_2), (2, .int u2_9)] → W p l e rm_X7_lots s m args below meth c H locs 0 0 Q (F0 m 99 ls []) := by
                intro H locs ls hP hD hS hl
                refine lv_iinc (pc := 99) hx hb (v := u2_9 + 1) (lv' := [(2, .int (u2_9 + 1)), (0, .ref (A 0)), (1, .int u1_2)]) dX7_lots_99 hl (k := 2) rfl rfl (by decide) rfl (fun ls hl => ?_)
                refine lv_goto (pc := 102) hx hb (tgt := 9) dX7_lots_102 (by decide) ?_
                exact ih9 q20 (u2_9 + 1) H locs ls hq9 hP hD hS (lv_sub hl [1, 2, 0] rfl)
              have lp20 : ∀ (n : Nat) (T20 : w_S) (u3_20 : Int32) (H : Heap) (locs : List Loc) (ls : Array Slot), fX7_lots_L20 u1_2 u2_9 n T20 u3_20 = some q20 → va_P D vwCl (wM A B T20) H → va_D Ad (wM A B T20) → va_S Ad s.heap H locs → lv_has ls 4 [(0, .ref (A 0)), (1, .int u1_2), (2, .int u2_9), (3, .int u3_20)] → W p l e rm_X7_lots s m args below meth c H locs 0 0 Q (F0 m 20 ls []) := by
                intro n20
                induction n20 with
                | zero => intro T20 u3_20 H locs ls hq20; exact hf_0 hq20
                | succ n20 ih20 =>
                  intro T20 u3_20 H locs ls hq20 hP hD hS hl
                  rw [fX7_lots_L20] at hq20
                  refine lv_iload_n (pc := 20) hx hb dX7_lots_20 rfl (lv_at hl 3 rfl) ?_
                  refine lv_aload_n (pc := 21) hx hb dX7_lots_21 rfl (lv_at hl 0 rfl) ?_
                  refine lv_iload_n (pc := 22) hx hb dX7_lots_22 rfl (lv_at hl 1 rfl) ?_
                  obtain ⟨r23, hc23, hq20⟩ := hf_b hq20
                  refine cl_V (pc := 23) (As := [.int u1_2]) (rest := [.int u3_20]) hx hb hml hown hts (kX7_columnsOf l D A B _ T20 u1_2 r23 hc23) (cwV 1 hts gwRX7_107 rfl rfl rfl hdX7_columnsOf ⟨Nat.le_of_ble_eq_true rfl, Nat.le_of_ble_eq_true rfl⟩) hN hK hP hD hS hA (va_recv hK hP (ci := 7) (q0 := 0) rfl (eM_0 A B _)) rfl hl.1 rfl (Nat.le_of_ble_eq_true rfl) dX7_lots_23 (st1 := [.int r23, .int u3_20]) rfl ⟨Nat.zero_le _, Nat.zero_le _⟩ (fun H locs hP hD hS => ?_)
                  refine lv_icmp_ge (pc := 26) hx hb (tgt := 99) dX7_lots_26 (by decide) (fun c_26 => ?_) (fun c_26 => ?_)
                  · have hq20 := hf_t c_26 hq20
                    obtain rfl := Option.some.inj hq20
                    exact hk20 H locs ls hP hD hS (lv_sub hl [0, 1, 2] rfl)
                  · have hq20 := hf_f c_26 hq20
                    refine lv_aload_n (pc := 29) hx hb dX7_lots_29 rfl (lv_at hl 0 rfl) ?_
                    refine lv_aload_n (pc := 30) hx hb dX7_lots_30 rfl (lv_at hl 0 rfl) ?_
                    refine vMgRX7_26_0 (pc := 31) hx hb hts mU_86 inU7 hown hK hP (x := (gI T20 3)) rfl dX7_lots_31 ?_
                    refine lv_ldcw (pc := 34) hx hb (v := 1103515245) hown (hts (.constant RX7 325 (1103515245)) mU_879) dX7_lots_34 ?_
                    refine lv_imul (pc := 37) hx hb dX7_lots_37 ?_
                    refine lv_sipush (pc := 38) hx hb (v := 12345) dX7_lots_38 (by decide) ?_
                    refine lv_iadd (pc := 41) hx hb dX7_lots_41 ?_
                    refine vMpRX7_26_0 (pc := 42) hx hb hts mU_86 inU7 hown hK hP hD hS dX7_lots_42 (fun H locs hP hD hS => ?_)
                    refine lv_aload_n (pc := 45) hx hb dX7_lots_45 rfl (lv_at hl 0 rfl) ?_
                    refine vMgRX7_7_0 (pc := 46) hx hb hts mU_81 inU7 hown hK hP dX7_lots_46 ?_
                    refine lv_bipush (pc := 49) hx hb (v := 9) dX7_lots_49 (by decide) ?_
                    refine lv_iload_n (pc := 51) hx hb dX7_lots_51 rfl (lv_at hl 1 rfl) ?_
                    refine lv_imul (pc := 52) hx hb dX7_lots_52 ?_
                    refine lv_iconst (pc := 53) hx hb (v := 3) dX7_lots_53 (by decide) ?_
                    refine lv_iload_n (pc := 54) hx hb dX7_lots_54 rfl (lv_at hl 2 rfl) ?_
                    refine lv_imul (pc := 55) hx hb dX7_lots_55 ?_
                    refine lv_iadd (pc := 56) hx hb dX7_lots_56 ?_
                    refine lv_iload_n (pc := 57) hx hb dX7_lots_57 rfl (lv_at hl 3 rfl) ?_
                    refine lv_iadd (pc := 58) hx hb dX7_lots_58 ?_
                    refine lv_iload_n (pc := 59) hx hb dX7_lots_59 rfl (lv_at hl 1 rfl) ?_
                    refine lv_iconst (pc := 60) hx hb (v := 2) dX7_lots_60 (by decide) ?_
                    refine lv_icmp_ne (pc := 61) hx hb (tgt := 80) dX7_lots_61 (by decide) (fun c_61 => ?_) (fun c_61 => ?_)
                    · have hq20 := hf_f c_61 hq20
                      refine lv_aload_n (pc := 80) hx hb dX7_lots_80 rfl (lv_at hl 0 rfl) ?_
                      refine vMgRX7_26_0 (pc := 81) hx hb hts mU_86 inU7 hown hK hP (x := ((gI T20 3) * 1103515245) + 12345) rfl dX7_lots_81 ?_
                      refine lv_bipush (pc := 84) hx hb (v := 16) dX7_lots_84 (by decide) ?_
                      refine lv_iushr (pc := 86) hx hb (v := ((((gI T20 3) * 1103515245) + 12345).toUInt32 >>> ((16 : Int32).toUInt32 &&& Int32.toUInt32 31)).toInt32) dX7_lots_86 rfl ?_
                      refine lv_bipush (pc := 87) hx hb (v := 11) dX7_lots_87 (by decide) ?_
                      refine lv_irem (pc := 89) hx hb dX7_lots_89 (by decide) ?_
                      refine lv_iconst (pc := 90) hx hb (v := 5) dX7_lots_90 (by decide) ?_
                      refine lv_isub (pc := 91) hx hb dX7_lots_91 ?_
                      obtain ⟨hg92, hq20⟩ := hf_g hq20
                      refine vMwa_1 (pc := 92) hx hb hK hP hD hS (f := (gA T20 0)) rfl hg92 dX7_lots_92 (fun H locs hP hD hS => ?_)
                      refine lv_iinc (pc := 93) hx hb (v := u3_20 + 1) (lv' := [(3, .int (u3_20 + 1)), (0, .ref (A 0)), (1, .int u1_2), (2, .int u2_9)]) dX7_lots_93 hl (k := 3) rfl rfl (by decide) rfl (fun ls hl => ?_)
                      refine lv_goto (pc := 96) hx hb (tgt := 20) dX7_lots_96 (by decide) ?_
                      exact ih20 (sA (sI T20 3 (((gI T20 3) * 1103515245) + 12345)) 0 (upd (gA T20 0) (((9 * u1_2) + (3 * u2_9)) + u3_20).toNatClampNeg (((((((gI T20 3) * 1103515245) + 12345).toUInt32 >>> ((16 : Int32).toUInt32 &&& Int32.toUInt32 31)).toInt32) - (((((gI T20 3) * 1103515245) + 12345).toUInt32 >>> ((16 : Int32).toUInt32 &&& Int32.toUInt32 31)).toInt32) / 11 * 11) - 5))) (u3_20 + 1) H locs ls hq20 hP hD hS (lv_sub hl [1, 2, 3, 0] rfl)
                    · have hq20 := hf_t c_61 hq20
                      refine lv_aload_n (pc := 64) hx hb dX7_lots_64 rfl (lv_at hl 0 rfl) ?_
                      refine vMgRX7_26_0 (pc := 65) hx hb hts mU_86 inU7 hown hK hP (x := ((gI T20 3) * 1103515245) + 12345) rfl dX7_lots_65 ?_
                      refine lv_bipush (pc := 68) hx hb (v := 16) dX7_lots_68 (by decide) ?_
                      refine lv_iushr (pc := 70) hx hb (v := ((((gI T20 3) * 1103515245) + 12345).toUInt32 >>> ((16 : Int32).toUInt32 &&& Int32.toUInt32 31)).toInt32) dX7_lots_70 rfl ?_
                      refine lv_bipush (pc := 71) hx hb (v := 101) dX7_lots_71 (by decide) ?_
                      refine lv_irem (pc := 73) hx hb dX7_lots_73 (by decide) ?_
                      refine lv_bipush (pc := 74) hx hb (v := 50) dX7_lots_74 (by decide) ?_
                      refine lv_isub (pc := 76) hx hb dX7_lots_76 ?_
                      refine lv_goto (pc := 77) hx hb (tgt := 92) dX7_lots_77 (by decide) ?_
                      obtain ⟨hg92, hq20⟩ := hf_g hq20
                      refine vMwa_1 (pc := 92) hx hb hK hP hD hS (f := (gA T20 0)) rfl hg92 dX7_lots_92 (fun H locs hP hD hS => ?_)
                      refine lv_iinc (pc := 93) hx hb (v := u3_20 + 1) (lv' := [(3, .int (u3_20 + 1)), (0, .ref (A 0)), (1, .int u1_2), (2, .int u2_9)]) dX7_lots_93 hl (k := 3) rfl rfl (by decide) rfl (fun ls hl => ?_)
                      refine lv_goto (pc := 96) hx hb (tgt := 20) dX7_lots_96 (by decide) ?_
                      exact ih20 (sA (sI T20 3 (((gI T20 3) * 1103515245) + 12345)) 0 (upd (gA T20 0) (((9 * u1_2) + (3 * u2_9)) + u3_20).toNatClampNeg (((((((gI T20 3) * 1103515245) + 12345).toUInt32 >>> ((16 : Int32).toUInt32 &&& Int32.toUInt32 31)).toInt32) - (((((gI T20 3) * 1103515245) + 12345).toUInt32 >>> ((16 : Int32).toUInt32 &&& Int32.toUInt32 31)).toInt32) / 101 * 101) - 50))) (u3_20 + 1) H locs ls hq20 hP hD hS (lv_sub hl [1, 2, 3, 0] rfl)
              exact lp20 256 T9 0 H locs ls hq20 hP hD hS (lv_sub hl [1, 2, 3, 0] rfl)
        exact lp9 256 T2 0 H locs ls hq9 hP hD hS (lv_sub hl [1, 2, 0] rfl)
  exact lp2 256 S 0 H locs ls hq2 hP hD hS (lv_sub hl [1, 0] rfl)
set_option maxHeartbeats 4000000 in
set_option maxRecDepth 100000 in
theorem kX7_lot (l : Launch) (D : va_G) (A : Nat → Nat) (B : Nat → ClassId) (sz : Nat) (S : w_S) (z : Int32 × w_S) (hf : fX7_lot S = some z) : MetW l yX7_lot (wsO yX7_lot cX7_lot 1 (some .int)) rm_X7_lot [.ref (A 0)] D (tyB B) (wM A B S) (wM A B z.2) sz (some (.int z.1)) := by
  refine MetW.mkI (cc := cX7_lot) (maxL := 1) (by decide) (Nat.le_of_ble_eq_true rfl) ?_
  intro p e s m args below meth c Ad Q hx hb hts hown hml hN hK hA hR H locs ls hP hD hS hl
  have hl : lv_has ls 1 [(0, .ref (A 0))] := hl
  rw [fX7_lot] at hf
  refine lv_aload_n (pc := 0) hx hb dX7_lot_0 rfl (lv_at hl 0 rfl) ?_
  obtain ⟨r1, hc1, hf⟩ := hf_b hf
  refine cl_V (pc := 1) (As := []) (rest := []) hx hb hml hown hts (kX7_lots l D A B _ S r1 hc1) (cwV 0 hts gwRX7_326 rfl rfl rfl hdX7_lots ⟨Nat.le_of_ble_eq_true rfl, Nat.le_of_ble_eq_true rfl⟩) hN hK hP hD hS hA (va_recv hK hP (ci := 7) (q0 := 0) rfl (eM_0 A B _)) rfl hl.1 rfl (Nat.le_of_ble_eq_true rfl) dX7_lot_1 (st1 := []) rfl ⟨Nat.zero_le _, Nat.zero_le _⟩ (fun H locs hP hD hS => ?_)
  refine lv_bipush (pc := 4) hx hb (v := 100) dX7_lot_4 (by decide) ?_
  refine lv_aload_n (pc := 6) hx hb dX7_lot_6 rfl (lv_at hl 0 rfl) ?_
  refine lv_iconst (pc := 7) hx hb (v := 2) dX7_lot_7 (by decide) ?_
  refine lv_iconst (pc := 8) hx hb (v := 0) dX7_lot_8 (by decide) ?_
  refine lv_iconst (pc := 9) hx hb (v := 0) dX7_lot_9 (by decide) ?_
  obtain ⟨r10, hc10, hf⟩ := hf_b hf
  refine cl_V (pc := 10) (As := [.int 2, .int 0, .int 0]) (rest := [.int 100]) hx hb hml hown hts (kX7_its l D A B _ r1 2 0 0 r10 hc10) (cwV 3 hts gwRX7_128 rfl rfl rfl hdX7_its ⟨Nat.le_of_ble_eq_true rfl, Nat.le_of_ble_eq_true rfl⟩) hN hK hP hD hS hA (va_recv hK hP (ci := 7) (q0 := 0) rfl (eM_0 A B _)) rfl hl.1 rfl (Nat.le_of_ble_eq_true rfl) dX7_lot_10 (st1 := [.int r10, .int 100]) rfl ⟨Nat.zero_le _, Nat.zero_le _⟩ (fun H locs hP hD hS => ?_)
  refine lv_iadd (pc := 13) hx hb dX7_lot_13 ?_
  obtain rfl := Option.some.inj hf
  exact hR H locs 14 ls hP hD hS dX7_lot_14
set_option maxHeartbeats 4000000 in
set_option maxRecDepth 100000 in
theorem kX7_times (l : Launch) (D : va_G) (A : Nat → Nat) (B : Nat → ClassId) (sz : Nat) (S : w_S) (a1 : Int32) (a2 : Int32) (z : Int32 × w_S) (hf : fX7_times S a1 a2 = some z) : MetW l yX7_times (wsO yX7_times cX7_times 5 (some .int)) rm_X7_times [.ref (A 0), .int a1, .int a2] D (tyB B) (wM A B S) (wM A B z.2) sz (some (.int z.1)) := by
  refine MetW.mkI (cc := cX7_times) (maxL := 5) (by decide) (Nat.le_of_ble_eq_true rfl) ?_
  intro p e s m args below meth c Ad Q hx hb hts hown hml hN hK hA hR H locs ls hP hD hS hl
  have hl : lv_has ls 5 [(0, .ref (A 0)), (1, .int a1), (2, .int a2)] := hl
  rw [fX7_times] at hf
  refine lv_aload_n (pc := 0) hx hb dX7_times_0 rfl (lv_at hl 0 rfl) ?_
  refine lv_iload_n (pc := 1) hx hb dX7_times_1 rfl (lv_at hl 1 rfl) ?_
  obtain ⟨r2, hc2, hf⟩ := hf_b hf
  refine cl_V (pc := 2) (As := [.int a1]) (rest := []) hx hb hml hown hts (kX7_isEquation l D A B _ S a1 r2 hc2) (cwV 1 hts gwRX7_203 rfl rfl rfl hdX7_isEquation ⟨Nat.le_of_ble_eq_true rfl, Nat.le_of_ble_eq_true rfl⟩) hN hK hP hD hS hA (va_recv hK hP (ci := 7) (q0 := 0) rfl (eM_0 A B _)) rfl hl.1 rfl (Nat.le_of_ble_eq_true rfl) dX7_times_2 (st1 := [.int r2]) rfl ⟨Nat.zero_le _, Nat.zero_le _⟩ (fun H locs hP hD hS => ?_)
  refine lv_if_eq (pc := 5) hx hb (tgt := 20) dX7_times_5 (by decide) (fun c_5 => ?_) (fun c_5 => ?_)
  · have hf := hf_t c_5 hf
    refine lv_iconst (pc := 20) hx hb (v := (-1)) dX7_times_20 (by decide) ?_
    obtain rfl := Option.some.inj hf
    exact hR H locs 21 ls hP hD hS dX7_times_21
  · have hf := hf_f c_5 hf
    refine lv_iload_n (pc := 8) hx hb dX7_times_8 rfl (lv_at hl 2 rfl) ?_
    refine lv_i2l (pc := 9) hx hb (v := a2.toInt64) dX7_times_9 rfl ?_
    refine lv_lconst (pc := 10) hx hb (v := 1) dX7_times_10 (by decide) ?_
    refine lv_ldc2 (pc := 11) hx hb (v := 30) hown (hts (.constantLong RX7 329 (30)) mU_888) dX7_times_11 ?_
    obtain ⟨r14, hc14, hf⟩ := hf_b hf
    refine cl_S (pc := 14) (As := [.long a2.toInt64, .long 1, .long 30]) (rest := []) hx hb hml hown hts (kX7_in l D A B _ S a2.toInt64 1 30 r14 hc14) (va_cwS 3 hts gwRX7_99 rfl rfl rfl hdX7_in ⟨Nat.le_of_ble_eq_true rfl, Nat.le_of_ble_eq_true rfl⟩) hN hK hP hD hS hA rfl hl.1 rfl (Nat.le_of_ble_eq_true rfl) dX7_times_14 (st1 := [.int r14]) rfl ⟨Nat.zero_le _, Nat.zero_le _⟩ (fun H locs hP hD hS => ?_)
    refine lv_if_ne (pc := 17) hx hb (tgt := 22) dX7_times_17 (by decide) (fun c_17 => ?_) (fun c_17 => ?_)
    · have hf := hf_f c_17 hf
      refine lv_aload_n (pc := 22) hx hb dX7_times_22 rfl (lv_at hl 0 rfl) ?_
      refine lv_aload_n (pc := 23) hx hb dX7_times_23 rfl (lv_at hl 0 rfl) ?_
      refine vMgRX7_29_0 (pc := 24) hx hb hts mU_87 inU7 hown hK hP dX7_times_24 ?_
      refine lv_iload_n (pc := 27) hx hb dX7_times_27 rfl (lv_at hl 1 rfl) ?_
      obtain ⟨hg28, hf⟩ := hf_g hf
      refine vMra_4 (pc := 28) hx hb hK hP (f := (gA S 3)) rfl hg28 dX7_times_28 ?_
      obtain ⟨r29, hc29, hf⟩ := hf_b hf
      refine cl_V (pc := 29) (As := [.int ((gA S 3) a1.toNatClampNeg)]) (rest := []) hx hb hml hown hts (kX7_isFit l D A B _ S ((gA S 3) a1.toNatClampNeg) r29 hc29) (cwV 1 hts gwRX7_259 rfl rfl rfl hdX7_isFit ⟨Nat.le_of_ble_eq_true rfl, Nat.le_of_ble_eq_true rfl⟩) hN hK hP hD hS hA (va_recv hK hP (ci := 7) (q0 := 0) rfl (eM_0 A B _)) rfl hl.1 rfl (Nat.le_of_ble_eq_true rfl) dX7_times_29 (st1 := [.int r29.1]) rfl ⟨Nat.zero_le _, Nat.zero_le _⟩ (fun H locs hP hD hS => ?_)
      refine lv_if_ne (pc := 32) hx hb (tgt := 38) dX7_times_32 (by decide) (fun c_32 => ?_) (fun c_32 => ?_)
      · have hf := hf_f c_32 hf
        refine lv_aload_n (pc := 38) hx hb dX7_times_38 rfl (lv_at hl 0 rfl) ?_
        refine lv_aload_n (pc := 39) hx hb dX7_times_39 rfl (lv_at hl 0 rfl) ?_
        refine vMgRX7_7_0 (pc := 40) hx hb hts mU_81 inU7 hown hK hP dX7_times_40 ?_
        refine lv_aload_n (pc := 43) hx hb dX7_times_43 rfl (lv_at hl 0 rfl) ?_
        refine vMgRX7_16_0 (pc := 44) hx hb hts mU_83 inU7 hown hK hP dX7_times_44 ?_
        obtain ⟨r47, hc47, hf⟩ := hf_b hf
        refine cl_V (pc := 47) (As := [.ref (A 1), .ref (A 3)]) (rest := []) hx hb hml hown hts (kX7_saves_1_3 l D A B _ r29.2 r47 hc47) (cwV 2 hts gwRX7_186 rfl rfl rfl hdX7_saves ⟨Nat.le_of_ble_eq_true rfl, Nat.le_of_ble_eq_true rfl⟩) hN hK hP hD hS hA (va_recv hK hP (ci := 7) (q0 := 0) rfl (eM_0 A B _)) rfl hl.1 rfl (Nat.le_of_ble_eq_true rfl) dX7_times_47 (st1 := []) rfl ⟨Nat.zero_le _, Nat.zero_le _⟩ (fun H locs hP hD hS => ?_)
        refine lv_iconst (pc := 50) hx hb (v := 0) dX7_times_50 (by decide) ?_
        refine lv_istore_n (pc := 51) hx hb (lv' := [(3, .int 0), (0, .ref (A 0)), (1, .int a1), (2, .int a2)]) dX7_times_51 rfl hl (by decide) rfl (fun ls hl => ?_)
        refine lv_iconst (pc := 52) hx hb (v := 0) dX7_times_52 (by decide) ?_
        refine lv_istore (pc := 53) hx hb (lv' := [(4, .int 0), (3, .int 0), (0, .ref (A 0)), (1, .int a1), (2, .int a2)]) dX7_times_53 hl (by decide) rfl (fun ls hl => ?_)
        obtain ⟨q55, hq55, hf⟩ := hf_b hf
        have hk55 : ∀ (H : Heap) (locs : List Loc) (ls : Array Slot), va_P D vwCl (wM A B q55.1) H → va_D Ad (wM A B q55.1) → va_S Ad s.heap H locs → lv_has ls 5 [(0, .ref (A 0)), (3, .int q55.2)] → W p l e rm_X7_times s m args below meth c H locs 0 0 Q (F0 m 91 ls []) := by
          intro H locs ls hP hD hS hl
          refine lv_aload_n (pc := 91) hx hb dX7_times_91 rfl (lv_at hl 0 rfl) ?_
          refine lv_aload_n (pc := 92) hx hb dX7_times_92 rfl (lv_at hl 0 rfl) ?_
          refine vMgRX7_16_0 (pc := 93) hx hb hts mU_83 inU7 hown hK hP dX7_times_93 ?_
          refine lv_aload_n (pc := 96) hx hb dX7_times_96 rfl (lv_at hl 0 rfl) ?_
          refine vMgRX7_7_0 (pc := 97) hx hb hts mU_81 inU7 hown hK hP dX7_times_97 ?_
          obtain ⟨r100, hc100, hf⟩ := hf_b hf
          refine cl_V (pc := 100) (As := [.ref (A 3), .ref (A 1)]) (rest := []) hx hb hml hown hts (kX7_saves_3_1 l D A B _ q55.1 r100 hc100) (cwV 2 hts gwRX7_186 rfl rfl rfl hdX7_saves ⟨Nat.le_of_ble_eq_true rfl, Nat.le_of_ble_eq_true rfl⟩) hN hK hP hD hS hA (va_recv hK hP (ci := 7) (q0 := 0) rfl (eM_0 A B _)) rfl hl.1 rfl (Nat.le_of_ble_eq_true rfl) dX7_times_100 (st1 := []) rfl ⟨Nat.zero_le _, Nat.zero_le _⟩ (fun H locs hP hD hS => ?_)
          refine lv_iload_n (pc := 103) hx hb dX7_times_103 rfl (lv_at hl 1 rfl) ?_
          obtain rfl := Option.some.inj hf
          exact hR H locs 104 ls hP hD hS dX7_times_104
        have lp55 : ∀ (n : Nat) (T55 : w_S) (u3_55 : Int32) (u4_55 : Int32) (H : Heap) (locs : List Loc) (ls : Array Slot), fX7_times_L55 a1 a2 n T55 u3_55 u4_55 = some q55 → va_P D vwCl (wM A B T55) H → va_D Ad (wM A B T55) → va_S Ad s.heap H locs → lv_has ls 5 [(0, .ref (A 0)), (1, .int a1), (2, .int a2), (3, .int u3_55), (4, .int u4_55)] → W p l e rm_X7_times s m args below meth c H locs 0 0 Q (F0 m 55 ls []) := by
          intro n55
          induction n55 with
          | zero => intro T55 u3_55 u4_55 H locs ls hq55; exact hf_0 hq55
          | succ n55 ih55 =>
            intro T55 u3_55 u4_55 H locs ls hq55 hP hD hS hl
            rw [fX7_times_L55] at hq55
            refine lv_iload (pc := 55) hx hb dX7_times_55 (lv_at hl 4 rfl) ?_
            refine lv_iload_n (pc := 57) hx hb dX7_times_57 rfl (lv_at hl 2 rfl) ?_
            refine lv_icmp_ge (pc := 58) hx hb (tgt := 91) dX7_times_58 (by decide) (fun c_58 => ?_) (fun c_58 => ?_)
            · have hq55 := hf_t c_58 hq55
              obtain rfl := Option.some.inj hq55
              exact hk55 H locs ls hP hD hS (lv_sub hl [0, 3] rfl)
            · have hq55 := hf_f c_58 hq55
              refine lv_aload_n (pc := 61) hx hb dX7_times_61 rfl (lv_at hl 0 rfl) ?_
              obtain ⟨r62, hc62, hq55⟩ := hf_b hq55
              refine cl_V (pc := 62) (As := []) (rest := []) hx hb hml hown hts (kX7_lots l D A B _ T55 r62 hc62) (cwV 0 hts gwRX7_326 rfl rfl rfl hdX7_lots ⟨Nat.le_of_ble_eq_true rfl, Nat.le_of_ble_eq_true rfl⟩) hN hK hP hD hS hA (va_recv hK hP (ci := 7) (q0 := 0) rfl (eM_0 A B _)) rfl hl.1 rfl (Nat.le_of_ble_eq_true rfl) dX7_times_62 (st1 := []) rfl ⟨Nat.zero_le _, Nat.zero_le _⟩ (fun H locs hP hD hS => ?_)
              refine lv_aload_n (pc := 65) hx hb dX7_times_65 rfl (lv_at hl 0 rfl) ?_
              refine lv_iload_n (pc := 66) hx hb dX7_times_66 rfl (lv_at hl 1 rfl) ?_
              obtain ⟨r67, hc67, hq55⟩ := hf_b hq55
              refine cl_V (pc := 67) (As := [.int a1]) (rest := []) hx hb hml hown hts (kX7_setsUp l D A B _ r62 a1 r67 hc67) (cwV 1 hts gwRX7_262 rfl rfl rfl hdX7_setsUp ⟨Nat.le_of_ble_eq_true rfl, Nat.le_of_ble_eq_true rfl⟩) hN hK hP hD hS hA (va_recv hK hP (ci := 7) (q0 := 0) rfl (eM_0 A B _)) rfl hl.1 rfl (Nat.le_of_ble_eq_true rfl) dX7_times_67 (st1 := []) rfl ⟨Nat.zero_le _, Nat.zero_le _⟩ (fun H locs hP hD hS => ?_)
              refine lv_iload_n (pc := 70) hx hb dX7_times_70 rfl (lv_at hl 3 rfl) ?_
              refine lv_aload_n (pc := 71) hx hb dX7_times_71 rfl (lv_at hl 0 rfl) ?_
              obtain ⟨r72, hc72, hq55⟩ := hf_b hq55
              refine cl_V (pc := 72) (As := []) (rest := [.int u3_55]) hx hb hml hown hts (kX7_isSolved l D A B _ r67 r72 hc72) (cwV 0 hts gwRX7_270 rfl rfl rfl hdX7_isSolved ⟨Nat.le_of_ble_eq_true rfl, Nat.le_of_ble_eq_true rfl⟩) hN hK hP hD hS hA (va_recv hK hP (ci := 7) (q0 := 0) rfl (eM_0 A B _)) rfl hl.1 rfl (Nat.le_of_ble_eq_true rfl) dX7_times_72 (st1 := [.int r72, .int u3_55]) rfl ⟨Nat.zero_le _, Nat.zero_le _⟩ (fun H locs hP hD hS => ?_)
              refine lv_if_eq (pc := 75) hx hb (tgt := 82) dX7_times_75 (by decide) (fun c_75 => ?_) (fun c_75 => ?_)
              · have hq55 := hf_t c_75 hq55
                refine lv_iconst (pc := 82) hx hb (v := 0) dX7_times_82 (by decide) ?_
                refine lv_iadd (pc := 83) hx hb dX7_times_83 ?_
                refine lv_istore_n (pc := 84) hx hb (lv' := [(3, .int (u3_55 + 0)), (0, .ref (A 0)), (1, .int a1), (2, .int a2), (4, .int u4_55)]) dX7_times_84 rfl hl (by decide) rfl (fun ls hl => ?_)
                refine lv_iinc (pc := 85) hx hb (v := u4_55 + 1) (lv' := [(4, .int (u4_55 + 1)), (3, .int (u3_55 + 0)), (0, .ref (A 0)), (1, .int a1), (2, .int a2)]) dX7_times_85 hl (k := 4) rfl rfl (by decide) rfl (fun ls hl => ?_)
                refine lv_goto (pc := 88) hx hb (tgt := 55) dX7_times_88 (by decide) ?_
                exact ih55 r67 (u3_55 + 0) (u4_55 + 1) H locs ls hq55 hP hD hS (lv_sub hl [2, 3, 4, 1, 0] rfl)
              · have hq55 := hf_f c_75 hq55
                refine lv_iconst (pc := 78) hx hb (v := 1) dX7_times_78 (by decide) ?_
                refine lv_goto (pc := 79) hx hb (tgt := 83) dX7_times_79 (by decide) ?_
                refine lv_iadd (pc := 83) hx hb dX7_times_83 ?_
                refine lv_istore_n (pc := 84) hx hb (lv' := [(3, .int (u3_55 + 1)), (0, .ref (A 0)), (1, .int a1), (2, .int a2), (4, .int u4_55)]) dX7_times_84 rfl hl (by decide) rfl (fun ls hl => ?_)
                refine lv_iinc (pc := 85) hx hb (v := u4_55 + 1) (lv' := [(4, .int (u4_55 + 1)), (3, .int (u3_55 + 1)), (0, .ref (A 0)), (1, .int a1), (2, .int a2)]) dX7_times_85 hl (k := 4) rfl rfl (by decide) rfl (fun ls hl => ?_)
                refine lv_goto (pc := 88) hx hb (tgt := 55) dX7_times_88 (by decide) ?_
                exact ih55 r67 (u3_55 + 1) (u4_55 + 1) H locs ls hq55 hP hD hS (lv_sub hl [2, 3, 4, 1, 0] rfl)
        exact lp55 256 r47 0 0 H locs ls hq55 hP hD hS (lv_sub hl [2, 3, 4, 1, 0] rfl)
      · have hf := hf_t c_32 hf
        refine lv_bipush (pc := 35) hx hb (v := (-4)) dX7_times_35 (by decide) ?_
        obtain rfl := Option.some.inj hf
        exact hR H locs 37 ls hP hD hS dX7_times_37
    · have hf := hf_t c_17 hf
      refine lv_iconst (pc := 20) hx hb (v := (-1)) dX7_times_20 (by decide) ?_
      obtain rfl := Option.some.inj hf
      exact hR H locs 21 ls hP hD hS dX7_times_21
set_option maxHeartbeats 4000000 in
set_option maxRecDepth 100000 in
theorem kX7_sheet (l : Launch) (D : va_G) (A : Nat → Nat) (B : Nat → ClassId) (sz : Nat) (S : w_S) (a1 : Int32) (a2 : Int32) (a3 : Int32) (z : Int32 × w_S) (hf : fX7_sheet S a1 a2 a3 = some z) : MetW l yX7_sheet (wsO yX7_sheet cX7_sheet 5 (some .int)) rm_X7_sheet [.ref (A 0), .int a1, .int a2, .int a3] D (tyB B) (wM A B S) (wM A B z.2) sz (some (.int z.1)) := by
  refine MetW.mkI (cc := cX7_sheet) (maxL := 5) (by decide) (Nat.le_of_ble_eq_true rfl) ?_
  intro p e s m args below meth c Ad Q hx hb hts hown hml hN hK hA hR H locs ls hP hD hS hl
  have hl : lv_has ls 5 [(0, .ref (A 0)), (1, .int a1), (2, .int a2), (3, .int a3)] := hl
  rw [fX7_sheet] at hf
  refine lv_iload_n (pc := 0) hx hb dX7_sheet_0 rfl (lv_at hl 1 rfl) ?_
  obtain ⟨r1, hc1, hf⟩ := hf_b hf
  refine cl_S (pc := 1) (As := [.int a1]) (rest := []) hx hb hml hown hts (kX7_isSheet l D A B _ S a1 r1 hc1) (va_cwS 1 hts gwRX7_303 rfl rfl rfl hdX7_isSheet ⟨Nat.le_of_ble_eq_true rfl, Nat.le_of_ble_eq_true rfl⟩) hN hK hP hD hS hA rfl hl.1 rfl (Nat.le_of_ble_eq_true rfl) dX7_sheet_1 (st1 := [.int r1]) rfl ⟨Nat.zero_le _, Nat.zero_le _⟩ (fun H locs hP hD hS => ?_)
  refine lv_if_eq (pc := 4) hx hb (tgt := 31) dX7_sheet_4 (by decide) (fun c_4 => ?_) (fun c_4 => ?_)
  · have hf := hf_t c_4 hf
    refine lv_iconst (pc := 31) hx hb (v := (-1)) dX7_sheet_31 (by decide) ?_
    obtain rfl := Option.some.inj hf
    exact hR H locs 32 ls hP hD hS dX7_sheet_32
  · have hf := hf_f c_4 hf
    refine lv_iload_n (pc := 7) hx hb dX7_sheet_7 rfl (lv_at hl 2 rfl) ?_
    refine lv_i2l (pc := 8) hx hb (v := a2.toInt64) dX7_sheet_8 rfl ?_
    refine lv_ldc2 (pc := 9) hx hb (v := (-1)) hown (hts (.constantLong RX7 323 (-1)) mU_847) dX7_sheet_9 ?_
    refine lv_ldc2 (pc := 12) hx hb (v := 3) hown (hts (.constantLong RX7 118 (3)) mU_125) dX7_sheet_12 ?_
    obtain ⟨r15, hc15, hf⟩ := hf_b hf
    refine cl_S (pc := 15) (As := [.long a2.toInt64, .long (-1), .long 3]) (rest := []) hx hb hml hown hts (kX7_in l D A B _ S a2.toInt64 (-1) 3 r15 hc15) (va_cwS 3 hts gwRX7_99 rfl rfl rfl hdX7_in ⟨Nat.le_of_ble_eq_true rfl, Nat.le_of_ble_eq_true rfl⟩) hN hK hP hD hS hA rfl hl.1 rfl (Nat.le_of_ble_eq_true rfl) dX7_sheet_15 (st1 := [.int r15]) rfl ⟨Nat.zero_le _, Nat.zero_le _⟩ (fun H locs hP hD hS => ?_)
    refine lv_if_eq (pc := 18) hx hb (tgt := 31) dX7_sheet_18 (by decide) (fun c_18 => ?_) (fun c_18 => ?_)
    · have hf := hf_t c_18 hf
      refine lv_iconst (pc := 31) hx hb (v := (-1)) dX7_sheet_31 (by decide) ?_
      obtain rfl := Option.some.inj hf
      exact hR H locs 32 ls hP hD hS dX7_sheet_32
    · have hf := hf_f c_18 hf
      refine lv_iload_n (pc := 21) hx hb dX7_sheet_21 rfl (lv_at hl 2 rfl) ?_
      refine lv_if_lt (pc := 22) hx hb (tgt := 33) dX7_sheet_22 (by decide) (fun c_22 => ?_) (fun c_22 => ?_)
      · have hf := hf_t c_22 hf
        refine lv_iload_n (pc := 33) hx hb dX7_sheet_33 rfl (lv_at hl 2 rfl) ?_
        refine lv_if_lt (pc := 34) hx hb (tgt := 44) dX7_sheet_34 (by decide) (fun c_34 => ?_) (fun c_34 => ?_)
        · have hf := hf_t c_34 hf
          refine lv_aload_n (pc := 44) hx hb dX7_sheet_44 rfl (lv_at hl 0 rfl) ?_
          refine vMgRX7_67_0 (pc := 45) hx hb hts mU_99 inU7 hown hK hP dX7_sheet_45 ?_
          refine lv_iload_n (pc := 48) hx hb dX7_sheet_48 rfl (lv_at hl 1 rfl) ?_
          refine lv_iload_n (pc := 49) hx hb dX7_sheet_49 rfl (lv_at hl 2 rfl) ?_
          obtain ⟨hg50, hf⟩ := hf_g hf
          refine vMwa_16 (pc := 50) hx hb hK hP hD hS (f := (gA S 12)) rfl hg50 dX7_sheet_50 (fun H locs hP hD hS => ?_)
          refine lv_aload_n (pc := 51) hx hb dX7_sheet_51 rfl (lv_at hl 0 rfl) ?_
          refine vMgRX7_70_0 (pc := 52) hx hb hts mU_100 inU7 hown hK hP dX7_sheet_52 ?_
          refine lv_iload_n (pc := 55) hx hb dX7_sheet_55 rfl (lv_at hl 1 rfl) ?_
          refine lv_iload_n (pc := 56) hx hb dX7_sheet_56 rfl (lv_at hl 2 rfl) ?_
          obtain ⟨q65, hv65, hf⟩ := hf_b hf
          have hj65 : ∀ (H : Heap) (locs : List Loc) (ls : Array Slot), va_P D vwCl (wM A B (sA S 12 (upd (gA S 12) a1.toNatClampNeg a2))) H → va_D Ad (wM A B (sA S 12 (upd (gA S 12) a1.toNatClampNeg a2))) → va_S Ad s.heap H locs → lv_has ls 5 [(0, .ref (A 0)), (1, .int a1)] → W p l e rm_X7_sheet s m args below meth c H locs 0 0 Q (F0 m 65 ls [.int q65, .int a1, .ref (A 17)]) := by
            intro H locs ls hP hD hS hl
            obtain ⟨hg65, hf⟩ := hf_g hf
            refine vMwa_17 (pc := 65) hx hb hK hP hD hS (f := (gA S 13)) rfl hg65 dX7_sheet_65 (fun H locs hP hD hS => ?_)
            refine lv_iconst (pc := 66) hx hb (v := 0) dX7_sheet_66 (by decide) ?_
            refine lv_istore (pc := 67) hx hb (lv' := [(4, .int 0), (0, .ref (A 0)), (1, .int a1)]) dX7_sheet_67 hl (by decide) rfl (fun ls hl => ?_)
            obtain ⟨q69, hq69, hf⟩ := hf_b hf
            have hk69 : ∀ (H : Heap) (locs : List Loc) (ls : Array Slot), va_P D vwCl (wM A B q69) H → va_D Ad (wM A B q69) → va_S Ad s.heap H locs → lv_has ls 5 [] → W p l e rm_X7_sheet s m args below meth c H locs 0 0 Q (F0 m 95 ls []) := by
              intro H locs ls hP hD hS hl
              refine lv_iconst (pc := 95) hx hb (v := 1) dX7_sheet_95 (by decide) ?_
              obtain rfl := Option.some.inj hf
              exact hR H locs 96 ls hP hD hS dX7_sheet_96
            have lp69 : ∀ (n : Nat) (T69 : w_S) (u4_69 : Int32) (H : Heap) (locs : List Loc) (ls : Array Slot), fX7_sheet_L69 a1 n T69 u4_69 = some q69 → va_P D vwCl (wM A B T69) H → va_D Ad (wM A B T69) → va_S Ad s.heap H locs → lv_has ls 5 [(0, .ref (A 0)), (1, .int a1), (4, .int u4_69)] → W p l e rm_X7_sheet s m args below meth c H locs 0 0 Q (F0 m 69 ls []) := by
              intro n69
              induction n69 with
              | zero => intro T69 u4_69 H locs ls hq69; exact hf_0 hq69
              | succ n69 ih69 =>
                intro T69 u4_69 H locs ls hq69 hP hD hS hl
                rw [fX7_sheet_L69] at hq69
                refine lv_iload (pc := 69) hx hb dX7_sheet_69 (lv_at hl 2 rfl) ?_
                refine lv_bipush (pc := 71) hx hb (v := 40) dX7_sheet_71 (by decide) ?_
                refine lv_icmp_ge (pc := 73) hx hb (tgt := 95) dX7_sheet_73 (by decide) (fun c_73 => ?_) (fun c_73 => ?_)
                · have hq69 := hf_t c_73 hq69
                  obtain rfl := Option.some.inj hq69
                  exact hk69 H locs ls hP hD hS (lv_sub hl [] rfl)
                · have hq69 := hf_f c_73 hq69
                  refine lv_aload_n (pc := 76) hx hb dX7_sheet_76 rfl (lv_at hl 0 rfl) ?_
                  refine vMgRX7_73_0 (pc := 77) hx hb hts mU_101 inU7 hown hK hP dX7_sheet_77 ?_
                  refine lv_bipush (pc := 80) hx hb (v := 40) dX7_sheet_80 (by decide) ?_
                  refine lv_iload_n (pc := 82) hx hb dX7_sheet_82 rfl (lv_at hl 1 rfl) ?_
                  refine lv_imul (pc := 83) hx hb dX7_sheet_83 ?_
                  refine lv_iload (pc := 84) hx hb dX7_sheet_84 (lv_at hl 2 rfl) ?_
                  refine lv_iadd (pc := 86) hx hb dX7_sheet_86 ?_
                  refine lv_lconst (pc := 87) hx hb (v := 0) dX7_sheet_87 (by decide) ?_
                  obtain ⟨hg88, hq69⟩ := hf_g hq69
                  refine vMwa_18 (pc := 88) hx hb hK hP hD hS (f := (gB T69 3)) rfl hg88 dX7_sheet_88 (fun H locs hP hD hS => ?_)
                  refine lv_iinc (pc := 89) hx hb (v := u4_69 + 1) (lv' := [(4, .int (u4_69 + 1)), (0, .ref (A 0)), (1, .int a1)]) dX7_sheet_89 hl (k := 2) rfl rfl (by decide) rfl (fun ls hl => ?_)
                  refine lv_goto (pc := 92) hx hb (tgt := 69) dX7_sheet_92 (by decide) ?_
                  exact ih69 (sB T69 3 (vp_updL (gB T69 3) ((40 * a1) + u4_69).toNatClampNeg 0)) (u4_69 + 1) H locs ls hq69 hP hD hS (lv_sub hl [1, 2, 0] rfl)
            exact lp69 256 (sA (sA S 12 (upd (gA S 12) a1.toNatClampNeg a2)) 13 (upd (gA S 13) a1.toNatClampNeg q65)) 0 H locs ls hq69 hP hD hS (lv_sub hl [1, 2, 0] rfl)
          refine lv_if_ge (pc := 57) hx hb (tgt := 64) dX7_sheet_57 (by decide) (fun c_57 => ?_) (fun c_57 => ?_)
          · have hv65 := hf_t c_57 hv65
            refine lv_iload_n (pc := 64) hx hb dX7_sheet_64 rfl (lv_at hl 3 rfl) ?_
            obtain rfl := Option.some.inj hv65
            exact hj65 H locs ls hP hD hS (lv_sub hl [0, 1] rfl)
          · have hv65 := hf_f c_57 hv65
            refine lv_iconst (pc := 60) hx hb (v := 0) dX7_sheet_60 (by decide) ?_
            refine lv_goto (pc := 61) hx hb (tgt := 65) dX7_sheet_61 (by decide) ?_
            obtain rfl := Option.some.inj hv65
            exact hj65 H locs ls hP hD hS (lv_sub hl [0, 1] rfl)
        · have hf := hf_f c_34 hf
          refine lv_iload_n (pc := 37) hx hb dX7_sheet_37 rfl (lv_at hl 3 rfl) ?_
          refine lv_if_ge (pc := 38) hx hb (tgt := 44) dX7_sheet_38 (by decide) (fun c_38 => ?_) (fun c_38 => ?_)
          · have hf := hf_t c_38 hf
            refine lv_aload_n (pc := 44) hx hb dX7_sheet_44 rfl (lv_at hl 0 rfl) ?_
            refine vMgRX7_67_0 (pc := 45) hx hb hts mU_99 inU7 hown hK hP dX7_sheet_45 ?_
            refine lv_iload_n (pc := 48) hx hb dX7_sheet_48 rfl (lv_at hl 1 rfl) ?_
            refine lv_iload_n (pc := 49) hx hb dX7_sheet_49 rfl (lv_at hl 2 rfl) ?_
            obtain ⟨hg50, hf⟩ := hf_g hf
            refine vMwa_16 (pc := 50) hx hb hK hP hD hS (f := (gA S 12)) rfl hg50 dX7_sheet_50 (fun H locs hP hD hS => ?_)
            refine lv_aload_n (pc := 51) hx hb dX7_sheet_51 rfl (lv_at hl 0 rfl) ?_
            refine vMgRX7_70_0 (pc := 52) hx hb hts mU_100 inU7 hown hK hP dX7_sheet_52 ?_
            refine lv_iload_n (pc := 55) hx hb dX7_sheet_55 rfl (lv_at hl 1 rfl) ?_
            refine lv_iload_n (pc := 56) hx hb dX7_sheet_56 rfl (lv_at hl 2 rfl) ?_
            obtain ⟨q65, hv65, hf⟩ := hf_b hf
            have hj65 : ∀ (H : Heap) (locs : List Loc) (ls : Array Slot), va_P D vwCl (wM A B (sA S 12 (upd (gA S 12) a1.toNatClampNeg a2))) H → va_D Ad (wM A B (sA S 12 (upd (gA S 12) a1.toNatClampNeg a2))) → va_S Ad s.heap H locs → lv_has ls 5 [(0, .ref (A 0)), (1, .int a1)] → W p l e rm_X7_sheet s m args below meth c H locs 0 0 Q (F0 m 65 ls [.int q65, .int a1, .ref (A 17)]) := by
              intro H locs ls hP hD hS hl
              obtain ⟨hg65, hf⟩ := hf_g hf
              refine vMwa_17 (pc := 65) hx hb hK hP hD hS (f := (gA S 13)) rfl hg65 dX7_sheet_65 (fun H locs hP hD hS => ?_)
              refine lv_iconst (pc := 66) hx hb (v := 0) dX7_sheet_66 (by decide) ?_
              refine lv_istore (pc := 67) hx hb (lv' := [(4, .int 0), (0, .ref (A 0)), (1, .int a1)]) dX7_sheet_67 hl (by decide) rfl (fun ls hl => ?_)
              obtain ⟨q69, hq69, hf⟩ := hf_b hf
              have hk69 : ∀ (H : Heap) (locs : List Loc) (ls : Array Slot), va_P D vwCl (wM A B q69) H → va_D Ad (wM A B q69) → va_S Ad s.heap H locs → lv_has ls 5 [] → W p l e rm_X7_sheet s m args below meth c H locs 0 0 Q (F0 m 95 ls []) := by
                intro H locs ls hP hD hS hl
                refine lv_iconst (pc := 95) hx hb (v := 1) dX7_sheet_95 (by decide) ?_
                obtain rfl := Option.some.inj hf
                exact hR H locs 96 ls hP hD hS dX7_sheet_96
              have lp69 : ∀ (n : Nat) (T69 : w_S) (u4_69 : Int32) (H : Heap) (locs : List Loc) (ls : Array Slot), fX7_sheet_L69 a1 n T69 u4_69 = some q69 → va_P D vwCl (wM A B T69) H → va_D Ad (wM A B T69) → va_S Ad s.heap H locs → lv_has ls 5 [(0, .ref (A 0)), (1, .int a1), (4, .int u4_69)] → W p l e rm_X7_sheet s m args below meth c H locs 0 0 Q (F0 m 69 ls []) := by
                intro n69
                induction n69 with
                | zero => intro T69 u4_69 H locs ls hq69; exact hf_0 hq69
                | succ n69 ih69 =>
                  intro T69 u4_69 H locs ls hq69 hP hD hS hl
                  rw [fX7_sheet_L69] at hq69
                  refine lv_iload (pc := 69) hx hb dX7_sheet_69 (lv_at hl 2 rfl) ?_
                  refine lv_bipush (pc := 71) hx hb (v := 40) dX7_sheet_71 (by decide) ?_
                  refine lv_icmp_ge (pc := 73) hx hb (tgt := 95) dX7_sheet_73 (by decide) (fun c_73 => ?_) (fun c_73 => ?_)
                  · have hq69 := hf_t c_73 hq69
                    obtain rfl := Option.some.inj hq69
                    exact hk69 H locs ls hP hD hS (lv_sub hl [] rfl)
                  · have hq69 := hf_f c_73 hq69
                    refine lv_aload_n (pc := 76) hx hb dX7_sheet_76 rfl (lv_at hl 0 rfl) ?_
                    refine vMgRX7_73_0 (pc := 77) hx hb hts mU_101 inU7 hown hK hP dX7_sheet_77 ?_
                    refine lv_bipush (pc := 80) hx hb (v := 40) dX7_sheet_80 (by decide) ?_
                    refine lv_iload_n (pc := 82) hx hb dX7_sheet_82 rfl (lv_at hl 1 rfl) ?_
                    refine lv_imul (pc := 83) hx hb dX7_sheet_83 ?_
                    refine lv_iload (pc := 84) hx hb dX7_sheet_84 (lv_at hl 2 rfl) ?_
                    refine lv_iadd (pc := 86) hx hb dX7_sheet_86 ?_
                    refine lv_lconst (pc := 87) hx hb (v := 0) dX7_sheet_87 (by decide) ?_
                    obtain ⟨hg88, hq69⟩ := hf_g hq69
                    refine vMwa_18 (pc := 88) hx hb hK hP hD hS (f := (gB T69 3)) rfl hg88 dX7_sheet_88 (fun H locs hP hD hS => ?_)
                    refine lv_iinc (pc := 89) hx hb (v := u4_69 + 1) (lv' := [(4, .int (u4_69 + 1)), (0, .ref (A 0)), (1, .int a1)]) dX7_sheet_89 hl (k := 2) rfl rfl (by decide) rfl (fun ls hl => ?_)
                    refine lv_goto (pc := 92) hx hb (tgt := 69) dX7_sheet_92 (by decide) ?_
                    exact ih69 (sB T69 3 (vp_updL (gB T69 3) ((40 * a1) + u4_69).toNatClampNeg 0)) (u4_69 + 1) H locs ls hq69 hP hD hS (lv_sub hl [1, 2, 0] rfl)
              exact lp69 256 (sA (sA S 12 (upd (gA S 12) a1.toNatClampNeg a2)) 13 (upd (gA S 13) a1.toNatClampNeg q65)) 0 H locs ls hq69 hP hD hS (lv_sub hl [1, 2, 0] rfl)
            refine lv_if_ge (pc := 57) hx hb (tgt := 64) dX7_sheet_57 (by decide) (fun c_57 => ?_) (fun c_57 => ?_)
            · have hv65 := hf_t c_57 hv65
              refine lv_iload_n (pc := 64) hx hb dX7_sheet_64 rfl (lv_at hl 3 rfl) ?_
              obtain rfl := Option.some.inj hv65
              exact hj65 H locs ls hP hD hS (lv_sub hl [0, 1] rfl)
            · have hv65 := hf_f c_57 hv65
              refine lv_iconst (pc := 60) hx hb (v := 0) dX7_sheet_60 (by decide) ?_
              refine lv_goto (pc := 61) hx hb (tgt := 65) dX7_sheet_61 (by decide) ?_
              obtain rfl := Option.some.inj hv65
              exact hj65 H locs ls hP hD hS (lv_sub hl [0, 1] rfl)
          · have hf := hf_f c_38 hf
            refine lv_bipush (pc := 41) hx hb (v := (-14)) dX7_sheet_41 (by decide) ?_
            obtain rfl := Option.some.inj hf
            exact hR H locs 43 ls hP hD hS dX7_sheet_43
      · have hf := hf_f c_22 hf
        refine lv_iload_n (pc := 25) hx hb dX7_sheet_25 rfl (lv_at hl 3 rfl) ?_
        refine lv_bipush (pc := 26) hx hb (v := 40) dX7_sheet_26 (by decide) ?_
        refine lv_icmp_le (pc := 28) hx hb (tgt := 33) dX7_sheet_28 (by decide) (fun c_28 => ?_) (fun c_28 => ?_)
        · have hf := hf_t c_28 hf
          refine lv_iload_n (pc := 33) hx hb dX7_sheet_33 rfl (lv_at hl 2 rfl) ?_
          refine lv_if_lt (pc := 34) hx hb (tgt := 44) dX7_sheet_34 (by decide) (fun c_34 => ?_) (fun c_34 => ?_)
          · have hf := hf_t c_34 hf
            refine lv_aload_n (pc := 44) hx hb dX7_sheet_44 rfl (lv_at hl 0 rfl) ?_
            refine vMgRX7_67_0 (pc := 45) hx hb hts mU_99 inU7 hown hK hP dX7_sheet_45 ?_
            refine lv_iload_n (pc := 48) hx hb dX7_sheet_48 rfl (lv_at hl 1 rfl) ?_
            refine lv_iload_n (pc := 49) hx hb dX7_sheet_49 rfl (lv_at hl 2 rfl) ?_
            obtain ⟨hg50, hf⟩ := hf_g hf
            refine vMwa_16 (pc := 50) hx hb hK hP hD hS (f := (gA S 12)) rfl hg50 dX7_sheet_50 (fun H locs hP hD hS => ?_)
            refine lv_aload_n (pc := 51) hx hb dX7_sheet_51 rfl (lv_at hl 0 rfl) ?_
            refine vMgRX7_70_0 (pc := 52) hx hb hts mU_100 inU7 hown hK hP dX7_sheet_52 ?_
            refine lv_iload_n (pc := 55) hx hb dX7_sheet_55 rfl (lv_at hl 1 rfl) ?_
            refine lv_iload_n (pc := 56) hx hb dX7_sheet_56 rfl (lv_at hl 2 rfl) ?_
            obtain ⟨q65, hv65, hf⟩ := hf_b hf
            have hj65 : ∀ (H : Heap) (locs : List Loc) (ls : Array Slot), va_P D vwCl (wM A B (sA S 12 (upd (gA S 12) a1.toNatClampNeg a2))) H → va_D Ad (wM A B (sA S 12 (upd (gA S 12) a1.toNatClampNeg a2))) → va_S Ad s.heap H locs → lv_has ls 5 [(0, .ref (A 0)), (1, .int a1)] → W p l e rm_X7_sheet s m args below meth c H locs 0 0 Q (F0 m 65 ls [.int q65, .int a1, .ref (A 17)]) := by
              intro H locs ls hP hD hS hl
              obtain ⟨hg65, hf⟩ := hf_g hf
              refine vMwa_17 (pc := 65) hx hb hK hP hD hS (f := (gA S 13)) rfl hg65 dX7_sheet_65 (fun H locs hP hD hS => ?_)
              refine lv_iconst (pc := 66) hx hb (v := 0) dX7_sheet_66 (by decide) ?_
              refine lv_istore (pc := 67) hx hb (lv' := [(4, .int 0), (0, .ref (A 0)), (1, .int a1)]) dX7_sheet_67 hl (by decide) rfl (fun ls hl => ?_)
              obtain ⟨q69, hq69, hf⟩ := hf_b hf
              have hk69 : ∀ (H : Heap) (locs : List Loc) (ls : Array Slot), va_P D vwCl (wM A B q69) H → va_D Ad (wM A B q69) → va_S Ad s.heap H locs → lv_has ls 5 [] → W p l e rm_X7_sheet s m args below meth c H locs 0 0 Q (F0 m 95 ls []) := by
                intro H locs ls hP hD hS hl
                refine lv_iconst (pc := 95) hx hb (v := 1) dX7_sheet_95 (by decide) ?_
                obtain rfl := Option.some.inj hf
                exact hR H locs 96 ls hP hD hS dX7_sheet_96
              have lp69 : ∀ (n : Nat) (T69 : w_S) (u4_69 : Int32) (H : Heap) (locs : List Loc) (ls : Array Slot), fX7_sheet_L69 a1 n T69 u4_69 = some q69 → va_P D vwCl (wM A B T69) H → va_D Ad (wM A B T69) → va_S Ad s.heap H locs → lv_has ls 5 [(0, .ref (A 0)), (1, .int a1), (4, .int u4_69)] → W p l e rm_X7_sheet s m args below meth c H locs 0 0 Q (F0 m 69 ls []) := by
                intro n69
                induction n69 with
                | zero => intro T69 u4_69 H locs ls hq69; exact hf_0 hq69
                | succ n69 ih69 =>
                  intro T69 u4_69 H locs ls hq69 hP hD hS hl
                  rw [fX7_sheet_L69] at hq69
                  refine lv_iload (pc := 69) hx hb dX7_sheet_69 (lv_at hl 2 rfl) ?_
                  refine lv_bipush (pc := 71) hx hb (v := 40) dX7_sheet_71 (by decide) ?_
                  refine lv_icmp_ge (pc := 73) hx hb (tgt := 95) dX7_sheet_73 (by decide) (fun c_73 => ?_) (fun c_73 => ?_)
                  · have hq69 := hf_t c_73 hq69
                    obtain rfl := Option.some.inj hq69
                    exact hk69 H locs ls hP hD hS (lv_sub hl [] rfl)
                  · have hq69 := hf_f c_73 hq69
                    refine lv_aload_n (pc := 76) hx hb dX7_sheet_76 rfl (lv_at hl 0 rfl) ?_
                    refine vMgRX7_73_0 (pc := 77) hx hb hts mU_101 inU7 hown hK hP dX7_sheet_77 ?_
                    refine lv_bipush (pc := 80) hx hb (v := 40) dX7_sheet_80 (by decide) ?_
                    refine lv_iload_n (pc := 82) hx hb dX7_sheet_82 rfl (lv_at hl 1 rfl) ?_
                    refine lv_imul (pc := 83) hx hb dX7_sheet_83 ?_
                    refine lv_iload (pc := 84) hx hb dX7_sheet_84 (lv_at hl 2 rfl) ?_
                    refine lv_iadd (pc := 86) hx hb dX7_sheet_86 ?_
                    refine lv_lconst (pc := 87) hx hb (v := 0) dX7_sheet_87 (by decide) ?_
                    obtain ⟨hg88, hq69⟩ := hf_g hq69
                    refine vMwa_18 (pc := 88) hx hb hK hP hD hS (f := (gB T69 3)) rfl hg88 dX7_sheet_88 (fun H locs hP hD hS => ?_)
                    refine lv_iinc (pc := 89) hx hb (v := u4_69 + 1) (lv' := [(4, .int (u4_69 + 1)), (0, .ref (A 0)), (1, .int a1)]) dX7_sheet_89 hl (k := 2) rfl rfl (by decide) rfl (fun ls hl => ?_)
                    refine lv_goto (pc := 92) hx hb (tgt := 69) dX7_sheet_92 (by decide) ?_
                    exact ih69 (sB T69 3 (vp_updL (gB T69 3) ((40 * a1) + u4_69).toNatClampNeg 0)) (u4_69 + 1) H locs ls hq69 hP hD hS (lv_sub hl [1, 2, 0] rfl)
              exact lp69 256 (sA (sA S 12 (upd (gA S 12) a1.toNatClampNeg a2)) 13 (upd (gA S 13) a1.toNatClampNeg q65)) 0 H locs ls hq69 hP hD hS (lv_sub hl [1, 2, 0] rfl)
            refine lv_if_ge (pc := 57) hx hb (tgt := 64) dX7_sheet_57 (by decide) (fun c_57 => ?_) (fun c_57 => ?_)
            · have hv65 := hf_t c_57 hv65
              refine lv_iload_n (pc := 64) hx hb dX7_sheet_64 rfl (lv_at hl 3 rfl) ?_
              obtain rfl := Option.some.inj hv65
              exact hj65 H locs ls hP hD hS (lv_sub hl [0, 1] rfl)
            · have hv65 := hf_f c_57 hv65
              refine lv_iconst (pc := 60) hx hb (v := 0) dX7_sheet_60 (by decide) ?_
              refine lv_goto (pc := 61) hx hb (tgt := 65) dX7_sheet_61 (by decide) ?_
              obtain rfl := Option.some.inj hv65
              exact hj65 H locs ls hP hD hS (lv_sub hl [0, 1] rfl)
          · have hf := hf_f c_34 hf
            refine lv_iload_n (pc := 37) hx hb dX7_sheet_37 rfl (lv_at hl 3 rfl) ?_
            refine lv_if_ge (pc := 38) hx hb (tgt := 44) dX7_sheet_38 (by decide) (fun c_38 => ?_) (fun c_38 => ?_)
            · have hf := hf_t c_38 hf
              refine lv_aload_n (pc := 44) hx hb dX7_sheet_44 rfl (lv_at hl 0 rfl) ?_
              refine vMgRX7_67_0 (pc := 45) hx hb hts mU_99 inU7 hown hK hP dX7_sheet_45 ?_
              refine lv_iload_n (pc := 48) hx hb dX7_sheet_48 rfl (lv_at hl 1 rfl) ?_
              refine lv_iload_n (pc := 49) hx hb dX7_sheet_49 rfl (lv_at hl 2 rfl) ?_
              obtain ⟨hg50, hf⟩ := hf_g hf
              refine vMwa_16 (pc := 50) hx hb hK hP hD hS (f := (gA S 12)) rfl hg50 dX7_sheet_50 (fun H locs hP hD hS => ?_)
              refine lv_aload_n (pc := 51) hx hb dX7_sheet_51 rfl (lv_at hl 0 rfl) ?_
              refine vMgRX7_70_0 (pc := 52) hx hb hts mU_100 inU7 hown hK hP dX7_sheet_52 ?_
              refine lv_iload_n (pc := 55) hx hb dX7_sheet_55 rfl (lv_at hl 1 rfl) ?_
              refine lv_iload_n (pc := 56) hx hb dX7_sheet_56 rfl (lv_at hl 2 rfl) ?_
              obtain ⟨q65, hv65, hf⟩ := hf_b hf
              have hj65 : ∀ (H : Heap) (locs : List Loc) (ls : Array Slot), va_P D vwCl (wM A B (sA S 12 (upd (gA S 12) a1.toNatClampNeg a2))) H → va_D Ad (wM A B (sA S 12 (upd (gA S 12) a1.toNatClampNeg a2))) → va_S Ad s.heap H locs → lv_has ls 5 [(0, .ref (A 0)), (1, .int a1)] → W p l e rm_X7_sheet s m args below meth c H locs 0 0 Q (F0 m 65 ls [.int q65, .int a1, .ref (A 17)]) := by
                intro H locs ls hP hD hS hl
                obtain ⟨hg65, hf⟩ := hf_g hf
                refine vMwa_17 (pc := 65) hx hb hK hP hD hS (f := (gA S 13)) rfl hg65 dX7_sheet_65 (fun H locs hP hD hS => ?_)
                refine lv_iconst (pc := 66) hx hb (v := 0) dX7_sheet_66 (by decide) ?_
                refine lv_istore (pc := 67) hx hb (lv' := [(4, .int 0), (0, .ref (A 0)), (1, .int a1)]) dX7_sheet_67 hl (by decide) rfl (fun ls hl => ?_)
                obtain ⟨q69, hq69, hf⟩ := hf_b hf
                have hk69 : ∀ (H : Heap) (locs : List Loc) (ls : Array Slot), va_P D vwCl (wM A B q69) H → va_D Ad (wM A B q69) → va_S Ad s.heap H locs → lv_has ls 5 [] → W p l e rm_X7_sheet s m args below meth c H locs 0 0 Q (F0 m 95 ls []) := by
                  intro H locs ls hP hD hS hl
                  refine lv_iconst (pc := 95) hx hb (v := 1) dX7_sheet_95 (by decide) ?_
                  obtain rfl := Option.some.inj hf
                  exact hR H locs 96 ls hP hD hS dX7_sheet_96
                have lp69 : ∀ (n : Nat) (T69 : w_S) (u4_69 : Int32) (H : Heap) (locs : List Loc) (ls : Array Slot), fX7_sheet_L69 a1 n T69 u4_69 = some q69 → va_P D vwCl (wM A B T69) H → va_D Ad (wM A B T69) → va_S Ad s.heap H locs → lv_has ls 5 [(0, .ref (A 0)), (1, .int a1), (4, .int u4_69)] → W p l e rm_X7_sheet s m args below meth c H locs 0 0 Q (F0 m 69 ls []) := by
                  intro n69
                  induction n69 with
                  | zero => intro T69 u4_69 H locs ls hq69; exact hf_0 hq69
                  | succ n69 ih69 =>
                    intro T69 u4_69 H locs ls hq69 hP hD hS hl
                    rw [fX7_sheet_L69] at hq69
                    refine lv_iload (pc := 69) hx hb dX7_sheet_69 (lv_at hl 2 rfl) ?_
                    refine lv_bipush (pc := 71) hx hb (v := 40) dX7_sheet_71 (by decide) ?_
                    refine lv_icmp_ge (pc := 73) hx hb (tgt := 95) dX7_sheet_73 (by decide) (fun c_73 => ?_) (fun c_73 => ?_)
                    · have hq69 := hf_t c_73 hq69
                      obtain rfl := Option.some.inj hq69
                      exact hk69 H locs ls hP hD hS (lv_sub hl [] rfl)
                    · have hq69 := hf_f c_73 hq69
                      refine lv_aload_n (pc := 76) hx hb dX7_sheet_76 rfl (lv_at hl 0 rfl) ?_
                      refine vMgRX7_73_0 (pc := 77) hx hb hts mU_101 inU7 hown hK hP dX7_sheet_77 ?_
                      refine lv_bipush (pc := 80) hx hb (v := 40) dX7_sheet_80 (by decide) ?_
                      refine lv_iload_n (pc := 82) hx hb dX7_sheet_82 rfl (lv_at hl 1 rfl) ?_
                      refine lv_imul (pc := 83) hx hb dX7_sheet_83 ?_
                      refine lv_iload (pc := 84) hx hb dX7_sheet_84 (lv_at hl 2 rfl) ?_
                      refine lv_iadd (pc := 86) hx hb dX7_sheet_86 ?_
                      refine lv_lconst (pc := 87) hx hb (v := 0) dX7_sheet_87 (by decide) ?_
                      obtain ⟨hg88, hq69⟩ := hf_g hq69
                      refine vMwa_18 (pc := 88) hx hb hK hP hD hS (f := (gB T69 3)) rfl hg88 dX7_sheet_88 (fun H locs hP hD hS => ?_)
                      refine lv_iinc (pc := 89) hx hb (v := u4_69 + 1) (lv' := [(4, .int (u4_69 + 1)), (0, .ref (A 0)), (1, .int a1)]) dX7_sheet_89 hl (k := 2) rfl rfl (by decide) rfl (fun ls hl => ?_)
                      refine lv_goto (pc := 92) hx hb (tgt := 69) dX7_sheet_92 (by decide) ?_
                      exact ih69 (sB T69 3 (vp_updL (gB T69 3) ((40 * a1) + u4_69).toNatClampNeg 0)) (u4_69 + 1) H locs ls hq69 hP hD hS (lv_sub hl [1, 2, 0] rfl)
                exact lp69 256 (sA (sA S 12 (upd (gA S 12) a1.toNatClampNeg a2)) 13 (upd (gA S 13) a1.toNatClampNeg q65)) 0 H locs ls hq69 hP hD hS (lv_sub hl [1, 2, 0] rfl)
              refine lv_if_ge (pc := 57) hx hb (tgt := 64) dX7_sheet_57 (by decide) (fun c_57 => ?_) (fun c_57 => ?_)
              · have hv65 := hf_t c_57 hv65
                refine lv_iload_n (pc := 64) hx hb dX7_sheet_64 rfl (lv_at hl 3 rfl) ?_
                obtain rfl := Option.some.inj hv65
                exact hj65 H locs ls hP hD hS (lv_sub hl [0, 1] rfl)
              · have hv65 := hf_f c_57 hv65
                refine lv_iconst (pc := 60) hx hb (v := 0) dX7_sheet_60 (by decide) ?_
                refine lv_goto (pc := 61) hx hb (tgt := 65) dX7_sheet_61 (by decide) ?_
                obtain rfl := Option.some.inj hv65
                exact hj65 H locs ls hP hD hS (lv_sub hl [0, 1] rfl)
            · have hf := hf_f c_38 hf
              refine lv_bipush (pc := 41) hx hb (v := (-14)) dX7_sheet_41 (by decide) ?_
              obtain rfl := Option.some.inj hf
              exact hR H locs 43 ls hP hD hS dX7_sheet_43
        · have hf := hf_f c_28 hf
          refine lv_iconst (pc := 31) hx hb (v := (-1)) dX7_sheet_31 (by decide) ?_
          obtain rfl := Option.some.inj hf
          exact hR H locs 32 ls hP hD hS dX7_sheet_32
