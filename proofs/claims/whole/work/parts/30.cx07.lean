set_option maxHeartbeats 4000000 in
set_option maxRecDepth 100000 in
theorem kX6_isOfShape_34 (l : Launch) (D : va_G) (A : Nat → Nat) (B : Nat → ClassId) (sz : Nat) (S : w_S) (a1 : Int32) (z : Int32) (hf : fX6_isOfShape_34 S a1 = some z) : MetW l yX6_isOfShape (wsO yX6_isOfShape cX6_isOfShape 10 (some .boolean)) rm_X6_isOfShape [.ref (A 0), .int a1, .ref (A 34)] D (tyB B) (wX A B S) (wX A B S) sz (some (.int z)) := by
  refine MetW.mkZ (cc := cX6_isOfShape) (maxL := 10) (by decide) (Nat.le_of_ble_eq_true rfl) ?_
  intro p e s m args below meth c Ad Q hx hb hts hown hml hN hK hA hR H locs ls hP hD hS hl
  have hl : lv_has ls 10 [(0, .ref (A 0)), (1, .int a1), (2, .ref (A 34))] := hl
  rw [fX6_isOfShape_34] at hf
  refine lv_iload_n (pc := 0) hx hb dX6_isOfShape_0 rfl (lv_at hl 1 rfl) ?_
  refine lv_iconst (pc := 1) hx hb (v := 4) dX6_isOfShape_1 (by decide) ?_
  refine lv_icmp_eq (pc := 2) hx hb (tgt := 18) dX6_isOfShape_2 (by decide) (fun c_2 => ?_) (fun c_2 => ?_)
  · have hf := hf_t c_2 hf
    refine lv_iconst (pc := 18) hx hb (v := 0) dX6_isOfShape_18 (by decide) ?_
    refine lv_istore_n (pc := 19) hx hb (lv' := [(3, .int 0), (0, .ref (A 0)), (1, .int a1), (2, .ref (A 34))]) dX6_isOfShape_19 rfl hl (by decide) rfl (fun ls hl => ?_)
    have hk20 : ∀  (H : Heap) (locs : List Loc) (ls : Array Slot), some 1 = some z → va_P D vwCl (wX A B S) H → va_D Ad (wX A B S) → va_S Ad s.heap H locs → lv_has ls 10 [] → W p l e rm_X6_isOfShape s m args below meth c H locs 0 0 Q (F0 m 164 ls []) := by
      intro  H locs ls hf hP hD hS hl
      refine lv_iconst (pc := 164) hx hb (v := 1) dX6_isOfShape_164 (by decide) ?_
      obtain rfl := Option.some.inj hf
      exact hR H locs 165 ls hP hD hS (nz_of (.inr rfl)) dX6_isOfShape_165
    have lp20 : ∀ (n : Nat) (u3_20 : Int32) (H : Heap) (locs : List Loc) (ls : Array Slot), fX6_isOfShape_34_L20 (some 1) S a1 n u3_20 = some z → va_P D vwCl (wX A B S) H → va_D Ad (wX A B S) → va_S Ad s.heap H locs → lv_has ls 10 [(0, .ref (A 0)), (1, .int a1), (2, .ref (A 34)), (3, .int u3_20)] → W p l e rm_X6_isOfShape s m args below meth c H locs 0 0 Q (F0 m 20 ls []) := by
      intro n20
      induction n20 with
      | zero => intro u3_20 H locs ls hf; exact hf_0 hf
      | succ n20 ih20 =>
        intro u3_20 H locs ls hf hP hD hS hl
        rw [fX6_isOfShape_34_L20] at hf
        refine lv_iload_n (pc := 20) hx hb dX6_isOfShape_20 rfl (lv_at hl 3 rfl) ?_
        refine lv_aload_n (pc := 21) hx hb dX6_isOfShape_21 rfl (lv_at hl 0 rfl) ?_
        refine vXgRX6_10_0 (pc := 22) hx hb hts mU_16 inU6 hown hK hP dX6_isOfShape_22 ?_
        refine vXgRX6_60_1 (pc := 25) hx hb hts mU_111 inU4 hown hK hP (x := (gI S 0)) rfl dX6_isOfShape_25 ?_
        refine lv_icmp_ge (pc := 28) hx hb (tgt := 164) dX6_isOfShape_28 (by decide) (fun c_28 => ?_) (fun c_28 => ?_)
        · have hf := hf_t c_28 hf
          exact hk20  H locs ls hf hP hD hS (lv_sub hl [] rfl)
        · have hf := hf_f c_28 hf
          refine lv_iconst (pc := 31) hx hb (v := 0) dX6_isOfShape_31 (by decide) ?_
          refine lv_istore (pc := 32) hx hb (lv' := [(4, .int 0), (0, .ref (A 0)), (1, .int a1), (2, .ref (A 34)), (3, .int u3_20)]) dX6_isOfShape_32 hl (by decide) rfl (fun ls hl => ?_)
          have hk34 : ∀  (H : Heap) (locs : List Loc) (ls : Array Slot), fX6_isOfShape_34_L20 (some 1) S a1 n20 (u3_20 + 1) = some z → va_P D vwCl (wX A B S) H → va_D Ad (wX A B S) → va_S Ad s.heap H locs → lv_has ls 10 [(0, .ref (A 0)), (1, .int a1), (2, .ref (A 34)), (3, .int u3_20)] → W p l e rm_X6_isOfShape s m args below meth c H locs 0 0 Q (F0 m 158 ls []) := by
            intro  H locs ls hf hP hD hS hl
            refine lv_iinc (pc := 158) hx hb (v := u3_20 + 1) (lv' := [(3, .int (u3_20 + 1)), (0, .ref (A 0)), (1, .int a1), (2, .ref (A 34))]) dX6_isOfShape_158 hl (k := 3) rfl rfl (by decide) rfl (fun ls hl => ?_)
            refine lv_goto (pc := 161) hx hb (tgt := 20) dX6_isOfShape_161 (by decide) ?_
            exact ih20 (u3_20 + 1) H locs ls hf hP hD hS (lv_sub hl [1, 2, 3, 0] rfl)
          have lp34 : ∀ (n : Nat) (u4_34 : Int32) (H : Heap) (locs : List Loc) (ls : Array Slot), fX6_isOfShape_34_L34 (fX6_isOfShape_34_L20 (some 1) S a1 n20 (u3_20 + 1)) S a1 u3_20 n u4_34 = some z → va_P D vwCl (wX A B S) H → va_D Ad (wX A B S) → va_S Ad s.heap H locs → lv_has ls 10 [(0, .ref (A 0)), (1, .int a1), (2, .ref (A 34)), (3, .int u3_20), (4, .int u4_34)] → W p l e rm_X6_isOfShape s m args below meth c H locs 0 0 Q (F0 m 34 ls []) := by
            intro n34
            induction n34 with
            | zero => intro u4_34 H locs ls hf; exact hf_0 hf
            | succ n34 ih34 =>
              intro u4_34 H locs ls hf hP hD hS hl
              rw [fX6_isOfShape_34_L34] at hf
              refine lv_iload (pc := 34) hx hb dX6_isOfShape_34 (lv_at hl 4 rfl) ?_
              refine lv_aload_n (pc := 36) hx hb dX6_isOfShape_36 rfl (lv_at hl 0 rfl) ?_
              refine vXgRX6_10_0 (pc := 37) hx hb hts mU_16 inU6 hown hK hP dX6_isOfShape_37 ?_
              refine vXgRX6_64_1 (pc := 40) hx hb hts mU_112 inU4 hown hK hP (x := (gI S 1)) rfl dX6_isOfShape_40 ?_
              refine lv_icmp_ge (pc := 43) hx hb (tgt := 158) dX6_isOfShape_43 (by decide) (fun c_43 => ?_) (fun c_43 => ?_)
              · have hf := hf_t c_43 hf
                exact hk34  H locs ls hf hP hD hS (lv_sub hl [0, 1, 2, 3] rfl)
              · have hf := hf_f c_43 hf
                refine lv_aload_n (pc := 46) hx hb dX6_isOfShape_46 rfl (lv_at hl 2 rfl) ?_
                refine lv_iload_n (pc := 47) hx hb dX6_isOfShape_47 rfl (lv_at hl 3 rfl) ?_
                refine lv_aload_n (pc := 48) hx hb dX6_isOfShape_48 rfl (lv_at hl 0 rfl) ?_
                refine vXgRX6_10_0 (pc := 49) hx hb hts mU_16 inU6 hown hK hP dX6_isOfShape_49 ?_
                refine vXgRX6_64_1 (pc := 52) hx hb hts mU_112 inU4 hown hK hP (x := (gI S 1)) rfl dX6_isOfShape_52 ?_
                refine lv_imul (pc := 55) hx hb dX6_isOfShape_55 ?_
                refine lv_iload (pc := 56) hx hb dX6_isOfShape_56 (lv_at hl 4 rfl) ?_
                refine lv_iadd (pc := 58) hx hb dX6_isOfShape_58 ?_
                obtain ⟨r59, hc59, hf⟩ := hf_b hf
                refine cl_V (pc := 59) (As := [.int ((u3_20 * (gI S 1)) + u4_34)]) (rest := []) hx hb hml hown hts (kX2_read_34 l D A B _ S ((u3_20 * (gI S 1)) + u4_34) r59 hc59) (cwV 1 hts gwRX6_258 rfl rfl rfl hdX2_read ⟨Nat.le_of_ble_eq_true rfl, Nat.le_of_ble_eq_true rfl⟩) hN hK hP hD hS hA (va_recv hK hP (ci := 2) (q0 := 34) rfl (eX_34 A B _)) rfl hl.1 rfl (Nat.le_of_ble_eq_true rfl) dX6_isOfShape_59 (st1 := [.long r59]) rfl ⟨Nat.zero_le _, Nat.zero_le _⟩ (fun H locs hP hD hS => ?_)
                refine lv_lstore (pc := 62) hx hb (lv' := [(5, .long r59), (0, .ref (A 0)), (1, .int a1), (2, .ref (A 34)), (3, .int u3_20), (4, .int u4_34)]) dX6_isOfShape_62 hl (by decide) rfl (fun ls hl => ?_)
                refine lv_aload_n (pc := 64) hx hb dX6_isOfShape_64 rfl (lv_at hl 3 rfl) ?_
                refine lv_iload (pc := 65) hx hb dX6_isOfShape_65 (lv_at hl 5 rfl) ?_
                refine lv_aload_n (pc := 67) hx hb dX6_isOfShape_67 rfl (lv_at hl 1 rfl) ?_
                refine vXgRX6_10_0 (pc := 68) hx hb hts mU_16 inU6 hown hK hP dX6_isOfShape_68 ?_
                refine vXgRX6_64_1 (pc := 71) hx hb hts mU_112 inU4 hown hK hP (x := (gI S 1)) rfl dX6_isOfShape_71 ?_
                refine lv_imul (pc := 74) hx hb dX6_isOfShape_74 ?_
                refine lv_iload_n (pc := 75) hx hb dX6_isOfShape_75 rfl (lv_at hl 4 rfl) ?_
                refine lv_iadd (pc := 76) hx hb dX6_isOfShape_76 ?_
                obtain ⟨r77, hc77, hf⟩ := hf_b hf
                refine cl_V (pc := 77) (As := [.int ((u4_34 * (gI S 1)) + u3_20)]) (rest := []) hx hb hml hown hts (kX2_read_34 l D A B _ S ((u4_34 * (gI S 1)) + u3_20) r77 hc77) (cwV 1 hts gwRX6_258 rfl rfl rfl hdX2_read ⟨Nat.le_of_ble_eq_true rfl, Nat.le_of_ble_eq_true rfl⟩) hN hK hP hD hS hA (va_recv hK hP (ci := 2) (q0 := 34) rfl (eX_34 A B _)) rfl hl.1 rfl (Nat.le_of_ble_eq_true rfl) dX6_isOfShape_77 (st1 := [.long r77]) rfl ⟨Nat.zero_le _, Nat.zero_le _⟩ (fun H locs hP hD hS => ?_)
                refine lv_lstore (pc := 80) hx hb (lv' := [(7, .long r77), (5, .long r59), (0, .ref (A 0)), (1, .int a1), (2, .ref (A 34)), (3, .int u3_20), (4, .int u4_34)]) dX6_isOfShape_80 hl (by decide) rfl (fun ls hl => ?_)
                refine lv_iload_n (pc := 82) hx hb dX6_isOfShape_82 rfl (lv_at hl 3 rfl) ?_
                refine lv_iconst (pc := 83) hx hb (v := 4) dX6_isOfShape_83 (by decide) ?_
                refine lv_icmp_ne (pc := 84) hx hb (tgt := 108) dX6_isOfShape_84 (by decide) (fun c_84 => ?_) (fun c_84 => ?_)
                · have hf := hf_f c_84 hf
                  refine lv_iload_n (pc := 108) hx hb dX6_isOfShape_108 rfl (lv_at hl 3 rfl) ?_
                  refine lv_iconst (pc := 109) hx hb (v := 5) dX6_isOfShape_109 (by decide) ?_
                  refine lv_icmp_ne (pc := 110) hx hb (tgt := 129) dX6_isOfShape_110 (by decide) (fun c_110 => ?_) (fun c_110 => ?_)
                  · have hf := hf_f c_110 hf
                    refine lv_lload (pc := 129) hx hb dX6_isOfShape_129 (lv_at hl 1 rfl) ?_
                    refine lv_lload (pc := 131) hx hb dX6_isOfShape_131 (lv_at hl 0 rfl) ?_
                    refine lv_lneg (pc := 133) hx hb dX6_isOfShape_133 ?_
                    refine W.lcmp (pc := 134) hx hb dX6_isOfShape_134 ?_
                    refine lv_if_ne (pc := 135) hx hb (tgt := 142) dX6_isOfShape_135 (by decide) (fun c_135 => ?_) (fun c_135 => ?_)
                    · have c_135 := fun h9 => c_135 (lg_eq0.mpr h9)
                      have hf := hf_f c_135 hf
                      refine lv_iconst (pc := 142) hx hb (v := 0) dX6_isOfShape_142 (by decide) ?_
                      refine lv_istore (pc := 143) hx hb (lv' := [(9, .int 0), (7, .long r77), (5, .long r59), (0, .ref (A 0)), (1, .int a1), (2, .ref (A 34)), (3, .int u3_20), (4, .int u4_34)]) dX6_isOfShape_143 hl (by decide) rfl (fun ls hl => ?_)
                      refine lv_iload (pc := 145) hx hb dX6_isOfShape_145 (lv_at hl 0 rfl) ?_
                      refine lv_if_ne (pc := 147) hx hb (tgt := 152) dX6_isOfShape_147 (by decide) (fun c_147 => ?_) (fun c_147 => ?_)
                      · have hf := hf_f c_147 hf
                        refine lv_iinc (pc := 152) hx hb (v := u4_34 + 1) (lv' := [(4, .int (u4_34 + 1)), (9, .int 0), (7, .long r77), (5, .long r59), (0, .ref (A 0)), (1, .int a1), (2, .ref (A 34)), (3, .int u3_20)]) dX6_isOfShape_152 hl (k := 7) rfl rfl (by decide) rfl (fun ls hl => ?_)
                        refine lv_goto (pc := 155) hx hb (tgt := 34) dX6_isOfShape_155 (by decide) ?_
                        exact ih34 (u4_34 + 1) H locs ls hf hP hD hS (lv_sub hl [4, 5, 6, 7, 0] rfl)
                      · have hf := hf_t c_147 hf
                        refine lv_iconst (pc := 150) hx hb (v := 0) dX6_isOfShape_150 (by decide) ?_
                        obtain rfl := Option.some.inj hf
                        exact hR H locs 151 ls hP hD hS (nz_of (.inl rfl)) dX6_isOfShape_151
                    · have c_135 := lg_eq0.mp c_135
                      have hf := hf_t c_135 hf
                      refine lv_iconst (pc := 138) hx hb (v := 1) dX6_isOfShape_138 (by decide) ?_
                      refine lv_goto (pc := 139) hx hb (tgt := 143) dX6_isOfShape_139 (by decide) ?_
                      refine lv_istore (pc := 143) hx hb (lv' := [(9, .int 1), (7, .long r77), (5, .long r59), (0, .ref (A 0)), (1, .int a1), (2, .ref (A 34)), (3, .int u3_20), (4, .int u4_34)]) dX6_isOfShape_143 hl (by decide) rfl (fun ls hl => ?_)
                      refine lv_iload (pc := 145) hx hb dX6_isOfShape_145 (lv_at hl 0 rfl) ?_
                      refine lv_if_ne (pc := 147) hx hb (tgt := 152) dX6_isOfShape_147 (by decide) (fun c_147 => ?_) (fun c_147 => ?_)
                      · have hf := hf_f c_147 hf
                        refine lv_iinc (pc := 152) hx hb (v := u4_34 + 1) (lv' := [(4, .int (u4_34 + 1)), (9, .int 1), (7, .long r77), (5, .long r59), (0, .ref (A 0)), (1, .int a1), (2, .ref (A 34)), (3, .int u3_20)]) dX6_isOfShape_152 hl (k := 7) rfl rfl (by decide) rfl (fun ls hl => ?_)
                        refine lv_goto (pc := 155) hx hb (tgt := 34) dX6_isOfShape_155 (by decide) ?_
                        exact ih34 (u4_34 + 1) H locs ls hf hP hD hS (lv_sub hl [4, 5, 6, 7, 0] rfl)
                      · have hf := hf_t c_147 hf
                        refine lv_iconst (pc := 150) hx hb (v := 0) dX6_isOfShape_150 (by decide) ?_
                        obtain rfl := Option.some.inj hf
                        exact hR H locs 151 ls hP hD hS (nz_of (.inl rfl)) dX6_isOfShape_151
                  · have hf := hf_t c_110 hf
                    refine lv_lload (pc := 113) hx hb dX6_isOfShape_113 (lv_at hl 1 rfl) ?_
                    refine lv_lload (pc := 115) hx hb dX6_isOfShape_115 (lv_at hl 0 rfl) ?_
                    refine W.lcmp (pc := 117) hx hb dX6_isOfShape_117 ?_
                    refine lv_if_ne (pc := 118) hx hb (tgt := 125) dX6_isOfShape_118 (by decide) (fun c_118 => ?_) (fun c_118 => ?_)
                    · have c_118 := fun h9 => c_118 (lg_eq0.mpr h9)
                      have hf := hf_f c_118 hf
                      refine lv_iconst (pc := 125) hx hb (v := 0) dX6_isOfShape_125 (by decide) ?_
                      refine lv_goto (pc := 126) hx hb (tgt := 143) dX6_isOfShape_126 (by decide) ?_
                      refine lv_istore (pc := 143) hx hb (lv' := [(9, .int 0), (7, .long r77), (5, .long r59), (0, .ref (A 0)), (1, .int a1), (2, .ref (A 34)), (3, .int u3_20), (4, .int u4_34)]) dX6_isOfShape_143 hl (by decide) rfl (fun ls hl => ?_)
                      refine lv_iload (pc := 145) hx hb dX6_isOfShape_145 (lv_at hl 0 rfl) ?_
                      refine lv_if_ne (pc := 147) hx hb (tgt := 152) dX6_isOfShape_147 (by decide) (fun c_147 => ?_) (fun c_147 => ?_)
                      · have hf := hf_f c_147 hf
                        refine lv_iinc (pc := 152) hx hb (v := u4_34 + 1) (lv' := [(4, .int (u4_34 + 1)), (9, .int 0), (7, .long r77), (5, .long r59), (0, .ref (A 0)), (1, .int a1), (2, .ref (A 34)), (3, .int u3_20)]) dX6_isOfShape_152 hl (k := 7) rfl rfl (by decide) rfl (fun ls hl => ?_)
                        refine lv_goto (pc := 155) hx hb (tgt := 34) dX6_isOfShape_155 (by decide) ?_
                        exact ih34 (u4_34 + 1) H locs ls hf hP hD hS (lv_sub hl [4, 5, 6, 7, 0] rfl)
                      · have hf := hf_t c_147 hf
                        refine lv_iconst (pc := 150) hx hb (v := 0) dX6_isOfShape_150 (by decide) ?_
                        obtain rfl := Option.some.inj hf
                        exact hR H locs 151 ls hP hD hS (nz_of (.inl rfl)) dX6_isOfShape_151
                    · have c_118 := lg_eq0.mp c_118
                      have hf := hf_t c_118 hf
                      refine lv_iconst (pc := 121) hx hb (v := 1) dX6_isOfShape_121 (by decide) ?_
                      refine lv_goto (pc := 122) hx hb (tgt := 143) dX6_isOfShape_122 (by decide) ?_
                      refine lv_istore (pc := 143) hx hb (lv' := [(9, .int 1), (7, .long r77), (5, .long r59), (0, .ref (A 0)), (1, .int a1), (2, .ref (A 34)), (3, .int u3_20), (4, .int u4_34)]) dX6_isOfShape_143 hl (by decide) rfl (fun ls hl => ?_)
                      refine lv_iload (pc := 145) hx hb dX6_isOfShape_145 (lv_at hl 0 rfl) ?_
                      refine lv_if_ne (pc := 147) hx hb (tgt := 152) dX6_isOfShape_147 (by decide) (fun c_147 => ?_) (fun c_147 => ?_)
                      · have hf := hf_f c_147 hf
                        refine lv_iinc (pc := 152) hx hb (v := u4_34 + 1) (lv' := [(4, .int (u4_34 + 1)), (9, .int 1), (7, .long r77), (5, .long r59), (0, .ref (A 0)), (1, .int a1), (2, .ref (A 34)), (3, .int u3_20)]) dX6_isOfShape_152 hl (k := 7) rfl rfl (by decide) rfl (fun ls hl => ?_)
                        refine lv_goto (pc := 155) hx hb (tgt := 34) dX6_isOfShape_155 (by decide) ?_
                        exact ih34 (u4_34 + 1) H locs ls hf hP hD hS (lv_sub hl [4, 5, 6, 7, 0] rfl)
                      · have hf := hf_t c_147 hf
                        refine lv_iconst (pc := 150) hx hb (v := 0) dX6_isOfShape_150 (by decide) ?_
                        obtain rfl := Option.some.inj hf
                        exact hR H locs 151 ls hP hD hS (nz_of (.inl rfl)) dX6_isOfShape_151
                · have hf := hf_t c_84 hf
                  refine lv_iload_n (pc := 87) hx hb dX6_isOfShape_87 rfl (lv_at hl 5 rfl) ?_
                  refine lv_iload (pc := 88) hx hb dX6_isOfShape_88 (lv_at hl 6 rfl) ?_
                  refine lv_icmp_eq (pc := 90) hx hb (tgt := 100) dX6_isOfShape_90 (by decide) (fun c_90 => ?_) (fun c_90 => ?_)
                  · have hf := hf_t c_90 hf
                    refine lv_iconst (pc := 100) hx hb (v := 1) dX6_isOfShape_100 (by decide) ?_
                    refine lv_goto (pc := 101) hx hb (tgt := 143) dX6_isOfShape_101 (by decide) ?_
                    refine lv_istore (pc := 143) hx hb (lv' := [(9, .int 1), (7, .long r77), (5, .long r59), (0, .ref (A 0)), (1, .int a1), (2, .ref (A 34)), (3, .int u3_20), (4, .int u4_34)]) dX6_isOfShape_143 hl (by decide) rfl (fun ls hl => ?_)
                    refine lv_iload (pc := 145) hx hb dX6_isOfShape_145 (lv_at hl 0 rfl) ?_
                    refine lv_if_ne (pc := 147) hx hb (tgt := 152) dX6_isOfShape_147 (by decide) (fun c_147 => ?_) (fun c_147 => ?_)
                    · have hf := hf_f c_147 hf
                      refine lv_iinc (pc := 152) hx hb (v := u4_34 + 1) (lv' := [(4, .int (u4_34 + 1)), (9, .int 1), (7, .long r77), (5, .long r59), (0, .ref (A 0)), (1, .int a1), (2, .ref (A 34)), (3, .int u3_20)]) dX6_isOfShape_152 hl (k := 7) rfl rfl (by decide) rfl (fun ls hl => ?_)
                      refine lv_goto (pc := 155) hx hb (tgt := 34) dX6_isOfShape_155 (by decide) ?_
                      exact ih34 (u4_34 + 1) H locs ls hf hP hD hS (lv_sub hl [4, 5, 6, 7, 0] rfl)
                    · have hf := hf_t c_147 hf
                      refine lv_iconst (pc := 150) hx hb (v := 0) dX6_isOfShape_150 (by decide) ?_
                      obtain rfl := Option.some.inj hf
                      exact hR H locs 151 ls hP hD hS (nz_of (.inl rfl)) dX6_isOfShape_151
                  · have hf := hf_f c_90 hf
                    refine lv_lload (pc := 93) hx hb dX6_isOfShape_93 (lv_at hl 1 rfl) ?_
                    refine lv_lconst (pc := 95) hx hb (v := 0) dX6_isOfShape_95 (by decide) ?_
                    refine W.lcmp (pc := 96) hx hb dX6_isOfShape_96 ?_
                    refine lv_if_ne (pc := 97) hx hb (tgt := 104) dX6_isOfShape_97 (by decide) (fun c_97 => ?_) (fun c_97 => ?_)
                    · have c_97 := fun h9 => c_97 (lg_eq0.mpr h9)
                      have hf := hf_f c_97 hf
                      refine lv_iconst (pc := 104) hx hb (v := 0) dX6_isOfShape_104 (by decide) ?_
                      refine lv_goto (pc := 105) hx hb (tgt := 143) dX6_isOfShape_105 (by decide) ?_
                      refine lv_istore (pc := 143) hx hb (lv' := [(9, .int 0), (7, .long r77), (5, .long r59), (0, .ref (A 0)), (1, .int a1), (2, .ref (A 34)), (3, .int u3_20), (4, .int u4_34)]) dX6_isOfShape_143 hl (by decide) rfl (fun ls hl => ?_)
                      refine lv_iload (pc := 145) hx hb dX6_isOfShape_145 (lv_at hl 0 rfl) ?_
                      refine lv_if_ne (pc := 147) hx hb (tgt := 152) dX6_isOfShape_147 (by decide) (fun c_147 => ?_) (fun c_147 => ?_)
                      · have hf := hf_f c_147 hf
                        refine lv_iinc (pc := 152) hx hb (v := u4_34 + 1) (lv' := [(4, .int (u4_34 + 1)), (9, .int 0), (7, .long r77), (5, .long r59), (0, .ref (A 0)), (1, .int a1), (2, .ref (A 34)), (3, .int u3_20)]) dX6_isOfShape_152 hl (k := 7) rfl rfl (by decide) rfl (fun ls hl => ?_)
                        refine lv_goto (pc := 155) hx hb (tgt := 34) dX6_isOfShape_155 (by decide) ?_
                        exact ih34 (u4_34 + 1) H locs ls hf hP hD hS (lv_sub hl [4, 5, 6, 7, 0] rfl)
                      · have hf := hf_t c_147 hf
                        refine lv_iconst (pc := 150) hx hb (v := 0) dX6_isOfShape_150 (by decide) ?_
                        obtain rfl := Option.some.inj hf
                        exact hR H locs 151 ls hP hD hS (nz_of (.inl rfl)) dX6_isOfShape_151
                    · have c_97 := lg_eq0.mp c_97
                      have hf := hf_t c_97 hf
                      refine lv_iconst (pc := 100) hx hb (v := 1) dX6_isOfShape_100 (by decide) ?_
                      refine lv_goto (pc := 101) hx hb (tgt := 143) dX6_isOfShape_101 (by decide) ?_
                      refine lv_istore (pc := 143) hx hb (lv' := [(9, .int 1), (7, .long r77), (5, .long r59), (0, .ref (A 0)), (1, .int a1), (2, .ref (A 34)), (3, .int u3_20), (4, .int u4_34)]) dX6_isOfShape_143 hl (by decide) rfl (fun ls hl => ?_)
                      refine lv_iload (pc := 145) hx hb dX6_isOfShape_145 (lv_at hl 0 rfl) ?_
                      refine lv_if_ne (pc := 147) hx hb (tgt := 152) dX6_isOfShape_147 (by decide) (fun c_147 => ?_) (fun c_147 => ?_)
                      · have hf := hf_f c_147 hf
                        refine lv_iinc (pc := 152) hx hb (v := u4_34 + 1) (lv' := [(4, .int (u4_34 + 1)), (9, .int 1), (7, .long r77), (5, .long r59), (0, .ref (A 0)), (1, .int a1), (2, .ref (A 34)), (3, .int u3_20)]) dX6_isOfShape_152 hl (k := 7) rfl rfl (by decide) rfl (fun ls hl => ?_)
                        refine lv_goto (pc := 155) hx hb (tgt := 34) dX6_isOfShape_155 (by decide) ?_
                        exact ih34 (u4_34 + 1) H locs ls hf hP hD hS (lv_sub hl [4, 5, 6, 7, 0] rfl)
                      · have hf := hf_t c_147 hf
                        refine lv_iconst (pc := 150) hx hb (v := 0) dX6_isOfShape_150 (by decide) ?_
                        obtain rfl := Option.some.inj hf
                        exact hR H locs 151 ls hP hD hS (nz_of (.inl rfl)) dX6_isOfShape_151
          exact lp34 256 0 H locs ls hf hP hD hS (lv_sub hl [1, 2, 3, 4, 0] rfl)
    exact lp20 256 0 H locs ls hf hP hD hS (lv_sub hl [1, 2, 3, 0] rfl)
  · have hf := hf_f c_2 hf
    refine lv_iload_n (pc := 5) hx hb dX6_isOfShape_5 rfl (lv_at hl 1 rfl) ?_
    refine lv_iconst (pc := 6) hx hb (v := 5) dX6_isOfShape_6 (by decide) ?_
    refine lv_icmp_eq (pc := 7) hx hb (tgt := 18) dX6_isOfShape_7 (by decide) (fun c_7 => ?_) (fun c_7 => ?_)
    · have hf := hf_t c_7 hf
      refine lv_iconst (pc := 18) hx hb (v := 0) dX6_isOfShape_18 (by decide) ?_
      refine lv_istore_n (pc := 19) hx hb (lv' := [(3, .int 0), (0, .ref (A 0)), (1, .int a1), (2, .ref (A 34))]) dX6_isOfShape_19 rfl hl (by decide) rfl (fun ls hl => ?_)
      have hk20 : ∀  (H : Heap) (locs : List Loc) (ls : Array Slot), some 1 = some z → va_P D vwCl (wX A B S) H → va_D Ad (wX A B S) → va_S Ad s.heap H locs → lv_has ls 10 [] → W p l e rm_X6_isOfShape s m args below meth c H locs 0 0 Q (F0 m 164 ls []) := by
        intro  H locs ls hf hP hD hS hl
        refine lv_iconst (pc := 164) hx hb (v := 1) dX6_isOfShape_164 (by decide) ?_
        obtain rfl := Option.some.inj hf
        exact hR H locs 165 ls hP hD hS (nz_of (.inr rfl)) dX6_isOfShape_165
      have lp20 : ∀ (n : Nat) (u3_20 : Int32) (H : Heap) (locs : List Loc) (ls : Array Slot), fX6_isOfShape_34_L20 (some 1) S a1 n u3_20 = some z → va_P D vwCl (wX A B S) H → va_D Ad (wX A B S) → va_S Ad s.heap H locs → lv_has ls 10 [(0, .ref (A 0)), (1, .int a1), (2, .ref (A 34)), (3, .int u3_20)] → W p l e rm_X6_isOfShape s m args below meth c H locs 0 0 Q (F0 m 20 ls []) := by
        intro n20
        induction n20 with
        | zero => intro u3_20 H locs ls hf; exact hf_0 hf
        | succ n20 ih20 =>
          intro u3_20 H locs ls hf hP hD hS hl
          rw [fX6_isOfShape_34_L20] at hf
          refine lv_iload_n (pc := 20) hx hb dX6_isOfShape_20 rfl (lv_at hl 3 rfl) ?_
          refine lv_aload_n (pc := 21) hx hb dX6_isOfShape_21 rfl (lv_at hl 0 rfl) ?_
          refine vXgRX6_10_0 (pc := 22) hx hb hts mU_16 inU6 hown hK hP dX6_isOfShape_22 ?_
          refine vXgRX6_60_1 (pc := 25) hx hb hts mU_111 inU4 hown hK hP (x := (gI S 0)) rfl dX6_isOfShape_25 ?_
          refine lv_icmp_ge (pc := 28) hx hb (tgt := 164) dX6_isOfShape_28 (by decide) (fun c_28 => ?_) (fun c_28 => ?_)
          · have hf := hf_t c_28 hf
            exact hk20  H locs ls hf hP hD hS (lv_sub hl [] rfl)
          · have hf := hf_f c_28 hf
            refine lv_iconst (pc := 31) hx hb (v := 0) dX6_isOfShape_31 (by decide) ?_
            refine lv_istore (pc := 32) hx hb (lv' := [(4, .int 0), (0, .ref (A 0)), (1, .int a1), (2, .ref (A 34)), (3, .int u3_20)]) dX6_isOfShape_32 hl (by decide) rfl (fun ls hl => ?_)
            have hk34 : ∀  (H : Heap) (locs : List Loc) (ls : Array Slot), fX6_isOfShape_34_L20 (some 1) S a1 n20 (u3_20 + 1) = some z → va_P D vwCl (wX A B S) H → va_D Ad (wX A B S) → va_S Ad s.heap H locs → lv_has ls 10 [(0, .ref (A 0)), (1, .int a1), (2, .ref (A 34)), (3, .int u3_20)] → W p l e rm_X6_isOfShape s m args below meth c H locs 0 0 Q (F0 m 158 ls []) := by
              intro  H locs ls hf hP hD hS hl
              refine lv_iinc (pc := 158) hx hb (v := u3_20 + 1) (lv' := [(3, .int (u3_20 + 1)), (0, .ref (A 0)), (1, .int a1), (2, .ref (A 34))]) dX6_isOfShape_158 hl (k := 3) rfl rfl (by decide) rfl (fun ls hl => ?_)
              refine lv_goto (pc := 161) hx hb (tgt := 20) dX6_isOfShape_161 (by decide) ?_
              exact ih20 (u3_20 + 1) H locs ls hf hP hD hS (lv_sub hl [1, 2, 3, 0] rfl)
            have lp34 : ∀ (n : Nat) (u4_34 : Int32) (H : Heap) (locs : List Loc) (ls : Array Slot), fX6_isOfShape_34_L34 (fX6_isOfShape_34_L20 (some 1) S a1 n20 (u3_20 + 1)) S a1 u3_20 n u4_34 = some z → va_P D vwCl (wX A B S) H → va_D Ad (wX A B S) → va_S Ad s.heap H locs → lv_has ls 10 [(0, .ref (A 0)), (1, .int a1), (2, .ref (A 34)), (3, .int u3_20), (4, .int u4_34)] → W p l e rm_X6_isOfShape s m args below meth c H locs 0 0 Q (F0 m 34 ls []) := by
              intro n34
              induction n34 with
              | zero => intro u4_34 H locs ls hf; exact hf_0 hf
              | succ n34 ih34 =>
                intro u4_34 H locs ls hf hP hD hS hl
                rw [fX6_isOfShape_34_L34] at hf
                refine lv_iload (pc := 34) hx hb dX6_isOfShape_34 (lv_at hl 4 rfl) ?_
                refine lv_aload_n (pc := 36) hx hb dX6_isOfShape_36 rfl (lv_at hl 0 rfl) ?_
                refine vXgRX6_10_0 (pc := 37) hx hb hts mU_16 inU6 hown hK hP dX6_isOfShape_37 ?_
                refine vXgRX6_64_1 (pc := 40) hx hb hts mU_112 inU4 hown hK hP (x := (gI S 1)) rfl dX6_isOfShape_40 ?_
                refine lv_icmp_ge (pc := 43) hx hb (tgt := 158) dX6_isOfShape_43 (by decide) (fun c_43 => ?_) (fun c_43 => ?_)
                · have hf := hf_t c_43 hf
                  exact hk34  H locs ls hf hP hD hS (lv_sub hl [0, 1, 2, 3] rfl)
                · have hf := hf_f c_43 hf
                  refine lv_aload_n (pc := 46) hx hb dX6_isOfShape_46 rfl (lv_at hl 2 rfl) ?_
                  refine lv_iload_n (pc := 47) hx hb dX6_isOfShape_47 rfl (lv_at hl 3 rfl) ?_
                  refine lv_aload_n (pc := 48) hx hb dX6_isOfShape_48 rfl (lv_at hl 0 rfl) ?_
                  refine vXgRX6_10_0 (pc := 49) hx hb hts mU_16 inU6 hown hK hP dX6_isOfShape_49 ?_
                  refine vXgRX6_64_1 (pc := 52) hx hb hts mU_112 inU4 hown hK hP (x := (gI S 1)) rfl dX6_isOfShape_52 ?_
                  refine lv_imul (pc := 55) hx hb dX6_isOfShape_55 ?_
                  refine lv_iload (pc := 56) hx hb dX6_isOfShape_56 (lv_at hl 4 rfl) ?_
                  refine lv_iadd (pc := 58) hx hb dX6_isOfShape_58 ?_
                  obtain ⟨r59, hc59, hf⟩ := hf_b hf
                  refine cl_V (pc := 59) (As := [.int ((u3_20 * (gI S 1)) + u4_34)]) (rest := []) hx hb hml hown hts (kX2_read_34 l D A B _ S ((u3_20 * (gI S 1)) + u4_34) r59 hc59) (cwV 1 hts gwRX6_258 rfl rfl rfl hdX2_read ⟨Nat.le_of_ble_eq_true rfl, Nat.le_of_ble_eq_true rfl⟩) hN hK hP hD hS hA (va_recv hK hP (ci := 2) (q0 := 34) rfl (eX_34 A B _)) rfl hl.1 rfl (Nat.le_of_ble_eq_true rfl) dX6_isOfShape_59 (st1 := [.long r59]) rfl ⟨Nat.zero_le _, Nat.zero_le _⟩ (fun H locs hP hD hS => ?_)
                  refine lv_lstore (pc := 62) hx hb (lv' := [(5, .long r59), (0, .ref (A 0)), (1, .int a1), (2, .ref (A 34)), (3, .int u3_20), (4, .int u4_34)]) dX6_isOfShape_62 hl (by decide) rfl (fun ls hl => ?_)
                  refine lv_aload_n (pc := 64) hx hb dX6_isOfShape_64 rfl (lv_at hl 3 rfl) ?_
                  refine lv_iload (pc := 65) hx hb dX6_isOfShape_65 (lv_at hl 5 rfl) ?_
                  refine lv_aload_n (pc := 67) hx hb dX6_isOfShape_67 rfl (lv_at hl 1 rfl) ?_
                  refine vXgRX6_10_0 (pc := 68) hx hb hts mU_16 inU6 hown hK hP dX6_isOfShape_68 ?_
                  refine vXgRX6_64_1 (pc := 71) hx hb hts mU_112 inU4 hown hK hP (x := (gI S 1)) rfl dX6_isOfShape_71 ?_
                  refine lv_imul (pc := 74) hx hb dX6_isOfShape_74 ?_
                  refine lv_iload_n (pc := 75) hx hb dX6_isOfShape_75 rfl (lv_at hl 4 rfl) ?_
                  refine lv_iadd (pc := 76) hx hb dX6_isOfShape_76 ?_
                  obtain ⟨r77, hc77, hf⟩ := hf_b hf
                  refine cl_V (pc := 77) (As := [.int ((u4_34 * (gI S 1)) + u3_20)]) (rest := []) hx hb hml hown hts (kX2_read_34 l D A B _ S ((u4_34 * (gI S 1)) + u3_20) r77 hc77) (cwV 1 hts gwRX6_258 rfl rfl rfl hdX2_read ⟨Nat.le_of_ble_eq_true rfl, Nat.le_of_ble_eq_true rfl⟩) hN hK hP hD hS hA (va_recv hK hP (ci := 2) (q0 := 34) rfl (eX_34 A B _)) rfl hl.1 rfl (Nat.le_of_ble_eq_true rfl) dX6_isOfShape_77 (st1 := [.long r77]) rfl ⟨Nat.zero_le _, Nat.zero_le _⟩ (fun H locs hP hD hS => ?_)
                  refine lv_lstore (pc := 80) hx hb (lv' := [(7, .long r77), (5, .long r59), (0, .ref (A 0)), (1, .int a1), (2, .ref (A 34)), (3, .int u3_20), (4, .int u4_34)]) dX6_isOfShape_80 hl (by decide) rfl (fun ls hl => ?_)
                  refine lv_iload_n (pc := 82) hx hb dX6_isOfShape_82 rfl (lv_at hl 3 rfl) ?_
                  refine lv_iconst (pc := 83) hx hb (v := 4) dX6_isOfShape_83 (by decide) ?_
                  refine lv_icmp_ne (pc := 84) hx hb (tgt := 108) dX6_isOfShape_84 (by decide) (fun c_84 => ?_) (fun c_84 => ?_)
                  · have hf := hf_f c_84 hf
                    refine lv_iload_n (pc := 108) hx hb dX6_isOfShape_108 rfl (lv_at hl 3 rfl) ?_
                    refine lv_iconst (pc := 109) hx hb (v := 5) dX6_isOfShape_109 (by decide) ?_
                    refine lv_icmp_ne (pc := 110) hx hb (tgt := 129) dX6_isOfShape_110 (by decide) (fun c_110 => ?_) (fun c_110 => ?_)
                    · have hf := hf_f c_110 hf
                      refine lv_lload (pc := 129) hx hb dX6_isOfShape_129 (lv_at hl 1 rfl) ?_
                      refine lv_lload (pc := 131) hx hb dX6_isOfShape_131 (lv_at hl 0 rfl) ?_
                      refine lv_lneg (pc := 133) hx hb dX6_isOfShape_133 ?_
                      refine W.lcmp (pc := 134) hx hb dX6_isOfShape_134 ?_
                      refine lv_if_ne (pc := 135) hx hb (tgt := 142) dX6_isOfShape_135 (by decide) (fun c_135 => ?_) (fun c_135 => ?_)
                      · have c_135 := fun h9 => c_135 (lg_eq0.mpr h9)
                        have hf := hf_f c_135 hf
                        refine lv_iconst (pc := 142) hx hb (v := 0) dX6_isOfShape_142 (by decide) ?_
                        refine lv_istore (pc := 143) hx hb (lv' := [(9, .int 0), (7, .long r77), (5, .long r59), (0, .ref (A 0)), (1, .int a1), (2, .ref (A 34)), (3, .int u3_20), (4, .int u4_34)]) dX6_isOfShape_143 hl (by decide) rfl (fun ls hl => ?_)
                        refine lv_iload (pc := 145) hx hb dX6_isOfShape_145 (lv_at hl 0 rfl) ?_
                        refine lv_if_ne (pc := 147) hx hb (tgt := 152) dX6_isOfShape_147 (by decide) (fun c_147 => ?_) (fun c_147 => ?_)
                        · have hf := hf_f c_147 hf
                          refine lv_iinc (pc := 152) hx hb (v := u4_34 + 1) (lv' := [(4, .int (u4_34 + 1)), (9, .int 0), (7, .long r77), (5, .long r59), (0, .ref (A 0)), (1, .int a1), (2, .ref (A 34)), (3, .int u3_20)]) dX6_isOfShape_152 hl (k := 7) rfl rfl (by decide) rfl (fun ls hl => ?_)
                          refine lv_goto (pc := 155) hx hb (tgt := 34) dX6_isOfShape_155 (by decide) ?_
                          exact ih34 (u4_34 + 1) H locs ls hf hP hD hS (lv_sub hl [4, 5, 6, 7, 0] rfl)
                        · have hf := hf_t c_147 hf
                          refine lv_iconst (pc := 150) hx hb (v := 0) dX6_isOfShape_150 (by decide) ?_
                          obtain rfl := Option.some.inj hf
                          exact hR H locs 151 ls hP hD hS (nz_of (.inl rfl)) dX6_isOfShape_151
                      · have c_135 := lg_eq0.mp c_135
                        have hf := hf_t c_135 hf
                        refine lv_iconst (pc := 138) hx hb (v := 1) dX6_isOfShape_138 (by decide) ?_
                        refine lv_goto (pc := 139) hx hb (tgt := 143) dX6_isOfShape_139 (by decide) ?_
                        refine lv_istore (pc := 143) hx hb (lv' := [(9, .int 1), (7, .long r77), (5, .long r59), (0, .ref (A 0)), (1, .int a1), (2, .ref (A 34)), (3, .int u3_20), (4, .int u4_34)]) dX6_isOfShape_143 hl (by decide) rfl (fun ls hl => ?_)
                        refine lv_iload (pc := 145) hx hb dX6_isOfShape_145 (lv_at hl 0 rfl) ?_
                        refine lv_if_ne (pc := 147) hx hb (tgt := 152) dX6_isOfShape_147 (by decide) (fun c_147 => ?_) (fun c_147 => ?_)
                        · have hf := hf_f c_147 hf
                          refine lv_iinc (pc := 152) hx hb (v := u4_34 + 1) (lv' := [(4, .int (u4_34 + 1)), (9, .int 1), (7, .long r77), (5, .long r59), (0, .ref (A 0)), (1, .int a1), (2, .ref (A 34)), (3, .int u3_20)]) dX6_isOfShape_152 hl (k := 7) rfl rfl (by decide) rfl (fun ls hl => ?_)
                          refine lv_goto (pc := 155) hx hb (tgt := 34) dX6_isOfShape_155 (by decide) ?_
                          exact ih34 (u4_34 + 1) H locs ls hf hP hD hS (lv_sub hl [4, 5, 6, 7, 0] rfl)
                        · have hf := hf_t c_147 hf
                          refine lv_iconst (pc := 150) hx hb (v := 0) dX6_isOfShape_150 (by decide) ?_
                          obtain rfl := Option.some.inj hf
                          exact hR H locs 151 ls hP hD hS (nz_of (.inl rfl)) dX6_isOfShape_151
                    · have hf := hf_t c_110 hf
                      refine lv_lload (pc := 113) hx hb dX6_isOfShape_113 (lv_at hl 1 rfl) ?_
                      refine lv_lload (pc := 115) hx hb dX6_isOfShape_115 (lv_at hl 0 rfl) ?_
                      refine W.lcmp (pc := 117) hx hb dX6_isOfShape_117 ?_
                      refine lv_if_ne (pc := 118) hx hb (tgt := 125) dX6_isOfShape_118 (by decide) (fun c_118 => ?_) (fun c_118 => ?_)
                      · have c_118 := fun h9 => c_118 (lg_eq0.mpr h9)
                        have hf := hf_f c_118 hf
                        refine lv_iconst (pc := 125) hx hb (v := 0) dX6_isOfShape_125 (by decide) ?_
                        refine lv_goto (pc := 126) hx hb (tgt := 143) dX6_isOfShape_126 (by decide) ?_
                        refine lv_istore (pc := 143) hx hb (lv' := [(9, .int 0), (7, .long r77), (5, .long r59), (0, .ref (A 0)), (1, .int a1), (2, .ref (A 34)), (3, .int u3_20), (4, .int u4_34)]) dX6_isOfShape_143 hl (by decide) rfl (fun ls hl => ?_)
                        refine lv_iload (pc := 145) hx hb dX6_isOfShape_145 (lv_at hl 0 rfl) ?_
                        refine lv_if_ne (pc := 147) hx hb (tgt := 152) dX6_isOfShape_147 (by decide) (fun c_147 => ?_) (fun c_147 => ?_)
                        · have hf := hf_f c_147 hf
                          refine lv_iinc (pc := 152) hx hb (v := u4_34 + 1) (lv' := [(4, .int (u4_34 + 1)), (9, .int 0), (7, .long r77), (5, .long r59), (0, .ref (A 0)), (1, .int a1), (2, .ref (A 34)), (3, .int u3_20)]) dX6_isOfShape_152 hl (k := 7) rfl rfl (by decide) rfl (fun ls hl => ?_)
                          refine lv_goto (pc := 155) hx hb (tgt := 34) dX6_isOfShape_155 (by decide) ?_
                          exact ih34 (u4_34 + 1) H locs ls hf hP hD hS (lv_sub hl [4, 5, 6, 7, 0] rfl)
                        · have hf := hf_t c_147 hf
                          refine lv_iconst (pc := 150) hx hb (v := 0) dX6_isOfShape_150 (by decide) ?_
                          obtain rfl := Option.some.inj hf
                          exact hR H locs 151 ls hP hD hS (nz_of (.inl rfl)) dX6_isOfShape_151
                      · have c_118 := lg_eq0.mp c_118
                        have hf := hf_t c_118 hf
                        refine lv_iconst (pc := 121) hx hb (v := 1) dX6_isOfShape_121 (by decide) ?_
                        refine lv_goto (pc := 122) hx hb (tgt := 143) dX6_isOfShape_122 (by decide) ?_
                        refine lv_istore (pc := 143) hx hb (lv' := [(9, .int 1), (7, .long r77), (5, .long r59), (0, .ref (A 0)), (1, .int a1), (2, .ref (A 34)), (3, .int u3_20), (4, .int u4_34)]) dX6_isOfShape_143 hl (by decide) rfl (fun ls hl => ?_)
                        refine lv_iload (pc := 145) hx hb dX6_isOfShape_145 (lv_at hl 0 rfl) ?_
                        refine lv_if_ne (pc := 147) hx hb (tgt := 152) dX6_isOfShape_147 (by decide) (fun c_147 => ?_) (fun c_147 => ?_)
                        · have hf := hf_f c_147 hf
                          refine lv_iinc (pc := 152) hx hb (v := u4_34 + 1) (lv' := [(4, .int (u4_34 + 1)), (9, .int 1), (7, .long r77), (5, .long r59), (0, .ref (A 0)), (1, .int a1), (2, .ref (A 34)), (3, .int u3_20)]) dX6_isOfShape_152 hl (k := 7) rfl rfl (by decide) rfl (fun ls hl => ?_)
                          refine lv_goto (pc := 155) hx hb (tgt := 34) dX6_isOfShape_155 (by decide) ?_
                          exact ih34 (u4_34 + 1) H locs ls hf hP hD hS (lv_sub hl [4, 5, 6, 7, 0] rfl)
                        · have hf := hf_t c_147 hf
                          refine lv_iconst (pc := 150) hx hb (v := 0) dX6_isOfShape_150 (by decide) ?_
                          obtain rfl := Option.some.inj hf
                          exact hR H locs 151 ls hP hD hS (nz_of (.inl rfl)) dX6_isOfShape_151
                  · have hf := hf_t c_84 hf
                    refine lv_iload_n (pc := 87) hx hb dX6_isOfShape_87 rfl (lv_at hl 5 rfl) ?_
                    refine lv_iload (pc := 88) hx hb dX6_isOfShape_88 (lv_at hl 6 rfl) ?_
                    refine lv_icmp_eq (pc := 90) hx hb (tgt := 100) dX6_isOfShape_90 (by decide) (fun c_90 => ?_) (fun c_90 => ?_)
                    · have hf := hf_t c_90 hf
                      refine lv_iconst (pc := 100) hx hb (v := 1) dX6_isOfShape_100 (by decide) ?_
                      refine lv_goto (pc := 101) hx hb (tgt := 143) dX6_isOfShape_101 (by decide) ?_
                      refine lv_istore (pc := 143) hx hb (lv' := [(9, .int 1), (7, .long r77), (5, .long r59), (0, .ref (A 0)), (1, .int a1), (2, .ref (A 34)), (3, .int u3_20), (4, .int u4_34)]) dX6_isOfShape_143 hl (by decide) rfl (fun ls hl => ?_)
                      refine lv_iload (pc := 145) hx hb dX6_isOfShape_145 (lv_at hl 0 rfl) ?_
                      refine lv_if_ne (pc := 147) hx hb (tgt := 152) dX6_isOfShape_147 (by decide) (fun c_147 => ?_) (fun c_147 => ?_)
                      · have hf := hf_f c_147 hf
                        refine lv_iinc (pc := 152) hx hb (v := u4_34 + 1) (lv' := [(4, .int (u4_34 + 1)), (9, .int 1), (7, .long r77), (5, .long r59), (0, .ref (A 0)), (1, .int a1), (2, .ref (A 34)), (3, .int u3_20)]) dX6_isOfShape_152 hl (k := 7) rfl rfl (by decide) rfl (fun ls hl => ?_)
                        refine lv_goto (pc := 155) hx hb (tgt := 34) dX6_isOfShape_155 (by decide) ?_
                        exact ih34 (u4_34 + 1) H locs ls hf hP hD hS (lv_sub hl [4, 5, 6, 7, 0] rfl)
                      · have hf := hf_t c_147 hf
                        refine lv_iconst (pc := 150) hx hb (v := 0) dX6_isOfShape_150 (by decide) ?_
                        obtain rfl := Option.some.inj hf
                        exact hR H locs 151 ls hP hD hS (nz_of (.inl rfl)) dX6_isOfShape_151
                    · have hf := hf_f c_90 hf
                      refine lv_lload (pc := 93) hx hb dX6_isOfShape_93 (lv_at hl 1 rfl) ?_
                      refine lv_lconst (pc := 95) hx hb (v := 0) dX6_isOfShape_95 (by decide) ?_
                      refine W.lcmp (pc := 96) hx hb dX6_isOfShape_96 ?_
                      refine lv_if_ne (pc := 97) hx hb (tgt := 104) dX6_isOfShape_97 (by decide) (fun c_97 => ?_) (fun c_97 => ?_)
                      · have c_97 := fun h9 => c_97 (lg_eq0.mpr h9)
                        have hf := hf_f c_97 hf
                        refine lv_iconst (pc := 104) hx hb (v := 0) dX6_isOfShape_104 (by decide) ?_
                        refine lv_goto (pc := 105) hx hb (tgt := 143) dX6_isOfShape_105 (by decide) ?_
                        refine lv_istore (pc := 143) hx hb (lv' := [(9, .int 0), (7, .long r77), (5, .long r59), (0, .ref (A 0)), (1, .int a1), (2, .ref (A 34)), (3, .int u3_20), (4, .int u4_34)]) dX6_isOfShape_143 hl (by decide) rfl (fun ls hl => ?_)
                        refine lv_iload (pc := 145) hx hb dX6_isOfShape_145 (lv_at hl 0 rfl) ?_
                        refine lv_if_ne (pc := 147) hx hb (tgt := 152) dX6_isOfShape_147 (by decide) (fun c_147 => ?_) (fun c_147 => ?_)
                        · have hf := hf_f c_147 hf
                          refine lv_iinc (pc := 152) hx hb (v := u4_34 + 1) (lv' := [(4, .int (u4_34 + 1)), (9, .int 0), (7, .long r77), (5, .long r59), (0, .ref (A 0)), (1, .int a1), (2, .ref (A 34)), (3, .int u3_20)]) dX6_isOfShape_152 hl (k := 7) rfl rfl (by decide) rfl (fun ls hl => ?_)
                          refine lv_goto (pc := 155) hx hb (tgt := 34) dX6_isOfShape_155 (by decide) ?_
                          exact ih34 (u4_34 + 1) H locs ls hf hP hD hS (lv_sub hl [4, 5, 6, 7, 0] rfl)
                        · have hf := hf_t c_147 hf
                          refine lv_iconst (pc := 150) hx hb (v := 0) dX6_isOfShape_150 (by decide) ?_
                          obtain rfl := Option.some.inj hf
                          exact hR H locs 151 ls hP hD hS (nz_of (.inl rfl)) dX6_isOfShape_151
                      · have c_97 := lg_eq0.mp c_97
                        have hf := hf_t c_97 hf
                        refine lv_iconst (pc := 100) hx hb (v := 1) dX6_isOfShape_100 (by decide) ?_
                        refine lv_goto (pc := 101) hx hb (tgt := 143) dX6_isOfShape_101 (by decide) ?_
                        refine lv_istore (pc := 143) hx hb (lv' := [(9, .int 1), (7, .long r77), (5, .long r59), (0, .ref (A 0)), (1, .int a1), (2, .ref (A 34)), (3, .int u3_20), (4, .int u4_34)]) dX6_isOfShape_143 hl (by decide) rfl (fun ls hl => ?_)
                        refine lv_iload (pc := 145) hx hb dX6_isOfShape_145 (lv_at hl 0 rfl) ?_
                        refine lv_if_ne (pc := 147) hx hb (tgt := 152) dX6_isOfShape_147 (by decide) (fun c_147 => ?_) (fun c_147 => ?_)
                        · have hf := hf_f c_147 hf
                          refine lv_iinc (pc := 152) hx hb (v := u4_34 + 1) (lv' := [(4, .int (u4_34 + 1)), (9, .int 1), (7, .long r77), (5, .long r59), (0, .ref (A 0)), (1, .int a1), (2, .ref (A 34)), (3, .int u3_20)]) dX6_isOfShape_152 hl (k := 7) rfl rfl (by decide) rfl (fun ls hl => ?_)
                          refine lv_goto (pc := 155) hx hb (tgt := 34) dX6_isOfShape_155 (by decide) ?_
                          exact ih34 (u4_34 + 1) H locs ls hf hP hD hS (lv_sub hl [4, 5, 6, 7, 0] rfl)
                        · have hf := hf_t c_147 hf
                          refine lv_iconst (pc := 150) hx hb (v := 0) dX6_isOfShape_150 (by decide) ?_
                          obtain rfl := Option.some.inj hf
                          exact hR H locs 151 ls hP hD hS (nz_of (.inl rfl)) dX6_isOfShape_151
            exact lp34 256 0 H locs ls hf hP hD hS (lv_sub hl [1, 2, 3, 4, 0] rfl)
      exact lp20 256 0 H locs ls hf hP hD hS (lv_sub hl [1, 2, 3, 0] rfl)
    · have hf := hf_f c_7 hf
      refine lv_iload_n (pc := 10) hx hb dX6_isOfShape_10 rfl (lv_at hl 1 rfl) ?_
      refine lv_bipush (pc := 11) hx hb (v := 6) dX6_isOfShape_11 (by decide) ?_
      refine lv_icmp_eq (pc := 13) hx hb (tgt := 18) dX6_isOfShape_13 (by decide) (fun c_13 => ?_) (fun c_13 => ?_)
      · have hf := hf_t c_13 hf
        refine lv_iconst (pc := 18) hx hb (v := 0) dX6_isOfShape_18 (by decide) ?_
        refine lv_istore_n (pc := 19) hx hb (lv' := [(3, .int 0), (0, .ref (A 0)), (1, .int a1), (2, .ref (A 34))]) dX6_isOfShape_19 rfl hl (by decide) rfl (fun ls hl => ?_)
        have hk20 : ∀  (H : Heap) (locs : List Loc) (ls : Array Slot), some 1 = some z → va_P D vwCl (wX A B S) H → va_D Ad (wX A B S) → va_S Ad s.heap H locs → lv_has ls 10 [] → W p l e rm_X6_isOfShape s m args below meth c H locs 0 0 Q (F0 m 164 ls []) := by
          intro  H locs ls hf hP hD hS hl
          refine lv_iconst (pc := 164) hx hb (v := 1) dX6_isOfShape_164 (by decide) ?_
          obtain rfl := Option.some.inj hf
          exact hR H locs 165 ls hP hD hS (nz_of (.inr rfl)) dX6_isOfShape_165
        have lp20 : ∀ (n : Nat) (u3_20 : Int32) (H : Heap) (locs : List Loc) (ls : Array Slot), fX6_isOfShape_34_L20 (some 1) S a1 n u3_20 = some z → va_P D vwCl (wX A B S) H → va_D Ad (wX A B S) → va_S Ad s.heap H locs → lv_has ls 10 [(0, .ref (A 0)), (1, .int a1), (2, .ref (A 34)), (3, .int u3_20)] → W p l e rm_X6_isOfShape s m args below meth c H locs 0 0 Q (F0 m 20 ls []) := by
          intro n20
          induction n20 with
          | zero => intro u3_20 H locs ls hf; exact hf_0 hf
          | succ n20 ih20 =>
            intro u3_20 H locs ls hf hP hD hS hl
            rw [fX6_isOfShape_34_L20] at hf
            refine lv_iload_n (pc := 20) hx hb dX6_isOfShape_20 rfl (lv_at hl 3 rfl) ?_
            refine lv_aload_n (pc := 21) hx hb dX6_isOfShape_21 rfl (lv_at hl 0 rfl) ?_
            refine vXgRX6_10_0 (pc := 22) hx hb hts mU_16 inU6 hown hK hP dX6_isOfShape_22 ?_
            refine vXgRX6_60_1 (pc := 25) hx hb hts mU_111 inU4 hown hK hP (x := (gI S 0)) rfl dX6_isOfShape_25 ?_
            refine lv_icmp_ge (pc := 28) hx hb (tgt := 164) dX6_isOfShape_28 (by decide) (fun c_28 => ?_) (fun c_28 => ?_)
            · have hf := hf_t c_28 hf
              exact hk20  H locs ls hf hP hD hS (lv_sub hl [] rfl)
            · have hf := hf_f c_28 hf
              refine lv_iconst (pc := 31) hx hb (v := 0) dX6_isOfShape_31 (by decide) ?_
              refine lv_istore (pc := 32) hx hb (lv' := [(4, .int 0), (0, .ref (A 0)), (1, .int a1), (2, .ref (A 34)), (3, .int u3_20)]) dX6_isOfShape_32 hl (by decide) rfl (fun ls hl => ?_)
              have hk34 : ∀  (H : Heap) (locs : List Loc) (ls : Array Slot), fX6_isOfShape_34_L20 (some 1) S a1 n20 (u3_20 + 1) = some z → va_P D vwCl (wX A B S) H → va_D Ad (wX A B S) → va_S Ad s.heap H locs → lv_has ls 10 [(0, .ref (A 0)), (1, .int a1), (2, .ref (A 34)), (3, .int u3_20)] → W p l e rm_X6_isOfShape s m args below meth c H locs 0 0 Q (F0 m 158 ls []) := by
                intro  H locs ls hf hP hD hS hl
                refine lv_iinc (pc := 158) hx hb (v := u3_20 + 1) (lv' := [(3, .int (u3_20 + 1)), (0, .ref (A 0)), (1, .int a1), (2, .ref (A 34))]) dX6_isOfShape_158 hl (k := 3) rfl rfl (by decide) rfl (fun ls hl => ?_)
                refine lv_goto (pc := 161) hx hb (tgt := 20) dX6_isOfShape_161 (by decide) ?_
                exact ih20 (u3_20 + 1) H locs ls hf hP hD hS (lv_sub hl [1, 2, 3, 0] rfl)
              have lp34 : ∀ (n : Nat) (u4_34 : Int32) (H : Heap) (locs : List Loc) (ls : Array Slot), fX6_isOfShape_34_L34 (fX6_isOfShape_34_L20 (some 1) S a1 n20 (u3_20 + 1)) S a1 u3_20 n u4_34 = some z → va_P D vwCl (wX A B S) H → va_D Ad (wX A B S) → va_S Ad s.heap H locs → lv_has ls 10 [(0, .ref (A 0)), (1, .int a1), (2, .ref (A 34)), (3, .int u3_20), (4, .int u4_34)] → W p l e rm_X6_isOfShape s m args below meth c H locs 0 0 Q (F0 m 34 ls []) := by
                intro n34
                induction n34 with
                | zero => intro u4_34 H locs ls hf; exact hf_0 hf
                | succ n34 ih34 =>
                  intro u4_34 H locs ls hf hP hD hS hl
                  rw [fX6_isOfShape_34_L34] at hf
                  refine lv_iload (pc := 34) hx hb dX6_isOfShape_34 (lv_at hl 4 rfl) ?_
                  refine lv_aload_n (pc := 36) hx hb dX6_isOfShape_36 rfl (lv_at hl 0 rfl) ?_
                  refine vXgRX6_10_0 (pc := 37) hx hb hts mU_16 inU6 hown hK hP dX6_isOfShape_37 ?_
                  refine vXgRX6_64_1 (pc := 40) hx hb hts mU_112 inU4 hown hK hP (x := (gI S 1)) rfl dX6_isOfShape_40 ?_
                  refine lv_icmp_ge (pc := 43) hx hb (tgt := 158) dX6_isOfShape_43 (by decide) (fun c_43 => ?_) (fun c_43 => ?_)
                  · have hf := hf_t c_43 hf
                    exact hk34  H locs ls hf hP hD hS (lv_sub hl [0, 1, 2, 3] rfl)
                  · have hf := hf_f c_43 hf
                    refine lv_aload_n (pc := 46) hx hb dX6_isOfShape_46 rfl (lv_at hl 2 rfl) ?_
                    refine lv_iload_n (pc := 47) hx hb dX6_isOfShape_47 rfl (lv_at hl 3 rfl) ?_
                    refine lv_aload_n (pc := 48) hx hb dX6_isOfShape_48 rfl (lv_at hl 0 rfl) ?_
                    refine vXgRX6_10_0 (pc := 49) hx hb hts mU_16 inU6 hown hK hP dX6_isOfShape_49 ?_
                    refine vXgRX6_64_1 (pc := 52) hx hb hts mU_112 inU4 hown hK hP (x := (gI S 1)) rfl dX6_isOfShape_52 ?_
                    refine lv_imul (pc := 55) hx hb dX6_isOfShape_55 ?_
                    refine lv_iload (pc := 56) hx hb dX6_isOfShape_56 (lv_at hl 4 rfl) ?_
                    refine lv_iadd (pc := 58) hx hb dX6_isOfShape_58 ?_
                    obtain ⟨r59, hc59, hf⟩ := hf_b hf
                    refine cl_V (pc := 59) (As := [.int ((u3_20 * (gI S 1)) + u4_34)]) (rest := []) hx hb hml hown hts (kX2_read_34 l D A B _ S ((u3_20 * (gI S 1)) + u4_34) r59 hc59) (cwV 1 hts gwRX6_258 rfl rfl rfl hdX2_read ⟨Nat.le_of_ble_eq_true rfl, Nat.le_of_ble_eq_true rfl⟩) hN hK hP hD hS hA (va_recv hK hP (ci := 2) (q0 := 34) rfl (eX_34 A B _)) rfl hl.1 rfl (Nat.le_of_ble_eq_true rfl) dX6_isOfShape_59 (st1 := [.long r59]) rfl ⟨Nat.zero_le _, Nat.zero_le _⟩ (fun H locs hP hD hS => ?_)
                    refine lv_lstore (pc := 62) hx hb (lv' := [(5, .long r59), (0, .ref (A 0)), (1, .int a1), (2, .ref (A 34)), (3, .int u3_20), (4, .int u4_34)]) dX6_isOfShape_62 hl (by decide) rfl (fun ls hl => ?_)
                    refine lv_aload_n (pc := 64) hx hb dX6_isOfShape_64 rfl (lv_at hl 3 rfl) ?_
                    refine lv_iload (pc := 65) hx hb dX6_isOfShape_65 (lv_at hl 5 rfl) ?_
                    refine lv_aload_n (pc := 67) hx hb dX6_isOfShape_67 rfl (lv_at hl 1 rfl) ?_
                    refine vXgRX6_10_0 (pc := 68) hx hb hts mU_16 inU6 hown hK hP dX6_isOfShape_68 ?_
                    refine vXgRX6_64_1 (pc := 71) hx hb hts mU_112 inU4 hown hK hP (x := (gI S 1)) rfl dX6_isOfShape_71 ?_
                    refine lv_imul (pc := 74) hx hb dX6_isOfShape_74 ?_
                    refine lv_iload_n (pc := 75) hx hb dX6_isOfShape_75 rfl (lv_at hl 4 rfl) ?_
                    refine lv_iadd (pc := 76) hx hb dX6_isOfShape_76 ?_
                    obtain ⟨r77, hc77, hf⟩ := hf_b hf
                    refine cl_V (pc := 77) (As := [.int ((u4_34 * (gI S 1)) + u3_20)]) (rest := []) hx hb hml hown hts (kX2_read_34 l D A B _ S ((u4_34 * (gI S 1)) + u3_20) r77 hc77) (cwV 1 hts gwRX6_258 rfl rfl rfl hdX2_read ⟨Nat.le_of_ble_eq_true rfl, Nat.le_of_ble_eq_true rfl⟩) hN hK hP hD hS hA (va_recv hK hP (ci := 2) (q0 := 34) rfl (eX_34 A B _)) rfl hl.1 rfl (Nat.le_of_ble_eq_true rfl) dX6_isOfShape_77 (st1 := [.long r77]) rfl ⟨Nat.zero_le _, Nat.zero_le _⟩ (fun H locs hP hD hS => ?_)
                    refine lv_lstore (pc := 80) hx hb (lv' := [(7, .long r77), (5, .long r59), (0, .ref (A 0)), (1, .int a1), (2, .ref (A 34)), (3, .int u3_20), (4, .int u4_34)]) dX6_isOfShape_80 hl (by decide) rfl (fun ls hl => ?_)
                    refine lv_iload_n (pc := 82) hx hb dX6_isOfShape_82 rfl (lv_at hl 3 rfl) ?_
                    refine lv_iconst (pc := 83) hx hb (v := 4) dX6_isOfShape_83 (by decide) ?_
                    refine lv_icmp_ne (pc := 84) hx hb (tgt := 108) dX6_isOfShape_84 (by decide) (fun c_84 => ?_) (fun c_84 => ?_)
                    · have hf := hf_f c_84 hf
                      refine lv_iload_n (pc := 108) hx hb dX6_isOfShape_108 rfl (lv_at hl 3 rfl) ?_
                      refine lv_iconst (pc := 109) hx hb (v := 5) dX6_isOfShape_109 (by decide) ?_
                      refine lv_icmp_ne (pc := 110) hx hb (tgt := 129) dX6_isOfShape_110 (by decide) (fun c_110 => ?_) (fun c_110 => ?_)
                      · have hf := hf_f c_110 hf
                        refine lv_lload (pc := 129) hx hb dX6_isOfShape_129 (lv_at hl 1 rfl) ?_
                        refine lv_lload (pc := 131) hx hb dX6_isOfShape_131 (lv_at hl 0 rfl) ?_
                        refine lv_lneg (pc := 133) hx hb dX6_isOfShape_133 ?_
                        refine W.lcmp (pc := 134) hx hb dX6_isOfShape_134 ?_
                        refine lv_if_ne (pc := 135) hx hb (tgt := 142) dX6_isOfShape_135 (by decide) (fun c_135 => ?_) (fun c_135 => ?_)
                        · have c_135 := fun h9 => c_135 (lg_eq0.mpr h9)
                          have hf := hf_f c_135 hf
                          refine lv_iconst (pc := 142) hx hb (v := 0) dX6_isOfShape_142 (by decide) ?_
                          refine lv_istore (pc := 143) hx hb (lv' := [(9, .int 0), (7, .long r77), (5, .long r59), (0, .ref (A 0)), (1, .int a1), (2, .ref (A 34)), (3, .int u3_20), (4, .int u4_34)]) dX6_isOfShape_143 hl (by decide) rfl (fun ls hl => ?_)
                          refine lv_iload (pc := 145) hx hb dX6_isOfShape_145 (lv_at hl 0 rfl) ?_
                          refine lv_if_ne (pc := 147) hx hb (tgt := 152) dX6_isOfShape_147 (by decide) (fun c_147 => ?_) (fun c_147 => ?_)
                          · have hf := hf_f c_147 hf
                            refine lv_iinc (pc := 152) hx hb (v := u4_34 + 1) (lv' := [(4, .int (u4_34 + 1)), (9, .int 0), (7, .long r77), (5, .long r59), (0, .ref (A 0)), (1, .int a1), (2, .ref (A 34)), (3, .int u3_20)]) dX6_isOfShape_152 hl (k := 7) rfl rfl (by decide) rfl (fun ls hl => ?_)
                            refine lv_goto (pc := 155) hx hb (tgt := 34) dX6_isOfShape_155 (by decide) ?_
                            exact ih34 (u4_34 + 1) H locs ls hf hP hD hS (lv_sub hl [4, 5, 6, 7, 0] rfl)
                          · have hf := hf_t c_147 hf
                            refine lv_iconst (pc := 150) hx hb (v := 0) dX6_isOfShape_150 (by decide) ?_
                            obtain rfl := Option.some.inj hf
                            exact hR H locs 151 ls hP hD hS (nz_of (.inl rfl)) dX6_isOfShape_151
                        · have c_135 := lg_eq0.mp c_135
                          have hf := hf_t c_135 hf
                          refine lv_iconst (pc := 138) hx hb (v := 1) dX6_isOfShape_138 (by decide) ?_
                          refine lv_goto (pc := 139) hx hb (tgt := 143) dX6_isOfShape_139 (by decide) ?_
                          refine lv_istore (pc := 143) hx hb (lv' := [(9, .int 1), (7, .long r77), (5, .long r59), (0, .ref (A 0)), (1, .int a1), (2, .ref (A 34)), (3, .int u3_20), (4, .int u4_34)]) dX6_isOfShape_143 hl (by decide) rfl (fun ls hl => ?_)
                          refine lv_iload (pc := 145) hx hb dX6_isOfShape_145 (lv_at hl 0 rfl) ?_
                          refine lv_if_ne (pc := 147) hx hb (tgt := 152) dX6_isOfShape_147 (by decide) (fun c_147 => ?_) (fun c_147 => ?_)
                          · have hf := hf_f c_147 hf
                            refine lv_iinc (pc := 152) hx hb (v := u4_34 + 1) (lv' := [(4, .int (u4_34 + 1)), (9, .int 1), (7, .long r77), (5, .long r59), (0, .ref (A 0)), (1, .int a1), (2, .ref (A 34)), (3, .int u3_20)]) dX6_isOfShape_152 hl (k := 7) rfl rfl (by decide) rfl (fun ls hl => ?_)
                            refine lv_goto (pc := 155) hx hb (tgt := 34) dX6_isOfShape_155 (by decide) ?_
                            exact ih34 (u4_34 + 1) H locs ls hf hP hD hS (lv_sub hl [4, 5, 6, 7, 0] rfl)
                          · have hf := hf_t c_147 hf
                            refine lv_iconst (pc := 150) hx hb (v := 0) dX6_isOfShape_150 (by decide) ?_
                            obtain rfl := Option.some.inj hf
                            exact hR H locs 151 ls hP hD hS (nz_of (.inl rfl)) dX6_isOfShape_151
                      · have hf := hf_t c_110 hf
                        refine lv_lload (pc := 113) hx hb dX6_isOfShape_113 (lv_at hl 1 rfl) ?_
                        refine lv_lload (pc := 115) hx hb dX6_isOfShape_115 (lv_at hl 0 rfl) ?_
                        refine W.lcmp (pc := 117) hx hb dX6_isOfShape_117 ?_
                        refine lv_if_ne (pc := 118) hx hb (tgt := 125) dX6_isOfShape_118 (by decide) (fun c_118 => ?_) (fun c_118 => ?_)
                        · have c_118 := fun h9 => c_118 (lg_eq0.mpr h9)
                          have hf := hf_f c_118 hf
                          refine lv_iconst (pc := 125) hx hb (v := 0) dX6_isOfShape_125 (by decide) ?_
                          refine lv_goto (pc := 126) hx hb (tgt := 143) dX6_isOfShape_126 (by decide) ?_
                          refine lv_istore (pc := 143) hx hb (lv' := [(9, .int 0), (7, .long r77), (5, .long r59), (0, .ref (A 0)), (1, .int a1), (2, .ref (A 34)), (3, .int u3_20), (4, .int u4_34)]) dX6_isOfShape_143 hl (by decide) rfl (fun ls hl => ?_)
                          refine lv_iload (pc := 145) hx hb dX6_isOfShape_145 (lv_at hl 0 rfl) ?_
                          refine lv_if_ne (pc := 147) hx hb (tgt := 152) dX6_isOfShape_147 (by decide) (fun c_147 => ?_) (fun c_147 => ?_)
                          · have hf := hf_f c_147 hf
                            refine lv_iinc (pc := 152) hx hb (v := u4_34 + 1) (lv' := [(4, .int (u4_34 + 1)), (9, .int 0), (7, .long r77), (5, .long r59), (0, .ref (A 0)), (1, .int a1), (2, .ref (A 34)), (3, .int u3_20)]) dX6_isOfShape_152 hl (k := 7) rfl rfl (by decide) rfl (fun ls hl => ?_)
                            refine lv_goto (pc := 155) hx hb (tgt := 34) dX6_isOfShape_155 (by decide) ?_
                            exact ih34 (u4_34 + 1) H locs ls hf hP hD hS (lv_sub hl [4, 5, 6, 7, 0] rfl)
                          · have hf := hf_t c_147 hf
                            refine lv_iconst (pc := 150) hx hb (v := 0) dX6_isOfShape_150 (by decide) ?_
                            obtain rfl := Option.some.inj hf
                            exact hR H locs 151 ls hP hD hS (nz_of (.inl rfl)) dX6_isOfShape_151
                        · have c_118 := lg_eq0.mp c_118
                          have hf := hf_t c_118 hf
                          refine lv_iconst (pc := 121) hx hb (v := 1) dX6_isOfShape_121 (by decide) ?_
                          refine lv_goto (pc := 122) hx hb (tgt := 143) dX6_isOfShape_122 (by decide) ?_
                          refine lv_istore (pc := 143) hx hb (lv' := [(9, .int 1), (7, .long r77), (5, .long r59), (0, .ref (A 0)), (1, .int a1), (2, .ref (A 34)), (3, .int u3_20), (4, .int u4_34)]) dX6_isOfShape_143 hl (by decide) rfl (fun ls hl => ?_)
                          refine lv_iload (pc := 145) hx hb dX6_isOfShape_145 (lv_at hl 0 rfl) ?_
                          refine lv_if_ne (pc := 147) hx hb (tgt := 152) dX6_isOfShape_147 (by decide) (fun c_147 => ?_) (fun c_147 => ?_)
                          · have hf := hf_f c_147 hf
                            refine lv_iinc (pc := 152) hx hb (v := u4_34 + 1) (lv' := [(4, .int (u4_34 + 1)), (9, .int 1), (7, .long r77), (5, .long r59), (0, .ref (A 0)), (1, .int a1), (2, .ref (A 34)), (3, .int u3_20)]) dX6_isOfShape_152 hl (k := 7) rfl rfl (by decide) rfl (fun ls hl => ?_)
                            refine lv_goto (pc := 155) hx hb (tgt := 34) dX6_isOfShape_155 (by decide) ?_
                            exact ih34 (u4_34 + 1) H locs ls hf hP hD hS (lv_sub hl [4, 5, 6, 7, 0] rfl)
                          · have hf := hf_t c_147 hf
                            refine lv_iconst (pc := 150) hx hb (v := 0) dX6_isOfShape_150 (by decide) ?_
                            obtain rfl := Option.some.inj hf
                            exact hR H locs 151 ls hP hD hS (nz_of (.inl rfl)) dX6_isOfShape_151
                    · have hf := hf_t c_84 hf
                      refine lv_iload_n (pc := 87) hx hb dX6_isOfShape_87 rfl (lv_at hl 5 rfl) ?_
                      refine lv_iload (pc := 88) hx hb dX6_isOfShape_88 (lv_at hl 6 rfl) ?_
                      refine lv_icmp_eq (pc := 90) hx hb (tgt := 100) dX6_isOfShape_90 (by decide) (fun c_90 => ?_) (fun c_90 => ?_)
                      · have hf := hf_t c_90 hf
                        refine lv_iconst (pc := 100) hx hb (v := 1) dX6_isOfShape_100 (by decide) ?_
                        refine lv_goto (pc := 101) hx hb (tgt := 143) dX6_isOfShape_101 (by decide) ?_
                        refine lv_istore (pc := 143) hx hb (lv' := [(9, .int 1), (7, .long r77), (5, .long r59), (0, .ref (A 0)), (1, .int a1), (2, .ref (A 34)), (3, .int u3_20), (4, .int u4_34)]) dX6_isOfShape_143 hl (by decide) rfl (fun ls hl => ?_)
                        refine lv_iload (pc := 145) hx hb dX6_isOfShape_145 (lv_at hl 0 rfl) ?_
                        refine lv_if_ne (pc := 147) hx hb (tgt := 152) dX6_isOfShape_147 (by decide) (fun c_147 => ?_) (fun c_147 => ?_)
                        · have hf := hf_f c_147 hf
                          refine lv_iinc (pc := 152) hx hb (v := u4_34 + 1) (lv' := [(4, .int (u4_34 + 1)), (9, .int 1), (7, .long r77), (5, .long r59), (0, .ref (A 0)), (1, .int a1), (2, .ref (A 34)), (3, .int u3_20)]) dX6_isOfShape_152 hl (k := 7) rfl rfl (by decide) rfl (fun ls hl => ?_)
                          refine lv_goto (pc := 155) hx hb (tgt := 34) dX6_isOfShape_155 (by decide) ?_
                          exact ih34 (u4_34 + 1) H locs ls hf hP hD hS (lv_sub hl [4, 5, 6, 7, 0] rfl)
                        · have hf := hf_t c_147 hf
                          refine lv_iconst (pc := 150) hx hb (v := 0) dX6_isOfShape_150 (by decide) ?_
                          obtain rfl := Option.some.inj hf
                          exact hR H locs 151 ls hP hD hS (nz_of (.inl rfl)) dX6_isOfShape_151
                      · have hf := hf_f c_90 hf
                        refine lv_lload (pc := 93) hx hb dX6_isOfShape_93 (lv_at hl 1 rfl) ?_
                        refine lv_lconst (pc := 95) hx hb (v := 0) dX6_isOfShape_95 (by decide) ?_
                        refine W.lcmp (pc := 96) hx hb dX6_isOfShape_96 ?_
                        refine lv_if_ne (pc := 97) hx hb (tgt := 104) dX6_isOfShape_97 (by decide) (fun c_97 => ?_) (fun c_97 => ?_)
                        · have c_97 := fun h9 => c_97 (lg_eq0.mpr h9)
                          have hf := hf_f c_97 hf
                          refine lv_iconst (pc := 104) hx hb (v := 0) dX6_isOfShape_104 (by decide) ?_
                          refine lv_goto (pc := 105) hx hb (tgt := 143) dX6_isOfShape_105 (by decide) ?_
                          refine lv_istore (pc := 143) hx hb (lv' := [(9, .int 0), (7, .long r77), (5, .long r59), (0, .ref (A 0)), (1, .int a1), (2, .ref (A 34)), (3, .int u3_20), (4, .int u4_34)]) dX6_isOfShape_143 hl (by decide) rfl (fun ls hl => ?_)
                          refine lv_iload (pc := 145) hx hb dX6_isOfShape_145 (lv_at hl 0 rfl) ?_
                          refine lv_if_ne (pc := 147) hx hb (tgt := 152) dX6_isOfShape_147 (by decide) (fun c_147 => ?_) (fun c_147 => ?_)
                          · have hf := hf_f c_147 hf
                            refine lv_iinc (pc := 152) hx hb (v := u4_34 + 1) (lv' := [(4, .int (u4_34 + 1)), (9, .int 0), (7, .long r77), (5, .long r59), (0, .ref (A 0)), (1, .int a1), (2, .ref (A 34)), (3, .int u3_20)]) dX6_isOfShape_152 hl (k := 7) rfl rfl (by decide) rfl (fun ls hl => ?_)
                            refine lv_goto (pc := 155) hx hb (tgt := 34) dX6_isOfShape_155 (by decide) ?_
                            exact ih34 (u4_34 + 1) H locs ls hf hP hD hS (lv_sub hl [4, 5, 6, 7, 0] rfl)
                          · have hf := hf_t c_147 hf
                            refine lv_iconst (pc := 150) hx hb (v := 0) dX6_isOfShape_150 (by decide) ?_
                            obtain rfl := Option.some.inj hf
                            exact hR H locs 151 ls hP hD hS (nz_of (.inl rfl)) dX6_isOfShape_151
                        · have c_97 := lg_eq0.mp c_97
                          have hf := hf_t c_97 hf
                          refine lv_iconst (pc := 100) hx hb (v := 1) dX6_isOfShape_100 (by decide) ?_
                          refine lv_goto (pc := 101) hx hb (tgt := 143) dX6_isOfShape_101 (by decide) ?_
                          refine lv_istore (pc := 143) hx hb (lv' := [(9, .int 1), (7, .long r77), (5, .long r59), (0, .ref (A 0)), (1, .int a1), (2, .ref (A 34)), (3, .int u3_20), (4, .int u4_34)]) dX6_isOfShape_143 hl (by decide) rfl (fun ls hl => ?_)
                          refine lv_iload (pc := 145) hx hb dX6_isOfShape_145 (lv_at hl 0 rfl) ?_
                          refine lv_if_ne (pc := 147) hx hb (tgt := 152) dX6_isOfShape_147 (by decide) (fun c_147 => ?_) (fun c_147 => ?_)
                          · have hf := hf_f c_147 hf
                            refine lv_iinc (pc := 152) hx hb (v := u4_34 + 1) (lv' := [(4, .int (u4_34 + 1)), (9, .int 1), (7, .long r77), (5, .long r59), (0, .ref (A 0)), (1, .int a1), (2, .ref (A 34)), (3, .int u3_20)]) dX6_isOfShape_152 hl (k := 7) rfl rfl (by decide) rfl (fun ls hl => ?_)
                            refine lv_goto (pc := 155) hx hb (tgt := 34) dX6_isOfShape_155 (by decide) ?_
                            exact ih34 (u4_34 + 1) H locs ls hf hP hD hS (lv_sub hl [4, 5, 6, 7, 0] rfl)
                          · have hf := hf_t c_147 hf
                            refine lv_iconst (pc := 150) hx hb (v := 0) dX6_isOfShape_150 (by decide) ?_
                            obtain rfl := Option.some.inj hf
                            exact hR H locs 151 ls hP hD hS (nz_of (.inl rfl)) dX6_isOfShape_151
              exact lp34 256 0 H locs ls hf hP hD hS (lv_sub hl [1, 2, 3, 4, 0] rfl)
        exact lp20 256 0 H locs ls hf hP hD hS (lv_sub hl [1, 2, 3, 0] rfl)
      · have hf := hf_f c_13 hf
        refine lv_iconst (pc := 16) hx hb (v := 1) dX6_isOfShape_16 (by decide) ?_
        obtain rfl := Option.some.inj hf
        exact hR H locs 17 ls hP hD hS (nz_of (.inr rfl)) dX6_isOfShape_17
set_option maxHeartbeats 4000000 in
set_option maxRecDepth 100000 in
theorem kX6_isOfShape_36 (l : Launch) (D : va_G) (A : Nat → Nat) (B : Nat → ClassId) (sz : Nat) (S : w_S) (a1 : Int32) (z : Int32) (hf : fX6_isOfShape_36 S a1 = some z) : MetW l yX6_isOfShape (wsO yX6_isOfShape cX6_isOfShape 10 (some .boolean)) rm_X6_isOfShape [.ref (A 0), .int a1, .ref (A 36)] D (tyB B) (wX A B S) (wX A B S) sz (some (.int z)) := by
  refine MetW.mkZ (cc := cX6_isOfShape) (maxL := 10) (by decide) (Nat.le_of_ble_eq_true rfl) ?_
  intro p e s m args below meth c Ad Q hx hb hts hown hml hN hK hA hR H locs ls hP hD hS hl
  have hl : lv_has ls 10 [(0, .ref (A 0)), (1, .int a1), (2, .ref (A 36))] := hl
  rw [fX6_isOfShape_36] at hf
  refine lv_iload_n (pc := 0) hx hb dX6_isOfShape_0 rfl (lv_at hl 1 rfl) ?_
  refine lv_iconst (pc := 1) hx hb (v := 4) dX6_isOfShape_1 (by decide) ?_
  refine lv_icmp_eq (pc := 2) hx hb (tgt := 18) dX6_isOfShape_2 (by decide) (fun c_2 => ?_) (fun c_2 => ?_)
  · have hf := hf_t c_2 hf
    refine lv_iconst (pc := 18) hx hb (v := 0) dX6_isOfShape_18 (by decide) ?_
    refine lv_istore_n (pc := 19) hx hb (lv' := [(3, .int 0), (0, .ref (A 0)), (1, .int a1), (2, .ref (A 36))]) dX6_isOfShape_19 rfl hl (by decide) rfl (fun ls hl => ?_)
    have hk20 : ∀  (H : Heap) (locs : List Loc) (ls : Array Slot), some 1 = some z → va_P D vwCl (wX A B S) H → va_D Ad (wX A B S) → va_S Ad s.heap H locs → lv_has ls 10 [] → W p l e rm_X6_isOfShape s m args below meth c H locs 0 0 Q (F0 m 164 ls []) := by
      intro  H locs ls hf hP hD hS hl
      refine lv_iconst (pc := 164) hx hb (v := 1) dX6_isOfShape_164 (by decide) ?_
      obtain rfl := Option.some.inj hf
      exact hR H locs 165 ls hP hD hS (nz_of (.inr rfl)) dX6_isOfShape_165
    have lp20 : ∀ (n : Nat) (u3_20 : Int32) (H : Heap) (locs : List Loc) (ls : Array Slot), fX6_isOfShape_36_L20 (some 1) S a1 n u3_20 = some z → va_P D vwCl (wX A B S) H → va_D Ad (wX A B S) → va_S Ad s.heap H locs → lv_has ls 10 [(0, .ref (A 0)), (1, .int a1), (2, .ref (A 36)), (3, .int u3_20)] → W p l e rm_X6_isOfShape s m args below meth c H locs 0 0 Q (F0 m 20 ls []) := by
      intro n20
      induction n20 with
      | zero => intro u3_20 H locs ls hf; exact hf_0 hf
      | succ n20 ih20 =>
        intro u3_20 H locs ls hf hP hD hS hl
        rw [fX6_isOfShape_36_L20] at hf
        refine lv_iload_n (pc := 20) hx hb dX6_isOfShape_20 rfl (lv_at hl 3 rfl) ?_
        refine lv_aload_n (pc := 21) hx hb dX6_isOfShape_21 rfl (lv_at hl 0 rfl) ?_
        refine vXgRX6_10_0 (pc := 22) hx hb hts mU_16 inU6 hown hK hP dX6_isOfShape_22 ?_
        refine vXgRX6_60_1 (pc := 25) hx hb hts mU_111 inU4 hown hK hP (x := (gI S 0)) rfl dX6_isOfShape_25 ?_
        refine lv_icmp_ge (pc := 28) hx hb (tgt := 164) dX6_isOfShape_28 (by decide) (fun c_28 => ?_) (fun c_28 => ?_)
        · have hf := hf_t c_28 hf
          exact hk20  H locs ls hf hP hD hS (lv_sub hl [] rfl)
        · have hf := hf_f c_28 hf
          refine lv_iconst (pc := 31) hx hb (v := 0) dX6_isOfShape_31 (by decide) ?_
          refine lv_istore (pc := 32) hx hb (lv' := [(4, .int 0), (0, .ref (A 0)), (1, .int a1), (2, .ref (A 36)), (3, .int u3_20)]) dX6_isOfShape_32 hl (by decide) rfl (fun ls hl => ?_)
          have hk34 : ∀  (H : Heap) (locs : List Loc) (ls : Array Slot), fX6_isOfShape_36_L20 (some 1) S a1 n20 (u3_20 + 1) = some z → va_P D vwCl (wX A B S) H → va_D Ad (wX A B S) → va_S Ad s.heap H locs → lv_has ls 10 [(0, .ref (A 0)), (1, .int a1), (2, .ref (A 36)), (3, .int u3_20)] → W p l e rm_X6_isOfShape s m args below meth c H locs 0 0 Q (F0 m 158 ls []) := by
            intro  H locs ls hf hP hD hS hl
            refine lv_iinc (pc := 158) hx hb (v := u3_20 + 1) (lv' := [(3, .int (u3_20 + 1)), (0, .ref (A 0)), (1, .int a1), (2, .ref (A 36))]) dX6_isOfShape_158 hl (k := 3) rfl rfl (by decide) rfl (fun ls hl => ?_)
            refine lv_goto (pc := 161) hx hb (tgt := 20) dX6_isOfShape_161 (by decide) ?_
            exact ih20 (u3_20 + 1) H locs ls hf hP hD hS (lv_sub hl [1, 2, 3, 0] rfl)
          have lp34 : ∀ (n : Nat) (u4_34 : Int32) (H : Heap) (locs : List Loc) (ls : Array Slot), fX6_isOfShape_36_L34 (fX6_isOfShape_36_L20 (some 1) S a1 n20 (u3_20 + 1)) S a1 u3_20 n u4_34 = some z → va_P D vwCl (wX A B S) H → va_D Ad (wX A B S) → va_S Ad s.heap H locs → lv_has ls 10 [(0, .ref (A 0)), (1, .int a1), (2, .ref (A 36)), (3, .int u3_20), (4, .int u4_34)] → W p l e rm_X6_isOfShape s m args below meth c H locs 0 0 Q (F0 m 34 ls []) := by
            intro n34
            induction n34 with
            | zero => intro u4_34 H locs ls hf; exact hf_0 hf
            | succ n34 ih34 =>
              intro u4_34 H locs ls hf hP hD hS hl
              rw [fX6_isOfShape_36_L34] at hf
              refine lv_iload (pc := 34) hx hb dX6_isOfShape_34 (lv_at hl 4 rfl) ?_
              refine lv_aload_n (pc := 36) hx hb dX6_isOfShape_36 rfl (lv_at hl 0 rfl) ?_
              refine vXgRX6_10_0 (pc := 37) hx hb hts mU_16 inU6 hown hK hP dX6_isOfShape_37 ?_
              refine vXgRX6_64_1 (pc := 40) hx hb hts mU_112 inU4 hown hK hP (x := (gI S 1)) rfl dX6_isOfShape_40 ?_
              refine lv_icmp_ge (pc := 43) hx hb (tgt := 158) dX6_isOfShape_43 (by decide) (fun c_43 => ?_) (fun c_43 => ?_)
              · have hf := hf_t c_43 hf
                exact hk34  H locs ls hf hP hD hS (lv_sub hl [0, 1, 2, 3] rfl)
              · have hf := hf_f c_43 hf
                refine lv_aload_n (pc := 46) hx hb dX6_isOfShape_46 rfl (lv_at hl 2 rfl) ?_
                refine lv_iload_n (pc := 47) hx hb dX6_isOfShape_47 rfl (lv_at hl 3 rfl) ?_
                refine lv_aload_n (pc := 48) hx hb dX6_isOfShape_48 rfl (lv_at hl 0 rfl) ?_
                refine vXgRX6_10_0 (pc := 49) hx hb hts mU_16 inU6 hown hK hP dX6_isOfShape_49 ?_
                refine vXgRX6_64_1 (pc := 52) hx hb hts mU_112 inU4 hown hK hP (x := (gI S 1)) rfl dX6_isOfShape_52 ?_
                refine lv_imul (pc := 55) hx hb dX6_isOfShape_55 ?_
                refine lv_iload (pc := 56) hx hb dX6_isOfShape_56 (lv_at hl 4 rfl) ?_
                refine lv_iadd (pc := 58) hx hb dX6_isOfShape_58 ?_
                obtain ⟨r59, hc59, hf⟩ := hf_b hf
                refine cl_V (pc := 59) (As := [.int ((u3_20 * (gI S 1)) + u4_34)]) (rest := []) hx hb hml hown hts (kX2_read_36 l D A B _ S ((u3_20 * (gI S 1)) + u4_34) r59 hc59) (cwV 1 hts gwRX6_258 rfl rfl rfl hdX2_read ⟨Nat.le_of_ble_eq_true rfl, Nat.le_of_ble_eq_true rfl⟩) hN hK hP hD hS hA (va_recv hK hP (ci := 2) (q0 := 36) rfl (eX_36 A B _)) rfl hl.1 rfl (Nat.le_of_ble_eq_true rfl) dX6_isOfShape_59 (st1 := [.long r59]) rfl ⟨Nat.zero_le _, Nat.zero_le _⟩ (fun H locs hP hD hS => ?_)
                refine lv_lstore (pc := 62) hx hb (lv' := [(5, .long r59), (0, .ref (A 0)), (1, .int a1), (2, .ref (A 36)), (3, .int u3_20), (4, .int u4_34)]) dX6_isOfShape_62 hl (by decide) rfl (fun ls hl => ?_)
                refine lv_aload_n (pc := 64) hx hb dX6_isOfShape_64 rfl (lv_at hl 3 rfl) ?_
                refine lv_iload (pc := 65) hx hb dX6_isOfShape_65 (lv_at hl 5 rfl) ?_
                refine lv_aload_n (pc := 67) hx hb dX6_isOfShape_67 rfl (lv_at hl 1 rfl) ?_
                refine vXgRX6_10_0 (pc := 68) hx hb hts mU_16 inU6 hown hK hP dX6_isOfShape_68 ?_
                refine vXgRX6_64_1 (pc := 71) hx hb hts mU_112 inU4 hown hK hP (x := (gI S 1)) rfl dX6_isOfShape_71 ?_
                refine lv_imul (pc := 74) hx hb dX6_isOfShape_74 ?_
                refine lv_iload_n (pc := 75) hx hb dX6_isOfShape_75 rfl (lv_at hl 4 rfl) ?_
                refine lv_iadd (pc := 76) hx hb dX6_isOfShape_76 ?_
                obtain ⟨r77, hc77, hf⟩ := hf_b hf
                refine cl_V (pc := 77) (As := [.int ((u4_34 * (gI S 1)) + u3_20)]) (rest := []) hx hb hml hown hts (kX2_read_36 l D A B _ S ((u4_34 * (gI S 1)) + u3_20) r77 hc77) (cwV 1 hts gwRX6_258 rfl rfl rfl hdX2_read ⟨Nat.le_of_ble_eq_true rfl, Nat.le_of_ble_eq_true rfl⟩) hN hK hP hD hS hA (va_recv hK hP (ci := 2) (q0 := 36) rfl (eX_36 A B _)) rfl hl.1 rfl (Nat.le_of_ble_eq_true rfl) dX6_isOfShape_77 (st1 := [.long r77]) rfl ⟨Nat.zero_le _, Nat.zero_le _⟩ (fun H locs hP hD hS => ?_)
                refine lv_lstore (pc := 80) hx hb (lv' := [(7, .long r77), (5, .long r59), (0, .ref (A 0)), (1, .int a1), (2, .ref (A 36)), (3, .int u3_20), (4, .int u4_34)]) dX6_isOfShape_80 hl (by decide) rfl (fun ls hl => ?_)
                refine lv_iload_n (pc := 82) hx hb dX6_isOfShape_82 rfl (lv_at hl 3 rfl) ?_
                refine lv_iconst (pc := 83) hx hb (v := 4) dX6_isOfShape_83 (by decide) ?_
                refine lv_icmp_ne (pc := 84) hx hb (tgt := 108) dX6_isOfShape_84 (by decide) (fun c_84 => ?_) (fun c_84 => ?_)
                · have hf := hf_f c_84 hf
                  refine lv_iload_n (pc := 108) hx hb dX6_isOfShape_108 rfl (lv_at hl 3 rfl) ?_
                  refine lv_iconst (pc := 109) hx hb (v := 5) dX6_isOfShape_109 (by decide) ?_
                  refine lv_icmp_ne (pc := 110) hx hb (tgt := 129) dX6_isOfShape_110 (by decide) (fun c_110 => ?_) (fun c_110 => ?_)
                  · have hf := hf_f c_110 hf
                    refine lv_lload (pc := 129) hx hb dX6_isOfShape_129 (lv_at hl 1 rfl) ?_
                    refine lv_lload (pc := 131) hx hb dX6_isOfShape_131 (lv_at hl 0 rfl) ?_
                    refine lv_lneg (pc := 133) hx hb dX6_isOfShape_133 ?_
                    refine W.lcmp (pc := 134) hx hb dX6_isOfShape_134 ?_
                    refine lv_if_ne (pc := 135) hx hb (tgt := 142) dX6_isOfShape_135 (by decide) (fun c_135 => ?_) (fun c_135 => ?_)
                    · have c_135 := fun h9 => c_135 (lg_eq0.mpr h9)
                      have hf := hf_f c_135 hf
                      refine lv_iconst (pc := 142) hx hb (v := 0) dX6_isOfShape_142 (by decide) ?_
                      refine lv_istore (pc := 143) hx hb (lv' := [(9, .int 0), (7, .long r77), (5, .long r59), (0, .ref (A 0)), (1, .int a1), (2, .ref (A 36)), (3, .int u3_20), (4, .int u4_34)]) dX6_isOfShape_143 hl (by decide) rfl (fun ls hl => ?_)
                      refine lv_iload (pc := 145) hx hb dX6_isOfShape_145 (lv_at hl 0 rfl) ?_
                      refine lv_if_ne (pc := 147) hx hb (tgt := 152) dX6_isOfShape_147 (by decide) (fun c_147 => ?_) (fun c_147 => ?_)
                      · have hf := hf_f c_147 hf
                        refine lv_iinc (pc := 152) hx hb (v := u4_34 + 1) (lv' := [(4, .int (u4_34 + 1)), (9, .int 0), (7, .long r77), (5, .long r59), (0, .ref (A 0)), (1, .int a1), (2, .ref (A 36)), (3, .int u3_20)]) dX6_isOfShape_152 hl (k := 7) rfl rfl (by decide) rfl (fun ls hl => ?_)
                        refine lv_goto (pc := 155) hx hb (tgt := 34) dX6_isOfShape_155 (by decide) ?_
                        exact ih34 (u4_34 + 1) H locs ls hf hP hD hS (lv_sub hl [4, 5, 6, 7, 0] rfl)
                      · have hf := hf_t c_147 hf
                        refine lv_iconst (pc := 150) hx hb (v := 0) dX6_isOfShape_150 (by decide) ?_
                        obtain rfl := Option.some.inj hf
                        exact hR H locs 151 ls hP hD hS (nz_of (.inl rfl)) dX6_isOfShape_151
                    · have c_135 := lg_eq0.mp c_135
                      have hf := hf_t c_135 hf
                      refine lv_iconst (pc := 138) hx hb (v := 1) dX6_isOfShape_138 (by decide) ?_
                      refine lv_goto (pc := 139) hx hb (tgt := 143) dX6_isOfShape_139 (by decide) ?_
                      refine lv_istore (pc := 143) hx hb (lv' := [(9, .int 1), (7, .long r77), (5, .long r59), (0, .ref (A 0)), (1, .int a1), (2, .ref (A 36)), (3, .int u3_20), (4, .int u4_34)]) dX6_isOfShape_143 hl (by decide) rfl (fun ls hl => ?_)
                      refine lv_iload (pc := 145) hx hb dX6_isOfShape_145 (lv_at hl 0 rfl) ?_
                      refine lv_if_ne (pc := 147) hx hb (tgt := 152) dX6_isOfShape_147 (by decide) (fun c_147 => ?_) (fun c_147 => ?_)
                      · have hf := hf_f c_147 hf
                        refine lv_iinc (pc := 152) hx hb (v := u4_34 + 1) (lv' := [(4, .int (u4_34 + 1)), (9, .int 1), (7, .long r77), (5, .long r59), (0, .ref (A 0)), (1, .int a1), (2, .ref (A 36)), (3, .int u3_20)]) dX6_isOfShape_152 hl (k := 7) rfl rfl (by decide) rfl (fun ls hl => ?_)
                        refine lv_goto (pc := 155) hx hb (tgt := 34) dX6_isOfShape_155 (by decide) ?_
                        exact ih34 (u4_34 + 1) H locs ls hf hP hD hS (lv_sub hl [4, 5, 6, 7, 0] rfl)
                      · have hf := hf_t c_147 hf
                        refine lv_iconst (pc := 150) hx hb (v := 0) dX6_isOfShape_150 (by decide) ?_
                        obtain rfl := Option.some.inj hf
                        exact hR H locs 151 ls hP hD hS (nz_of (.inl rfl)) dX6_isOfShape_151
                  · have hf := hf_t c_110 hf
                    refine lv_lload (pc := 113) hx hb dX6_isOfShape_113 (lv_at hl 1 rfl) ?_
                    refine lv_lload (pc := 115) hx hb dX6_isOfShape_115 (lv_at hl 0 rfl) ?_
                    refine W.lcmp (pc := 117) hx hb dX6_isOfShape_117 ?_
                    refine lv_if_ne (pc := 118) hx hb (tgt := 125) dX6_isOfShape_118 (by decide) (fun c_118 => ?_) (fun c_118 => ?_)
                    · have c_118 := fun h9 => c_118 (lg_eq0.mpr h9)
                      have hf := hf_f c_118 hf
                      refine lv_iconst (pc := 125) hx hb (v := 0) dX6_isOfShape_125 (by decide) ?_
                      refine lv_goto (pc := 126) hx hb (tgt := 143) dX6_isOfShape_126 (by decide) ?_
                      refine lv_istore (pc := 143) hx hb (lv' := [(9, .int 0), (7, .long r77), (5, .long r59), (0, .ref (A 0)), (1, .int a1), (2, .ref (A 36)), (3, .int u3_20), (4, .int u4_34)]) dX6_isOfShape_143 hl (by decide) rfl (fun ls hl => ?_)
                      refine lv_iload (pc := 145) hx hb dX6_isOfShape_145 (lv_at hl 0 rfl) ?_
                      refine lv_if_ne (pc := 147) hx hb (tgt := 152) dX6_isOfShape_147 (by decide) (fun c_147 => ?_) (fun c_147 => ?_)
                      · have hf := hf_f c_147 hf
                        refine lv_iinc (pc := 152) hx hb (v := u4_34 + 1) (lv' := [(4, .int (u4_34 + 1)), (9, .int 0), (7, .long r77), (5, .long r59), (0, .ref (A 0)), (1, .int a1), (2, .ref (A 36)), (3, .int u3_20)]) dX6_isOfShape_152 hl (k := 7) rfl rfl (by decide) rfl (fun ls hl => ?_)
                        refine lv_goto (pc := 155) hx hb (tgt := 34) dX6_isOfShape_155 (by decide) ?_
                        exact ih34 (u4_34 + 1) H locs ls hf hP hD hS (lv_sub hl [4, 5, 6, 7, 0] rfl)
                      · have hf := hf_t c_147 hf
                        refine lv_iconst (pc := 150) hx hb (v := 0) dX6_isOfShape_150 (by decide) ?_
                        obtain rfl := Option.some.inj hf
                        exact hR H locs 151 ls hP hD hS (nz_of (.inl rfl)) dX6_isOfShape_151
                    · have c_118 := lg_eq0.mp c_118
                      have hf := hf_t c_118 hf
                      refine lv_iconst (pc := 121) hx hb (v := 1) dX6_isOfShape_121 (by decide) ?_
                      refine lv_goto (pc := 122) hx hb (tgt := 143) dX6_isOfShape_122 (by decide) ?_
                      refine lv_istore (pc := 143) hx hb (lv' := [(9, .int 1), (7, .long r77), (5, .long r59), (0, .ref (A 0)), (1, .int a1), (2, .ref (A 36)), (3, .int u3_20), (4, .int u4_34)]) dX6_isOfShape_143 hl (by decide) rfl (fun ls hl => ?_)
                      refine lv_iload (pc := 145) hx hb dX6_isOfShape_145 (lv_at hl 0 rfl) ?_
                      refine lv_if_ne (pc := 147) hx hb (tgt := 152) dX6_isOfShape_147 (by decide) (fun c_147 => ?_) (fun c_147 => ?_)
                      · have hf := hf_f c_147 hf
                        refine lv_iinc (pc := 152) hx hb (v := u4_34 + 1) (lv' := [(4, .int (u4_34 + 1)), (9, .int 1), (7, .long r77), (5, .long r59), (0, .ref (A 0)), (1, .int a1), (2, .ref (A 36)), (3, .int u3_20)]) dX6_isOfShape_152 hl (k := 7) rfl rfl (by decide) rfl (fun ls hl => ?_)
                        refine lv_goto (pc := 155) hx hb (tgt := 34) dX6_isOfShape_155 (by decide) ?_
                        exact ih34 (u4_34 + 1) H locs ls hf hP hD hS (lv_sub hl [4, 5, 6, 7, 0] rfl)
                      · have hf := hf_t c_147 hf
                        refine lv_iconst (pc := 150) hx hb (v := 0) dX6_isOfShape_150 (by decide) ?_
                        obtain rfl := Option.some.inj hf
                        exact hR H locs 151 ls hP hD hS (nz_of (.inl rfl)) dX6_isOfShape_151
                · have hf := hf_t c_84 hf
                  refine lv_iload_n (pc := 87) hx hb dX6_isOfShape_87 rfl (lv_at hl 5 rfl) ?_
                  refine lv_iload (pc := 88) hx hb dX6_isOfShape_88 (lv_at hl 6 rfl) ?_
                  refine lv_icmp_eq (pc := 90) hx hb (tgt := 100) dX6_isOfShape_90 (by decide) (fun c_90 => ?_) (fun c_90 => ?_)
                  · have hf := hf_t c_90 hf
                    refine lv_iconst (pc := 100) hx hb (v := 1) dX6_isOfShape_100 (by decide) ?_
                    refine lv_goto (pc := 101) hx hb (tgt := 143) dX6_isOfShape_101 (by decide) ?_
                    refine lv_istore (pc := 143) hx hb (lv' := [(9, .int 1), (7, .long r77), (5, .long r59), (0, .ref (A 0)), (1, .int a1), (2, .ref (A 36)), (3, .int u3_20), (4, .int u4_34)]) dX6_isOfShape_143 hl (by decide) rfl (fun ls hl => ?_)
                    refine lv_iload (pc := 145) hx hb dX6_isOfShape_145 (lv_at hl 0 rfl) ?_
                    refine lv_if_ne (pc := 147) hx hb (tgt := 152) dX6_isOfShape_147 (by decide) (fun c_147 => ?_) (fun c_147 => ?_)
                    · have hf := hf_f c_147 hf
                      refine lv_iinc (pc := 152) hx hb (v := u4_34 + 1) (lv' := [(4, .int (u4_34 + 1)), (9, .int 1), (7, .long r77), (5, .long r59), (0, .ref (A 0)), (1, .int a1), (2, .ref (A 36)), (3, .int u3_20)]) dX6_isOfShape_152 hl (k := 7) rfl rfl (by decide) rfl (fun ls hl => ?_)
                      refine lv_goto (pc := 155) hx hb (tgt := 34) dX6_isOfShape_155 (by decide) ?_
                      exact ih34 (u4_34 + 1) H locs ls hf hP hD hS (lv_sub hl [4, 5, 6, 7, 0] rfl)
                    · have hf := hf_t c_147 hf
                      refine lv_iconst (pc := 150) hx hb (v := 0) dX6_isOfShape_150 (by decide) ?_
                      obtain rfl := Option.some.inj hf
                      exact hR H locs 151 ls hP hD hS (nz_of (.inl rfl)) dX6_isOfShape_151
                  · have hf := hf_f c_90 hf
                    refine lv_lload (pc := 93) hx hb dX6_isOfShape_93 (lv_at hl 1 rfl) ?_
                    refine lv_lconst (pc := 95) hx hb (v := 0) dX6_isOfShape_95 (by decide) ?_
                    refine W.lcmp (pc := 96) hx hb dX6_isOfShape_96 ?_
                    refine lv_if_ne (pc := 97) hx hb (tgt := 104) dX6_isOfShape_97 (by decide) (fun c_97 => ?_) (fun c_97 => ?_)
                    · have c_97 := fun h9 => c_97 (lg_eq0.mpr h9)
                      have hf := hf_f c_97 hf
                      refine lv_iconst (pc := 104) hx hb (v := 0) dX6_isOfShape_104 (by decide) ?_
                      refine lv_goto (pc := 105) hx hb (tgt := 143) dX6_isOfShape_105 (by decide) ?_
                      refine lv_istore (pc := 143) hx hb (lv' := [(9, .int 0), (7, .long r77), (5, .long r59), (0, .ref (A 0)), (1, .int a1), (2, .ref (A 36)), (3, .int u3_20), (4, .int u4_34)]) dX6_isOfShape_143 hl (by decide) rfl (fun ls hl => ?_)
                      refine lv_iload (pc := 145) hx hb dX6_isOfShape_145 (lv_at hl 0 rfl) ?_
                      refine lv_if_ne (pc := 147) hx hb (tgt := 152) dX6_isOfShape_147 (by decide) (fun c_147 => ?_) (fun c_147 => ?_)
                      · have hf := hf_f c_147 hf
                        refine lv_iinc (pc := 152) hx hb (v := u4_34 + 1) (lv' := [(4, .int (u4_34 + 1)), (9, .int 0), (7, .long r77), (5, .long r59), (0, .ref (A 0)), (1, .int a1), (2, .ref (A 36)), (3, .int u3_20)]) dX6_isOfShape_152 hl (k := 7) rfl rfl (by decide) rfl (fun ls hl => ?_)
                        refine lv_goto (pc := 155) hx hb (tgt := 34) dX6_isOfShape_155 (by decide) ?_
                        exact ih34 (u4_34 + 1) H locs ls hf hP hD hS (lv_sub hl [4, 5, 6, 7, 0] rfl)
                      · have hf := hf_t c_147 hf
                        refine lv_iconst (pc := 150) hx hb (v := 0) dX6_isOfShape_150 (by decide) ?_
                        obtain rfl := Option.some.inj hf
                        exact hR H locs 151 ls hP hD hS (nz_of (.inl rfl)) dX6_isOfShape_151
                    · have c_97 := lg_eq0.mp c_97
                      have hf := hf_t c_97 hf
                      refine lv_iconst (pc := 100) hx hb (v := 1) dX6_isOfShape_100 (by decide) ?_
                      refine lv_goto (pc := 101) hx hb (tgt := 143) dX6_isOfShape_101 (by decide) ?_
                      refine lv_istore (pc := 143) hx hb (lv' := [(9, .int 1), (7, .long r77), (5, .long r59), (0, .ref (A 0)), (1, .int a1), (2, .ref (A 36)), (3, .int u3_20), (4, .int u4_34)]) dX6_isOfShape_143 hl (by decide) rfl (fun ls hl => ?_)
                      refine lv_iload (pc := 145) hx hb dX6_isOfShape_145 (lv_at hl 0 rfl) ?_
                      refine lv_if_ne (pc := 147) hx hb (tgt := 152) dX6_isOfShape_147 (by decide) (fun c_147 => ?_) (fun c_147 => ?_)
                      · have hf := hf_f c_147 hf
                        refine lv_iinc (pc := 152) hx hb (v := u4_34 + 1) (lv' := [(4, .int (u4_34 + 1)), (9, .int 1), (7, .long r77), (5, .long r59), (0, .ref (A 0)), (1, .int a1), (2, .ref (A 36)), (3, .int u3_20)]) dX6_isOfShape_152 hl (k := 7) rfl rfl (by decide) rfl (fun ls hl => ?_)
                        refine lv_goto (pc := 155) hx hb (tgt := 34) dX6_isOfShape_155 (by decide) ?_
                        exact ih34 (u4_34 + 1) H locs ls hf hP hD hS (lv_sub hl [4, 5, 6, 7, 0] rfl)
                      · have hf := hf_t c_147 hf
                        refine lv_iconst (pc := 150) hx hb (v := 0) dX6_isOfShape_150 (by decide) ?_
                        obtain rfl := Option.some.inj hf
                        exact hR H locs 151 ls hP hD hS (nz_of (.inl rfl)) dX6_isOfShape_151
          exact lp34 256 0 H locs ls hf hP hD hS (lv_sub hl [1, 2, 3, 4, 0] rfl)
    exact lp20 256 0 H locs ls hf hP hD hS (lv_sub hl [1, 2, 3, 0] rfl)
  · have hf := hf_f c_2 hf
    refine lv_iload_n (pc := 5) hx hb dX6_isOfShape_5 rfl (lv_at hl 1 rfl) ?_
    refine lv_iconst (pc := 6) hx hb (v := 5) dX6_isOfShape_6 (by decide) ?_
    refine lv_icmp_eq (pc := 7) hx hb (tgt := 18) dX6_isOfShape_7 (by decide) (fun c_7 => ?_) (fun c_7 => ?_)
    · have hf := hf_t c_7 hf
      refine lv_iconst (pc := 18) hx hb (v := 0) dX6_isOfShape_18 (by decide) ?_
      refine lv_istore_n (pc := 19) hx hb (lv' := [(3, .int 0), (0, .ref (A 0)), (1, .int a1), (2, .ref (A 36))]) dX6_isOfShape_19 rfl hl (by decide) rfl (fun ls hl => ?_)
      have hk20 : ∀  (H : Heap) (locs : List Loc) (ls : Array Slot), some 1 = some z → va_P D vwCl (wX A B S) H → va_D Ad (wX A B S) → va_S Ad s.heap H locs → lv_has ls 10 [] → W p l e rm_X6_isOfShape s m args below meth c H locs 0 0 Q (F0 m 164 ls []) := by
        intro  H locs ls hf hP hD hS hl
        refine lv_iconst (pc := 164) hx hb (v := 1) dX6_isOfShape_164 (by decide) ?_
        obtain rfl := Option.some.inj hf
        exact hR H locs 165 ls hP hD hS (nz_of (.inr rfl)) dX6_isOfShape_165
      have lp20 : ∀ (n : Nat) (u3_20 : Int32) (H : Heap) (locs : List Loc) (ls : Array Slot), fX6_isOfShape_36_L20 (some 1) S a1 n u3_20 = some z → va_P D vwCl (wX A B S) H → va_D Ad (wX A B S) → va_S Ad s.heap H locs → lv_has ls 10 [(0, .ref (A 0)), (1, .int a1), (2, .ref (A 36)), (3, .int u3_20)] → W p l e rm_X6_isOfShape s m args below meth c H locs 0 0 Q (F0 m 20 ls []) := by
        intro n20
        induction n20 with
        | zero => intro u3_20 H locs ls hf; exact hf_0 hf
        | succ n20 ih20 =>
          intro u3_20 H locs ls hf hP hD hS hl
          rw [fX6_isOfShape_36_L20] at hf
          refine lv_iload_n (pc := 20) hx hb dX6_isOfShape_20 rfl (lv_at hl 3 rfl) ?_
          refine lv_aload_n (pc := 21) hx hb dX6_isOfShape_21 rfl (lv_at hl 0 rfl) ?_
          refine vXgRX6_10_0 (pc := 22) hx hb hts mU_16 inU6 hown hK hP dX6_isOfShape_22 ?_
          refine vXgRX6_60_1 (pc := 25) hx hb hts mU_111 inU4 hown hK hP (x := (gI S 0)) rfl dX6_isOfShape_25 ?_
          refine lv_icmp_ge (pc := 28) hx hb (tgt := 164) dX6_isOfShape_28 (by decide) (fun c_28 => ?_) (fun c_28 => ?_)
          · have hf := hf_t c_28 hf
            exact hk20  H locs ls hf hP hD hS (lv_sub hl [] rfl)
          · have hf := hf_f c_28 hf
            refine lv_iconst (pc := 31) hx hb (v := 0) dX6_isOfShape_31 (by decide) ?_
            refine lv_istore (pc := 32) hx hb (lv' := [(4, .int 0), (0, .ref (A 0)), (1, .int a1), (2, .ref (A 36)), (3, .int u3_20)]) dX6_isOfShape_32 hl (by decide) rfl (fun ls hl => ?_)
            have hk34 : ∀  (H : Heap) (locs : List Loc) (ls : Array Slot), fX6_isOfShape_36_L20 (some 1) S a1 n20 (u3_20 + 1) = some z → va_P D vwCl (wX A B S) H → va_D Ad (wX A B S) → va_S Ad s.heap H locs → lv_has ls 10 [(0, .ref (A 0)), (1, .int a1), (2, .ref (A 36)), (3, .int u3_20)] → W p l e rm_X6_isOfShape s m args below meth c H locs 0 0 Q (F0 m 158 ls []) := by
              intro  H locs ls hf hP hD hS hl
              refine lv_iinc (pc := 158) hx hb (v := u3_20 + 1) (lv' := [(3, .int (u3_20 + 1)), (0, .ref (A 0)), (1, .int a1), (2, .ref (A 36))]) dX6_isOfShape_158 hl (k := 3) rfl rfl (by decide) rfl (fun ls hl => ?_)
              refine lv_goto (pc := 161) hx hb (tgt := 20) dX6_isOfShape_161 (by decide) ?_
              exact ih20 (u3_20 + 1) H locs ls hf hP hD hS (lv_sub hl [1, 2, 3, 0] rfl)
            have lp34 : ∀ (n : Nat) (u4_34 : Int32) (H : Heap) (locs : List Loc) (ls : Array Slot), fX6_isOfShape_36_L34 (fX6_isOfShape_36_L20 (some 1) S a1 n20 (u3_20 + 1)) S a1 u3_20 n u4_34 = some z → va_P D vwCl (wX A B S) H → va_D Ad (wX A B S) → va_S Ad s.heap H locs → lv_has ls 10 [(0, .ref (A 0)), (1, .int a1), (2, .ref (A 36)), (3, .int u3_20), (4, .int u4_34)] → W p l e rm_X6_isOfShape s m args below meth c H locs 0 0 Q (F0 m 34 ls []) := by
              intro n34
              induction n34 with
              | zero => intro u4_34 H locs ls hf; exact hf_0 hf
              | succ n34 ih34 =>
                intro u4_34 H locs ls hf hP hD hS hl
                rw [fX6_isOfShape_36_L34] at hf
                refine lv_iload (pc := 34) hx hb dX6_isOfShape_34 (lv_at hl 4 rfl) ?_
                refine lv_aload_n (pc := 36) hx hb dX6_isOfShape_36 rfl (lv_at hl 0 rfl) ?_
                refine vXgRX6_10_0 (pc := 37) hx hb hts mU_16 inU6 hown hK hP dX6_isOfShape_37 ?_
                refine vXgRX6_64_1 (pc := 40) hx hb hts mU_112 inU4 hown hK hP (x := (gI S 1)) rfl dX6_isOfShape_40 ?_
                refine lv_icmp_ge (pc := 43) hx hb (tgt := 158) dX6_isOfShape_43 (by decide) (fun c_43 => ?_) (fun c_43 => ?_)
                · have hf := hf_t c_43 hf
                  exact hk34  H locs ls hf hP hD hS (lv_sub hl [0, 1, 2, 3] rfl)
                · have hf := hf_f c_43 hf
                  refine lv_aload_n (pc := 46) hx hb dX6_isOfShape_46 rfl (lv_at hl 2 rfl) ?_
                  refine lv_iload_n (pc := 47) hx hb dX6_isOfShape_47 rfl (lv_at hl 3 rfl) ?_
                  refine lv_aload_n (pc := 48) hx hb dX6_isOfShape_48 rfl (lv_at hl 0 rfl) ?_
                  refine vXgRX6_10_0 (pc := 49) hx hb hts mU_16 inU6 hown hK hP dX6_isOfShape_49 ?_
                  refine vXgRX6_64_1 (pc := 52) hx hb hts mU_112 inU4 hown hK hP (x := (gI S 1)) rfl dX6_isOfShape_52 ?_
                  refine lv_imul (pc := 55) hx hb dX6_isOfShape_55 ?_
                  refine lv_iload (pc := 56) hx hb dX6_isOfShape_56 (lv_at hl 4 rfl) ?_
                  refine lv_iadd (pc := 58) hx hb dX6_isOfShape_58 ?_
                  obtain ⟨r59, hc59, hf⟩ := hf_b hf
                  refine cl_V (pc := 59) (As := [.int ((u3_20 * (gI S 1)) + u4_34)]) (rest := []) hx hb hml hown hts (kX2_read_36 l D A B _ S ((u3_20 * (gI S 1)) + u4_34) r59 hc59) (cwV 1 hts gwRX6_258 rfl rfl rfl hdX2_read ⟨Nat.le_of_ble_eq_true rfl, Nat.le_of_ble_eq_true rfl⟩) hN hK hP hD hS hA (va_recv hK hP (ci := 2) (q0 := 36) rfl (eX_36 A B _)) rfl hl.1 rfl (Nat.le_of_ble_eq_true rfl) dX6_isOfShape_59 (st1 := [.long r59]) rfl ⟨Nat.zero_le _, Nat.zero_le _⟩ (fun H locs hP hD hS => ?_)
                  refine lv_lstore (pc := 62) hx hb (lv' := [(5, .long r59), (0, .ref (A 0)), (1, .int a1), (2, .ref (A 36)), (3, .int u3_20), (4, .int u4_34)]) dX6_isOfShape_62 hl (by decide) rfl (fun ls hl => ?_)
                  refine lv_aload_n (pc := 64) hx hb dX6_isOfShape_64 rfl (lv_at hl 3 rfl) ?_
                  refine lv_iload (pc := 65) hx hb dX6_isOfShape_65 (lv_at hl 5 rfl) ?_
                  refine lv_aload_n (pc := 67) hx hb dX6_isOfShape_67 rfl (lv_at hl 1 rfl) ?_
                  refine vXgRX6_10_0 (pc := 68) hx hb hts mU_16 inU6 hown hK hP dX6_isOfShape_68 ?_
                  refine vXgRX6_64_1 (pc := 71) hx hb hts mU_112 inU4 hown hK hP (x := (gI S 1)) rfl dX6_isOfShape_71 ?_
                  refine lv_imul (pc := 74) hx hb dX6_isOfShape_74 ?_
                  refine lv_iload_n (pc := 75) hx hb dX6_isOfShape_75 rfl (lv_at hl 4 rfl) ?_
                  refine lv_iadd (pc := 76) hx hb dX6_isOfShape_76 ?_
                  obtain ⟨r77, hc77, hf⟩ := hf_b hf
                  refine cl_V (pc := 77) (As := [.int ((u4_34 * (gI S 1)) + u3_20)]) (rest := []) hx hb hml hown hts (kX2_read_36 l D A B _ S ((u4_34 * (gI S 1)) + u3_20) r77 hc77) (cwV 1 hts gwRX6_258 rfl rfl rfl hdX2_read ⟨Nat.le_of_ble_eq_true rfl, Nat.le_of_ble_eq_true rfl⟩) hN hK hP hD hS hA (va_recv hK hP (ci := 2) (q0 := 36) rfl (eX_36 A B _)) rfl hl.1 rfl (Nat.le_of_ble_eq_true rfl) dX6_isOfShape_77 (st1 := [.long r77]) rfl ⟨Nat.zero_le _, Nat.zero_le _⟩ (fun H locs hP hD hS => ?_)
                  refine lv_lstore (pc := 80) hx hb (lv' := [(7, .long r77), (5, .long r59), (0, .ref (A 0)), (1, .int a1), (2, .ref (A 36)), (3, .int u3_20), (4, .int u4_34)]) dX6_isOfShape_80 hl (by decide) rfl (fun ls hl => ?_)
                  refine lv_iload_n (pc := 82) hx hb dX6_isOfShape_82 rfl (lv_at hl 3 rfl) ?_
                  refine lv_iconst (pc := 83) hx hb (v := 4) dX6_isOfShape_83 (by decide) ?_
                  refine lv_icmp_ne (pc := 84) hx hb (tgt := 108) dX6_isOfShape_84 (by decide) (fun c_84 => ?_) (fun c_84 => ?_)
                  · have hf := hf_f c_84 hf
                    refine lv_iload_n (pc := 108) hx hb dX6_isOfShape_108 rfl (lv_at hl 3 rfl) ?_
                    refine lv_iconst (pc := 109) hx hb (v := 5) dX6_isOfShape_109 (by decide) ?_
                    refine lv_icmp_ne (pc := 110) hx hb (tgt := 129) dX6_isOfShape_110 (by decide) (fun c_110 => ?_) (fun c_110 => ?_)
                    · have hf := hf_f c_110 hf
                      refine lv_lload (pc := 129) hx hb dX6_isOfShape_129 (lv_at hl 1 rfl) ?_
                      refine lv_lload (pc := 131) hx hb dX6_isOfShape_131 (lv_at hl 0 rfl) ?_
                      refine lv_lneg (pc := 133) hx hb dX6_isOfShape_133 ?_
                      refine W.lcmp (pc := 134) hx hb dX6_isOfShape_134 ?_
                      refine lv_if_ne (pc := 135) hx hb (tgt := 142) dX6_isOfShape_135 (by decide) (fun c_135 => ?_) (fun c_135 => ?_)
                      · have c_135 := fun h9 => c_135 (lg_eq0.mpr h9)
                        have hf := hf_f c_135 hf
                        refine lv_iconst (pc := 142) hx hb (v := 0) dX6_isOfShape_142 (by decide) ?_
                        refine lv_istore (pc := 143) hx hb (lv' := [(9, .int 0), (7, .long r77), (5, .long r59), (0, .ref (A 0)), (1, .int a1), (2, .ref (A 36)), (3, .int u3_20), (4, .int u4_34)]) dX6_isOfShape_143 hl (by decide) rfl (fun ls hl => ?_)
                        refine lv_iload (pc := 145) hx hb dX6_isOfShape_145 (lv_at hl 0 rfl) ?_
                        refine lv_if_ne (pc := 147) hx hb (tgt := 152) dX6_isOfShape_147 (by decide) (fun c_147 => ?_) (fun c_147 => ?_)
                        · have hf := hf_f c_147 hf
                          refine lv_iinc (pc := 152) hx hb (v := u4_34 + 1) (lv' := [(4, .int (u4_34 + 1)), (9, .int 0), (7, .long r77), (5, .long r59), (0, .ref (A 0)), (1, .int a1), (2, .ref (A 36)), (3, .int u3_20)]) dX6_isOfShape_152 hl (k := 7) rfl rfl (by decide) rfl (fun ls hl => ?_)
                          refine lv_goto (pc := 155) hx hb (tgt := 34) dX6_isOfShape_155 (by decide) ?_
                          exact ih34 (u4_34 + 1) H locs ls hf hP hD hS (lv_sub hl [4, 5, 6, 7, 0] rfl)
                        · have hf := hf_t c_147 hf
                          refine lv_iconst (pc := 150) hx hb (v := 0) dX6_isOfShape_150 (by decide) ?_
                          obtain rfl := Option.some.inj hf
                          exact hR H locs 151 ls hP hD hS (nz_of (.inl rfl)) dX6_isOfShape_151
                      · have c_135 := lg_eq0.mp c_135
                        have hf := hf_t c_135 hf
                        refine lv_iconst (pc := 138) hx hb (v := 1) dX6_isOfShape_138 (by decide) ?_
                        refine lv_goto (pc := 139) hx hb (tgt := 143) dX6_isOfShape_139 (by decide) ?_
                        refine lv_istore (pc := 143) hx hb (lv' := [(9, .int 1), (7, .long r77), (5, .long r59), (0, .ref (A 0)), (1, .int a1), (2, .ref (A 36)), (3, .int u3_20), (4, .int u4_34)]) dX6_isOfShape_143 hl (by decide) rfl (fun ls hl => ?_)
                        refine lv_iload (pc := 145) hx hb dX6_isOfShape_145 (lv_at hl 0 rfl) ?_
                        refine lv_if_ne (pc := 147) hx hb (tgt := 152) dX6_isOfShape_147 (by decide) (fun c_147 => ?_) (fun c_147 => ?_)
                        · have hf := hf_f c_147 hf
                          refine lv_iinc (pc := 152) hx hb (v := u4_34 + 1) (lv' := [(4, .int (u4_34 + 1)), (9, .int 1), (7, .long r77), (5, .long r59), (0, .ref (A 0)), (1, .int a1), (2, .ref (A 36)), (3, .int u3_20)]) dX6_isOfShape_152 hl (k := 7) rfl rfl (by decide) rfl (fun ls hl => ?_)
                          refine lv_goto (pc := 155) hx hb (tgt := 34) dX6_isOfShape_155 (by decide) ?_
                          exact ih34 (u4_34 + 1) H locs ls hf hP hD hS (lv_sub hl [4, 5, 6, 7, 0] rfl)
                        · have hf := hf_t c_147 hf
                          refine lv_iconst (pc := 150) hx hb (v := 0) dX6_isOfShape_150 (by decide) ?_
                          obtain rfl := Option.some.inj hf
                          exact hR H locs 151 ls hP hD hS (nz_of (.inl rfl)) dX6_isOfShape_151
                    · have hf := hf_t c_110 hf
                      refine lv_lload (pc := 113) hx hb dX6_isOfShape_113 (lv_at hl 1 rfl) ?_
                      refine lv_lload (pc := 115) hx hb dX6_isOfShape_115 (lv_at hl 0 rfl) ?_
                      refine W.lcmp (pc := 117) hx hb dX6_isOfShape_117 ?_
                      refine lv_if_ne (pc := 118) hx hb (tgt := 125) dX6_isOfShape_118 (by decide) (fun c_118 => ?_) (fun c_118 => ?_)
                      · have c_118 := fun h9 => c_118 (lg_eq0.mpr h9)
                        have hf := hf_f c_118 hf
                        refine lv_iconst (pc := 125) hx hb (v := 0) dX6_isOfShape_125 (by decide) ?_
                        refine lv_goto (pc := 126) hx hb (tgt := 143) dX6_isOfShape_126 (by decide) ?_
                        refine lv_istore (pc := 143) hx hb (lv' := [(9, .int 0), (7, .long r77), (5, .long r59), (0, .ref (A 0)), (1, .int a1), (2, .ref (A 36)), (3, .int u3_20), (4, .int u4_34)]) dX6_isOfShape_143 hl (by decide) rfl (fun ls hl => ?_)
                        refine lv_iload (pc := 145) hx hb dX6_isOfShape_145 (lv_at hl 0 rfl) ?_
                        refine lv_if_ne (pc := 147) hx hb (tgt := 152) dX6_isOfShape_147 (by decide) (fun c_147 => ?_) (fun c_147 => ?_)
                        · have hf := hf_f c_147 hf
                          refine lv_iinc (pc := 152) hx hb (v := u4_34 + 1) (lv' := [(4, .int (u4_34 + 1)), (9, .int 0), (7, .long r77), (5, .long r59), (0, .ref (A 0)), (1, .int a1), (2, .ref (A 36)), (3, .int u3_20)]) dX6_isOfShape_152 hl (k := 7) rfl rfl (by decide) rfl (fun ls hl => ?_)
                          refine lv_goto (pc := 155) hx hb (tgt := 34) dX6_isOfShape_155 (by decide) ?_
                          exact ih34 (u4_34 + 1) H locs ls hf hP hD hS (lv_sub hl [4, 5, 6, 7, 0] rfl)
                        · have hf := hf_t c_147 hf
                          refine lv_iconst (pc := 150) hx hb (v := 0) dX6_isOfShape_150 (by decide) ?_
                          obtain rfl := Option.some.inj hf
                          exact hR H locs 151 ls hP hD hS (nz_of (.inl rfl)) dX6_isOfShape_151
                      · have c_118 := lg_eq0.mp c_118
                        have hf := hf_t c_118 hf
                        refine lv_iconst (pc := 121) hx hb (v := 1) dX6_isOfShape_121 (by decide) ?_
                        refine lv_goto (pc := 122) hx hb (tgt := 143) dX6_isOfShape_122 (by decide) ?_
                        refine lv_istore (pc := 143) hx hb (lv' := [(9, .int 1), (7, .long r77), (5, .long r59), (0, .ref (A 0)), (1, .int a1), (2, .ref (A 36)), (3, .int u3_20), (4, .int u4_34)]) dX6_isOfShape_143 hl (by decide) rfl (fun ls hl => ?_)
                        refine lv_iload (pc := 145) hx hb dX6_isOfShape_145 (lv_at hl 0 rfl) ?_
                        refine lv_if_ne (pc := 147) hx hb (tgt := 152) dX6_isOfShape_147 (by decide) (fun c_147 => ?_) (fun c_147 => ?_)
                        · have hf := hf_f c_147 hf
                          refine lv_iinc (pc := 152) hx hb (v := u4_34 + 1) (lv' := [(4, .int (u4_34 + 1)), (9, .int 1), (7, .long r77), (5, .long r59), (0, .ref (A 0)), (1, .int a1), (2, .ref (A 36)), (3, .int u3_20)]) dX6_isOfShape_152 hl (k := 7) rfl rfl (by decide) rfl (fun ls hl => ?_)
                          refine lv_goto (pc := 155) hx hb (tgt := 34) dX6_isOfShape_155 (by decide) ?_
                          exact ih34 (u4_34 + 1) H locs ls hf hP hD hS (lv_sub hl [4, 5, 6, 7, 0] rfl)
                        · have hf := hf_t c_147 hf
                          refine lv_iconst (pc := 150) hx hb (v := 0) dX6_isOfShape_150 (by decide) ?_
                          obtain rfl := Option.some.inj hf
                          exact hR H locs 151 ls hP hD hS (nz_of (.inl rfl)) dX6_isOfShape_151
                  · have hf := hf_t c_84 hf
                    refine lv_iload_n (pc := 87) hx hb dX6_isOfShape_87 rfl (lv_at hl 5 rfl) ?_
                    refine lv_iload (pc := 88) hx hb dX6_isOfShape_88 (lv_at hl 6 rfl) ?_
                    refine lv_icmp_eq (pc := 90) hx hb (tgt := 100) dX6_isOfShape_90 (by decide) (fun c_90 => ?_) (fun c_90 => ?_)
                    · have hf := hf_t c_90 hf
                      refine lv_iconst (pc := 100) hx hb (v := 1) dX6_isOfShape_100 (by decide) ?_
                      refine lv_goto (pc := 101) hx hb (tgt := 143) dX6_isOfShape_101 (by decide) ?_
                      refine lv_istore (pc := 143) hx hb (lv' := [(9, .int 1), (7, .long r77), (5, .long r59), (0, .ref (A 0)), (1, .int a1), (2, .ref (A 36)), (3, .int u3_20), (4, .int u4_34)]) dX6_isOfShape_143 hl (by decide) rfl (fun ls hl => ?_)
                      refine lv_iload (pc := 145) hx hb dX6_isOfShape_145 (lv_at hl 0 rfl) ?_
                      refine lv_if_ne (pc := 147) hx hb (tgt := 152) dX6_isOfShape_147 (by decide) (fun c_147 => ?_) (fun c_147 => ?_)
                      · have hf := hf_f c_147 hf
                        refine lv_iinc (pc := 152) hx hb (v := u4_34 + 1) (lv' := [(4, .int (u4_34 + 1)), (9, .int 1), (7, .long r77), (5, .long r59), (0, .ref (A 0)), (1, .int a1), (2, .ref (A 36)), (3, .int u3_20)]) dX6_isOfShape_152 hl (k := 7) rfl rfl (by decide) rfl (fun ls hl => ?_)
                        refine lv_goto (pc := 155) hx hb (tgt := 34) dX6_isOfShape_155 (by decide) ?_
                        exact ih34 (u4_34 + 1) H locs ls hf hP hD hS (lv_sub hl [4, 5, 6, 7, 0] rfl)
                      · have hf := hf_t c_147 hf
                        refine lv_iconst (pc := 150) hx hb (v := 0) dX6_isOfShape_150 (by decide) ?_
                        obtain rfl := Option.some.inj hf
                        exact hR H locs 151 ls hP hD hS (nz_of (.inl rfl)) dX6_isOfShape_151
                    · have hf := hf_f c_90 hf
                      refine lv_lload (pc := 93) hx hb dX6_isOfShape_93 (lv_at hl 1 rfl) ?_
                      refine lv_lconst (pc := 95) hx hb (v := 0) dX6_isOfShape_95 (by decide) ?_
                      refine W.lcmp (pc := 96) hx hb dX6_isOfShape_96 ?_
                      refine lv_if_ne (pc := 97) hx hb (tgt := 104) dX6_isOfShape_97 (by decide) (fun c_97 => ?_) (fun c_97 => ?_)
                      · have c_97 := fun h9 => c_97 (lg_eq0.mpr h9)
                        have hf := hf_f c_97 hf
                        refine lv_iconst (pc := 104) hx hb (v := 0) dX6_isOfShape_104 (by decide) ?_
                        refine lv_goto (pc := 105) hx hb (tgt := 143) dX6_isOfShape_105 (by decide) ?_
                        refine lv_istore (pc := 143) hx hb (lv' := [(9, .int 0), (7, .long r77), (5, .long r59), (0, .ref (A 0)), (1, .int a1), (2, .ref (A 36)), (3, .int u3_20), (4, .int u4_34)]) dX6_isOfShape_143 hl (by decide) rfl (fun ls hl => ?_)
                        refine lv_iload (pc := 145) hx hb dX6_isOfShape_145 (lv_at hl 0 rfl) ?_
                        refine lv_if_ne (pc := 147) hx hb (tgt := 152) dX6_isOfShape_147 (by decide) (fun c_147 => ?_) (fun c_147 => ?_)
                        · have hf := hf_f c_147 hf
                          refine lv_iinc (pc := 152) hx hb (v := u4_34 + 1) (lv' := [(4, .int (u4_34 + 1)), (9, .int 0), (7, .long r77), (5, .long r59), (0, .ref (A 0)), (1, .int a1), (2, .ref (A 36)), (3, .int u3_20)]) dX6_isOfShape_152 hl (k := 7) rfl rfl (by decide) rfl (fun ls hl => ?_)
                          refine lv_goto (pc := 155) hx hb (tgt := 34) dX6_isOfShape_155 (by decide) ?_
                          exact ih34 (u4_34 + 1) H locs ls hf hP hD hS (lv_sub hl [4, 5, 6, 7, 0] rfl)
                        · have hf := hf_t c_147 hf
                          refine lv_iconst (pc := 150) hx hb (v := 0) dX6_isOfShape_150 (by decide) ?_
                          obtain rfl := Option.some.inj hf
                          exact hR H locs 151 ls hP hD hS (nz_of (.inl rfl)) dX6_isOfShape_151
                      · have c_97 := lg_eq0.mp c_97
                        have hf := hf_t c_97 hf
                        refine lv_iconst (pc := 100) hx hb (v := 1) dX6_isOfShape_100 (by decide) ?_
                        refine lv_goto (pc := 101) hx hb (tgt := 143) dX6_isOfShape_101 (by decide) ?_
                        refine lv_istore (pc := 143) hx hb (lv' := [(9, .int 1), (7, .long r77), (5, .long r59), (0, .ref (A 0)), (1, .int a1), (2, .ref (A 36)), (3, .int u3_20), (4, .int u4_34)]) dX6_isOfShape_143 hl (by decide) rfl (fun ls hl => ?_)
                        refine lv_iload (pc := 145) hx hb dX6_isOfShape_145 (lv_at hl 0 rfl) ?_
                        refine lv_if_ne (pc := 147) hx hb (tgt := 152) dX6_isOfShape_147 (by decide) (fun c_147 => ?_) (fun c_147 => ?_)
                        · have hf := hf_f c_147 hf
                          refine lv_iinc (pc := 152) hx hb (v := u4_34 + 1) (lv' := [(4, .int (u4_34 + 1)), (9, .int 1), (7, .long r77), (5, .long r59), (0, .ref (A 0)), (1, .int a1), (2, .ref (A 36)), (3, .int u3_20)]) dX6_isOfShape_152 hl (k := 7) rfl rfl (by decide) rfl (fun ls hl => ?_)
                          refine lv_goto (pc := 155) hx hb (tgt := 34) dX6_isOfShape_155 (by decide) ?_
                          exact ih34 (u4_34 + 1) H locs ls hf hP hD hS (lv_sub hl [4, 5, 6, 7, 0] rfl)
                        · have hf := hf_t c_147 hf
                          refine lv_iconst (pc := 150) hx hb (v := 0) dX6_isOfShape_150 (by decide) ?_
                          obtain rfl := Option.some.inj hf
                          exact hR H locs 151 ls hP hD hS (nz_of (.inl rfl)) dX6_isOfShape_151
            exact lp34 256 0 H locs ls hf hP hD hS (lv_sub hl [1, 2, 3, 4, 0] rfl)
      exact lp20 256 0 H locs ls hf hP hD hS (lv_sub hl [1, 2, 3, 0] rfl)
    · have hf := hf_f c_7 hf
      refine lv_iload_n (pc := 10) hx hb dX6_isOfShape_10 rfl (lv_at hl 1 rfl) ?_
      refine lv_bipush (pc := 11) hx hb (v := 6) dX6_isOfShape_11 (by decide) ?_
      refine lv_icmp_eq (pc := 13) hx hb (tgt := 18) dX6_isOfShape_13 (by decide) (fun c_13 => ?_) (fun c_13 => ?_)
      · have hf := hf_t c_13 hf
        refine lv_iconst (pc := 18) hx hb (v := 0) dX6_isOfShape_18 (by decide) ?_
        refine lv_istore_n (pc := 19) hx hb (lv' := [(3, .int 0), (0, .ref (A 0)), (1, .int a1), (2, .ref (A 36))]) dX6_isOfShape_19 rfl hl (by decide) rfl (fun ls hl => ?_)
        have hk20 : ∀  (H : Heap) (locs : List Loc) (ls : Array Slot), some 1 = some z → va_P D vwCl (wX A B S) H → va_D Ad (wX A B S) → va_S Ad s.heap H locs → lv_has ls 10 [] → W p l e rm_X6_isOfShape s m args below meth c H locs 0 0 Q (F0 m 164 ls []) := by
          intro  H locs ls hf hP hD hS hl
          refine lv_iconst (pc := 164) hx hb (v := 1) dX6_isOfShape_164 (by decide) ?_
          obtain rfl := Option.some.inj hf
          exact hR H locs 165 ls hP hD hS (nz_of (.inr rfl)) dX6_isOfShape_165
        have lp20 : ∀ (n : Nat) (u3_20 : Int32) (H : Heap) (locs : List Loc) (ls : Array Slot), fX6_isOfShape_36_L20 (some 1) S a1 n u3_20 = some z → va_P D vwCl (wX A B S) H → va_D Ad (wX A B S) → va_S Ad s.heap H locs → lv_has ls 10 [(0, .ref (A 0)), (1, .int a1), (2, .ref (A 36)), (3, .int u3_20)] → W p l e rm_X6_isOfShape s m args below meth c H locs 0 0 Q (F0 m 20 ls []) := by
          intro n20
          induction n20 with
          | zero => intro u3_20 H locs ls hf; exact hf_0 hf
          | succ n20 ih20 =>
            intro u3_20 H locs ls hf hP hD hS hl
            rw [fX6_isOfShape_36_L20] at hf
            refine lv_iload_n (pc := 20) hx hb dX6_isOfShape_20 rfl (lv_at hl 3 rfl) ?_
            refine lv_aload_n (pc := 21) hx hb dX6_isOfShape_21 rfl (lv_at hl 0 rfl) ?_
            refine vXgRX6_10_0 (pc := 22) hx hb hts mU_16 inU6 hown hK hP dX6_isOfShape_22 ?_
            refine vXgRX6_60_1 (pc := 25) hx hb hts mU_111 inU4 hown hK hP (x := (gI S 0)) rfl dX6_isOfShape_25 ?_
            refine lv_icmp_ge (pc := 28) hx hb (tgt := 164) dX6_isOfShape_28 (by decide) (fun c_28 => ?_) (fun c_28 => ?_)
            · have hf := hf_t c_28 hf
              exact hk20  H locs ls hf hP hD hS (lv_sub hl [] rfl)
            · have hf := hf_f c_28 hf
              refine lv_iconst (pc := 31) hx hb (v := 0) dX6_isOfShape_31 (by decide) ?_
              refine lv_istore (pc := 32) hx hb (lv' := [(4, .int 0), (0, .ref (A 0)), (1, .int a1), (2, .ref (A 36)), (3, .int u3_20)]) dX6_isOfShape_32 hl (by decide) rfl (fun ls hl => ?_)
              have hk34 : ∀  (H : Heap) (locs : List Loc) (ls : Array Slot), fX6_isOfShape_36_L20 (some 1) S a1 n20 (u3_20 + 1) = some z → va_P D vwCl (wX A B S) H → va_D Ad (wX A B S) → va_S Ad s.heap H locs → lv_has ls 10 [(0, .ref (A 0)), (1, .int a1), (2, .ref (A 36)), (3, .int u3_20)] → W p l e rm_X6_isOfShape s m args below meth c H locs 0 0 Q (F0 m 158 ls []) := by
                intro  H locs ls hf hP hD hS hl
                refine lv_iinc (pc := 158) hx hb (v := u3_20 + 1) (lv' := [(3, .int (u3_20 + 1)), (0, .ref (A 0)), (1, .int a1), (2, .ref (A 36))]) dX6_isOfShape_158 hl (k := 3) rfl rfl (by decide) rfl (fun ls hl => ?_)
                refine lv_goto (pc := 161) hx hb (tgt := 20) dX6_isOfShape_161 (by decide) ?_
                exact ih20 (u3_20 + 1) H locs ls hf hP hD hS (lv_sub hl [1, 2, 3, 0] rfl)
              have lp34 : ∀ (n : Nat) (u4_34 : Int32) (H : Heap) (locs : List Loc) (ls : Array Slot), fX6_isOfShape_36_L34 (fX6_isOfShape_36_L20 (some 1) S a1 n20 (u3_20 + 1)) S a1 u3_20 n u4_34 = some z → va_P D vwCl (wX A B S) H → va_D Ad (wX A B S) → va_S Ad s.heap H locs → lv_has ls 10 [(0, .ref (A 0)), (1, .int a1), (2, .ref (A 36)), (3, .int u3_20), (4, .int u4_34)] → W p l e rm_X6_isOfShape s m args below meth c H locs 0 0 Q (F0 m 34 ls []) := by
                intro n34
                induction n34 with
                | zero => intro u4_34 H locs ls hf; exact hf_0 hf
                | succ n34 ih34 =>
                  intro u4_34 H locs ls hf hP hD hS hl
                  rw [fX6_isOfShape_36_L34] at hf
                  refine lv_iload (pc := 34) hx hb dX6_isOfShape_34 (lv_at hl 4 rfl) ?_
                  refine lv_aload_n (pc := 36) hx hb dX6_isOfShape_36 rfl (lv_at hl 0 rfl) ?_
                  refine vXgRX6_10_0 (pc := 37) hx hb hts mU_16 inU6 hown hK hP dX6_isOfShape_37 ?_
                  refine vXgRX6_64_1 (pc := 40) hx hb hts mU_112 inU4 hown hK hP (x := (gI S 1)) rfl dX6_isOfShape_40 ?_
                  refine lv_icmp_ge (pc := 43) hx hb (tgt := 158) dX6_isOfShape_43 (by decide) (fun c_43 => ?_) (fun c_43 => ?_)
                  · have hf := hf_t c_43 hf
                    exact hk34  H locs ls hf hP hD hS (lv_sub hl [0, 1, 2, 3] rfl)
                  · have hf := hf_f c_43 hf
                    refine lv_aload_n (pc := 46) hx hb dX6_isOfShape_46 rfl (lv_at hl 2 rfl) ?_
                    refine lv_iload_n (pc := 47) hx hb dX6_isOfShape_47 rfl (lv_at hl 3 rfl) ?_
                    refine lv_aload_n (pc := 48) hx hb dX6_isOfShape_48 rfl (lv_at hl 0 rfl) ?_
                    refine vXgRX6_10_0 (pc := 49) hx hb hts mU_16 inU6 hown hK hP dX6_isOfShape_49 ?_
                    refine vXgRX6_64_1 (pc := 52) hx hb hts mU_112 inU4 hown hK hP (x := (gI S 1)) rfl dX6_isOfShape_52 ?_
                    refine lv_imul (pc := 55) hx hb dX6_isOfShape_55 ?_
                    refine lv_iload (pc := 56) hx hb dX6_isOfShape_56 (lv_at hl 4 rfl) ?_
                    refine lv_iadd (pc := 58) hx hb dX6_isOfShape_58 ?_
                    obtain ⟨r59, hc59, hf⟩ := hf_b hf
                    refine cl_V (pc := 59) (As := [.int ((u3_20 * (gI S 1)) + u4_34)]) (rest := []) hx hb hml hown hts (kX2_read_36 l D A B _ S ((u3_20 * (gI S 1)) + u4_34) r59 hc59) (cwV 1 hts gwRX6_258 rfl rfl rfl hdX2_read ⟨Nat.le_of_ble_eq_true rfl, Nat.le_of_ble_eq_true rfl⟩) hN hK hP hD hS hA (va_recv hK hP (ci := 2) (q0 := 36) rfl (eX_36 A B _)) rfl hl.1 rfl (Nat.le_of_ble_eq_true rfl) dX6_isOfShape_59 (st1 := [.long r59]) rfl ⟨Nat.zero_le _, Nat.zero_le _⟩ (fun H locs hP hD hS => ?_)
                    refine lv_lstore (pc := 62) hx hb (lv' := [(5, .long r59), (0, .ref (A 0)), (1, .int a1), (2, .ref (A 36)), (3, .int u3_20), (4, .int u4_34)]) dX6_isOfShape_62 hl (by decide) rfl (fun ls hl => ?_)
                    refine lv_aload_n (pc := 64) hx hb dX6_isOfShape_64 rfl (lv_at hl 3 rfl) ?_
                    refine lv_iload (pc := 65) hx hb dX6_isOfShape_65 (lv_at hl 5 rfl) ?_
                    refine lv_aload_n (pc := 67) hx hb dX6_isOfShape_67 rfl (lv_at hl 1 rfl) ?_
                    refine vXgRX6_10_0 (pc := 68) hx hb hts mU_16 inU6 hown hK hP dX6_isOfShape_68 ?_
                    refine vXgRX6_64_1 (pc := 71) hx hb hts mU_112 inU4 hown hK hP (x := (gI S 1)) rfl dX6_isOfShape_71 ?_
                    refine lv_imul (pc := 74) hx hb dX6_isOfShape_74 ?_
                    refine lv_iload_n (pc := 75) hx hb dX6_isOfShape_75 rfl (lv_at hl 4 rfl) ?_
                    refine lv_iadd (pc := 76) hx hb dX6_isOfShape_76 ?_
                    obtain ⟨r77, hc77, hf⟩ := hf_b hf
                    refine cl_V (pc := 77) (As := [.int ((u4_34 * (gI S 1)) + u3_20)]) (rest := []) hx hb hml hown hts (kX2_read_36 l D A B _ S ((u4_34 * (gI S 1)) + u3_20) r77 hc77) (cwV 1 hts gwRX6_258 rfl rfl rfl hdX2_read ⟨Nat.le_of_ble_eq_true rfl, Nat.le_of_ble_eq_true rfl⟩) hN hK hP hD hS hA (va_recv hK hP (ci := 2) (q0 := 36) rfl (eX_36 A B _)) rfl hl.1 rfl (Nat.le_of_ble_eq_true rfl) dX6_isOfShape_77 (st1 := [.long r77]) rfl ⟨Nat.zero_le _, Nat.zero_le _⟩ (fun H locs hP hD hS => ?_)
                    refine lv_lstore (pc := 80) hx hb (lv' := [(7, .long r77), (5, .long r59), (0, .ref (A 0)), (1, .int a1), (2, .ref (A 36)), (3, .int u3_20), (4, .int u4_34)]) dX6_isOfShape_80 hl (by decide) rfl (fun ls hl => ?_)
                    refine lv_iload_n (pc := 82) hx hb dX6_isOfShape_82 rfl (lv_at hl 3 rfl) ?_
                    refine lv_iconst (pc := 83) hx hb (v := 4) dX6_isOfShape_83 (by decide) ?_
                    refine lv_icmp_ne (pc := 84) hx hb (tgt := 108) dX6_isOfShape_84 (by decide) (fun c_84 => ?_) (fun c_84 => ?_)
                    · have hf := hf_f c_84 hf
                      refine lv_iload_n (pc := 108) hx hb dX6_isOfShape_108 rfl (lv_at hl 3 rfl) ?_
                      refine lv_iconst (pc := 109) hx hb (v := 5) dX6_isOfShape_109 (by decide) ?_
                      refine lv_icmp_ne (pc := 110) hx hb (tgt := 129) dX6_isOfShape_110 (by decide) (fun c_110 => ?_) (fun c_110 => ?_)
                      · have hf := hf_f c_110 hf
                        refine lv_lload (pc := 129) hx hb dX6_isOfShape_129 (lv_at hl 1 rfl) ?_
                        refine lv_lload (pc := 131) hx hb dX6_isOfShape_131 (lv_at hl 0 rfl) ?_
                        refine lv_lneg (pc := 133) hx hb dX6_isOfShape_133 ?_
                        refine W.lcmp (pc := 134) hx hb dX6_isOfShape_134 ?_
                        refine lv_if_ne (pc := 135) hx hb (tgt := 142) dX6_isOfShape_135 (by decide) (fun c_135 => ?_) (fun c_135 => ?_)
                        · have c_135 := fun h9 => c_135 (lg_eq0.mpr h9)
                          have hf := hf_f c_135 hf
                          refine lv_iconst (pc := 142) hx hb (v := 0) dX6_isOfShape_142 (by decide) ?_
                          refine lv_istore (pc := 143) hx hb (lv' := [(9, .int 0), (7, .long r77), (5, .long r59), (0, .ref (A 0)), (1, .int a1), (2, .ref (A 36)), (3, .int u3_20), (4, .int u4_34)]) dX6_isOfShape_143 hl (by decide) rfl (fun ls hl => ?_)
                          refine lv_iload (pc := 145) hx hb dX6_isOfShape_145 (lv_at hl 0 rfl) ?_
                          refine lv_if_ne (pc := 147) hx hb (tgt := 152) dX6_isOfShape_147 (by decide) (fun c_147 => ?_) (fun c_147 => ?_)
                          · have hf := hf_f c_147 hf
                            refine lv_iinc (pc := 152) hx hb (v := u4_34 + 1) (lv' := [(4, .int (u4_34 + 1)), (9, .int 0), (7, .long r77), (5, .long r59), (0, .ref (A 0)), (1, .int a1), (2, .ref (A 36)), (3, .int u3_20)]) dX6_isOfShape_152 hl (k := 7) rfl rfl (by decide) rfl (fun ls hl => ?_)
                            refine lv_goto (pc := 155) hx hb (tgt := 34) dX6_isOfShape_155 (by decide) ?_
                            exact ih34 (u4_34 + 1) H locs ls hf hP hD hS (lv_sub hl [4, 5, 6, 7, 0] rfl)
                          · have hf := hf_t c_147 hf
                            refine lv_iconst (pc := 150) hx hb (v := 0) dX6_isOfShape_150 (by decide) ?_
                            obtain rfl := Option.some.inj hf
                            exact hR H locs 151 ls hP hD hS (nz_of (.inl rfl)) dX6_isOfShape_151
                        · have c_135 := lg_eq0.mp c_135
                          have hf := hf_t c_135 hf
                          refine lv_iconst (pc := 138) hx hb (v := 1) dX6_isOfShape_138 (by decide) ?_
                          refine lv_goto (pc := 139) hx hb (tgt := 143) dX6_isOfShape_139 (by decide) ?_
                          refine lv_istore (pc := 143) hx hb (lv' := [(9, .int 1), (7, .long r77), (5, .long r59), (0, .ref (A 0)), (1, .int a1), (2, .ref (A 36)), (3, .int u3_20), (4, .int u4_34)]) dX6_isOfShape_143 hl (by decide) rfl (fun ls hl => ?_)
                          refine lv_iload (pc := 145) hx hb dX6_isOfShape_145 (lv_at hl 0 rfl) ?_
                          refine lv_if_ne (pc := 147) hx hb (tgt := 152) dX6_isOfShape_147 (by decide) (fun c_147 => ?_) (fun c_147 => ?_)
                          · have hf := hf_f c_147 hf
                            refine lv_iinc (pc := 152) hx hb (v := u4_34 + 1) (lv' := [(4, .int (u4_34 + 1)), (9, .int 1), (7, .long r77), (5, .long r59), (0, .ref (A 0)), (1, .int a1), (2, .ref (A 36)), (3, .int u3_20)]) dX6_isOfShape_152 hl (k := 7) rfl rfl (by decide) rfl (fun ls hl => ?_)
                            refine lv_goto (pc := 155) hx hb (tgt := 34) dX6_isOfShape_155 (by decide) ?_
                            exact ih34 (u4_34 + 1) H locs ls hf hP hD hS (lv_sub hl [4, 5, 6, 7, 0] rfl)
                          · have hf := hf_t c_147 hf
                            refine lv_iconst (pc := 150) hx hb (v := 0) dX6_isOfShape_150 (by decide) ?_
                            obtain rfl := Option.some.inj hf
                            exact hR H locs 151 ls hP hD hS (nz_of (.inl rfl)) dX6_isOfShape_151
                      · have hf := hf_t c_110 hf
                        refine lv_lload (pc := 113) hx hb dX6_isOfShape_113 (lv_at hl 1 rfl) ?_
                        refine lv_lload (pc := 115) hx hb dX6_isOfShape_115 (lv_at hl 0 rfl) ?_
                        refine W.lcmp (pc := 117) hx hb dX6_isOfShape_117 ?_
                        refine lv_if_ne (pc := 118) hx hb (tgt := 125) dX6_isOfShape_118 (by decide) (fun c_118 => ?_) (fun c_118 => ?_)
                        · have c_118 := fun h9 => c_118 (lg_eq0.mpr h9)
                          have hf := hf_f c_118 hf
                          refine lv_iconst (pc := 125) hx hb (v := 0) dX6_isOfShape_125 (by decide) ?_
                          refine lv_goto (pc := 126) hx hb (tgt := 143) dX6_isOfShape_126 (by decide) ?_
                          refine lv_istore (pc := 143) hx hb (lv' := [(9, .int 0), (7, .long r77), (5, .long r59), (0, .ref (A 0)), (1, .int a1), (2, .ref (A 36)), (3, .int u3_20), (4, .int u4_34)]) dX6_isOfShape_143 hl (by decide) rfl (fun ls hl => ?_)
                          refine lv_iload (pc := 145) hx hb dX6_isOfShape_145 (lv_at hl 0 rfl) ?_
                          refine lv_if_ne (pc := 147) hx hb (tgt := 152) dX6_isOfShape_147 (by decide) (fun c_147 => ?_) (fun c_147 => ?_)
                          · have hf := hf_f c_147 hf
                            refine lv_iinc (pc := 152) hx hb (v := u4_34 + 1) (lv' := [(4, .int (u4_34 + 1)), (9, .int 0), (7, .long r77), (5, .long r59), (0, .ref (A 0)), (1, .int a1), (2, .ref (A 36)), (3, .int u3_20)]) dX6_isOfShape_152 hl (k := 7) rfl rfl (by decide) rfl (fun ls hl => ?_)
                            refine lv_goto (pc := 155) hx hb (tgt := 34) dX6_isOfShape_155 (by decide) ?_
                            exact ih34 (u4_34 + 1) H locs ls hf hP hD hS (lv_sub hl [4, 5, 6, 7, 0] rfl)
                          · have hf := hf_t c_147 hf
                            refine lv_iconst (pc := 150) hx hb (v := 0) dX6_isOfShape_150 (by decide) ?_
                            obtain rfl := Option.some.inj hf
                            exact hR H locs 151 ls hP hD hS (nz_of (.inl rfl)) dX6_isOfShape_151
                        · have c_118 := lg_eq0.mp c_118
                          have hf := hf_t c_118 hf
                          refine lv_iconst (pc := 121) hx hb (v := 1) dX6_isOfShape_121 (by decide) ?_
                          refine lv_goto (pc := 122) hx hb (tgt := 143) dX6_isOfShape_122 (by decide) ?_
                          refine lv_istore (pc := 143) hx hb (lv' := [(9, .int 1), (7, .long r77), (5, .long r59), (0, .ref (A 0)), (1, .int a1), (2, .ref (A 36)), (3, .int u3_20), (4, .int u4_34)]) dX6_isOfShape_143 hl (by decide) rfl (fun ls hl => ?_)
                          refine lv_iload (pc := 145) hx hb dX6_isOfShape_145 (lv_at hl 0 rfl) ?_
                          refine lv_if_ne (pc := 147) hx hb (tgt := 152) dX6_isOfShape_147 (by decide) (fun c_147 => ?_) (fun c_147 => ?_)
                          · have hf := hf_f c_147 hf
                            refine lv_iinc (pc := 152) hx hb (v := u4_34 + 1) (lv' := [(4, .int (u4_34 + 1)), (9, .int 1), (7, .long r77), (5, .long r59), (0, .ref (A 0)), (1, .int a1), (2, .ref (A 36)), (3, .int u3_20)]) dX6_isOfShape_152 hl (k := 7) rfl rfl (by decide) rfl (fun ls hl => ?_)
                            refine lv_goto (pc := 155) hx hb (tgt := 34) dX6_isOfShape_155 (by decide) ?_
                            exact ih34 (u4_34 + 1) H locs ls hf hP hD hS (lv_sub hl [4, 5, 6, 7, 0] rfl)
                          · have hf := hf_t c_147 hf
                            refine lv_iconst (pc := 150) hx hb (v := 0) dX6_isOfShape_150 (by decide) ?_
                            obtain rfl := Option.some.inj hf
                            exact hR H locs 151 ls hP hD hS (nz_of (.inl rfl)) dX6_isOfShape_151
                    · have hf := hf_t c_84 hf
                      refine lv_iload_n (pc := 87) hx hb dX6_isOfShape_87 rfl (lv_at hl 5 rfl) ?_
                      refine lv_iload (pc := 88) hx hb dX6_isOfShape_88 (lv_at hl 6 rfl) ?_
                      refine lv_icmp_eq (pc := 90) hx hb (tgt := 100) dX6_isOfShape_90 (by decide) (fun c_90 => ?_) (fun c_90 => ?_)
                      · have hf := hf_t c_90 hf
                        refine lv_iconst (pc := 100) hx hb (v := 1) dX6_isOfShape_100 (by decide) ?_
                        refine lv_goto (pc := 101) hx hb (tgt := 143) dX6_isOfShape_101 (by decide) ?_
                        refine lv_istore (pc := 143) hx hb (lv' := [(9, .int 1), (7, .long r77), (5, .long r59), (0, .ref (A 0)), (1, .int a1), (2, .ref (A 36)), (3, .int u3_20), (4, .int u4_34)]) dX6_isOfShape_143 hl (by decide) rfl (fun ls hl => ?_)
                        refine lv_iload (pc := 145) hx hb dX6_isOfShape_145 (lv_at hl 0 rfl) ?_
                        refine lv_if_ne (pc := 147) hx hb (tgt := 152) dX6_isOfShape_147 (by decide) (fun c_147 => ?_) (fun c_147 => ?_)
                        · have hf := hf_f c_147 hf
                          refine lv_iinc (pc := 152) hx hb (v := u4_34 + 1) (lv' := [(4, .int (u4_34 + 1)), (9, .int 1), (7, .long r77), (5, .long r59), (0, .ref (A 0)), (1, .int a1), (2, .ref (A 36)), (3, .int u3_20)]) dX6_isOfShape_152 hl (k := 7) rfl rfl (by decide) rfl (fun ls hl => ?_)
                          refine lv_goto (pc := 155) hx hb (tgt := 34) dX6_isOfShape_155 (by decide) ?_
                          exact ih34 (u4_34 + 1) H locs ls hf hP hD hS (lv_sub hl [4, 5, 6, 7, 0] rfl)
                        · have hf := hf_t c_147 hf
                          refine lv_iconst (pc := 150) hx hb (v := 0) dX6_isOfShape_150 (by decide) ?_
                          obtain rfl := Option.some.inj hf
                          exact hR H locs 151 ls hP hD hS (nz_of (.inl rfl)) dX6_isOfShape_151
                      · have hf := hf_f c_90 hf
                        refine lv_lload (pc := 93) hx hb dX6_isOfShape_93 (lv_at hl 1 rfl) ?_
                        refine lv_lconst (pc := 95) hx hb (v := 0) dX6_isOfShape_95 (by decide) ?_
                        refine W.lcmp (pc := 96) hx hb dX6_isOfShape_96 ?_
                        refine lv_if_ne (pc := 97) hx hb (tgt := 104) dX6_isOfShape_97 (by decide) (fun c_97 => ?_) (fun c_97 => ?_)
                        · have c_97 := fun h9 => c_97 (lg_eq0.mpr h9)
                          have hf := hf_f c_97 hf
                          refine lv_iconst (pc := 104) hx hb (v := 0) dX6_isOfShape_104 (by decide) ?_
                          refine lv_goto (pc := 105) hx hb (tgt := 143) dX6_isOfShape_105 (by decide) ?_
                          refine lv_istore (pc := 143) hx hb (lv' := [(9, .int 0), (7, .long r77), (5, .long r59), (0, .ref (A 0)), (1, .int a1), (2, .ref (A 36)), (3, .int u3_20), (4, .int u4_34)]) dX6_isOfShape_143 hl (by decide) rfl (fun ls hl => ?_)
                          refine lv_iload (pc := 145) hx hb dX6_isOfShape_145 (lv_at hl 0 rfl) ?_
                          refine lv_if_ne (pc := 147) hx hb (tgt := 152) dX6_isOfShape_147 (by decide) (fun c_147 => ?_) (fun c_147 => ?_)
                          · have hf := hf_f c_147 hf
                            refine lv_iinc (pc := 152) hx hb (v := u4_34 + 1) (lv' := [(4, .int (u4_34 + 1)), (9, .int 0), (7, .long r77), (5, .long r59), (0, .ref (A 0)), (1, .int a1), (2, .ref (A 36)), (3, .int u3_20)]) dX6_isOfShape_152 hl (k := 7) rfl rfl (by decide) rfl (fun ls hl => ?_)
                            refine lv_goto (pc := 155) hx hb (tgt := 34) dX6_isOfShape_155 (by decide) ?_
                            exact ih34 (u4_34 + 1) H locs ls hf hP hD hS (lv_sub hl [4, 5, 6, 7, 0] rfl)
                          · have hf := hf_t c_147 hf
                            refine lv_iconst (pc := 150) hx hb (v := 0) dX6_isOfShape_150 (by decide) ?_
                            obtain rfl := Option.some.inj hf
                            exact hR H locs 151 ls hP hD hS (nz_of (.inl rfl)) dX6_isOfShape_151
                        · have c_97 := lg_eq0.mp c_97
                          have hf := hf_t c_97 hf
                          refine lv_iconst (pc := 100) hx hb (v := 1) dX6_isOfShape_100 (by decide) ?_
                          refine lv_goto (pc := 101) hx hb (tgt := 143) dX6_isOfShape_101 (by decide) ?_
                          refine lv_istore (pc := 143) hx hb (lv' := [(9, .int 1), (7, .long r77), (5, .long r59), (0, .ref (A 0)), (1, .int a1), (2, .ref (A 36)), (3, .int u3_20), (4, .int u4_34)]) dX6_isOfShape_143 hl (by decide) rfl (fun ls hl => ?_)
                          refine lv_iload (pc := 145) hx hb dX6_isOfShape_145 (lv_at hl 0 rfl) ?_
                          refine lv_if_ne (pc := 147) hx hb (tgt := 152) dX6_isOfShape_147 (by decide) (fun c_147 => ?_) (fun c_147 => ?_)
                          · have hf := hf_f c_147 hf
                            refine lv_iinc (pc := 152) hx hb (v := u4_34 + 1) (lv' := [(4, .int (u4_34 + 1)), (9, .int 1), (7, .long r77), (5, .long r59), (0, .ref (A 0)), (1, .int a1), (2, .ref (A 36)), (3, .int u3_20)]) dX6_isOfShape_152 hl (k := 7) rfl rfl (by decide) rfl (fun ls hl => ?_)
                            refine lv_goto (pc := 155) hx hb (tgt := 34) dX6_isOfShape_155 (by decide) ?_
                            exact ih34 (u4_34 + 1) H locs ls hf hP hD hS (lv_sub hl [4, 5, 6, 7, 0] rfl)
                          · have hf := hf_t c_147 hf
                            refine lv_iconst (pc := 150) hx hb (v := 0) dX6_isOfShape_150 (by decide) ?_
                            obtain rfl := Option.some.inj hf
                            exact hR H locs 151 ls hP hD hS (nz_of (.inl rfl)) dX6_isOfShape_151
              exact lp34 256 0 H locs ls hf hP hD hS (lv_sub hl [1, 2, 3, 4, 0] rfl)
        exact lp20 256 0 H locs ls hf hP hD hS (lv_sub hl [1, 2, 3, 0] rfl)
      · have hf := hf_f c_13 hf
        refine lv_iconst (pc := 16) hx hb (v := 1) dX6_isOfShape_16 (by decide) ?_
        obtain rfl := Option.some.inj hf
        exact hR H locs 17 ls hP hD hS (nz_of (.inr rfl)) dX6_isOfShape_17
set_option maxHeartbeats 4000000 in
set_option maxRecDepth 100000 in
theorem kX6_unreadable_30 (l : Launch) (D : va_G) (A : Nat → Nat) (B : Nat → ClassId) (sz : Nat) (S : w_S) (z : Int32) (hf : fX6_unreadable_30 S = some z) : MetW l yX6_unreadable (wsO yX6_unreadable cX6_unreadable 2 (some .int)) rm_X6_unreadable [.ref (A 0), .ref (A 30)] D (tyB B) (wX A B S) (wX A B S) sz (some (.int z)) := by
  refine MetW.mkI (cc := cX6_unreadable) (maxL := 2) (by decide) (Nat.le_of_ble_eq_true rfl) ?_
  intro p e s m args below meth c Ad Q hx hb hts hown hml hN hK hA hR H locs ls hP hD hS hl
  have hl : lv_has ls 2 [(0, .ref (A 0)), (1, .ref (A 30))] := hl
  rw [fX6_unreadable_30] at hf
  refine lv_aload_n (pc := 0) hx hb dX6_unreadable_0 rfl (lv_at hl 1 rfl) ?_
  refine vXgRX6_252_30 (pc := 1) hx hb hts mU_796 inU2 hown hK hP (x := (gI S 28)) rfl dX6_unreadable_1 ?_
  refine lv_iconst (pc := 4) hx hb (v := (-1)) dX6_unreadable_4 (by decide) ?_
  refine lv_icmp_ne (pc := 5) hx hb (tgt := 11) dX6_unreadable_5 (by decide) (fun c_5 => ?_) (fun c_5 => ?_)
  · have hf := hf_f c_5 hf
    refine lv_aload_n (pc := 11) hx hb dX6_unreadable_11 rfl (lv_at hl 1 rfl) ?_
    refine vXgRX6_252_30 (pc := 12) hx hb hts mU_796 inU2 hown hK hP (x := (gI S 28)) rfl dX6_unreadable_12 ?_
    refine lv_iconst (pc := 15) hx hb (v := 2) dX6_unreadable_15 (by decide) ?_
    refine lv_icmp_eq (pc := 16) hx hb (tgt := 22) dX6_unreadable_16 (by decide) (fun c_16 => ?_) (fun c_16 => ?_)
    · have hf := hf_t c_16 hf
      refine lv_aload_n (pc := 22) hx hb dX6_unreadable_22 rfl (lv_at hl 1 rfl) ?_
      refine vXgRX6_255_30 (pc := 23) hx hb hts mU_797 inU2 hown hK hP (x := (gI S 29)) rfl dX6_unreadable_23 ?_
      refine lv_aload_n (pc := 26) hx hb dX6_unreadable_26 rfl (lv_at hl 0 rfl) ?_
      refine vXgRX6_10_0 (pc := 27) hx hb hts mU_16 inU6 hown hK hP dX6_unreadable_27 ?_
      refine vXgRX6_60_1 (pc := 30) hx hb hts mU_111 inU4 hown hK hP (x := (gI S 0)) rfl dX6_unreadable_30 ?_
      refine lv_aload_n (pc := 33) hx hb dX6_unreadable_33 rfl (lv_at hl 0 rfl) ?_
      refine vXgRX6_10_0 (pc := 34) hx hb hts mU_16 inU6 hown hK hP dX6_unreadable_34 ?_
      refine vXgRX6_64_1 (pc := 37) hx hb hts mU_112 inU4 hown hK hP (x := (gI S 1)) rfl dX6_unreadable_37 ?_
      refine lv_imul (pc := 40) hx hb dX6_unreadable_40 ?_
      refine lv_icmp_ne (pc := 41) hx hb (tgt := 48) dX6_unreadable_41 (by decide) (fun c_41 => ?_) (fun c_41 => ?_)
      · have hf := hf_f c_41 hf
        refine lv_bipush (pc := 48) hx hb (v := (-12)) dX6_unreadable_48 (by decide) ?_
        obtain rfl := Option.some.inj hf
        exact hR H locs 50 ls hP hD hS dX6_unreadable_50
      · have hf := hf_t c_41 hf
        refine lv_iconst (pc := 44) hx hb (v := 0) dX6_unreadable_44 (by decide) ?_
        refine lv_goto (pc := 45) hx hb (tgt := 50) dX6_unreadable_45 (by decide) ?_
        obtain rfl := Option.some.inj hf
        exact hR H locs 50 ls hP hD hS dX6_unreadable_50
    · have hf := hf_f c_16 hf
      refine lv_bipush (pc := 19) hx hb (v := (-13)) dX6_unreadable_19 (by decide) ?_
      obtain rfl := Option.some.inj hf
      exact hR H locs 21 ls hP hD hS dX6_unreadable_21
  · have hf := hf_t c_5 hf
    refine lv_bipush (pc := 8) hx hb (v := (-11)) dX6_unreadable_8 (by decide) ?_
    obtain rfl := Option.some.inj hf
    exact hR H locs 10 ls hP hD hS dX6_unreadable_10
set_option maxHeartbeats 4000000 in
set_option maxRecDepth 100000 in
theorem kX6_unreadable_32 (l : Launch) (D : va_G) (A : Nat → Nat) (B : Nat → ClassId) (sz : Nat) (S : w_S) (z : Int32) (hf : fX6_unreadable_32 S = some z) : MetW l yX6_unreadable (wsO yX6_unreadable cX6_unreadable 2 (some .int)) rm_X6_unreadable [.ref (A 0), .ref (A 32)] D (tyB B) (wX A B S) (wX A B S) sz (some (.int z)) := by
  refine MetW.mkI (cc := cX6_unreadable) (maxL := 2) (by decide) (Nat.le_of_ble_eq_true rfl) ?_
  intro p e s m args below meth c Ad Q hx hb hts hown hml hN hK hA hR H locs ls hP hD hS hl
  have hl : lv_has ls 2 [(0, .ref (A 0)), (1, .ref (A 32))] := hl
  rw [fX6_unreadable_32] at hf
  refine lv_aload_n (pc := 0) hx hb dX6_unreadable_0 rfl (lv_at hl 1 rfl) ?_
  refine vXgRX6_252_32 (pc := 1) hx hb hts mU_796 inU2 hown hK hP (x := (gI S 30)) rfl dX6_unreadable_1 ?_
  refine lv_iconst (pc := 4) hx hb (v := (-1)) dX6_unreadable_4 (by decide) ?_
  refine lv_icmp_ne (pc := 5) hx hb (tgt := 11) dX6_unreadable_5 (by decide) (fun c_5 => ?_) (fun c_5 => ?_)
  · have hf := hf_f c_5 hf
    refine lv_aload_n (pc := 11) hx hb dX6_unreadable_11 rfl (lv_at hl 1 rfl) ?_
    refine vXgRX6_252_32 (pc := 12) hx hb hts mU_796 inU2 hown hK hP (x := (gI S 30)) rfl dX6_unreadable_12 ?_
    refine lv_iconst (pc := 15) hx hb (v := 2) dX6_unreadable_15 (by decide) ?_
    refine lv_icmp_eq (pc := 16) hx hb (tgt := 22) dX6_unreadable_16 (by decide) (fun c_16 => ?_) (fun c_16 => ?_)
    · have hf := hf_t c_16 hf
      refine lv_aload_n (pc := 22) hx hb dX6_unreadable_22 rfl (lv_at hl 1 rfl) ?_
      refine vXgRX6_255_32 (pc := 23) hx hb hts mU_797 inU2 hown hK hP (x := (gI S 31)) rfl dX6_unreadable_23 ?_
      refine lv_aload_n (pc := 26) hx hb dX6_unreadable_26 rfl (lv_at hl 0 rfl) ?_
      refine vXgRX6_10_0 (pc := 27) hx hb hts mU_16 inU6 hown hK hP dX6_unreadable_27 ?_
      refine vXgRX6_60_1 (pc := 30) hx hb hts mU_111 inU4 hown hK hP (x := (gI S 0)) rfl dX6_unreadable_30 ?_
      refine lv_aload_n (pc := 33) hx hb dX6_unreadable_33 rfl (lv_at hl 0 rfl) ?_
      refine vXgRX6_10_0 (pc := 34) hx hb hts mU_16 inU6 hown hK hP dX6_unreadable_34 ?_
      refine vXgRX6_64_1 (pc := 37) hx hb hts mU_112 inU4 hown hK hP (x := (gI S 1)) rfl dX6_unreadable_37 ?_
      refine lv_imul (pc := 40) hx hb dX6_unreadable_40 ?_
      refine lv_icmp_ne (pc := 41) hx hb (tgt := 48) dX6_unreadable_41 (by decide) (fun c_41 => ?_) (fun c_41 => ?_)
      · have hf := hf_f c_41 hf
        refine lv_bipush (pc := 48) hx hb (v := (-12)) dX6_unreadable_48 (by decide) ?_
        obtain rfl := Option.some.inj hf
        exact hR H locs 50 ls hP hD hS dX6_unreadable_50
      · have hf := hf_t c_41 hf
        refine lv_iconst (pc := 44) hx hb (v := 0) dX6_unreadable_44 (by decide) ?_
        refine lv_goto (pc := 45) hx hb (tgt := 50) dX6_unreadable_45 (by decide) ?_
        obtain rfl := Option.some.inj hf
        exact hR H locs 50 ls hP hD hS dX6_unreadable_50
    · have hf := hf_f c_16 hf
      refine lv_bipush (pc := 19) hx hb (v := (-13)) dX6_unreadable_19 (by decide) ?_
      obtain rfl := Option.some.inj hf
      exact hR H locs 21 ls hP hD hS dX6_unreadable_21
  · have hf := hf_t c_5 hf
    refine lv_bipush (pc := 8) hx hb (v := (-11)) dX6_unreadable_8 (by decide) ?_
    obtain rfl := Option.some.inj hf
    exact hR H locs 10 ls hP hD hS dX6_unreadable_10
set_option maxHeartbeats 4000000 in
set_option maxRecDepth 100000 in
theorem kX6_unreadable_34 (l : Launch) (D : va_G) (A : Nat → Nat) (B : Nat → ClassId) (sz : Nat) (S : w_S) (z : Int32) (hf : fX6_unreadable_34 S = some z) : MetW l yX6_unreadable (wsO yX6_unreadable cX6_unreadable 2 (some .int)) rm_X6_unreadable [.ref (A 0), .ref (A 34)] D (tyB B) (wX A B S) (wX A B S) sz (some (.int z)) := by
  refine MetW.mkI (cc := cX6_unreadable) (maxL := 2) (by decide) (Nat.le_of_ble_eq_true rfl) ?_
  intro p e s m args below meth c Ad Q hx hb hts hown hml hN hK hA hR H locs ls hP hD hS hl
  have hl : lv_has ls 2 [(0, .ref (A 0)), (1, .ref (A 34))] := hl
  rw [fX6_unreadable_34] at hf
  refine lv_aload_n (pc := 0) hx hb dX6_unreadable_0 rfl (lv_at hl 1 rfl) ?_
  refine vXgRX6_252_34 (pc := 1) hx hb hts mU_796 inU2 hown hK hP (x := (gI S 32)) rfl dX6_unreadable_1 ?_
  refine lv_iconst (pc := 4) hx hb (v := (-1)) dX6_unreadable_4 (by decide) ?_
  refine lv_icmp_ne (pc := 5) hx hb (tgt := 11) dX6_unreadable_5 (by decide) (fun c_5 => ?_) (fun c_5 => ?_)
  · have hf := hf_f c_5 hf
    refine lv_aload_n (pc := 11) hx hb dX6_unreadable_11 rfl (lv_at hl 1 rfl) ?_
    refine vXgRX6_252_34 (pc := 12) hx hb hts mU_796 inU2 hown hK hP (x := (gI S 32)) rfl dX6_unreadable_12 ?_
    refine lv_iconst (pc := 15) hx hb (v := 2) dX6_unreadable_15 (by decide) ?_
    refine lv_icmp_eq (pc := 16) hx hb (tgt := 22) dX6_unreadable_16 (by decide) (fun c_16 => ?_) (fun c_16 => ?_)
    · have hf := hf_t c_16 hf
      refine lv_aload_n (pc := 22) hx hb dX6_unreadable_22 rfl (lv_at hl 1 rfl) ?_
      refine vXgRX6_255_34 (pc := 23) hx hb hts mU_797 inU2 hown hK hP (x := (gI S 33)) rfl dX6_unreadable_23 ?_
      refine lv_aload_n (pc := 26) hx hb dX6_unreadable_26 rfl (lv_at hl 0 rfl) ?_
      refine vXgRX6_10_0 (pc := 27) hx hb hts mU_16 inU6 hown hK hP dX6_unreadable_27 ?_
      refine vXgRX6_60_1 (pc := 30) hx hb hts mU_111 inU4 hown hK hP (x := (gI S 0)) rfl dX6_unreadable_30 ?_
      refine lv_aload_n (pc := 33) hx hb dX6_unreadable_33 rfl (lv_at hl 0 rfl) ?_
      refine vXgRX6_10_0 (pc := 34) hx hb hts mU_16 inU6 hown hK hP dX6_unreadable_34 ?_
      refine vXgRX6_64_1 (pc := 37) hx hb hts mU_112 inU4 hown hK hP (x := (gI S 1)) rfl dX6_unreadable_37 ?_
      refine lv_imul (pc := 40) hx hb dX6_unreadable_40 ?_
      refine lv_icmp_ne (pc := 41) hx hb (tgt := 48) dX6_unreadable_41 (by decide) (fun c_41 => ?_) (fun c_41 => ?_)
      · have hf := hf_f c_41 hf
        refine lv_bipush (pc := 48) hx hb (v := (-12)) dX6_unreadable_48 (by decide) ?_
        obtain rfl := Option.some.inj hf
        exact hR H locs 50 ls hP hD hS dX6_unreadable_50
      · have hf := hf_t c_41 hf
        refine lv_iconst (pc := 44) hx hb (v := 0) dX6_unreadable_44 (by decide) ?_
        refine lv_goto (pc := 45) hx hb (tgt := 50) dX6_unreadable_45 (by decide) ?_
        obtain rfl := Option.some.inj hf
        exact hR H locs 50 ls hP hD hS dX6_unreadable_50
    · have hf := hf_f c_16 hf
      refine lv_bipush (pc := 19) hx hb (v := (-13)) dX6_unreadable_19 (by decide) ?_
      obtain rfl := Option.some.inj hf
      exact hR H locs 21 ls hP hD hS dX6_unreadable_21
  · have hf := hf_t c_5 hf
    refine lv_bipush (pc := 8) hx hb (v := (-11)) dX6_unreadable_8 (by decide) ?_
    obtain rfl := Option.some.inj hf
    exact hR H locs 10 ls hP hD hS dX6_unreadable_10
set_option maxHeartbeats 4000000 in
set_option maxRecDepth 100000 in
theorem kX6_unreadable_36 (l : Launch) (D : va_G) (A : Nat → Nat) (B : Nat → ClassId) (sz : Nat) (S : w_S) (z : Int32) (hf : fX6_unreadable_36 S = some z) : MetW l yX6_unreadable (wsO yX6_unreadable cX6_unreadable 2 (some .int)) rm_X6_unreadable [.ref (A 0), .ref (A 36)] D (tyB B) (wX A B S) (wX A B S) sz (some (.int z)) := by
  refine MetW.mkI (cc := cX6_unreadable) (maxL := 2) (by decide) (Nat.le_of_ble_eq_true rfl) ?_
  intro p e s m args below meth c Ad Q hx hb hts hown hml hN hK hA hR H locs ls hP hD hS hl
  have hl : lv_has ls 2 [(0, .ref (A 0)), (1, .ref (A 36))] := hl
  rw [fX6_unreadable_36] at hf
  refine lv_aload_n (pc := 0) hx hb dX6_unreadable_0 rfl (lv_at hl 1 rfl) ?_
  refine vXgRX6_252_36 (pc := 1) hx hb hts mU_796 inU2 hown hK hP (x := (gI S 34)) rfl dX6_unreadable_1 ?_
  refine lv_iconst (pc := 4) hx hb (v := (-1)) dX6_unreadable_4 (by decide) ?_
  refine lv_icmp_ne (pc := 5) hx hb (tgt := 11) dX6_unreadable_5 (by decide) (fun c_5 => ?_) (fun c_5 => ?_)
  · have hf := hf_f c_5 hf
    refine lv_aload_n (pc := 11) hx hb dX6_unreadable_11 rfl (lv_at hl 1 rfl) ?_
    refine vXgRX6_252_36 (pc := 12) hx hb hts mU_796 inU2 hown hK hP (x := (gI S 34)) rfl dX6_unreadable_12 ?_
    refine lv_iconst (pc := 15) hx hb (v := 2) dX6_unreadable_15 (by decide) ?_
    refine lv_icmp_eq (pc := 16) hx hb (tgt := 22) dX6_unreadable_16 (by decide) (fun c_16 => ?_) (fun c_16 => ?_)
    · have hf := hf_t c_16 hf
      refine lv_aload_n (pc := 22) hx hb dX6_unreadable_22 rfl (lv_at hl 1 rfl) ?_
      refine vXgRX6_255_36 (pc := 23) hx hb hts mU_797 inU2 hown hK hP (x := (gI S 35)) rfl dX6_unreadable_23 ?_
      refine lv_aload_n (pc := 26) hx hb dX6_unreadable_26 rfl (lv_at hl 0 rfl) ?_
      refine vXgRX6_10_0 (pc := 27) hx hb hts mU_16 inU6 hown hK hP dX6_unreadable_27 ?_
      refine vXgRX6_60_1 (pc := 30) hx hb hts mU_111 inU4 hown hK hP (x := (gI S 0)) rfl dX6_unreadable_30 ?_
      refine lv_aload_n (pc := 33) hx hb dX6_unreadable_33 rfl (lv_at hl 0 rfl) ?_
      refine vXgRX6_10_0 (pc := 34) hx hb hts mU_16 inU6 hown hK hP dX6_unreadable_34 ?_
      refine vXgRX6_64_1 (pc := 37) hx hb hts mU_112 inU4 hown hK hP (x := (gI S 1)) rfl dX6_unreadable_37 ?_
      refine lv_imul (pc := 40) hx hb dX6_unreadable_40 ?_
      refine lv_icmp_ne (pc := 41) hx hb (tgt := 48) dX6_unreadable_41 (by decide) (fun c_41 => ?_) (fun c_41 => ?_)
      · have hf := hf_f c_41 hf
        refine lv_bipush (pc := 48) hx hb (v := (-12)) dX6_unreadable_48 (by decide) ?_
        obtain rfl := Option.some.inj hf
        exact hR H locs 50 ls hP hD hS dX6_unreadable_50
      · have hf := hf_t c_41 hf
        refine lv_iconst (pc := 44) hx hb (v := 0) dX6_unreadable_44 (by decide) ?_
        refine lv_goto (pc := 45) hx hb (tgt := 50) dX6_unreadable_45 (by decide) ?_
        obtain rfl := Option.some.inj hf
        exact hR H locs 50 ls hP hD hS dX6_unreadable_50
    · have hf := hf_f c_16 hf
      refine lv_bipush (pc := 19) hx hb (v := (-13)) dX6_unreadable_19 (by decide) ?_
      obtain rfl := Option.some.inj hf
      exact hR H locs 21 ls hP hD hS dX6_unreadable_21
  · have hf := hf_t c_5 hf
    refine lv_bipush (pc := 8) hx hb (v := (-11)) dX6_unreadable_8 (by decide) ?_
    obtain rfl := Option.some.inj hf
    exact hR H locs 10 ls hP hD hS dX6_unreadable_10
