set_option maxHeartbeats 4000000 in
set_option maxRecDepth 100000 in
theorem kX7_sets (l : Launch) (D : va_G) (A : Nat → Nat) (B : Nat → ClassId) (sz : Nat) (S : w_S) (a1 : Int32) (a2 : Int32) (a3 : Int32) (a4 : Int32) (z : w_S) (hf : fX7_sets S a1 a2 a3 a4 = some z) : MetW l yX7_sets (wsO yX7_sets cX7_sets 9 none) rm_X7_sets [.ref (A 0), .int a1, .int a2, .int a3, .int a4] D (tyB B) (wM A B S) (wM A B z) sz (none) := by
  refine MetW.mkV (cc := cX7_sets) (maxL := 9) (by decide) (Nat.le_of_ble_eq_true rfl) ?_
  intro p e s m args below meth c Ad Q hx hb hts hown hml hN hK hA hR H locs ls hP hD hS hl
  have hl : lv_has ls 9 [(0, .ref (A 0)), (1, .int a1), (2, .int a2), (3, .int a3), (4, .int a4)] := hl
  rw [fX7_sets] at hf
  refine lv_aload_n (pc := 0) hx hb dX7_sets_0 rfl (lv_at hl 0 rfl) ?_
  refine lv_iload_n (pc := 1) hx hb dX7_sets_1 rfl (lv_at hl 2 rfl) ?_
  obtain ⟨r2, hc2, hf⟩ := hf_b hf
  refine cl_V (pc := 2) (As := [.int a2]) (rest := []) hx hb hml hown hts (kX7_unknownsOf l D A B _ S a2 r2 hc2) (cwV 1 hts gwRX7_212 rfl rfl rfl hdX7_unknownsOf ⟨Nat.le_of_ble_eq_true rfl, Nat.le_of_ble_eq_true rfl⟩) hN hK hP hD hS hA (va_recv hK hP (ci := 7) (q0 := 0) rfl (eM_0 A B _)) rfl hl.1 rfl (Nat.le_of_ble_eq_true rfl) dX7_sets_2 (st1 := [.int r2.1]) rfl ⟨Nat.zero_le _, Nat.zero_le _⟩ (fun H locs hP hD hS => ?_)
  refine lv_istore (pc := 5) hx hb (lv' := [(5, .int r2.1), (0, .ref (A 0)), (1, .int a1), (2, .int a2), (3, .int a3), (4, .int a4)]) dX7_sets_5 hl (by decide) rfl (fun ls hl => ?_)
  refine lv_iload (pc := 7) hx hb dX7_sets_7 (lv_at hl 5 rfl) ?_
  refine lv_aload_n (pc := 9) hx hb dX7_sets_9 rfl (lv_at hl 1 rfl) ?_
  refine vMgRX7_23_0 (pc := 10) hx hb hts mU_85 inU7 hown hK hP (x := (gI r2.2 1)) rfl dX7_sets_10 ?_
  refine lv_imul (pc := 13) hx hb dX7_sets_13 ?_
  refine lv_istore (pc := 14) hx hb (lv' := [(6, .int (a4 * (gI r2.2 1))), (5, .int r2.1), (0, .ref (A 0)), (1, .int a1), (2, .int a2), (3, .int a3), (4, .int a4)]) dX7_sets_14 hl (by decide) rfl (fun ls hl => ?_)
  refine lv_aload_n (pc := 16) hx hb dX7_sets_16 rfl (lv_at hl 2 rfl) ?_
  refine lv_iload (pc := 17) hx hb dX7_sets_17 (lv_at hl 1 rfl) ?_
  refine lv_iload (pc := 19) hx hb dX7_sets_19 (lv_at hl 6 rfl) ?_
  obtain ⟨q30, hv30, hf⟩ := hf_b hf
  have hj30 : ∀ (H : Heap) (locs : List Loc) (ls : Array Slot), va_P D vwCl (wM A B r2.2) H → va_D Ad (wM A B r2.2) → va_S Ad s.heap H locs → lv_has ls 9 [(0, .ref (A 0)), (1, .int a1), (2, .int a2), (3, .int a3), (4, .int a4), (6, .int (a4 * (gI r2.2 1)))] → W p l e rm_X7_sets s m args below meth c H locs 0 0 Q (F0 m 30 ls [.int q30, .int r2.1, .ref (A 0)]) := by
    intro H locs ls hP hD hS hl
    refine lv_isub (pc := 30) hx hb dX7_sets_30 ?_
    refine vMpRX7_229_0 (pc := 31) hx hb hts mU_544 inU7 hown hK hP hD hS dX7_sets_31 (fun H locs hP hD hS => ?_)
    refine lv_aload_n (pc := 34) hx hb dX7_sets_34 rfl (lv_at hl 0 rfl) ?_
    refine lv_aload_n (pc := 35) hx hb dX7_sets_35 rfl (lv_at hl 0 rfl) ?_
    refine vMgRX7_19_0 (pc := 36) hx hb hts mU_84 inU7 hown hK hP (x := (gI r2.2 0)) rfl dX7_sets_36 ?_
    refine lv_aload_n (pc := 39) hx hb dX7_sets_39 rfl (lv_at hl 0 rfl) ?_
    refine vMgRX7_23_0 (pc := 40) hx hb hts mU_85 inU7 hown hK hP (x := (gI r2.2 1)) rfl dX7_sets_40 ?_
    refine lv_imul (pc := 43) hx hb dX7_sets_43 ?_
    refine lv_iload (pc := 44) hx hb dX7_sets_44 (lv_at hl 5 rfl) ?_
    refine lv_isub (pc := 46) hx hb dX7_sets_46 ?_
    refine vMpRX7_232_0 (pc := 47) hx hb hts mU_545 inU7 hown hK hP hD hS dX7_sets_47 (fun H locs hP hD hS => ?_)
    refine lv_iconst (pc := 50) hx hb (v := 0) dX7_sets_50 (by decide) ?_
    refine lv_istore (pc := 51) hx hb (lv' := [(7, .int 0), (0, .ref (A 0)), (1, .int a1), (2, .int a2), (3, .int a3), (4, .int a4), (6, .int (a4 * (gI r2.2 1)))]) dX7_sets_51 hl (by decide) rfl (fun ls hl => ?_)
    obtain ⟨q53, hq53, hf⟩ := hf_b hf
    have hk53 : ∀ (H : Heap) (locs : List Loc) (ls : Array Slot), va_P D vwCl (wM A B q53) H → va_D Ad (wM A B q53) → va_S Ad s.heap H locs → lv_has ls 9 [(0, .ref (A 0))] → W p l e rm_X7_sets s m args below meth c H locs 0 0 Q (F0 m 167 ls []) := by
      intro H locs ls hP hD hS hl
      refine lv_aload_n (pc := 167) hx hb dX7_sets_167 rfl (lv_at hl 0 rfl) ?_
      obtain ⟨r168, hc168, hf⟩ := hf_b hf
      refine cl_V (pc := 168) (As := []) (rest := []) hx hb hml hown hts (kX7_works l D A B _ q53 r168 hc168) (cwV 0 hts gwRX7_252 rfl rfl rfl hdX7_works ⟨Nat.le_of_ble_eq_true rfl, Nat.le_of_ble_eq_true rfl⟩) hN hK hP hD hS hA (va_recv hK hP (ci := 7) (q0 := 0) rfl (eM_0 A B _)) rfl hl.1 rfl (Nat.le_of_ble_eq_true rfl) dX7_sets_168 (st1 := []) rfl ⟨Nat.zero_le _, Nat.zero_le _⟩ (fun H locs hP hD hS => ?_)
      obtain rfl := Option.some.inj hf
      exact hR H locs 171 ls hP hD hS dX7_sets_171
    have lp53 : ∀ (n : Nat) (T53 : w_S) (u7_53 : Int32) (H : Heap) (locs : List Loc) (ls : Array Slot), fX7_sets_L53 a1 a2 a3 a4 (a4 * (gI r2.2 1)) n T53 u7_53 = some q53 → va_P D vwCl (wM A B T53) H → va_D Ad (wM A B T53) → va_S Ad s.heap H locs → lv_has ls 9 [(0, .ref (A 0)), (1, .int a1), (2, .int a2), (3, .int a3), (4, .int a4), (6, .int (a4 * (gI r2.2 1))), (7, .int u7_53)] → W p l e rm_X7_sets s m args below meth c H locs 0 0 Q (F0 m 53 ls []) := by
      intro n53
      induction n53 with
      | zero => intro T53 u7_53 H locs ls hq53; exact hf_0 hq53
      | succ n53 ih53 =>
        intro T53 u7_53 H locs ls hq53 hP hD hS hl
        rw [fX7_sets_L53] at hq53
        refine lv_iload (pc := 53) hx hb dX7_sets_53 (lv_at hl 6 rfl) ?_
        refine lv_aload_n (pc := 55) hx hb dX7_sets_55 rfl (lv_at hl 0 rfl) ?_
        refine vMgRX7_232_0 (pc := 56) hx hb hts mU_545 inU7 hown hK hP (x := (gI T53 14)) rfl dX7_sets_56 ?_
        refine lv_icmp_ge (pc := 59) hx hb (tgt := 167) dX7_sets_59 (by decide) (fun c_59 => ?_) (fun c_59 => ?_)
        · have hq53 := hf_t c_59 hq53
          obtain rfl := Option.some.inj hq53
          exact hk53 H locs ls hP hD hS (lv_sub hl [0] rfl)
        · have hq53 := hf_f c_59 hq53
          refine lv_iconst (pc := 62) hx hb (v := 0) dX7_sets_62 (by decide) ?_
          refine lv_istore (pc := 63) hx hb (lv' := [(8, .int 0), (0, .ref (A 0)), (1, .int a1), (2, .int a2), (3, .int a3), (4, .int a4), (6, .int (a4 * (gI r2.2 1))), (7, .int u7_53)]) dX7_sets_63 hl (by decide) rfl (fun ls hl => ?_)
          obtain ⟨q65, hq65, hq53⟩ := hf_b hq53
          have hk65 : ∀ (H : Heap) (locs : List Loc) (ls : Array Slot), va_P D vwCl (wM A B q65) H → va_D Ad (wM A B q65) → va_S Ad s.heap H locs → lv_has ls 9 [(0, .ref (A 0)), (1, .int a1), (2, .int a2), (3, .int a3), (4, .int a4), (6, .int (a4 * (gI r2.2 1))), (7, .int u7_53)] → W p l e rm_X7_sets s m args below meth c H locs 0 0 Q (F0 m 120 ls []) := by
            intro H locs ls hP hD hS hl
            refine lv_aload_n (pc := 120) hx hb dX7_sets_120 rfl (lv_at hl 0 rfl) ?_
            refine vMgRX7_48_0 (pc := 121) hx hb hts mU_93 inU7 hown hK hP dX7_sets_121 ?_
            refine lv_bipush (pc := 124) hx hb (v := 8) dX7_sets_124 (by decide) ?_
            refine lv_iload (pc := 126) hx hb dX7_sets_126 (lv_at hl 6 rfl) ?_
            refine lv_imul (pc := 128) hx hb dX7_sets_128 ?_
            refine lv_aload_n (pc := 129) hx hb dX7_sets_129 rfl (lv_at hl 0 rfl) ?_
            refine vMgRX7_229_0 (pc := 130) hx hb hts mU_544 inU7 hown hK hP (x := (gI q65 15)) rfl dX7_sets_130 ?_
            refine lv_iadd (pc := 133) hx hb dX7_sets_133 ?_
            refine lv_aload_n (pc := 134) hx hb dX7_sets_134 rfl (lv_at hl 0 rfl) ?_
            refine lv_iconst (pc := 135) hx hb (v := 2) dX7_sets_135 (by decide) ?_
            refine lv_iload (pc := 136) hx hb dX7_sets_136 (lv_at hl 6 rfl) ?_
            refine lv_iload (pc := 138) hx hb dX7_sets_138 (lv_at hl 5 rfl) ?_
            refine lv_iadd (pc := 140) hx hb dX7_sets_140 ?_
            refine lv_aload_n (pc := 141) hx hb dX7_sets_141 rfl (lv_at hl 0 rfl) ?_
            refine vMgRX7_23_0 (pc := 142) hx hb hts mU_85 inU7 hown hK hP (x := (gI q65 1)) rfl dX7_sets_142 ?_
            obtain ⟨hg145, hq53⟩ := hf_g hq53
            refine lv_idiv (pc := 145) hx hb dX7_sets_145 hg145 ?_
            refine lv_iload (pc := 146) hx hb dX7_sets_146 (lv_at hl 6 rfl) ?_
            refine lv_iload (pc := 148) hx hb dX7_sets_148 (lv_at hl 5 rfl) ?_
            refine lv_iadd (pc := 150) hx hb dX7_sets_150 ?_
            refine lv_aload_n (pc := 151) hx hb dX7_sets_151 rfl (lv_at hl 0 rfl) ?_
            refine vMgRX7_23_0 (pc := 152) hx hb hts mU_85 inU7 hown hK hP (x := (gI q65 1)) rfl dX7_sets_152 ?_
            obtain ⟨hg155, hq53⟩ := hf_g hq53
            refine lv_irem (pc := 155) hx hb dX7_sets_155 hg155 ?_
            obtain ⟨r156, hc156, hq53⟩ := hf_b hq53
            refine cl_V (pc := 156) (As := [.int 2, .int ((u7_53 + (a4 * (gI r2.2 1))) / (gI q65 1)), .int ((u7_53 + (a4 * (gI r2.2 1))) - (u7_53 + (a4 * (gI r2.2 1))) / (gI q65 1) * (gI q65 1))]) (rest := [.int ((8 * u7_53) + (gI q65 15)), .ref (A 10)]) hx hb hml hown hts (kX7_its l D A B _ q65 2 ((u7_53 + (a4 * (gI r2.2 1))) / (gI q65 1)) ((u7_53 + (a4 * (gI r2.2 1))) - (u7_53 + (a4 * (gI r2.2 1))) / (gI q65 1) * (gI q65 1)) r156 hc156) (cwV 3 hts gwRX7_128 rfl rfl rfl hdX7_its ⟨Nat.le_of_ble_eq_true rfl, Nat.le_of_ble_eq_true rfl⟩) hN hK hP hD hS hA (va_recv hK hP (ci := 7) (q0 := 0) rfl (eM_0 A B _)) rfl hl.1 rfl (Nat.le_of_ble_eq_true rfl) dX7_sets_156 (st1 := [.int r156, .int ((8 * u7_53) + (gI q65 15)), .ref (A 10)]) rfl ⟨Nat.zero_le _, Nat.zero_le _⟩ (fun H locs hP hD hS => ?_)
            refine lv_i2l (pc := 159) hx hb (v := r156.toInt64) dX7_sets_159 rfl ?_
            obtain ⟨hg160, hq53⟩ := hf_g hq53
            refine vMwa_10 (pc := 160) hx hb hK hP hD hS (f := (gB q65 0)) rfl hg160 dX7_sets_160 (fun H locs hP hD hS => ?_)
            refine lv_iinc (pc := 161) hx hb (v := u7_53 + 1) (lv' := [(7, .int (u7_53 + 1)), (0, .ref (A 0)), (1, .int a1), (2, .int a2), (3, .int a3), (4, .int a4), (6, .int (a4 * (gI r2.2 1)))]) dX7_sets_161 hl (k := 6) rfl rfl (by decide) rfl (fun ls hl => ?_)
            refine lv_goto (pc := 164) hx hb (tgt := 53) dX7_sets_164 (by decide) ?_
            exact ih53 (sB q65 0 (vp_updL (gB q65 0) ((8 * u7_53) + (gI q65 15)).toNatClampNeg r156.toInt64)) (u7_53 + 1) H locs ls hq53 hP hD hS (lv_sub hl [1, 2, 3, 4, 5, 6, 0] rfl)
          have lp65 : ∀ (n : Nat) (T65 : w_S) (u8_65 : Int32) (H : Heap) (locs : List Loc) (ls : Array Slot), fX7_sets_L65 a1 a2 a3 a4 (a4 * (gI r2.2 1)) u7_53 n T65 u8_65 = some q65 → va_P D vwCl (wM A B T65) H → va_D Ad (wM A B T65) → va_S Ad s.heap H locs → lv_has ls 9 [(0, .ref (A 0)), (1, .int a1), (2, .int a2), (3, .int a3), (4, .int a4), (6, .int (a4 * (gI r2.2 1))), (7, .int u7_53), (8, .int u8_65)] → W p l e rm_X7_sets s m args below meth c H locs 0 0 Q (F0 m 65 ls []) := by
            intro n65
            induction n65 with
            | zero => intro T65 u8_65 H locs ls hq65; exact hf_0 hq65
            | succ n65 ih65 =>
              intro T65 u8_65 H locs ls hq65 hP hD hS hl
              rw [fX7_sets_L65] at hq65
              refine lv_iload (pc := 65) hx hb dX7_sets_65 (lv_at hl 7 rfl) ?_
              refine lv_aload_n (pc := 67) hx hb dX7_sets_67 rfl (lv_at hl 0 rfl) ?_
              refine vMgRX7_229_0 (pc := 68) hx hb hts mU_544 inU7 hown hK hP (x := (gI T65 15)) rfl dX7_sets_68 ?_
              refine lv_icmp_ge (pc := 71) hx hb (tgt := 120) dX7_sets_71 (by decide) (fun c_71 => ?_) (fun c_71 => ?_)
              · have hq65 := hf_t c_71 hq65
                obtain rfl := Option.some.inj hq65
                exact hk65 H locs ls hP hD hS (lv_sub hl [0, 1, 2, 3, 4, 5, 6] rfl)
              · have hq65 := hf_f c_71 hq65
                refine lv_aload_n (pc := 74) hx hb dX7_sets_74 rfl (lv_at hl 0 rfl) ?_
                refine vMgRX7_48_0 (pc := 75) hx hb hts mU_93 inU7 hown hK hP dX7_sets_75 ?_
                refine lv_bipush (pc := 78) hx hb (v := 8) dX7_sets_78 (by decide) ?_
                refine lv_iload (pc := 80) hx hb dX7_sets_80 (lv_at hl 6 rfl) ?_
                refine lv_imul (pc := 82) hx hb dX7_sets_82 ?_
                refine lv_iload (pc := 83) hx hb dX7_sets_83 (lv_at hl 7 rfl) ?_
                refine lv_iadd (pc := 85) hx hb dX7_sets_85 ?_
                refine lv_aload_n (pc := 86) hx hb dX7_sets_86 rfl (lv_at hl 0 rfl) ?_
                refine lv_iload_n (pc := 87) hx hb dX7_sets_87 rfl (lv_at hl 1 rfl) ?_
                refine lv_iload_n (pc := 88) hx hb dX7_sets_88 rfl (lv_at hl 2 rfl) ?_
                refine lv_iload_n (pc := 89) hx hb dX7_sets_89 rfl (lv_at hl 3 rfl) ?_
                refine lv_iload (pc := 90) hx hb dX7_sets_90 (lv_at hl 6 rfl) ?_
                refine lv_iload (pc := 92) hx hb dX7_sets_92 (lv_at hl 5 rfl) ?_
                refine lv_iadd (pc := 94) hx hb dX7_sets_94 ?_
                refine lv_iload (pc := 95) hx hb dX7_sets_95 (lv_at hl 7 rfl) ?_
                refine lv_iload (pc := 97) hx hb dX7_sets_97 (lv_at hl 4 rfl) ?_
                obtain ⟨q108, hv108, hq65⟩ := hf_b hq65
                have hj108 : ∀ (H : Heap) (locs : List Loc) (ls : Array Slot), va_P D vwCl (wM A B T65) H → va_D Ad (wM A B T65) → va_S Ad s.heap H locs → lv_has ls 9 [(0, .ref (A 0)), (1, .int a1), (2, .int a2), (3, .int a3), (4, .int a4), (6, .int (a4 * (gI r2.2 1))), (7, .int u7_53), (8, .int u8_65)] → W p l e rm_X7_sets s m args below meth c H locs 0 0 Q (F0 m 108 ls [.int q108, .int u8_65, .int (u7_53 + (a4 * (gI r2.2 1))), .int a3, .int a2, .int a1, .ref (A 0), .int ((8 * u7_53) + u8_65), .ref (A 10)]) := by
                  intro H locs ls hP hD hS hl
                  refine lv_iadd (pc := 108) hx hb dX7_sets_108 ?_
                  obtain ⟨r109, hc109, hq65⟩ := hf_b hq65
                  refine cl_V (pc := 109) (As := [.int a1, .int a2, .int a3, .int (u7_53 + (a4 * (gI r2.2 1))), .int (u8_65 + q108)]) (rest := [.int ((8 * u7_53) + u8_65), .ref (A 10)]) hx hb hml hown hts (kX7_takenBy l D A B _ T65 a1 a2 a3 (u7_53 + (a4 * (gI r2.2 1))) (u8_65 + q108) r109 hc109) (cwV 5 hts gwRX7_249 rfl rfl rfl hdX7_takenBy ⟨Nat.le_of_ble_eq_true rfl, Nat.le_of_ble_eq_true rfl⟩) hN hK hP hD hS hA (va_recv hK hP (ci := 7) (q0 := 0) rfl (eM_0 A B _)) rfl hl.1 rfl (Nat.le_of_ble_eq_true rfl) dX7_sets_109 (st1 := [.int r109, .int ((8 * u7_53) + u8_65), .ref (A 10)]) rfl ⟨Nat.zero_le _, Nat.zero_le _⟩ (fun H locs hP hD hS => ?_)
                  refine lv_i2l (pc := 112) hx hb (v := r109.toInt64) dX7_sets_112 rfl ?_
                  obtain ⟨hg113, hq65⟩ := hf_g hq65
                  refine vMwa_10 (pc := 113) hx hb hK hP hD hS (f := (gB T65 0)) rfl hg113 dX7_sets_113 (fun H locs hP hD hS => ?_)
                  refine lv_iinc (pc := 114) hx hb (v := u8_65 + 1) (lv' := [(8, .int (u8_65 + 1)), (0, .ref (A 0)), (1, .int a1), (2, .int a2), (3, .int a3), (4, .int a4), (6, .int (a4 * (gI r2.2 1))), (7, .int u7_53)]) dX7_sets_114 hl (k := 7) rfl rfl (by decide) rfl (fun ls hl => ?_)
                  refine lv_goto (pc := 117) hx hb (tgt := 65) dX7_sets_117 (by decide) ?_
                  exact ih65 (sB T65 0 (vp_updL (gB T65 0) ((8 * u7_53) + u8_65).toNatClampNeg r109.toInt64)) (u8_65 + 1) H locs ls hq65 hP hD hS (lv_sub hl [1, 2, 3, 4, 5, 6, 7, 0] rfl)
                refine lv_if_ne (pc := 99) hx hb (tgt := 106) dX7_sets_99 (by decide) (fun c_99 => ?_) (fun c_99 => ?_)
                · have hv108 := hf_f c_99 hv108
                  refine lv_iload (pc := 106) hx hb dX7_sets_106 (lv_at hl 5 rfl) ?_
                  obtain rfl := Option.some.inj hv108
                  exact hj108 H locs ls hP hD hS (lv_sub hl [0, 1, 2, 3, 4, 5, 6, 7] rfl)
                · have hv108 := hf_t c_99 hv108
                  refine lv_iconst (pc := 102) hx hb (v := 0) dX7_sets_102 (by decide) ?_
                  refine lv_goto (pc := 103) hx hb (tgt := 108) dX7_sets_103 (by decide) ?_
                  obtain rfl := Option.some.inj hv108
                  exact hj108 H locs ls hP hD hS (lv_sub hl [0, 1, 2, 3, 4, 5, 6, 7] rfl)
          exact lp65 256 T53 0 H locs ls hq65 hP hD hS (lv_sub hl [1, 2, 3, 4, 5, 6, 7, 0] rfl)
    exact lp53 256 (sI (sI r2.2 15 (r2.1 - q30)) 14 (((gI r2.2 0) * (gI r2.2 1)) - (a4 * (gI r2.2 1)))) 0 H locs ls hq53 hP hD hS (lv_sub hl [1, 2, 3, 4, 5, 6, 0] rfl)
  refine lv_if_ne (pc := 21) hx hb (tgt := 28) dX7_sets_21 (by decide) (fun c_21 => ?_) (fun c_21 => ?_)
  · have hv30 := hf_f c_21 hv30
    refine lv_iload (pc := 28) hx hb dX7_sets_28 (lv_at hl 0 rfl) ?_
    obtain rfl := Option.some.inj hv30
    exact hj30 H locs ls hP hD hS (lv_sub hl [2, 3, 4, 5, 6, 0] rfl)
  · have hv30 := hf_t c_21 hv30
    refine lv_iconst (pc := 24) hx hb (v := 0) dX7_sets_24 (by decide) ?_
    refine lv_goto (pc := 25) hx hb (tgt := 30) dX7_sets_25 (by decide) ?_
    obtain rfl := Option.some.inj hv30
    exact hj30 H locs ls hP hD hS (lv_sub hl [2, 3, 4, 5, 6, 0] rfl)
set_option maxHeartbeats 4000000 in
set_option maxRecDepth 100000 in
theorem kX7_setsUp (l : Launch) (D : va_G) (A : Nat → Nat) (B : Nat → ClassId) (sz : Nat) (S : w_S) (a1 : Int32) (z : w_S) (hf : fX7_setsUp S a1 = some z) : MetW l yX7_setsUp (wsO yX7_setsUp cX7_setsUp 2 none) rm_X7_setsUp [.ref (A 0), .int a1] D (tyB B) (wM A B S) (wM A B z) sz (none) := by
  refine MetW.mkV (cc := cX7_setsUp) (maxL := 2) (by decide) (Nat.le_of_ble_eq_true rfl) ?_
  intro p e s m args below meth c Ad Q hx hb hts hown hml hN hK hA hR H locs ls hP hD hS hl
  have hl : lv_has ls 2 [(0, .ref (A 0)), (1, .int a1)] := hl
  rw [fX7_setsUp] at hf
  refine lv_aload_n (pc := 0) hx hb dX7_setsUp_0 rfl (lv_at hl 0 rfl) ?_
  refine lv_aload_n (pc := 1) hx hb dX7_setsUp_1 rfl (lv_at hl 0 rfl) ?_
  refine vMgRX7_29_0 (pc := 2) hx hb hts mU_87 inU7 hown hK hP dX7_setsUp_2 ?_
  refine lv_iload_n (pc := 5) hx hb dX7_setsUp_5 rfl (lv_at hl 1 rfl) ?_
  obtain ⟨hg6, hf⟩ := hf_g hf
  refine vMra_4 (pc := 6) hx hb hK hP (f := (gA S 3)) rfl hg6 dX7_setsUp_6 ?_
  refine lv_aload_n (pc := 7) hx hb dX7_setsUp_7 rfl (lv_at hl 0 rfl) ?_
  refine vMgRX7_29_0 (pc := 8) hx hb hts mU_87 inU7 hown hK hP dX7_setsUp_8 ?_
  refine lv_iload_n (pc := 11) hx hb dX7_setsUp_11 rfl (lv_at hl 1 rfl) ?_
  obtain ⟨hg12, hf⟩ := hf_g hf
  refine vMra_4 (pc := 12) hx hb hK hP (f := (gA S 3)) rfl hg12 dX7_setsUp_12 ?_
  refine lv_aload_n (pc := 13) hx hb dX7_setsUp_13 rfl (lv_at hl 0 rfl) ?_
  refine vMgRX7_32_0 (pc := 14) hx hb hts mU_88 inU7 hown hK hP dX7_setsUp_14 ?_
  refine lv_iload_n (pc := 17) hx hb dX7_setsUp_17 rfl (lv_at hl 1 rfl) ?_
  obtain ⟨hg18, hf⟩ := hf_g hf
  refine vMra_5 (pc := 18) hx hb hK hP (f := (gA S 4)) rfl hg18 dX7_setsUp_18 ?_
  refine lv_iconst (pc := 19) hx hb (v := 0) dX7_setsUp_19 (by decide) ?_
  obtain ⟨r20, hc20, hf⟩ := hf_b hf
  refine cl_V (pc := 20) (As := [.int ((gA S 3) a1.toNatClampNeg), .int ((gA S 3) a1.toNatClampNeg), .int ((gA S 4) a1.toNatClampNeg), .int 0]) (rest := []) hx hb hml hown hts (kX7_sets l D A B _ S ((gA S 3) a1.toNatClampNeg) ((gA S 3) a1.toNatClampNeg) ((gA S 4) a1.toNatClampNeg) 0 r20 hc20) (cwV 4 hts gwRX7_255 rfl rfl rfl hdX7_sets ⟨Nat.le_of_ble_eq_true rfl, Nat.le_of_ble_eq_true rfl⟩) hN hK hP hD hS hA (va_recv hK hP (ci := 7) (q0 := 0) rfl (eM_0 A B _)) rfl hl.1 rfl (Nat.le_of_ble_eq_true rfl) dX7_setsUp_20 (st1 := []) rfl ⟨Nat.zero_le _, Nat.zero_le _⟩ (fun H locs hP hD hS => ?_)
  obtain rfl := Option.some.inj hf
  exact hR H locs 23 ls hP hD hS dX7_setsUp_23
set_option maxHeartbeats 4000000 in
set_option maxRecDepth 100000 in
theorem kX7_of (l : Launch) (D : va_G) (A : Nat → Nat) (B : Nat → ClassId) (sz : Nat) (S : w_S) (a1 : Int32) (a2 : Int32) (z : Int32 × w_S) (hf : fX7_of S a1 a2 = some z) : MetW l yX7_of (wsO yX7_of cX7_of 4 (some .int)) rm_X7_of [.ref (A 0), .int a1, .int a2] D (tyB B) (wM A B S) (wM A B z.2) sz (some (.int z.1)) := by
  refine MetW.mkI (cc := cX7_of) (maxL := 4) (by decide) (Nat.le_of_ble_eq_true rfl) ?_
  intro p e s m args below meth c Ad Q hx hb hts hown hml hN hK hA hR H locs ls hP hD hS hl
  have hl : lv_has ls 4 [(0, .ref (A 0)), (1, .int a1), (2, .int a2)] := hl
  rw [fX7_of] at hf
  refine lv_aload_n (pc := 0) hx hb dX7_of_0 rfl (lv_at hl 0 rfl) ?_
  refine lv_iload_n (pc := 1) hx hb dX7_of_1 rfl (lv_at hl 1 rfl) ?_
  obtain ⟨r2, hc2, hf⟩ := hf_b hf
  refine cl_V (pc := 2) (As := [.int a1]) (rest := []) hx hb hml hown hts (kX7_isEquation l D A B _ S a1 r2 hc2) (cwV 1 hts gwRX7_203 rfl rfl rfl hdX7_isEquation ⟨Nat.le_of_ble_eq_true rfl, Nat.le_of_ble_eq_true rfl⟩) hN hK hP hD hS hA (va_recv hK hP (ci := 7) (q0 := 0) rfl (eM_0 A B _)) rfl hl.1 rfl (Nat.le_of_ble_eq_true rfl) dX7_of_2 (st1 := [.int r2]) rfl ⟨Nat.zero_le _, Nat.zero_le _⟩ (fun H locs hP hD hS => ?_)
  refine lv_if_eq (pc := 5) hx hb (tgt := 20) dX7_of_5 (by decide) (fun c_5 => ?_) (fun c_5 => ?_)
  · have hf := hf_t c_5 hf
    refine lv_iconst (pc := 20) hx hb (v := (-1)) dX7_of_20 (by decide) ?_
    obtain rfl := Option.some.inj hf
    exact hR H locs 21 ls hP hD hS dX7_of_21
  · have hf := hf_f c_5 hf
    refine lv_iload_n (pc := 8) hx hb dX7_of_8 rfl (lv_at hl 2 rfl) ?_
    refine lv_i2l (pc := 9) hx hb (v := a2.toInt64) dX7_of_9 rfl ?_
    refine lv_lconst (pc := 10) hx hb (v := 0) dX7_of_10 (by decide) ?_
    refine lv_ldc2 (pc := 11) hx hb (v := 6) hown (hts (.constantLong RX7 193 (6)) mU_388) dX7_of_11 ?_
    obtain ⟨r14, hc14, hf⟩ := hf_b hf
    refine cl_S (pc := 14) (As := [.long a2.toInt64, .long 0, .long 6]) (rest := []) hx hb hml hown hts (kX7_in l D A B _ S a2.toInt64 0 6 r14 hc14) (va_cwS 3 hts gwRX7_99 rfl rfl rfl hdX7_in ⟨Nat.le_of_ble_eq_true rfl, Nat.le_of_ble_eq_true rfl⟩) hN hK hP hD hS hA rfl hl.1 rfl (Nat.le_of_ble_eq_true rfl) dX7_of_14 (st1 := [.int r14]) rfl ⟨Nat.zero_le _, Nat.zero_le _⟩ (fun H locs hP hD hS => ?_)
    refine lv_if_ne (pc := 17) hx hb (tgt := 22) dX7_of_17 (by decide) (fun c_17 => ?_) (fun c_17 => ?_)
    · have hf := hf_f c_17 hf
      refine lv_aload_n (pc := 22) hx hb dX7_of_22 rfl (lv_at hl 0 rfl) ?_
      refine vMgRX7_29_0 (pc := 23) hx hb hts mU_87 inU7 hown hK hP dX7_of_23 ?_
      refine lv_iload_n (pc := 26) hx hb dX7_of_26 rfl (lv_at hl 1 rfl) ?_
      obtain ⟨hg27, hf⟩ := hf_g hf
      refine vMra_4 (pc := 27) hx hb hK hP (f := (gA S 3)) rfl hg27 dX7_of_27 ?_
      refine lv_istore_n (pc := 28) hx hb (lv' := [(3, .int ((gA S 3) a1.toNatClampNeg)), (0, .ref (A 0)), (1, .int a1), (2, .int a2)]) dX7_of_28 rfl hl (by decide) rfl (fun ls hl => ?_)
      refine lv_iload_n (pc := 29) hx hb dX7_of_29 rfl (lv_at hl 3 rfl) ?_
      refine lv_iconst (pc := 30) hx hb (v := 3) dX7_of_30 (by decide) ?_
      refine lv_icmp_ge (pc := 31) hx hb (tgt := 73) dX7_of_31 (by decide) (fun c_31 => ?_) (fun c_31 => ?_)
      · have hf := hf_t c_31 hf
        refine lv_iload_n (pc := 73) hx hb dX7_of_73 rfl (lv_at hl 3 rfl) ?_
        refine lv_iconst (pc := 74) hx hb (v := 3) dX7_of_74 (by decide) ?_
        refine lv_icmp_ne (pc := 75) hx hb (tgt := 97) dX7_of_75 (by decide) (fun c_75 => ?_) (fun c_75 => ?_)
        · have hf := hf_f c_75 hf
          refine lv_aload_n (pc := 97) hx hb dX7_of_97 rfl (lv_at hl 1 rfl) ?_
          refine lv_iload_n (pc := 98) hx hb dX7_of_98 rfl (lv_at hl 0 rfl) ?_
          obtain ⟨r99, hc99, hf⟩ := hf_b hf
          refine cl_V (pc := 99) (As := [.int ((gA S 3) a1.toNatClampNeg)]) (rest := []) hx hb hml hown hts (kX7_isFit l D A B _ S ((gA S 3) a1.toNatClampNeg) r99 hc99) (cwV 1 hts gwRX7_259 rfl rfl rfl hdX7_isFit ⟨Nat.le_of_ble_eq_true rfl, Nat.le_of_ble_eq_true rfl⟩) hN hK hP hD hS hA (va_recv hK hP (ci := 7) (q0 := 0) rfl (eM_0 A B _)) rfl hl.1 rfl (Nat.le_of_ble_eq_true rfl) dX7_of_99 (st1 := [.int r99.1]) rfl ⟨Nat.zero_le _, Nat.zero_le _⟩ (fun H locs hP hD hS => ?_)
          refine lv_if_ne (pc := 102) hx hb (tgt := 108) dX7_of_102 (by decide) (fun c_102 => ?_) (fun c_102 => ?_)
          · have hf := hf_f c_102 hf
            refine lv_aload_n (pc := 108) hx hb dX7_of_108 rfl (lv_at hl 1 rfl) ?_
            refine lv_iload_n (pc := 109) hx hb dX7_of_109 rfl (lv_at hl 2 rfl) ?_
            obtain ⟨r110, hc110, hf⟩ := hf_b hf
            refine cl_V (pc := 110) (As := [.int a1]) (rest := []) hx hb hml hown hts (kX7_setsUp l D A B _ r99.2 a1 r110 hc110) (cwV 1 hts gwRX7_262 rfl rfl rfl hdX7_setsUp ⟨Nat.le_of_ble_eq_true rfl, Nat.le_of_ble_eq_true rfl⟩) hN hK hP hD hS hA (va_recv hK hP (ci := 7) (q0 := 0) rfl (eM_0 A B _)) rfl hl.1 rfl (Nat.le_of_ble_eq_true rfl) dX7_of_110 (st1 := []) rfl ⟨Nat.zero_le _, Nat.zero_le _⟩ (fun H locs hP hD hS => ?_)
            refine lv_iload_n (pc := 113) hx hb dX7_of_113 rfl (lv_at hl 3 rfl) ?_
            refine lv_iconst (pc := 114) hx hb (v := 4) dX7_of_114 (by decide) ?_
            refine lv_icmp_ne (pc := 115) hx hb (tgt := 125) dX7_of_115 (by decide) (fun c_115 => ?_) (fun c_115 => ?_)
            · have hf := hf_f c_115 hf
              refine lv_iload_n (pc := 125) hx hb dX7_of_125 rfl (lv_at hl 3 rfl) ?_
              refine lv_iconst (pc := 126) hx hb (v := 5) dX7_of_126 (by decide) ?_
              refine lv_icmp_ne (pc := 127) hx hb (tgt := 137) dX7_of_127 (by decide) (fun c_127 => ?_) (fun c_127 => ?_)
              · have hf := hf_f c_127 hf
                refine lv_aload_n (pc := 137) hx hb dX7_of_137 rfl (lv_at hl 1 rfl) ?_
                obtain ⟨r138, hc138, hf⟩ := hf_b hf
                refine cl_V (pc := 138) (As := []) (rest := []) hx hb hml hown hts (kX7_isSolved l D A B _ r110 r138 hc138) (cwV 0 hts gwRX7_270 rfl rfl rfl hdX7_isSolved ⟨Nat.le_of_ble_eq_true rfl, Nat.le_of_ble_eq_true rfl⟩) hN hK hP hD hS hA (va_recv hK hP (ci := 7) (q0 := 0) rfl (eM_0 A B _)) rfl hl.1 rfl (Nat.le_of_ble_eq_true rfl) dX7_of_138 (st1 := [.int r138]) rfl ⟨Nat.zero_le _, Nat.zero_le _⟩ (fun H locs hP hD hS => ?_)
                refine lv_if_eq (pc := 141) hx hb (tgt := 148) dX7_of_141 (by decide) (fun c_141 => ?_) (fun c_141 => ?_)
                · have hf := hf_t c_141 hf
                  refine lv_iconst (pc := 148) hx hb (v := 0) dX7_of_148 (by decide) ?_
                  obtain rfl := Option.some.inj hf
                  exact hR H locs 149 ls hP hD hS dX7_of_149
                · have hf := hf_f c_141 hf
                  refine lv_iconst (pc := 144) hx hb (v := 1) dX7_of_144 (by decide) ?_
                  refine lv_goto (pc := 145) hx hb (tgt := 149) dX7_of_145 (by decide) ?_
                  obtain rfl := Option.some.inj hf
                  exact hR H locs 149 ls hP hD hS dX7_of_149
              · have hf := hf_t c_127 hf
                refine lv_aload_n (pc := 130) hx hb dX7_of_130 rfl (lv_at hl 1 rfl) ?_
                obtain ⟨r131, hc131, hf⟩ := hf_b hf
                refine cl_V (pc := 131) (As := []) (rest := []) hx hb hml hown hts (kX7_freeOnes l D A B _ r110 r131 hc131) (cwV 0 hts gwRX7_266 rfl rfl rfl hdX7_freeOnes ⟨Nat.le_of_ble_eq_true rfl, Nat.le_of_ble_eq_true rfl⟩) hN hK hP hD hS hA (va_recv hK hP (ci := 7) (q0 := 0) rfl (eM_0 A B _)) rfl hl.1 rfl (Nat.le_of_ble_eq_true rfl) dX7_of_131 (st1 := [.int r131]) rfl ⟨Nat.zero_le _, Nat.zero_le _⟩ (fun H locs hP hD hS => ?_)
                refine lv_goto (pc := 134) hx hb (tgt := 149) dX7_of_134 (by decide) ?_
                obtain rfl := Option.some.inj hf
                exact hR H locs 149 ls hP hD hS dX7_of_149
            · have hf := hf_t c_115 hf
              refine lv_aload_n (pc := 118) hx hb dX7_of_118 rfl (lv_at hl 1 rfl) ?_
              refine vMgRX7_239_0 (pc := 119) hx hb hts mU_516 inU7 hown hK hP (x := (gI r110 16)) rfl dX7_of_119 ?_
              refine lv_goto (pc := 122) hx hb (tgt := 149) dX7_of_122 (by decide) ?_
              obtain rfl := Option.some.inj hf
              exact hR H locs 149 ls hP hD hS dX7_of_149
          · have hf := hf_t c_102 hf
            refine lv_bipush (pc := 105) hx hb (v := (-4)) dX7_of_105 (by decide) ?_
            obtain rfl := Option.some.inj hf
            exact hR H locs 107 ls hP hD hS dX7_of_107
        · have hf := hf_t c_75 hf
          refine lv_aload_n (pc := 78) hx hb dX7_of_78 rfl (lv_at hl 1 rfl) ?_
          refine lv_iload_n (pc := 79) hx hb dX7_of_79 rfl (lv_at hl 0 rfl) ?_
          obtain ⟨r80, hc80, hf⟩ := hf_b hf
          refine cl_V (pc := 80) (As := [.int ((gA S 3) a1.toNatClampNeg)]) (rest := []) hx hb hml hown hts (kX7_isLike l D A B _ S ((gA S 3) a1.toNatClampNeg) r80 hc80) (cwV 1 hts gwRX7_209 rfl rfl rfl hdX7_isLike ⟨Nat.le_of_ble_eq_true rfl, Nat.le_of_ble_eq_true rfl⟩) hN hK hP hD hS hA (va_recv hK hP (ci := 7) (q0 := 0) rfl (eM_0 A B _)) rfl hl.1 rfl (Nat.le_of_ble_eq_true rfl) dX7_of_80 (st1 := [.int r80]) rfl ⟨Nat.zero_le _, Nat.zero_le _⟩ (fun H locs hP hD hS => ?_)
          refine lv_if_eq (pc := 83) hx hb (tgt := 94) dX7_of_83 (by decide) (fun c_83 => ?_) (fun c_83 => ?_)
          · have hf := hf_t c_83 hf
            refine lv_bipush (pc := 94) hx hb (v := (-4)) dX7_of_94 (by decide) ?_
            obtain rfl := Option.some.inj hf
            exact hR H locs 96 ls hP hD hS dX7_of_96
          · have hf := hf_f c_83 hf
            refine lv_aload_n (pc := 86) hx hb dX7_of_86 rfl (lv_at hl 1 rfl) ?_
            refine lv_iload_n (pc := 87) hx hb dX7_of_87 rfl (lv_at hl 0 rfl) ?_
            obtain ⟨r88, hc88, hf⟩ := hf_b hf
            refine cl_V (pc := 88) (As := [.int ((gA S 3) a1.toNatClampNeg)]) (rest := []) hx hb hml hown hts (kX7_unknownsOf l D A B _ S ((gA S 3) a1.toNatClampNeg) r88 hc88) (cwV 1 hts gwRX7_212 rfl rfl rfl hdX7_unknownsOf ⟨Nat.le_of_ble_eq_true rfl, Nat.le_of_ble_eq_true rfl⟩) hN hK hP hD hS hA (va_recv hK hP (ci := 7) (q0 := 0) rfl (eM_0 A B _)) rfl hl.1 rfl (Nat.le_of_ble_eq_true rfl) dX7_of_88 (st1 := [.int r88.1]) rfl ⟨Nat.zero_le _, Nat.zero_le _⟩ (fun H locs hP hD hS => ?_)
            refine lv_goto (pc := 91) hx hb (tgt := 96) dX7_of_91 (by decide) ?_
            obtain rfl := Option.some.inj hf
            exact hR H locs 96 ls hP hD hS dX7_of_96
      · have hf := hf_f c_31 hf
        refine lv_iload_n (pc := 34) hx hb dX7_of_34 rfl (lv_at hl 3 rfl) ?_
        refine lv_if_ne (pc := 35) hx hb (tgt := 42) dX7_of_35 (by decide) (fun c_35 => ?_) (fun c_35 => ?_)
        · have hf := hf_f c_35 hf
          refine lv_iload_n (pc := 42) hx hb dX7_of_42 rfl (lv_at hl 3 rfl) ?_
          refine lv_iconst (pc := 43) hx hb (v := 1) dX7_of_43 (by decide) ?_
          refine lv_icmp_ne (pc := 44) hx hb (tgt := 59) dX7_of_44 (by decide) (fun c_44 => ?_) (fun c_44 => ?_)
          · have hf := hf_f c_44 hf
            refine lv_aload_n (pc := 59) hx hb dX7_of_59 rfl (lv_at hl 1 rfl) ?_
            refine lv_iload_n (pc := 60) hx hb dX7_of_60 rfl (lv_at hl 0 rfl) ?_
            obtain ⟨r61, hc61, hf⟩ := hf_b hf
            refine cl_V (pc := 61) (As := [.int ((gA S 3) a1.toNatClampNeg)]) (rest := []) hx hb hml hown hts (kX7_isFit l D A B _ S ((gA S 3) a1.toNatClampNeg) r61 hc61) (cwV 1 hts gwRX7_259 rfl rfl rfl hdX7_isFit ⟨Nat.le_of_ble_eq_true rfl, Nat.le_of_ble_eq_true rfl⟩) hN hK hP hD hS hA (va_recv hK hP (ci := 7) (q0 := 0) rfl (eM_0 A B _)) rfl hl.1 rfl (Nat.le_of_ble_eq_true rfl) dX7_of_61 (st1 := [.int r61.1]) rfl ⟨Nat.zero_le _, Nat.zero_le _⟩ (fun H locs hP hD hS => ?_)
            refine lv_if_eq (pc := 64) hx hb (tgt := 71) dX7_of_64 (by decide) (fun c_64 => ?_) (fun c_64 => ?_)
            · have hf := hf_t c_64 hf
              refine lv_iconst (pc := 71) hx hb (v := 0) dX7_of_71 (by decide) ?_
              obtain rfl := Option.some.inj hf
              exact hR H locs 72 ls hP hD hS dX7_of_72
            · have hf := hf_f c_64 hf
              refine lv_iconst (pc := 67) hx hb (v := 1) dX7_of_67 (by decide) ?_
              refine lv_goto (pc := 68) hx hb (tgt := 72) dX7_of_68 (by decide) ?_
              obtain rfl := Option.some.inj hf
              exact hR H locs 72 ls hP hD hS dX7_of_72
          · have hf := hf_t c_44 hf
            refine lv_bipush (pc := 47) hx hb (v := 10) dX7_of_47 (by decide) ?_
            refine lv_aload_n (pc := 49) hx hb dX7_of_49 rfl (lv_at hl 1 rfl) ?_
            refine vMgRX7_32_0 (pc := 50) hx hb hts mU_88 inU7 hown hK hP dX7_of_50 ?_
            refine lv_iload_n (pc := 53) hx hb dX7_of_53 rfl (lv_at hl 2 rfl) ?_
            obtain ⟨hg54, hf⟩ := hf_g hf
            refine vMra_5 (pc := 54) hx hb hK hP (f := (gA S 4)) rfl hg54 dX7_of_54 ?_
            refine lv_iadd (pc := 55) hx hb dX7_of_55 ?_
            refine lv_goto (pc := 56) hx hb (tgt := 72) dX7_of_56 (by decide) ?_
            obtain rfl := Option.some.inj hf
            exact hR H locs 72 ls hP hD hS dX7_of_72
        · have hf := hf_t c_35 hf
          refine lv_iload_n (pc := 38) hx hb dX7_of_38 rfl (lv_at hl 0 rfl) ?_
          refine lv_goto (pc := 39) hx hb (tgt := 72) dX7_of_39 (by decide) ?_
          obtain rfl := Option.some.inj hf
          exact hR H locs 72 ls hP hD hS dX7_of_72
    · have hf := hf_t c_17 hf
      refine lv_iconst (pc := 20) hx hb (v := (-1)) dX7_of_20 (by decide) ?_
      obtain rfl := Option.some.inj hf
      exact hR H locs 21 ls hP hD hS dX7_of_21
set_option maxHeartbeats 4000000 in
set_option maxRecDepth 100000 in
theorem kX7_change (l : Launch) (D : va_G) (A : Nat → Nat) (B : Nat → ClassId) (sz : Nat) (S : w_S) (a1 : Int32) (a2 : Int32) (a3 : Int32) (z : Int32 × w_S) (hf : fX7_change S a1 a2 a3 = some z) : MetW l yX7_change (wsO yX7_change cX7_change 5 (some .int)) rm_X7_change [.ref (A 0), .int a1, .int a2, .int a3] D (tyB B) (wM A B S) (wM A B z.2) sz (some (.int z.1)) := by
  refine MetW.mkI (cc := cX7_change) (maxL := 5) (by decide) (Nat.le_of_ble_eq_true rfl) ?_
  intro p e s m args below meth c Ad Q hx hb hts hown hml hN hK hA hR H locs ls hP hD hS hl
  have hl : lv_has ls 5 [(0, .ref (A 0)), (1, .int a1), (2, .int a2), (3, .int a3)] := hl
  rw [fX7_change] at hf
  refine lv_aload_n (pc := 0) hx hb dX7_change_0 rfl (lv_at hl 0 rfl) ?_
  refine lv_iload_n (pc := 1) hx hb dX7_change_1 rfl (lv_at hl 1 rfl) ?_
  obtain ⟨r2, hc2, hf⟩ := hf_b hf
  refine cl_V (pc := 2) (As := [.int a1]) (rest := []) hx hb hml hown hts (kX7_isEquation l D A B _ S a1 r2 hc2) (cwV 1 hts gwRX7_203 rfl rfl rfl hdX7_isEquation ⟨Nat.le_of_ble_eq_true rfl, Nat.le_of_ble_eq_true rfl⟩) hN hK hP hD hS hA (va_recv hK hP (ci := 7) (q0 := 0) rfl (eM_0 A B _)) rfl hl.1 rfl (Nat.le_of_ble_eq_true rfl) dX7_change_2 (st1 := [.int r2]) rfl ⟨Nat.zero_le _, Nat.zero_le _⟩ (fun H locs hP hD hS => ?_)
  refine lv_if_eq (pc := 5) hx hb (tgt := 29) dX7_change_5 (by decide) (fun c_5 => ?_) (fun c_5 => ?_)
  · have hf := hf_t c_5 hf
    refine lv_iconst (pc := 29) hx hb (v := (-1)) dX7_change_29 (by decide) ?_
    obtain rfl := Option.some.inj hf
    exact hR H locs 30 ls hP hD hS dX7_change_30
  · have hf := hf_f c_5 hf
    refine lv_iload_n (pc := 8) hx hb dX7_change_8 rfl (lv_at hl 2 rfl) ?_
    obtain ⟨r9, hc9, hf⟩ := hf_b hf
    refine cl_S (pc := 9) (As := [.int a2]) (rest := []) hx hb hml hown hts (kX7_isKind l D A B _ S a2 r9 hc9) (va_cwS 1 hts gwRX7_198 rfl rfl rfl hdX7_isKind ⟨Nat.le_of_ble_eq_true rfl, Nat.le_of_ble_eq_true rfl⟩) hN hK hP hD hS hA rfl hl.1 rfl (Nat.le_of_ble_eq_true rfl) dX7_change_9 (st1 := [.int r9]) rfl ⟨Nat.zero_le _, Nat.zero_le _⟩ (fun H locs hP hD hS => ?_)
    refine lv_if_eq (pc := 12) hx hb (tgt := 29) dX7_change_12 (by decide) (fun c_12 => ?_) (fun c_12 => ?_)
    · have hf := hf_t c_12 hf
      refine lv_iconst (pc := 29) hx hb (v := (-1)) dX7_change_29 (by decide) ?_
      obtain rfl := Option.some.inj hf
      exact hR H locs 30 ls hP hD hS dX7_change_30
    · have hf := hf_f c_12 hf
      refine lv_iload_n (pc := 15) hx hb dX7_change_15 rfl (lv_at hl 3 rfl) ?_
      refine lv_i2l (pc := 16) hx hb (v := a3.toInt64) dX7_change_16 rfl ?_
      refine lv_ldc2 (pc := 17) hx hb (v := (-2)) hown (hts (.constantLong RX7 201 (-2)) mU_383) dX7_change_17 ?_
      refine lv_ldc2 (pc := 20) hx hb (v := 2) hown (hts (.constantLong RX7 97 (2)) mU_167) dX7_change_20 ?_
      obtain ⟨r23, hc23, hf⟩ := hf_b hf
      refine cl_S (pc := 23) (As := [.long a3.toInt64, .long (-2), .long 2]) (rest := []) hx hb hml hown hts (kX7_in l D A B _ S a3.toInt64 (-2) 2 r23 hc23) (va_cwS 3 hts gwRX7_99 rfl rfl rfl hdX7_in ⟨Nat.le_of_ble_eq_true rfl, Nat.le_of_ble_eq_true rfl⟩) hN hK hP hD hS hA rfl hl.1 rfl (Nat.le_of_ble_eq_true rfl) dX7_change_23 (st1 := [.int r23]) rfl ⟨Nat.zero_le _, Nat.zero_le _⟩ (fun H locs hP hD hS => ?_)
      refine lv_if_ne (pc := 26) hx hb (tgt := 31) dX7_change_26 (by decide) (fun c_26 => ?_) (fun c_26 => ?_)
      · have hf := hf_f c_26 hf
        refine lv_aload_n (pc := 31) hx hb dX7_change_31 rfl (lv_at hl 0 rfl) ?_
        refine vMgRX7_29_0 (pc := 32) hx hb hts mU_87 inU7 hown hK hP dX7_change_32 ?_
        refine lv_iload_n (pc := 35) hx hb dX7_change_35 rfl (lv_at hl 1 rfl) ?_
        obtain ⟨hg36, hf⟩ := hf_g hf
        refine vMra_4 (pc := 36) hx hb hK hP (f := (gA S 3)) rfl hg36 dX7_change_36 ?_
        refine lv_istore (pc := 37) hx hb (lv' := [(4, .int ((gA S 3) a1.toNatClampNeg)), (0, .ref (A 0)), (1, .int a1), (2, .int a2), (3, .int a3)]) dX7_change_37 hl (by decide) rfl (fun ls hl => ?_)
        refine lv_aload_n (pc := 39) hx hb dX7_change_39 rfl (lv_at hl 1 rfl) ?_
        refine vMgRX7_29_0 (pc := 40) hx hb hts mU_87 inU7 hown hK hP dX7_change_40 ?_
        refine lv_iload_n (pc := 43) hx hb dX7_change_43 rfl (lv_at hl 2 rfl) ?_
        refine lv_iload_n (pc := 44) hx hb dX7_change_44 rfl (lv_at hl 3 rfl) ?_
        obtain ⟨hg45, hf⟩ := hf_g hf
        refine vMwa_4 (pc := 45) hx hb hK hP hD hS (f := (gA S 3)) rfl hg45 dX7_change_45 (fun H locs hP hD hS => ?_)
        refine lv_aload_n (pc := 46) hx hb dX7_change_46 rfl (lv_at hl 1 rfl) ?_
        refine vMgRX7_32_0 (pc := 47) hx hb hts mU_88 inU7 hown hK hP dX7_change_47 ?_
        refine lv_iload_n (pc := 50) hx hb dX7_change_50 rfl (lv_at hl 2 rfl) ?_
        refine lv_iload_n (pc := 51) hx hb dX7_change_51 rfl (lv_at hl 4 rfl) ?_
        obtain ⟨hg52, hf⟩ := hf_g hf
        refine vMwa_5 (pc := 52) hx hb hK hP hD hS (f := (gA S 4)) rfl hg52 dX7_change_52 (fun H locs hP hD hS => ?_)
        refine lv_iload (pc := 53) hx hb dX7_change_53 (lv_at hl 0 rfl) ?_
        obtain rfl := Option.some.inj hf
        exact hR H locs 55 ls hP hD hS dX7_change_55
      · have hf := hf_t c_26 hf
        refine lv_iconst (pc := 29) hx hb (v := (-1)) dX7_change_29 (by decide) ?_
        obtain rfl := Option.some.inj hf
        exact hR H locs 30 ls hP hD hS dX7_change_30
set_option maxHeartbeats 4000000 in
set_option maxRecDepth 100000 in
theorem kX7_right (l : Launch) (D : va_G) (A : Nat → Nat) (B : Nat → ClassId) (sz : Nat) (S : w_S) (a1 : Int32) (a2 : Int32) (a3 : Int32) (z : Int64) (hf : fX7_right S a1 a2 a3 = some z) : MetW l yX7_right (wsO yX7_right cX7_right 4 (some .long)) rm_X7_right [.ref (A 0), .int a1, .int a2, .int a3] D (tyB B) (wM A B S) (wM A B S) sz (some (.long z)) := by
  refine MetW.mkL (cc := cX7_right) (maxL := 4) (by decide) (Nat.le_of_ble_eq_true rfl) ?_
  intro p e s m args below meth c Ad Q hx hb hts hown hml hN hK hA hR H locs ls hP hD hS hl
  have hl : lv_has ls 4 [(0, .ref (A 0)), (1, .int a1), (2, .int a2), (3, .int a3)] := hl
  rw [fX7_right] at hf
  refine lv_aload_n (pc := 0) hx hb dX7_right_0 rfl (lv_at hl 0 rfl) ?_
  refine lv_iload_n (pc := 1) hx hb dX7_right_1 rfl (lv_at hl 1 rfl) ?_
  obtain ⟨r2, hc2, hf⟩ := hf_b hf
  refine cl_V (pc := 2) (As := [.int a1]) (rest := []) hx hb hml hown hts (kX7_isEquation l D A B _ S a1 r2 hc2) (cwV 1 hts gwRX7_203 rfl rfl rfl hdX7_isEquation ⟨Nat.le_of_ble_eq_true rfl, Nat.le_of_ble_eq_true rfl⟩) hN hK hP hD hS hA (va_recv hK hP (ci := 7) (q0 := 0) rfl (eM_0 A B _)) rfl hl.1 rfl (Nat.le_of_ble_eq_true rfl) dX7_right_2 (st1 := [.int r2]) rfl ⟨Nat.zero_le _, Nat.zero_le _⟩ (fun H locs hP hD hS => ?_)
  refine lv_if_eq (pc := 5) hx hb (tgt := 40) dX7_right_5 (by decide) (fun c_5 => ?_) (fun c_5 => ?_)
  · have hf := hf_t c_5 hf
    refine lv_iconst (pc := 40) hx hb (v := (-1)) dX7_right_40 (by decide) ?_
    obtain ⟨r41, hc41, hf⟩ := hf_b hf
    refine cl_S (pc := 41) (As := [.int (-1)]) (rest := []) hx hb hml hown hts (kX7_told l D A B _ S (-1) r41 hc41) (va_cwS 1 hts gwRX7_140 rfl rfl rfl hdX7_told ⟨Nat.le_of_ble_eq_true rfl, Nat.le_of_ble_eq_true rfl⟩) hN hK hP hD hS hA rfl hl.1 rfl (Nat.le_of_ble_eq_true rfl) dX7_right_41 (st1 := [.long r41]) rfl ⟨Nat.zero_le _, Nat.zero_le _⟩ (fun H locs hP hD hS => ?_)
    obtain rfl := Option.some.inj hf
    exact hR H locs 44 ls hP hD hS dX7_right_44
  · have hf := hf_f c_5 hf
    refine lv_iload_n (pc := 8) hx hb dX7_right_8 rfl (lv_at hl 2 rfl) ?_
    refine lv_i2l (pc := 9) hx hb (v := a2.toInt64) dX7_right_9 rfl ?_
    refine lv_lconst (pc := 10) hx hb (v := 0) dX7_right_10 (by decide) ?_
    refine lv_aload_n (pc := 11) hx hb dX7_right_11 rfl (lv_at hl 0 rfl) ?_
    refine vMgRX7_23_0 (pc := 12) hx hb hts mU_85 inU7 hown hK hP (x := (gI S 1)) rfl dX7_right_12 ?_
    refine lv_iconst (pc := 15) hx hb (v := 1) dX7_right_15 (by decide) ?_
    refine lv_isub (pc := 16) hx hb dX7_right_16 ?_
    refine lv_i2l (pc := 17) hx hb (v := ((gI S 1) - 1).toInt64) dX7_right_17 rfl ?_
    obtain ⟨r18, hc18, hf⟩ := hf_b hf
    refine cl_S (pc := 18) (As := [.long a2.toInt64, .long 0, .long (((gI S 1) - 1).toInt64)]) (rest := []) hx hb hml hown hts (kX7_in l D A B _ S a2.toInt64 0 (((gI S 1) - 1).toInt64) r18 hc18) (va_cwS 3 hts gwRX7_99 rfl rfl rfl hdX7_in ⟨Nat.le_of_ble_eq_true rfl, Nat.le_of_ble_eq_true rfl⟩) hN hK hP hD hS hA rfl hl.1 rfl (Nat.le_of_ble_eq_true rfl) dX7_right_18 (st1 := [.int r18]) rfl ⟨Nat.zero_le _, Nat.zero_le _⟩ (fun H locs hP hD hS => ?_)
    refine lv_if_eq (pc := 21) hx hb (tgt := 40) dX7_right_21 (by decide) (fun c_21 => ?_) (fun c_21 => ?_)
    · have hf := hf_t c_21 hf
      refine lv_iconst (pc := 40) hx hb (v := (-1)) dX7_right_40 (by decide) ?_
      obtain ⟨r41, hc41, hf⟩ := hf_b hf
      refine cl_S (pc := 41) (As := [.int (-1)]) (rest := []) hx hb hml hown hts (kX7_told l D A B _ S (-1) r41 hc41) (va_cwS 1 hts gwRX7_140 rfl rfl rfl hdX7_told ⟨Nat.le_of_ble_eq_true rfl, Nat.le_of_ble_eq_true rfl⟩) hN hK hP hD hS hA rfl hl.1 rfl (Nat.le_of_ble_eq_true rfl) dX7_right_41 (st1 := [.long r41]) rfl ⟨Nat.zero_le _, Nat.zero_le _⟩ (fun H locs hP hD hS => ?_)
      obtain rfl := Option.some.inj hf
      exact hR H locs 44 ls hP hD hS dX7_right_44
    · have hf := hf_f c_21 hf
      refine lv_iload_n (pc := 24) hx hb dX7_right_24 rfl (lv_at hl 3 rfl) ?_
      refine lv_i2l (pc := 25) hx hb (v := a3.toInt64) dX7_right_25 rfl ?_
      refine lv_lconst (pc := 26) hx hb (v := 0) dX7_right_26 (by decide) ?_
      refine lv_aload_n (pc := 27) hx hb dX7_right_27 rfl (lv_at hl 0 rfl) ?_
      refine vMgRX7_23_0 (pc := 28) hx hb hts mU_85 inU7 hown hK hP (x := (gI S 1)) rfl dX7_right_28 ?_
      refine lv_iconst (pc := 31) hx hb (v := 1) dX7_right_31 (by decide) ?_
      refine lv_isub (pc := 32) hx hb dX7_right_32 ?_
      refine lv_i2l (pc := 33) hx hb (v := ((gI S 1) - 1).toInt64) dX7_right_33 rfl ?_
      obtain ⟨r34, hc34, hf⟩ := hf_b hf
      refine cl_S (pc := 34) (As := [.long a3.toInt64, .long 0, .long (((gI S 1) - 1).toInt64)]) (rest := []) hx hb hml hown hts (kX7_in l D A B _ S a3.toInt64 0 (((gI S 1) - 1).toInt64) r34 hc34) (va_cwS 3 hts gwRX7_99 rfl rfl rfl hdX7_in ⟨Nat.le_of_ble_eq_true rfl, Nat.le_of_ble_eq_true rfl⟩) hN hK hP hD hS hA rfl hl.1 rfl (Nat.le_of_ble_eq_true rfl) dX7_right_34 (st1 := [.int r34]) rfl ⟨Nat.zero_le _, Nat.zero_le _⟩ (fun H locs hP hD hS => ?_)
      refine lv_if_ne (pc := 37) hx hb (tgt := 45) dX7_right_37 (by decide) (fun c_37 => ?_) (fun c_37 => ?_)
      · have hf := hf_f c_37 hf
        refine lv_aload_n (pc := 45) hx hb dX7_right_45 rfl (lv_at hl 0 rfl) ?_
        refine lv_aload_n (pc := 46) hx hb dX7_right_46 rfl (lv_at hl 0 rfl) ?_
        refine vMgRX7_29_0 (pc := 47) hx hb hts mU_87 inU7 hown hK hP dX7_right_47 ?_
        refine lv_iload_n (pc := 50) hx hb dX7_right_50 rfl (lv_at hl 1 rfl) ?_
        obtain ⟨hg51, hf⟩ := hf_g hf
        refine vMra_4 (pc := 51) hx hb hK hP (f := (gA S 3)) rfl hg51 dX7_right_51 ?_
        obtain ⟨r52, hc52, hf⟩ := hf_b hf
        refine cl_V (pc := 52) (As := [.int ((gA S 3) a1.toNatClampNeg)]) (rest := []) hx hb hml hown hts (kX7_isLike l D A B _ S ((gA S 3) a1.toNatClampNeg) r52 hc52) (cwV 1 hts gwRX7_209 rfl rfl rfl hdX7_isLike ⟨Nat.le_of_ble_eq_true rfl, Nat.le_of_ble_eq_true rfl⟩) hN hK hP hD hS hA (va_recv hK hP (ci := 7) (q0 := 0) rfl (eM_0 A B _)) rfl hl.1 rfl (Nat.le_of_ble_eq_true rfl) dX7_right_52 (st1 := [.int r52]) rfl ⟨Nat.zero_le _, Nat.zero_le _⟩ (fun H locs hP hD hS => ?_)
        refine lv_if_eq (pc := 55) hx hb (tgt := 74) dX7_right_55 (by decide) (fun c_55 => ?_) (fun c_55 => ?_)
        · have hf := hf_t c_55 hf
          refine lv_bipush (pc := 74) hx hb (v := (-4)) dX7_right_74 (by decide) ?_
          obtain ⟨r76, hc76, hf⟩ := hf_b hf
          refine cl_S (pc := 76) (As := [.int (-4)]) (rest := []) hx hb hml hown hts (kX7_told l D A B _ S (-4) r76 hc76) (va_cwS 1 hts gwRX7_140 rfl rfl rfl hdX7_told ⟨Nat.le_of_ble_eq_true rfl, Nat.le_of_ble_eq_true rfl⟩) hN hK hP hD hS hA rfl hl.1 rfl (Nat.le_of_ble_eq_true rfl) dX7_right_76 (st1 := [.long r76]) rfl ⟨Nat.zero_le _, Nat.zero_le _⟩ (fun H locs hP hD hS => ?_)
          obtain rfl := Option.some.inj hf
          exact hR H locs 79 ls hP hD hS dX7_right_79
        · have hf := hf_f c_55 hf
          refine lv_aload_n (pc := 58) hx hb dX7_right_58 rfl (lv_at hl 0 rfl) ?_
          refine lv_aload_n (pc := 59) hx hb dX7_right_59 rfl (lv_at hl 0 rfl) ?_
          refine vMgRX7_29_0 (pc := 60) hx hb hts mU_87 inU7 hown hK hP dX7_right_60 ?_
          refine lv_iload_n (pc := 63) hx hb dX7_right_63 rfl (lv_at hl 1 rfl) ?_
          obtain ⟨hg64, hf⟩ := hf_g hf
          refine vMra_4 (pc := 64) hx hb hK hP (f := (gA S 3)) rfl hg64 dX7_right_64 ?_
          refine lv_iload_n (pc := 65) hx hb dX7_right_65 rfl (lv_at hl 2 rfl) ?_
          refine lv_iload_n (pc := 66) hx hb dX7_right_66 rfl (lv_at hl 3 rfl) ?_
          obtain ⟨r67, hc67, hf⟩ := hf_b hf
          refine cl_V (pc := 67) (As := [.int ((gA S 3) a1.toNatClampNeg), .int a2, .int a3]) (rest := []) hx hb hml hown hts (kX7_rightOf l D A B _ S ((gA S 3) a1.toNatClampNeg) a2 a3 r67 hc67) (cwV 3 hts gwRX7_215 rfl rfl rfl hdX7_rightOf ⟨Nat.le_of_ble_eq_true rfl, Nat.le_of_ble_eq_true rfl⟩) hN hK hP hD hS hA (va_recv hK hP (ci := 7) (q0 := 0) rfl (eM_0 A B _)) rfl hl.1 rfl (Nat.le_of_ble_eq_true rfl) dX7_right_67 (st1 := [.int r67]) rfl ⟨Nat.zero_le _, Nat.zero_le _⟩ (fun H locs hP hD hS => ?_)
          refine lv_i2l (pc := 70) hx hb (v := r67.toInt64) dX7_right_70 rfl ?_
          refine lv_goto (pc := 71) hx hb (tgt := 79) dX7_right_71 (by decide) ?_
          obtain rfl := Option.some.inj hf
          exact hR H locs 79 ls hP hD hS dX7_right_79
      · have hf := hf_t c_37 hf
        refine lv_iconst (pc := 40) hx hb (v := (-1)) dX7_right_40 (by decide) ?_
        obtain ⟨r41, hc41, hf⟩ := hf_b hf
        refine cl_S (pc := 41) (As := [.int (-1)]) (rest := []) hx hb hml hown hts (kX7_told l D A B _ S (-1) r41 hc41) (va_cwS 1 hts gwRX7_140 rfl rfl rfl hdX7_told ⟨Nat.le_of_ble_eq_true rfl, Nat.le_of_ble_eq_true rfl⟩) hN hK hP hD hS hA rfl hl.1 rfl (Nat.le_of_ble_eq_true rfl) dX7_right_41 (st1 := [.long r41]) rfl ⟨Nat.zero_le _, Nat.zero_le _⟩ (fun H locs hP hD hS => ?_)
        obtain rfl := Option.some.inj hf
        exact hR H locs 44 ls hP hD hS dX7_right_44
set_option maxHeartbeats 4000000 in
set_option maxRecDepth 100000 in
theorem kX7_isPart (l : Launch) (D : va_G) (A : Nat → Nat) (B : Nat → ClassId) (sz : Nat) (S : w_S) (a1 : Int32) (a2 : Int32) (a3 : Int32) (a4 : Int32) (z : Int32) (hf : fX7_isPart S a1 a2 a3 a4 = some z) : MetW l yX7_isPart (wsO yX7_isPart cX7_isPart 5 (some .boolean)) rm_X7_isPart [.ref (A 0), .int a1, .int a2, .int a3, .int a4] D (tyB B) (wM A B S) (wM A B S) sz (some (.int z)) := by
  refine MetW.mkZ (cc := cX7_isPart) (maxL := 5) (by decide) (Nat.le_of_ble_eq_true rfl) ?_
  intro p e s m args below meth c Ad Q hx hb hts hown hml hN hK hA hR H locs ls hP hD hS hl
  have hl : lv_has ls 5 [(0, .ref (A 0)), (1, .int a1), (2, .int a2), (3, .int a3), (4, .int a4)] := hl
  rw [fX7_isPart] at hf
  refine lv_aload_n (pc := 0) hx hb dX7_isPart_0 rfl (lv_at hl 0 rfl) ?_
  refine lv_iload_n (pc := 1) hx hb dX7_isPart_1 rfl (lv_at hl 1 rfl) ?_
  obtain ⟨r2, hc2, hf⟩ := hf_b hf
  refine cl_V (pc := 2) (As := [.int a1]) (rest := []) hx hb hml hown hts (kX7_isEquation l D A B _ S a1 r2 hc2) (cwV 1 hts gwRX7_203 rfl rfl rfl hdX7_isEquation ⟨Nat.le_of_ble_eq_true rfl, Nat.le_of_ble_eq_true rfl⟩) hN hK hP hD hS hA (va_recv hK hP (ci := 7) (q0 := 0) rfl (eM_0 A B _)) rfl hl.1 rfl (Nat.le_of_ble_eq_true rfl) dX7_isPart_2 (st1 := [.int r2]) rfl ⟨Nat.zero_le _, Nat.zero_le _⟩ (fun H locs hP hD hS => ?_)
  refine lv_if_eq (pc := 5) hx hb (tgt := 55) dX7_isPart_5 (by decide) (fun c_5 => ?_) (fun c_5 => ?_)
  · have hf := hf_t c_5 hf
    refine lv_iconst (pc := 55) hx hb (v := 0) dX7_isPart_55 (by decide) ?_
    obtain rfl := Option.some.inj hf
    exact hR H locs 56 ls hP hD hS (nz_of (.inl rfl)) dX7_isPart_56
  · have hf := hf_f c_5 hf
    refine lv_iload_n (pc := 8) hx hb dX7_isPart_8 rfl (lv_at hl 2 rfl) ?_
    refine lv_i2l (pc := 9) hx hb (v := a2.toInt64) dX7_isPart_9 rfl ?_
    refine lv_lconst (pc := 10) hx hb (v := 0) dX7_isPart_10 (by decide) ?_
    refine lv_aload_n (pc := 11) hx hb dX7_isPart_11 rfl (lv_at hl 0 rfl) ?_
    refine vMgRX7_19_0 (pc := 12) hx hb hts mU_84 inU7 hown hK hP (x := (gI S 0)) rfl dX7_isPart_12 ?_
    refine lv_iconst (pc := 15) hx hb (v := 1) dX7_isPart_15 (by decide) ?_
    refine lv_isub (pc := 16) hx hb dX7_isPart_16 ?_
    refine lv_i2l (pc := 17) hx hb (v := ((gI S 0) - 1).toInt64) dX7_isPart_17 rfl ?_
    obtain ⟨r18, hc18, hf⟩ := hf_b hf
    refine cl_S (pc := 18) (As := [.long a2.toInt64, .long 0, .long (((gI S 0) - 1).toInt64)]) (rest := []) hx hb hml hown hts (kX7_in l D A B _ S a2.toInt64 0 (((gI S 0) - 1).toInt64) r18 hc18) (va_cwS 3 hts gwRX7_99 rfl rfl rfl hdX7_in ⟨Nat.le_of_ble_eq_true rfl, Nat.le_of_ble_eq_true rfl⟩) hN hK hP hD hS hA rfl hl.1 rfl (Nat.le_of_ble_eq_true rfl) dX7_isPart_18 (st1 := [.int r18]) rfl ⟨Nat.zero_le _, Nat.zero_le _⟩ (fun H locs hP hD hS => ?_)
    refine lv_if_eq (pc := 21) hx hb (tgt := 55) dX7_isPart_21 (by decide) (fun c_21 => ?_) (fun c_21 => ?_)
    · have hf := hf_t c_21 hf
      refine lv_iconst (pc := 55) hx hb (v := 0) dX7_isPart_55 (by decide) ?_
      obtain rfl := Option.some.inj hf
      exact hR H locs 56 ls hP hD hS (nz_of (.inl rfl)) dX7_isPart_56
    · have hf := hf_f c_21 hf
      refine lv_iload_n (pc := 24) hx hb dX7_isPart_24 rfl (lv_at hl 3 rfl) ?_
      refine lv_i2l (pc := 25) hx hb (v := a3.toInt64) dX7_isPart_25 rfl ?_
      refine lv_lconst (pc := 26) hx hb (v := 0) dX7_isPart_26 (by decide) ?_
      refine lv_aload_n (pc := 27) hx hb dX7_isPart_27 rfl (lv_at hl 0 rfl) ?_
      refine vMgRX7_23_0 (pc := 28) hx hb hts mU_85 inU7 hown hK hP (x := (gI S 1)) rfl dX7_isPart_28 ?_
      refine lv_iconst (pc := 31) hx hb (v := 1) dX7_isPart_31 (by decide) ?_
      refine lv_isub (pc := 32) hx hb dX7_isPart_32 ?_
      refine lv_i2l (pc := 33) hx hb (v := ((gI S 1) - 1).toInt64) dX7_isPart_33 rfl ?_
      obtain ⟨r34, hc34, hf⟩ := hf_b hf
      refine cl_S (pc := 34) (As := [.long a3.toInt64, .long 0, .long (((gI S 1) - 1).toInt64)]) (rest := []) hx hb hml hown hts (kX7_in l D A B _ S a3.toInt64 0 (((gI S 1) - 1).toInt64) r34 hc34) (va_cwS 3 hts gwRX7_99 rfl rfl rfl hdX7_in ⟨Nat.le_of_ble_eq_true rfl, Nat.le_of_ble_eq_true rfl⟩) hN hK hP hD hS hA rfl hl.1 rfl (Nat.le_of_ble_eq_true rfl) dX7_isPart_34 (st1 := [.int r34]) rfl ⟨Nat.zero_le _, Nat.zero_le _⟩ (fun H locs hP hD hS => ?_)
      refine lv_if_eq (pc := 37) hx hb (tgt := 55) dX7_isPart_37 (by decide) (fun c_37 => ?_) (fun c_37 => ?_)
      · have hf := hf_t c_37 hf
        refine lv_iconst (pc := 55) hx hb (v := 0) dX7_isPart_55 (by decide) ?_
        obtain rfl := Option.some.inj hf
        exact hR H locs 56 ls hP hD hS (nz_of (.inl rfl)) dX7_isPart_56
      · have hf := hf_f c_37 hf
        refine lv_iload (pc := 40) hx hb dX7_isPart_40 (lv_at hl 4 rfl) ?_
        refine lv_i2l (pc := 42) hx hb (v := a4.toInt64) dX7_isPart_42 rfl ?_
        refine lv_lconst (pc := 43) hx hb (v := 0) dX7_isPart_43 (by decide) ?_
        refine lv_lconst (pc := 44) hx hb (v := 1) dX7_isPart_44 (by decide) ?_
        obtain ⟨r45, hc45, hf⟩ := hf_b hf
        refine cl_S (pc := 45) (As := [.long a4.toInt64, .long 0, .long 1]) (rest := []) hx hb hml hown hts (kX7_in l D A B _ S a4.toInt64 0 1 r45 hc45) (va_cwS 3 hts gwRX7_99 rfl rfl rfl hdX7_in ⟨Nat.le_of_ble_eq_true rfl, Nat.le_of_ble_eq_true rfl⟩) hN hK hP hD hS hA rfl hl.1 rfl (Nat.le_of_ble_eq_true rfl) dX7_isPart_45 (st1 := [.int r45]) rfl ⟨Nat.zero_le _, Nat.zero_le _⟩ (fun H locs hP hD hS => ?_)
        refine lv_if_eq (pc := 48) hx hb (tgt := 55) dX7_isPart_48 (by decide) (fun c_48 => ?_) (fun c_48 => ?_)
        · have hf := hf_t c_48 hf
          refine lv_iconst (pc := 55) hx hb (v := 0) dX7_isPart_55 (by decide) ?_
          obtain rfl := Option.some.inj hf
          exact hR H locs 56 ls hP hD hS (nz_of (.inl rfl)) dX7_isPart_56
        · have hf := hf_f c_48 hf
          refine lv_iconst (pc := 51) hx hb (v := 1) dX7_isPart_51 (by decide) ?_
          refine lv_goto (pc := 52) hx hb (tgt := 56) dX7_isPart_52 (by decide) ?_
          obtain rfl := Option.some.inj hf
          exact hR H locs 56 ls hP hD hS (nz_of (.inr rfl)) dX7_isPart_56
set_option maxHeartbeats 4000000 in
set_option maxRecDepth 100000 in
theorem kX7_common (l : Launch) (D : va_G) (A : Nat → Nat) (B : Nat → ClassId) (sz : Nat) (S : w_S) (a0 : Int64) (a2 : Int64) (z : Int64) (hf : fX7_common a0 a2 = some z) : MetW l yX7_common (wsO yX7_common cX7_common 10 (some .long)) rm_X7_common [.long a0, .long a2] D (tyB B) (wM A B S) (wM A B S) sz (some (.long z)) := by
  refine MetW.mkL (cc := cX7_common) (maxL := 10) (by decide) (Nat.le_of_ble_eq_true rfl) ?_
  intro p e s m args below meth c Ad Q hx hb hts hown hml hN hK hA hR H locs ls hP hD hS hl
  have hl : lv_has ls 10 [(0, .long a0), (2, .long a2)] := hl
  rw [fX7_common] at hf
  refine lv_lload_n (pc := 0) hx hb dX7_common_0 rfl (lv_at hl 0 rfl) ?_
  refine lv_lconst (pc := 1) hx hb (v := 0) dX7_common_1 (by decide) ?_
  obtain ⟨q12, hv12, hf⟩ := hf_b hf
  have hj12 : ∀ (H : Heap) (locs : List Loc) (ls : Array Slot), va_P D vwCl (wM A B S) H → va_D Ad (wM A B S) → va_S Ad s.heap H locs → lv_has ls 10 [(2, .long a2)] → W p l e rm_X7_common s m args below meth c H locs 0 0 Q (F0 m 12 ls [.long q12]) := by
    intro H locs ls hP hD hS hl
    refine lv_lstore (pc := 12) hx hb (lv' := [(4, .long q12), (2, .long a2)]) dX7_common_12 hl (by decide) rfl (fun ls hl => ?_)
    refine lv_lload_n (pc := 14) hx hb dX7_common_14 rfl (lv_at hl 1 rfl) ?_
    refine lv_lconst (pc := 15) hx hb (v := 0) dX7_common_15 (by decide) ?_
    obtain ⟨q26, hv26, hf⟩ := hf_b hf
    have hj26 : ∀ (H : Heap) (locs : List Loc) (ls : Array Slot), va_P D vwCl (wM A B S) H → va_D Ad (wM A B S) → va_S Ad s.heap H locs → lv_has ls 10 [(4, .long q12)] → W p l e rm_X7_common s m args below meth c H locs 0 0 Q (F0 m 26 ls [.long q26]) := by
      intro H locs ls hP hD hS hl
      refine lv_lstore (pc := 26) hx hb (lv' := [(6, .long q26), (4, .long q12)]) dX7_common_26 hl (by decide) rfl (fun ls hl => ?_)
      obtain ⟨q28, hq28, hf⟩ := hf_b hf
      have hk28 : ∀ (H : Heap) (locs : List Loc) (ls : Array Slot), va_P D vwCl (wM A B S) H → va_D Ad (wM A B S) → va_S Ad s.heap H locs → lv_has ls 10 [(4, .long q28)] → W p l e rm_X7_common s m args below meth c H locs 0 0 Q (F0 m 53 ls []) := by
        intro H locs ls hP hD hS hl
        refine lv_lload (pc := 53) hx hb dX7_common_53 (lv_at hl 0 rfl) ?_
        obtain rfl := Option.some.inj hf
        exact hR H locs 55 ls hP hD hS dX7_common_55
      have lp28 : ∀ (n : Nat) (u4_28 : Int64) (u6_28 : Int64) (H : Heap) (locs : List Loc) (ls : Array Slot), fX7_common_L28  n u4_28 u6_28 = some q28 → va_P D vwCl (wM A B S) H → va_D Ad (wM A B S) → va_S Ad s.heap H locs → lv_has ls 10 [(4, .long u4_28), (6, .long u6_28)] → W p l e rm_X7_common s m args below meth c H locs 0 0 Q (F0 m 28 ls []) := by
        intro n28
        induction n28 with
        | zero => intro u4_28 u6_28 H locs ls hq28; exact hf_0 hq28
        | succ n28 ih28 =>
          intro u4_28 u6_28 H locs ls hq28 hP hD hS hl
          rw [fX7_common_L28] at hq28
          refine lv_lload (pc := 28) hx hb dX7_common_28 (lv_at hl 1 rfl) ?_
          refine lv_lconst (pc := 30) hx hb (v := 0) dX7_common_30 (by decide) ?_
          refine W.lcmp (pc := 31) hx hb dX7_common_31 ?_
          refine lv_if_eq (pc := 32) hx hb (tgt := 53) dX7_common_32 (by decide) (fun c_32 => ?_) (fun c_32 => ?_)
          · have c_32 := lg_eq0.mp c_32
            have hq28 := hf_t c_32 hq28
            obtain rfl := Option.some.inj hq28
            exact hk28 H locs ls hP hD hS (lv_sub hl [0] rfl)
          · have c_32 := fun h9 => c_32 (lg_eq0.mpr h9)
            have hq28 := hf_f c_32 hq28
            refine lv_lload (pc := 35) hx hb dX7_common_35 (lv_at hl 0 rfl) ?_
            refine lv_lload (pc := 37) hx hb dX7_common_37 (lv_at hl 1 rfl) ?_
            obtain ⟨hg39, hq28⟩ := hf_g hq28
            refine lv_lrem (pc := 39) hx hb dX7_common_39 hg39 ?_
            refine lv_lstore (pc := 40) hx hb (lv' := [(8, .long (u4_28 - u4_28 / u6_28 * u6_28)), (4, .long u4_28), (6, .long u6_28)]) dX7_common_40 hl (by decide) rfl (fun ls hl => ?_)
            refine lv_lload (pc := 42) hx hb dX7_common_42 (lv_at hl 2 rfl) ?_
            refine lv_lstore (pc := 44) hx hb (lv' := [(4, .long u6_28), (8, .long (u4_28 - u4_28 / u6_28 * u6_28)), (6, .long u6_28)]) dX7_common_44 hl (by decide) rfl (fun ls hl => ?_)
            refine lv_lload (pc := 46) hx hb dX7_common_46 (lv_at hl 1 rfl) ?_
            refine lv_lstore (pc := 48) hx hb (lv' := [(6, .long (u4_28 - u4_28 / u6_28 * u6_28)), (4, .long u6_28), (8, .long (u4_28 - u4_28 / u6_28 * u6_28))]) dX7_common_48 hl (by decide) rfl (fun ls hl => ?_)
            refine lv_goto (pc := 50) hx hb (tgt := 28) dX7_common_50 (by decide) ?_
            exact ih28 u6_28 (u4_28 - u4_28 / u6_28 * u6_28) H locs ls hq28 hP hD hS (lv_sub hl [1, 0] rfl)
      exact lp28 256 q12 q26 H locs ls hq28 hP hD hS (lv_sub hl [1, 0] rfl)
    refine W.lcmp (pc := 16) hx hb dX7_common_16 ?_
    refine lv_if_ge (pc := 17) hx hb (tgt := 25) dX7_common_17 (by decide) (fun c_17 => ?_) (fun c_17 => ?_)
    · have c_17 := lg_ge0.mp c_17
      have hv26 := hf_f c_17 hv26
      refine lv_lload_n (pc := 25) hx hb dX7_common_25 rfl (lv_at hl 1 rfl) ?_
      obtain rfl := Option.some.inj hv26
      exact hj26 H locs ls hP hD hS (lv_sub hl [0] rfl)
    · have c_17 := Classical.byContradiction fun h9 => c_17 (lg_ge0.mpr h9)
      have hv26 := hf_t c_17 hv26
      refine lv_lload_n (pc := 20) hx hb dX7_common_20 rfl (lv_at hl 1 rfl) ?_
      refine lv_lneg (pc := 21) hx hb dX7_common_21 ?_
      refine lv_goto (pc := 22) hx hb (tgt := 26) dX7_common_22 (by decide) ?_
      obtain rfl := Option.some.inj hv26
      exact hj26 H locs ls hP hD hS (lv_sub hl [0] rfl)
  refine W.lcmp (pc := 2) hx hb dX7_common_2 ?_
  refine lv_if_ge (pc := 3) hx hb (tgt := 11) dX7_common_3 (by decide) (fun c_3 => ?_) (fun c_3 => ?_)
  · have c_3 := lg_ge0.mp c_3
    have hv12 := hf_f c_3 hv12
    refine lv_lload_n (pc := 11) hx hb dX7_common_11 rfl (lv_at hl 0 rfl) ?_
    obtain rfl := Option.some.inj hv12
    exact hj12 H locs ls hP hD hS (lv_sub hl [1] rfl)
  · have c_3 := Classical.byContradiction fun h9 => c_3 (lg_ge0.mpr h9)
    have hv12 := hf_t c_3 hv12
    refine lv_lload_n (pc := 6) hx hb dX7_common_6 rfl (lv_at hl 0 rfl) ?_
    refine lv_lneg (pc := 7) hx hb dX7_common_7 ?_
    refine lv_goto (pc := 8) hx hb (tgt := 12) dX7_common_8 (by decide) ?_
    obtain rfl := Option.some.inj hv12
    exact hj12 H locs ls hP hD hS (lv_sub hl [1] rfl)
set_option maxHeartbeats 4000000 in
set_option maxRecDepth 100000 in
theorem kX7_partOf (l : Launch) (D : va_G) (A : Nat → Nat) (B : Nat → ClassId) (sz : Nat) (S : w_S) (a0 : Int64) (a2 : Int64) (a4 : Int32) (z : Int64) (hf : fX7_partOf a0 a2 a4 = some z) : MetW l yX7_partOf (wsO yX7_partOf cX7_partOf 7 (some .long)) rm_X7_partOf [.long a0, .long a2, .int a4] D (tyB B) (wM A B S) (wM A B S) sz (some (.long z)) := by
  refine MetW.mkL (cc := cX7_partOf) (maxL := 7) (by decide) (Nat.le_of_ble_eq_true rfl) ?_
  intro p e s m args below meth c Ad Q hx hb hts hown hml hN hK hA hR H locs ls hP hD hS hl
  have hl : lv_has ls 7 [(0, .long a0), (2, .long a2), (4, .int a4)] := hl
  rw [fX7_partOf] at hf
  refine lv_lload_n (pc := 0) hx hb dX7_partOf_0 rfl (lv_at hl 1 rfl) ?_
  refine lv_lconst (pc := 1) hx hb (v := 0) dX7_partOf_1 (by decide) ?_
  obtain ⟨q20, hv20, hf⟩ := hf_b hf
  have hj20 : ∀ (H : Heap) (locs : List Loc) (ls : Array Slot), va_P D vwCl (wM A B S) H → va_D Ad (wM A B S) → va_S Ad s.heap H locs → lv_has ls 7 [(0, .long a0), (2, .long a2), (4, .int a4)] → W p l e rm_X7_partOf s m args below meth c H locs 0 0 Q (F0 m 20 ls [.long q20]) := by
    intro H locs ls hP hD hS hl
    refine lv_lstore (pc := 20) hx hb (lv' := [(5, .long q20), (0, .long a0), (2, .long a2), (4, .int a4)]) dX7_partOf_20 hl (by decide) rfl (fun ls hl => ?_)
    refine lv_iload (pc := 22) hx hb dX7_partOf_22 (lv_at hl 3 rfl) ?_
    refine lv_if_ne (pc := 24) hx hb (tgt := 34) dX7_partOf_24 (by decide) (fun c_24 => ?_) (fun c_24 => ?_)
    · have hf := hf_f c_24 hf
      refine lv_lload_n (pc := 34) hx hb dX7_partOf_34 rfl (lv_at hl 2 rfl) ?_
      refine lv_lload (pc := 35) hx hb dX7_partOf_35 (lv_at hl 0 rfl) ?_
      obtain ⟨hg37, hf⟩ := hf_g hf
      refine lv_ldiv (pc := 37) hx hb dX7_partOf_37 hg37 ?_
      obtain rfl := Option.some.inj hf
      exact hR H locs 38 ls hP hD hS dX7_partOf_38
    · have hf := hf_t c_24 hf
      refine lv_lload_n (pc := 27) hx hb dX7_partOf_27 rfl (lv_at hl 1 rfl) ?_
      refine lv_lload (pc := 28) hx hb dX7_partOf_28 (lv_at hl 0 rfl) ?_
      obtain ⟨hg30, hf⟩ := hf_g hf
      refine lv_ldiv (pc := 30) hx hb dX7_partOf_30 hg30 ?_
      refine lv_goto (pc := 31) hx hb (tgt := 38) dX7_partOf_31 (by decide) ?_
      obtain rfl := Option.some.inj hf
      exact hR H locs 38 ls hP hD hS dX7_partOf_38
  refine W.lcmp (pc := 2) hx hb dX7_partOf_2 ?_
  refine lv_if_ge (pc := 3) hx hb (tgt := 15) dX7_partOf_3 (by decide) (fun c_3 => ?_) (fun c_3 => ?_)
  · have c_3 := lg_ge0.mp c_3
    have hv20 := hf_f c_3 hv20
    refine lv_lload_n (pc := 15) hx hb dX7_partOf_15 rfl (lv_at hl 0 rfl) ?_
    refine lv_lload_n (pc := 16) hx hb dX7_partOf_16 rfl (lv_at hl 1 rfl) ?_
    obtain ⟨r17, hc17, hv20⟩ := hf_b hv20
    refine cl_S (pc := 17) (As := [.long a0, .long a2]) (rest := []) hx hb hml hown hts (kX7_common l D A B _ S a0 a2 r17 hc17) (va_cwS 2 hts gwRX7_93 rfl rfl rfl hdX7_common ⟨Nat.le_of_ble_eq_true rfl, Nat.le_of_ble_eq_true rfl⟩) hN hK hP hD hS hA rfl hl.1 rfl (Nat.le_of_ble_eq_true rfl) dX7_partOf_17 (st1 := [.long r17]) rfl ⟨Nat.zero_le _, Nat.zero_le _⟩ (fun H locs hP hD hS => ?_)
    obtain rfl := Option.some.inj hv20
    exact hj20 H locs ls hP hD hS (lv_sub hl [0, 1, 2] rfl)
  · have c_3 := Classical.byContradiction fun h9 => c_3 (lg_ge0.mpr h9)
    have hv20 := hf_t c_3 hv20
    refine lv_lload_n (pc := 6) hx hb dX7_partOf_6 rfl (lv_at hl 0 rfl) ?_
    refine lv_lload_n (pc := 7) hx hb dX7_partOf_7 rfl (lv_at hl 1 rfl) ?_
    obtain ⟨r8, hc8, hv20⟩ := hf_b hv20
    refine cl_S (pc := 8) (As := [.long a0, .long a2]) (rest := []) hx hb hml hown hts (kX7_common l D A B _ S a0 a2 r8 hc8) (va_cwS 2 hts gwRX7_93 rfl rfl rfl hdX7_common ⟨Nat.le_of_ble_eq_true rfl, Nat.le_of_ble_eq_true rfl⟩) hN hK hP hD hS hA rfl hl.1 rfl (Nat.le_of_ble_eq_true rfl) dX7_partOf_8 (st1 := [.long r8]) rfl ⟨Nat.zero_le _, Nat.zero_le _⟩ (fun H locs hP hD hS => ?_)
    refine lv_lneg (pc := 11) hx hb dX7_partOf_11 ?_
    refine lv_goto (pc := 12) hx hb (tgt := 20) dX7_partOf_12 (by decide) ?_
    obtain rfl := Option.some.inj hv20
    exact hj20 H locs ls hP hD hS (lv_sub hl [0, 1, 2] rfl)
set_option maxHeartbeats 4000000 in
set_option maxRecDepth 100000 in
theorem kX7_shapedSum (l : Launch) (D : va_G) (A : Nat → Nat) (B : Nat → ClassId) (sz : Nat) (S : w_S) (a1 : Int32) (a2 : Int32) (a3 : Int32) (a4 : Int32) (z : Int64) (hf : fX7_shapedSum S a1 a2 a3 a4 = some z) : MetW l yX7_shapedSum (wsO yX7_shapedSum cX7_shapedSum 11 (some .long)) rm_X7_shapedSum [.ref (A 0), .int a1, .int a2, .int a3, .int a4] D (tyB B) (wM A B S) (wM A B S) sz (some (.long z)) := by
  refine MetW.mkL (cc := cX7_shapedSum) (maxL := 11) (by decide) (Nat.le_of_ble_eq_true rfl) ?_
  intro p e s m args below meth c Ad Q hx hb hts hown hml hN hK hA hR H locs ls hP hD hS hl
  have hl : lv_has ls 11 [(0, .ref (A 0)), (1, .int a1), (2, .int a2), (3, .int a3), (4, .int a4)] := hl
  rw [fX7_shapedSum] at hf
  refine lv_lconst (pc := 0) hx hb (v := 0) dX7_shapedSum_0 (by decide) ?_
  refine lv_lstore (pc := 1) hx hb (lv' := [(5, .long 0), (0, .ref (A 0)), (1, .int a1), (2, .int a2), (3, .int a3), (4, .int a4)]) dX7_shapedSum_1 hl (by decide) rfl (fun ls hl => ?_)
  refine lv_iconst (pc := 3) hx hb (v := 0) dX7_shapedSum_3 (by decide) ?_
  refine lv_istore (pc := 4) hx hb (lv' := [(7, .int 0), (5, .long 0), (0, .ref (A 0)), (1, .int a1), (2, .int a2), (3, .int a3), (4, .int a4)]) dX7_shapedSum_4 hl (by decide) rfl (fun ls hl => ?_)
  obtain ⟨q6, hq6, hf⟩ := hf_b hf
  have hk6 : ∀ (H : Heap) (locs : List Loc) (ls : Array Slot), va_P D vwCl (wM A B S) H → va_D Ad (wM A B S) → va_S Ad s.heap H locs → lv_has ls 11 [(5, .long q6)] → W p l e rm_X7_shapedSum s m args below meth c H locs 0 0 Q (F0 m 141 ls []) := by
    intro H locs ls hP hD hS hl
    refine lv_lload (pc := 141) hx hb dX7_shapedSum_141 (lv_at hl 0 rfl) ?_
    obtain rfl := Option.some.inj hf
    exact hR H locs 143 ls hP hD hS dX7_shapedSum_143
  have lp6 : ∀ (n : Nat) (u5_6 : Int64) (u7_6 : Int32) (H : Heap) (locs : List Loc) (ls : Array Slot), fX7_shapedSum_L6 S a1 a2 a3 a4 n u5_6 u7_6 = some q6 → va_P D vwCl (wM A B S) H → va_D Ad (wM A B S) → va_S Ad s.heap H locs → lv_has ls 11 [(0, .ref (A 0)), (1, .int a1), (2, .int a2), (3, .int a3), (4, .int a4), (5, .long u5_6), (7, .int u7_6)] → W p l e rm_X7_shapedSum s m args below meth c H locs 0 0 Q (F0 m 6 ls []) := by
    intro n6
    induction n6 with
    | zero => intro u5_6 u7_6 H locs ls hq6; exact hf_0 hq6
    | succ n6 ih6 =>
      intro u5_6 u7_6 H locs ls hq6 hP hD hS hl
      rw [fX7_shapedSum_L6] at hq6
      refine lv_iload (pc := 6) hx hb dX7_shapedSum_6 (lv_at hl 6 rfl) ?_
      refine lv_aload_n (pc := 8) hx hb dX7_shapedSum_8 rfl (lv_at hl 0 rfl) ?_
      refine vMgRX7_229_0 (pc := 9) hx hb hts mU_544 inU7 hown hK hP (x := (gI S 15)) rfl dX7_shapedSum_9 ?_
      refine lv_icmp_ge (pc := 12) hx hb (tgt := 141) dX7_shapedSum_12 (by decide) (fun c_12 => ?_) (fun c_12 => ?_)
      · have hq6 := hf_t c_12 hq6
        obtain rfl := Option.some.inj hq6
        exact hk6 H locs ls hP hD hS (lv_sub hl [5] rfl)
      · have hq6 := hf_f c_12 hq6
        refine lv_iload_n (pc := 15) hx hb dX7_shapedSum_15 rfl (lv_at hl 1 rfl) ?_
        refine lv_iload_n (pc := 16) hx hb dX7_shapedSum_16 rfl (lv_at hl 2 rfl) ?_
        refine lv_iload_n (pc := 17) hx hb dX7_shapedSum_17 rfl (lv_at hl 3 rfl) ?_
        refine lv_aload_n (pc := 18) hx hb dX7_shapedSum_18 rfl (lv_at hl 0 rfl) ?_
        refine vMgRX7_45_0 (pc := 19) hx hb hts mU_92 inU7 hown hK hP dX7_shapedSum_19 ?_
        refine lv_iload (pc := 22) hx hb dX7_shapedSum_22 (lv_at hl 6 rfl) ?_
        obtain ⟨hg24, hq6⟩ := hf_g hq6
        refine vMra_9 (pc := 24) hx hb hK hP (f := (gA S 8)) rfl hg24 dX7_shapedSum_24 ?_
        refine lv_aload_n (pc := 25) hx hb dX7_shapedSum_25 rfl (lv_at hl 0 rfl) ?_
        refine vMgRX7_23_0 (pc := 26) hx hb hts mU_85 inU7 hown hK hP (x := (gI S 1)) rfl dX7_shapedSum_26 ?_
        obtain ⟨hg29, hq6⟩ := hf_g hq6
        refine lv_idiv (pc := 29) hx hb dX7_shapedSum_29 hg29 ?_
        refine lv_aload_n (pc := 30) hx hb dX7_shapedSum_30 rfl (lv_at hl 0 rfl) ?_
        refine vMgRX7_45_0 (pc := 31) hx hb hts mU_92 inU7 hown hK hP dX7_shapedSum_31 ?_
        refine lv_iload (pc := 34) hx hb dX7_shapedSum_34 (lv_at hl 6 rfl) ?_
        obtain ⟨hg36, hq6⟩ := hf_g hq6
        refine vMra_9 (pc := 36) hx hb hK hP (f := (gA S 8)) rfl hg36 dX7_shapedSum_36 ?_
        refine lv_aload_n (pc := 37) hx hb dX7_shapedSum_37 rfl (lv_at hl 0 rfl) ?_
        refine vMgRX7_23_0 (pc := 38) hx hb hts mU_85 inU7 hown hK hP (x := (gI S 1)) rfl dX7_shapedSum_38 ?_
        obtain ⟨hg41, hq6⟩ := hf_g hq6
        refine lv_irem (pc := 41) hx hb dX7_shapedSum_41 hg41 ?_
        obtain ⟨r42, hc42, hq6⟩ := hf_b hq6
        refine cl_S (pc := 42) (As := [.int a1, .int a2, .int a3, .int (((gA S 8) u7_6.toNatClampNeg) / (gI S 1)), .int (((gA S 8) u7_6.toNatClampNeg) - ((gA S 8) u7_6.toNatClampNeg) / (gI S 1) * (gI S 1))]) (rest := []) hx hb hml hown hts (kX7_shaped l D A B _ S a1 a2 a3 (((gA S 8) u7_6.toNatClampNeg) / (gI S 1)) (((gA S 8) u7_6.toNatClampNeg) - ((gA S 8) u7_6.toNatClampNeg) / (gI S 1) * (gI S 1)) r42 hc42) (va_cwS 5 hts gwRX7_218 rfl rfl rfl hdX7_shaped ⟨Nat.le_of_ble_eq_true rfl, Nat.le_of_ble_eq_true rfl⟩) hN hK hP hD hS hA rfl hl.1 rfl (Nat.le_of_ble_eq_true rfl) dX7_shapedSum_42 (st1 := [.int r42]) rfl ⟨Nat.zero_le _, Nat.zero_le _⟩ (fun H locs hP hD hS => ?_)
        refine lv_istore (pc := 45) hx hb (lv' := [(8, .int r42), (0, .ref (A 0)), (1, .int a1), (2, .int a2), (3, .int a3), (4, .int a4), (5, .long u5_6), (7, .int u7_6)]) dX7_shapedSum_45 hl (by decide) rfl (fun ls hl => ?_)
        refine lv_aload_n (pc := 47) hx hb dX7_shapedSum_47 rfl (lv_at hl 1 rfl) ?_
        refine vMgRX7_55_0 (pc := 48) hx hb hts mU_95 inU7 hown hK hP dX7_shapedSum_48 ?_
        refine lv_iload (pc := 51) hx hb dX7_shapedSum_51 (lv_at hl 7 rfl) ?_
        obtain ⟨hg53, hq6⟩ := hf_g hq6
        refine vMra_12 (pc := 53) hx hb hK hP (f := (gA S 10)) rfl hg53 dX7_shapedSum_53 ?_
        obtain ⟨q122, hv122, hq6⟩ := hf_b hq6
        have hj122 : ∀ (H : Heap) (locs : List Loc) (ls : Array Slot), va_P D vwCl (wM A B S) H → va_D Ad (wM A B S) → va_S Ad s.heap H locs → lv_has ls 11 [(0, .ref (A 0)), (1, .int a1), (2, .int a2), (3, .int a3), (4, .int a4), (5, .long u5_6), (7, .int u7_6), (8, .int r42)] → W p l e rm_X7_shapedSum s m args below meth c H locs 0 0 Q (F0 m 122 ls [.long q122]) := by
          intro H locs ls hP hD hS hl
          refine lv_lstore (pc := 122) hx hb (lv' := [(9, .long q122), (0, .ref (A 0)), (1, .int a1), (2, .int a2), (3, .int a3), (4, .int a4), (5, .long u5_6), (7, .int u7_6), (8, .int r42)]) dX7_shapedSum_122 hl (by decide) rfl (fun ls hl => ?_)
          refine lv_lload (pc := 124) hx hb dX7_shapedSum_124 (lv_at hl 6 rfl) ?_
          refine lv_iload (pc := 126) hx hb dX7_shapedSum_126 (lv_at hl 8 rfl) ?_
          refine lv_i2l (pc := 128) hx hb (v := r42.toInt64) dX7_shapedSum_128 rfl ?_
          refine lv_lload (pc := 129) hx hb dX7_shapedSum_129 (lv_at hl 0 rfl) ?_
          refine lv_lmul (pc := 131) hx hb dX7_shapedSum_131 ?_
          refine lv_ladd (pc := 132) hx hb dX7_shapedSum_132 ?_
          refine lv_lstore (pc := 133) hx hb (lv' := [(5, .long (u5_6 + (r42.toInt64 * q122))), (9, .long q122), (0, .ref (A 0)), (1, .int a1), (2, .int a2), (3, .int a3), (4, .int a4), (7, .int u7_6), (8, .int r42)]) dX7_shapedSum_133 hl (by decide) rfl (fun ls hl => ?_)
          refine lv_iinc (pc := 135) hx hb (v := u7_6 + 1) (lv' := [(7, .int (u7_6 + 1)), (5, .long (u5_6 + (r42.toInt64 * q122))), (9, .long q122), (0, .ref (A 0)), (1, .int a1), (2, .int a2), (3, .int a3), (4, .int a4), (8, .int r42)]) dX7_shapedSum_135 hl (k := 7) rfl rfl (by decide) rfl (fun ls hl => ?_)
          refine lv_goto (pc := 138) hx hb (tgt := 6) dX7_shapedSum_138 (by decide) ?_
          exact ih6 (u5_6 + (r42.toInt64 * q122)) (u7_6 + 1) H locs ls hq6 hP hD hS (lv_sub hl [3, 4, 5, 6, 7, 1, 0] rfl)
        refine lv_if_ge (pc := 54) hx hb (tgt := 75) dX7_shapedSum_54 (by decide) (fun c_54 => ?_) (fun c_54 => ?_)
        · have hv122 := hf_t c_54 hv122
          refine lv_iload (pc := 75) hx hb dX7_shapedSum_75 (lv_at hl 5 rfl) ?_
          refine lv_if_ge (pc := 77) hx hb (tgt := 103) dX7_shapedSum_77 (by decide) (fun c_77 => ?_) (fun c_77 => ?_)
          · have hv122 := hf_t c_77 hv122
            refine lv_aload_n (pc := 103) hx hb dX7_shapedSum_103 rfl (lv_at hl 1 rfl) ?_
            refine vMgRX7_48_0 (pc := 104) hx hb hts mU_93 inU7 hown hK hP dX7_shapedSum_104 ?_
            refine lv_bipush (pc := 107) hx hb (v := 8) dX7_shapedSum_107 (by decide) ?_
            refine lv_aload_n (pc := 109) hx hb dX7_shapedSum_109 rfl (lv_at hl 1 rfl) ?_
            refine vMgRX7_55_0 (pc := 110) hx hb hts mU_95 inU7 hown hK hP dX7_shapedSum_110 ?_
            refine lv_iload (pc := 113) hx hb dX7_shapedSum_113 (lv_at hl 7 rfl) ?_
            obtain ⟨hg115, hv122⟩ := hf_g hv122
            refine vMra_12 (pc := 115) hx hb hK hP (f := (gA S 10)) rfl hg115 dX7_shapedSum_115 ?_
            refine lv_imul (pc := 116) hx hb dX7_shapedSum_116 ?_
            refine lv_iload (pc := 117) hx hb dX7_shapedSum_117 (lv_at hl 5 rfl) ?_
            refine lv_iadd (pc := 119) hx hb dX7_shapedSum_119 ?_
            obtain ⟨hg120, hv122⟩ := hf_g hv122
            refine vMra_10 (pc := 120) hx hb hK hP (f := (gB S 0)) rfl hg120 dX7_shapedSum_120 ?_
            refine lv_lneg (pc := 121) hx hb dX7_shapedSum_121 ?_
            obtain rfl := Option.some.inj hv122
            exact hj122 H locs ls hP hD hS (lv_sub hl [1, 2, 3, 4, 5, 6, 7, 0] rfl)
          · have hv122 := hf_f c_77 hv122
            refine lv_aload_n (pc := 80) hx hb dX7_shapedSum_80 rfl (lv_at hl 1 rfl) ?_
            refine vMgRX7_48_0 (pc := 81) hx hb hts mU_93 inU7 hown hK hP dX7_shapedSum_81 ?_
            refine lv_bipush (pc := 84) hx hb (v := 8) dX7_shapedSum_84 (by decide) ?_
            refine lv_aload_n (pc := 86) hx hb dX7_shapedSum_86 rfl (lv_at hl 1 rfl) ?_
            refine vMgRX7_55_0 (pc := 87) hx hb hts mU_95 inU7 hown hK hP dX7_shapedSum_87 ?_
            refine lv_iload (pc := 90) hx hb dX7_shapedSum_90 (lv_at hl 7 rfl) ?_
            obtain ⟨hg92, hv122⟩ := hf_g hv122
            refine vMra_12 (pc := 92) hx hb hK hP (f := (gA S 10)) rfl hg92 dX7_shapedSum_92 ?_
            refine lv_imul (pc := 93) hx hb dX7_shapedSum_93 ?_
            refine lv_aload_n (pc := 94) hx hb dX7_shapedSum_94 rfl (lv_at hl 1 rfl) ?_
            refine vMgRX7_229_0 (pc := 95) hx hb hts mU_544 inU7 hown hK hP (x := (gI S 15)) rfl dX7_shapedSum_95 ?_
            refine lv_iadd (pc := 98) hx hb dX7_shapedSum_98 ?_
            obtain ⟨hg99, hv122⟩ := hf_g hv122
            refine vMra_10 (pc := 99) hx hb hK hP (f := (gB S 0)) rfl hg99 dX7_shapedSum_99 ?_
            refine lv_goto (pc := 100) hx hb (tgt := 122) dX7_shapedSum_100 (by decide) ?_
            obtain rfl := Option.some.inj hv122
            exact hj122 H locs ls hP hD hS (lv_sub hl [1, 2, 3, 4, 5, 6, 7, 0] rfl)
        · have hv122 := hf_f c_54 hv122
          refine lv_iload (pc := 57) hx hb dX7_shapedSum_57 (lv_at hl 7 rfl) ?_
          refine lv_iload (pc := 59) hx hb dX7_shapedSum_59 (lv_at hl 5 rfl) ?_
          refine lv_icmp_ne (pc := 61) hx hb (tgt := 71) dX7_shapedSum_61 (by decide) (fun c_61 => ?_) (fun c_61 => ?_)
          · have hv122 := hf_f c_61 hv122
            refine lv_lconst (pc := 71) hx hb (v := 0) dX7_shapedSum_71 (by decide) ?_
            refine lv_goto (pc := 72) hx hb (tgt := 122) dX7_shapedSum_72 (by decide) ?_
            obtain rfl := Option.some.inj hv122
            exact hj122 H locs ls hP hD hS (lv_sub hl [1, 2, 3, 4, 5, 6, 7, 0] rfl)
          · have hv122 := hf_t c_61 hv122
            refine lv_aload_n (pc := 64) hx hb dX7_shapedSum_64 rfl (lv_at hl 1 rfl) ?_
            refine vMgRX7_235_0 (pc := 65) hx hb hts mU_566 inU7 hown hK hP (x := (gL S 0)) rfl dX7_shapedSum_65 ?_
            refine lv_goto (pc := 68) hx hb (tgt := 122) dX7_shapedSum_68 (by decide) ?_
            obtain rfl := Option.some.inj hv122
            exact hj122 H locs ls hP hD hS (lv_sub hl [1, 2, 3, 4, 5, 6, 7, 0] rfl)
  exact lp6 256 0 0 H locs ls hq6 hP hD hS (lv_sub hl [2, 3, 4, 5, 6, 1, 0] rfl)
set_option maxHeartbeats 4000000 in
set_option maxRecDepth 100000 in
theorem kX7_solution (l : Launch) (D : va_G) (A : Nat → Nat) (B : Nat → ClassId) (sz : Nat) (S : w_S) (a1 : Int32) (a2 : Int32) (a3 : Int32) (a4 : Int32) (z : Int64 × w_S) (hf : fX7_solution S a1 a2 a3 a4 = some z) : MetW l yX7_solution (wsO yX7_solution cX7_solution 5 (some .long)) rm_X7_solution [.ref (A 0), .int a1, .int a2, .int a3, .int a4] D (tyB B) (wM A B S) (wM A B z.2) sz (some (.long z.1)) := by
  refine MetW.mkL (cc := cX7_solution) (maxL := 5) (by decide) (Nat.le_of_ble_eq_true rfl) ?_
  intro p e s m args below meth c Ad Q hx hb hts hown hml hN hK hA hR H locs ls hP hD hS hl
  have hl : lv_has ls 5 [(0, .ref (A 0)), (1, .int a1), (2, .int a2), (3, .int a3), (4, .int a4)] := hl
  rw [fX7_solution] at hf
  refine lv_aload_n (pc := 0) hx hb dX7_solution_0 rfl (lv_at hl 0 rfl) ?_
  refine lv_iload_n (pc := 1) hx hb dX7_solution_1 rfl (lv_at hl 1 rfl) ?_
  refine lv_iload_n (pc := 2) hx hb dX7_solution_2 rfl (lv_at hl 2 rfl) ?_
  refine lv_iload_n (pc := 3) hx hb dX7_solution_3 rfl (lv_at hl 3 rfl) ?_
  refine lv_iload (pc := 4) hx hb dX7_solution_4 (lv_at hl 4 rfl) ?_
  obtain ⟨r6, hc6, hf⟩ := hf_b hf
  refine cl_V (pc := 6) (As := [.int a1, .int a2, .int a3, .int a4]) (rest := []) hx hb hml hown hts (kX7_isPart l D A B _ S a1 a2 a3 a4 r6 hc6) (cwV 4 hts gwRX7_274 rfl rfl rfl hdX7_isPart ⟨Nat.le_of_ble_eq_true rfl, Nat.le_of_ble_eq_true rfl⟩) hN hK hP hD hS hA (va_recv hK hP (ci := 7) (q0 := 0) rfl (eM_0 A B _)) rfl hl.1 rfl (Nat.le_of_ble_eq_true rfl) dX7_solution_6 (st1 := [.int r6]) rfl ⟨Nat.zero_le _, Nat.zero_le _⟩ (fun H locs hP hD hS => ?_)
  refine lv_if_ne (pc := 9) hx hb (tgt := 17) dX7_solution_9 (by decide) (fun c_9 => ?_) (fun c_9 => ?_)
  · have hf := hf_f c_9 hf
    refine lv_aload_n (pc := 17) hx hb dX7_solution_17 rfl (lv_at hl 0 rfl) ?_
    refine lv_aload_n (pc := 18) hx hb dX7_solution_18 rfl (lv_at hl 0 rfl) ?_
    refine vMgRX7_29_0 (pc := 19) hx hb hts mU_87 inU7 hown hK hP dX7_solution_19 ?_
    refine lv_iload_n (pc := 22) hx hb dX7_solution_22 rfl (lv_at hl 1 rfl) ?_
    obtain ⟨hg23, hf⟩ := hf_g hf
    refine vMra_4 (pc := 23) hx hb hK hP (f := (gA S 3)) rfl hg23 dX7_solution_23 ?_
    obtain ⟨r24, hc24, hf⟩ := hf_b hf
    refine cl_V (pc := 24) (As := [.int ((gA S 3) a1.toNatClampNeg)]) (rest := []) hx hb hml hown hts (kX7_isFit l D A B _ S ((gA S 3) a1.toNatClampNeg) r24 hc24) (cwV 1 hts gwRX7_259 rfl rfl rfl hdX7_isFit ⟨Nat.le_of_ble_eq_true rfl, Nat.le_of_ble_eq_true rfl⟩) hN hK hP hD hS hA (va_recv hK hP (ci := 7) (q0 := 0) rfl (eM_0 A B _)) rfl hl.1 rfl (Nat.le_of_ble_eq_true rfl) dX7_solution_24 (st1 := [.int r24.1]) rfl ⟨Nat.zero_le _, Nat.zero_le _⟩ (fun H locs hP hD hS => ?_)
    refine lv_if_ne (pc := 27) hx hb (tgt := 36) dX7_solution_27 (by decide) (fun c_27 => ?_) (fun c_27 => ?_)
    · have hf := hf_f c_27 hf
      refine lv_aload_n (pc := 36) hx hb dX7_solution_36 rfl (lv_at hl 0 rfl) ?_
      refine lv_iload_n (pc := 37) hx hb dX7_solution_37 rfl (lv_at hl 1 rfl) ?_
      obtain ⟨r38, hc38, hf⟩ := hf_b hf
      refine cl_V (pc := 38) (As := [.int a1]) (rest := []) hx hb hml hown hts (kX7_setsUp l D A B _ r24.2 a1 r38 hc38) (cwV 1 hts gwRX7_262 rfl rfl rfl hdX7_setsUp ⟨Nat.le_of_ble_eq_true rfl, Nat.le_of_ble_eq_true rfl⟩) hN hK hP hD hS hA (va_recv hK hP (ci := 7) (q0 := 0) rfl (eM_0 A B _)) rfl hl.1 rfl (Nat.le_of_ble_eq_true rfl) dX7_solution_38 (st1 := []) rfl ⟨Nat.zero_le _, Nat.zero_le _⟩ (fun H locs hP hD hS => ?_)
      refine lv_aload_n (pc := 41) hx hb dX7_solution_41 rfl (lv_at hl 0 rfl) ?_
      obtain ⟨r42, hc42, hf⟩ := hf_b hf
      refine cl_V (pc := 42) (As := []) (rest := []) hx hb hml hown hts (kX7_isSolved l D A B _ r38 r42 hc42) (cwV 0 hts gwRX7_270 rfl rfl rfl hdX7_isSolved ⟨Nat.le_of_ble_eq_true rfl, Nat.le_of_ble_eq_true rfl⟩) hN hK hP hD hS hA (va_recv hK hP (ci := 7) (q0 := 0) rfl (eM_0 A B _)) rfl hl.1 rfl (Nat.le_of_ble_eq_true rfl) dX7_solution_42 (st1 := [.int r42]) rfl ⟨Nat.zero_le _, Nat.zero_le _⟩ (fun H locs hP hD hS => ?_)
      refine lv_if_eq (pc := 45) hx hb (tgt := 73) dX7_solution_45 (by decide) (fun c_45 => ?_) (fun c_45 => ?_)
      · have hf := hf_t c_45 hf
        refine lv_bipush (pc := 73) hx hb (v := (-3)) dX7_solution_73 (by decide) ?_
        obtain ⟨r75, hc75, hf⟩ := hf_b hf
        refine cl_S (pc := 75) (As := [.int (-3)]) (rest := []) hx hb hml hown hts (kX7_told l D A B _ r38 (-3) r75 hc75) (va_cwS 1 hts gwRX7_140 rfl rfl rfl hdX7_told ⟨Nat.le_of_ble_eq_true rfl, Nat.le_of_ble_eq_true rfl⟩) hN hK hP hD hS hA rfl hl.1 rfl (Nat.le_of_ble_eq_true rfl) dX7_solution_75 (st1 := [.long r75]) rfl ⟨Nat.zero_le _, Nat.zero_le _⟩ (fun H locs hP hD hS => ?_)
        obtain rfl := Option.some.inj hf
        exact hR H locs 78 ls hP hD hS dX7_solution_78
      · have hf := hf_f c_45 hf
        refine lv_aload_n (pc := 48) hx hb dX7_solution_48 rfl (lv_at hl 0 rfl) ?_
        refine lv_aload_n (pc := 49) hx hb dX7_solution_49 rfl (lv_at hl 0 rfl) ?_
        refine vMgRX7_29_0 (pc := 50) hx hb hts mU_87 inU7 hown hK hP dX7_solution_50 ?_
        refine lv_iload_n (pc := 53) hx hb dX7_solution_53 rfl (lv_at hl 1 rfl) ?_
        obtain ⟨hg54, hf⟩ := hf_g hf
        refine vMra_4 (pc := 54) hx hb hK hP (f := (gA r38 3)) rfl hg54 dX7_solution_54 ?_
        refine lv_iload_n (pc := 55) hx hb dX7_solution_55 rfl (lv_at hl 2 rfl) ?_
        refine lv_iload_n (pc := 56) hx hb dX7_solution_56 rfl (lv_at hl 3 rfl) ?_
        refine lv_iconst (pc := 57) hx hb (v := (-1)) dX7_solution_57 (by decide) ?_
        obtain ⟨r58, hc58, hf⟩ := hf_b hf
        refine cl_V (pc := 58) (As := [.int ((gA r38 3) a1.toNatClampNeg), .int a2, .int a3, .int (-1)]) (rest := []) hx hb hml hown hts (kX7_shapedSum l D A B _ r38 ((gA r38 3) a1.toNatClampNeg) a2 a3 (-1) r58 hc58) (cwV 4 hts gwRX7_278 rfl rfl rfl hdX7_shapedSum ⟨Nat.le_of_ble_eq_true rfl, Nat.le_of_ble_eq_true rfl⟩) hN hK hP hD hS hA (va_recv hK hP (ci := 7) (q0 := 0) rfl (eM_0 A B _)) rfl hl.1 rfl (Nat.le_of_ble_eq_true rfl) dX7_solution_58 (st1 := [.long r58]) rfl ⟨Nat.zero_le _, Nat.zero_le _⟩ (fun H locs hP hD hS => ?_)
        refine lv_aload_n (pc := 61) hx hb dX7_solution_61 rfl (lv_at hl 0 rfl) ?_
        refine vMgRX7_235_0 (pc := 62) hx hb hts mU_566 inU7 hown hK hP (x := (gL r38 0)) rfl dX7_solution_62 ?_
        refine lv_iload (pc := 65) hx hb dX7_solution_65 (lv_at hl 4 rfl) ?_
        obtain ⟨r67, hc67, hf⟩ := hf_b hf
        refine cl_S (pc := 67) (As := [.long r58, .long (gL r38 0), .int a4]) (rest := []) hx hb hml hown hts (kX7_partOf l D A B _ r38 r58 (gL r38 0) a4 r67 hc67) (va_cwS 3 hts gwRX7_282 rfl rfl rfl hdX7_partOf ⟨Nat.le_of_ble_eq_true rfl, Nat.le_of_ble_eq_true rfl⟩) hN hK hP hD hS hA rfl hl.1 rfl (Nat.le_of_ble_eq_true rfl) dX7_solution_67 (st1 := [.long r67]) rfl ⟨Nat.zero_le _, Nat.zero_le _⟩ (fun H locs hP hD hS => ?_)
        refine lv_goto (pc := 70) hx hb (tgt := 78) dX7_solution_70 (by decide) ?_
        obtain rfl := Option.some.inj hf
        exact hR H locs 78 ls hP hD hS dX7_solution_78
    · have hf := hf_t c_27 hf
      refine lv_bipush (pc := 30) hx hb (v := (-4)) dX7_solution_30 (by decide) ?_
      obtain ⟨r32, hc32, hf⟩ := hf_b hf
      refine cl_S (pc := 32) (As := [.int (-4)]) (rest := []) hx hb hml hown hts (kX7_told l D A B _ r24.2 (-4) r32 hc32) (va_cwS 1 hts gwRX7_140 rfl rfl rfl hdX7_told ⟨Nat.le_of_ble_eq_true rfl, Nat.le_of_ble_eq_true rfl⟩) hN hK hP hD hS hA rfl hl.1 rfl (Nat.le_of_ble_eq_true rfl) dX7_solution_32 (st1 := [.long r32]) rfl ⟨Nat.zero_le _, Nat.zero_le _⟩ (fun H locs hP hD hS => ?_)
      obtain rfl := Option.some.inj hf
      exact hR H locs 35 ls hP hD hS dX7_solution_35
  · have hf := hf_t c_9 hf
    refine lv_iconst (pc := 12) hx hb (v := (-1)) dX7_solution_12 (by decide) ?_
    obtain ⟨r13, hc13, hf⟩ := hf_b hf
    refine cl_S (pc := 13) (As := [.int (-1)]) (rest := []) hx hb hml hown hts (kX7_told l D A B _ S (-1) r13 hc13) (va_cwS 1 hts gwRX7_140 rfl rfl rfl hdX7_told ⟨Nat.le_of_ble_eq_true rfl, Nat.le_of_ble_eq_true rfl⟩) hN hK hP hD hS hA rfl hl.1 rfl (Nat.le_of_ble_eq_true rfl) dX7_solution_13 (st1 := [.long r13]) rfl ⟨Nat.zero_le _, Nat.zero_le _⟩ (fun H locs hP hD hS => ?_)
    obtain rfl := Option.some.inj hf
    exact hR H locs 16 ls hP hD hS dX7_solution_16
set_option maxHeartbeats 4000000 in
set_option maxRecDepth 100000 in
theorem kX7_base (l : Launch) (D : va_G) (A : Nat → Nat) (B : Nat → ClassId) (sz : Nat) (S : w_S) (a1 : Int32) (a2 : Int32) (a3 : Int32) (a4 : Int32) (a5 : Int32) (z : Int64 × w_S) (hf : fX7_base S a1 a2 a3 a4 a5 = some z) : MetW l yX7_base (wsO yX7_base cX7_base 6 (some .long)) rm_X7_base [.ref (A 0), .int a1, .int a2, .int a3, .int a4, .int a5] D (tyB B) (wM A B S) (wM A B z.2) sz (some (.long z.1)) := by
  refine MetW.mkL (cc := cX7_base) (maxL := 6) (by decide) (Nat.le_of_ble_eq_true rfl) ?_
  intro p e s m args below meth c Ad Q hx hb hts hown hml hN hK hA hR H locs ls hP hD hS hl
  have hl : lv_has ls 6 [(0, .ref (A 0)), (1, .int a1), (2, .int a2), (3, .int a3), (4, .int a4), (5, .int a5)] := hl
  rw [fX7_base] at hf
  refine lv_aload_n (pc := 0) hx hb dX7_base_0 rfl (lv_at hl 0 rfl) ?_
  refine lv_iload_n (pc := 1) hx hb dX7_base_1 rfl (lv_at hl 1 rfl) ?_
  refine lv_iload_n (pc := 2) hx hb dX7_base_2 rfl (lv_at hl 3 rfl) ?_
  refine lv_iload (pc := 3) hx hb dX7_base_3 (lv_at hl 4 rfl) ?_
  refine lv_iload (pc := 5) hx hb dX7_base_5 (lv_at hl 5 rfl) ?_
  obtain ⟨r7, hc7, hf⟩ := hf_b hf
  refine cl_V (pc := 7) (As := [.int a1, .int a3, .int a4, .int a5]) (rest := []) hx hb hml hown hts (kX7_isPart l D A B _ S a1 a3 a4 a5 r7 hc7) (cwV 4 hts gwRX7_274 rfl rfl rfl hdX7_isPart ⟨Nat.le_of_ble_eq_true rfl, Nat.le_of_ble_eq_true rfl⟩) hN hK hP hD hS hA (va_recv hK hP (ci := 7) (q0 := 0) rfl (eM_0 A B _)) rfl hl.1 rfl (Nat.le_of_ble_eq_true rfl) dX7_base_7 (st1 := [.int r7]) rfl ⟨Nat.zero_le _, Nat.zero_le _⟩ (fun H locs hP hD hS => ?_)
  refine lv_if_eq (pc := 10) hx hb (tgt := 25) dX7_base_10 (by decide) (fun c_10 => ?_) (fun c_10 => ?_)
  · have hf := hf_t c_10 hf
    refine lv_iconst (pc := 25) hx hb (v := (-1)) dX7_base_25 (by decide) ?_
    obtain ⟨r26, hc26, hf⟩ := hf_b hf
    refine cl_S (pc := 26) (As := [.int (-1)]) (rest := []) hx hb hml hown hts (kX7_told l D A B _ S (-1) r26 hc26) (va_cwS 1 hts gwRX7_140 rfl rfl rfl hdX7_told ⟨Nat.le_of_ble_eq_true rfl, Nat.le_of_ble_eq_true rfl⟩) hN hK hP hD hS hA rfl hl.1 rfl (Nat.le_of_ble_eq_true rfl) dX7_base_26 (st1 := [.long r26]) rfl ⟨Nat.zero_le _, Nat.zero_le _⟩ (fun H locs hP hD hS => ?_)
    obtain rfl := Option.some.inj hf
    exact hR H locs 29 ls hP hD hS dX7_base_29
  · have hf := hf_f c_10 hf
    refine lv_iload_n (pc := 13) hx hb dX7_base_13 rfl (lv_at hl 2 rfl) ?_
    refine lv_i2l (pc := 14) hx hb (v := a2.toInt64) dX7_base_14 rfl ?_
    refine lv_lconst (pc := 15) hx hb (v := 0) dX7_base_15 (by decide) ?_
    refine lv_ldc2 (pc := 16) hx hb (v := 8) hown (hts (.constantLong RX7 149 (8)) mU_271) dX7_base_16 ?_
    obtain ⟨r19, hc19, hf⟩ := hf_b hf
    refine cl_S (pc := 19) (As := [.long a2.toInt64, .long 0, .long 8]) (rest := []) hx hb hml hown hts (kX7_in l D A B _ S a2.toInt64 0 8 r19 hc19) (va_cwS 3 hts gwRX7_99 rfl rfl rfl hdX7_in ⟨Nat.le_of_ble_eq_true rfl, Nat.le_of_ble_eq_true rfl⟩) hN hK hP hD hS hA rfl hl.1 rfl (Nat.le_of_ble_eq_true rfl) dX7_base_19 (st1 := [.int r19]) rfl ⟨Nat.zero_le _, Nat.zero_le _⟩ (fun H locs hP hD hS => ?_)
    refine lv_if_ne (pc := 22) hx hb (tgt := 30) dX7_base_22 (by decide) (fun c_22 => ?_) (fun c_22 => ?_)
    · have hf := hf_f c_22 hf
      refine lv_aload_n (pc := 30) hx hb dX7_base_30 rfl (lv_at hl 0 rfl) ?_
      refine lv_aload_n (pc := 31) hx hb dX7_base_31 rfl (lv_at hl 0 rfl) ?_
      refine vMgRX7_29_0 (pc := 32) hx hb hts mU_87 inU7 hown hK hP dX7_base_32 ?_
      refine lv_iload_n (pc := 35) hx hb dX7_base_35 rfl (lv_at hl 1 rfl) ?_
      obtain ⟨hg36, hf⟩ := hf_g hf
      refine vMra_4 (pc := 36) hx hb hK hP (f := (gA S 3)) rfl hg36 dX7_base_36 ?_
      obtain ⟨r37, hc37, hf⟩ := hf_b hf
      refine cl_V (pc := 37) (As := [.int ((gA S 3) a1.toNatClampNeg)]) (rest := []) hx hb hml hown hts (kX7_isFit l D A B _ S ((gA S 3) a1.toNatClampNeg) r37 hc37) (cwV 1 hts gwRX7_259 rfl rfl rfl hdX7_isFit ⟨Nat.le_of_ble_eq_true rfl, Nat.le_of_ble_eq_true rfl⟩) hN hK hP hD hS hA (va_recv hK hP (ci := 7) (q0 := 0) rfl (eM_0 A B _)) rfl hl.1 rfl (Nat.le_of_ble_eq_true rfl) dX7_base_37 (st1 := [.int r37.1]) rfl ⟨Nat.zero_le _, Nat.zero_le _⟩ (fun H locs hP hD hS => ?_)
      refine lv_if_ne (pc := 40) hx hb (tgt := 49) dX7_base_40 (by decide) (fun c_40 => ?_) (fun c_40 => ?_)
      · have hf := hf_f c_40 hf
        refine lv_aload_n (pc := 49) hx hb dX7_base_49 rfl (lv_at hl 0 rfl) ?_
        refine lv_iload_n (pc := 50) hx hb dX7_base_50 rfl (lv_at hl 1 rfl) ?_
        obtain ⟨r51, hc51, hf⟩ := hf_b hf
        refine cl_V (pc := 51) (As := [.int a1]) (rest := []) hx hb hml hown hts (kX7_setsUp l D A B _ r37.2 a1 r51 hc51) (cwV 1 hts gwRX7_262 rfl rfl rfl hdX7_setsUp ⟨Nat.le_of_ble_eq_true rfl, Nat.le_of_ble_eq_true rfl⟩) hN hK hP hD hS hA (va_recv hK hP (ci := 7) (q0 := 0) rfl (eM_0 A B _)) rfl hl.1 rfl (Nat.le_of_ble_eq_true rfl) dX7_base_51 (st1 := []) rfl ⟨Nat.zero_le _, Nat.zero_le _⟩ (fun H locs hP hD hS => ?_)
        refine lv_iload_n (pc := 54) hx hb dX7_base_54 rfl (lv_at hl 2 rfl) ?_
        refine lv_aload_n (pc := 55) hx hb dX7_base_55 rfl (lv_at hl 0 rfl) ?_
        refine vMgRX7_229_0 (pc := 56) hx hb hts mU_544 inU7 hown hK hP (x := (gI r51 15)) rfl dX7_base_56 ?_
        refine lv_icmp_ge (pc := 59) hx hb (tgt := 97) dX7_base_59 (by decide) (fun c_59 => ?_) (fun c_59 => ?_)
        · have hf := hf_t c_59 hf
          refine lv_bipush (pc := 97) hx hb (v := (-3)) dX7_base_97 (by decide) ?_
          obtain ⟨r99, hc99, hf⟩ := hf_b hf
          refine cl_S (pc := 99) (As := [.int (-3)]) (rest := []) hx hb hml hown hts (kX7_told l D A B _ r51 (-3) r99 hc99) (va_cwS 1 hts gwRX7_140 rfl rfl rfl hdX7_told ⟨Nat.le_of_ble_eq_true rfl, Nat.le_of_ble_eq_true rfl⟩) hN hK hP hD hS hA rfl hl.1 rfl (Nat.le_of_ble_eq_true rfl) dX7_base_99 (st1 := [.long r99]) rfl ⟨Nat.zero_le _, Nat.zero_le _⟩ (fun H locs hP hD hS => ?_)
          obtain rfl := Option.some.inj hf
          exact hR H locs 102 ls hP hD hS dX7_base_102
        · have hf := hf_f c_59 hf
          refine lv_aload_n (pc := 62) hx hb dX7_base_62 rfl (lv_at hl 0 rfl) ?_
          refine vMgRX7_55_0 (pc := 63) hx hb hts mU_95 inU7 hown hK hP dX7_base_63 ?_
          refine lv_iload_n (pc := 66) hx hb dX7_base_66 rfl (lv_at hl 2 rfl) ?_
          obtain ⟨hg67, hf⟩ := hf_g hf
          refine vMra_12 (pc := 67) hx hb hK hP (f := (gA r51 10)) rfl hg67 dX7_base_67 ?_
          refine lv_if_ge (pc := 68) hx hb (tgt := 97) dX7_base_68 (by decide) (fun c_68 => ?_) (fun c_68 => ?_)
          · have hf := hf_t c_68 hf
            refine lv_bipush (pc := 97) hx hb (v := (-3)) dX7_base_97 (by decide) ?_
            obtain ⟨r99, hc99, hf⟩ := hf_b hf
            refine cl_S (pc := 99) (As := [.int (-3)]) (rest := []) hx hb hml hown hts (kX7_told l D A B _ r51 (-3) r99 hc99) (va_cwS 1 hts gwRX7_140 rfl rfl rfl hdX7_told ⟨Nat.le_of_ble_eq_true rfl, Nat.le_of_ble_eq_true rfl⟩) hN hK hP hD hS hA rfl hl.1 rfl (Nat.le_of_ble_eq_true rfl) dX7_base_99 (st1 := [.long r99]) rfl ⟨Nat.zero_le _, Nat.zero_le _⟩ (fun H locs hP hD hS => ?_)
            obtain rfl := Option.some.inj hf
            exact hR H locs 102 ls hP hD hS dX7_base_102
          · have hf := hf_f c_68 hf
            refine lv_aload_n (pc := 71) hx hb dX7_base_71 rfl (lv_at hl 0 rfl) ?_
            refine lv_aload_n (pc := 72) hx hb dX7_base_72 rfl (lv_at hl 0 rfl) ?_
            refine vMgRX7_29_0 (pc := 73) hx hb hts mU_87 inU7 hown hK hP dX7_base_73 ?_
            refine lv_iload_n (pc := 76) hx hb dX7_base_76 rfl (lv_at hl 1 rfl) ?_
            obtain ⟨hg77, hf⟩ := hf_g hf
            refine vMra_4 (pc := 77) hx hb hK hP (f := (gA r51 3)) rfl hg77 dX7_base_77 ?_
            refine lv_iload_n (pc := 78) hx hb dX7_base_78 rfl (lv_at hl 3 rfl) ?_
            refine lv_iload (pc := 79) hx hb dX7_base_79 (lv_at hl 4 rfl) ?_
            refine lv_iload_n (pc := 81) hx hb dX7_base_81 rfl (lv_at hl 2 rfl) ?_
            obtain ⟨r82, hc82, hf⟩ := hf_b hf
            refine cl_V (pc := 82) (As := [.int ((gA r51 3) a1.toNatClampNeg), .int a3, .int a4, .int a2]) (rest := []) hx hb hml hown hts (kX7_shapedSum l D A B _ r51 ((gA r51 3) a1.toNatClampNeg) a3 a4 a2 r82 hc82) (cwV 4 hts gwRX7_278 rfl rfl rfl hdX7_shapedSum ⟨Nat.le_of_ble_eq_true rfl, Nat.le_of_ble_eq_true rfl⟩) hN hK hP hD hS hA (va_recv hK hP (ci := 7) (q0 := 0) rfl (eM_0 A B _)) rfl hl.1 rfl (Nat.le_of_ble_eq_true rfl) dX7_base_82 (st1 := [.long r82]) rfl ⟨Nat.zero_le _, Nat.zero_le _⟩ (fun H locs hP hD hS => ?_)
            refine lv_aload_n (pc := 85) hx hb dX7_base_85 rfl (lv_at hl 0 rfl) ?_
            refine vMgRX7_235_0 (pc := 86) hx hb hts mU_566 inU7 hown hK hP (x := (gL r51 0)) rfl dX7_base_86 ?_
            refine lv_iload (pc := 89) hx hb dX7_base_89 (lv_at hl 5 rfl) ?_
            obtain ⟨r91, hc91, hf⟩ := hf_b hf
            refine cl_S (pc := 91) (As := [.long r82, .long (gL r51 0), .int a5]) (rest := []) hx hb hml hown hts (kX7_partOf l D A B _ r51 r82 (gL r51 0) a5 r91 hc91) (va_cwS 3 hts gwRX7_282 rfl rfl rfl hdX7_partOf ⟨Nat.le_of_ble_eq_true rfl, Nat.le_of_ble_eq_true rfl⟩) hN hK hP hD hS hA rfl hl.1 rfl (Nat.le_of_ble_eq_true rfl) dX7_base_91 (st1 := [.long r91]) rfl ⟨Nat.zero_le _, Nat.zero_le _⟩ (fun H locs hP hD hS => ?_)
            refine lv_goto (pc := 94) hx hb (tgt := 102) dX7_base_94 (by decide) ?_
            obtain rfl := Option.some.inj hf
            exact hR H locs 102 ls hP hD hS dX7_base_102
      · have hf := hf_t c_40 hf
        refine lv_bipush (pc := 43) hx hb (v := (-4)) dX7_base_43 (by decide) ?_
        obtain ⟨r45, hc45, hf⟩ := hf_b hf
        refine cl_S (pc := 45) (As := [.int (-4)]) (rest := []) hx hb hml hown hts (kX7_told l D A B _ r37.2 (-4) r45 hc45) (va_cwS 1 hts gwRX7_140 rfl rfl rfl hdX7_told ⟨Nat.le_of_ble_eq_true rfl, Nat.le_of_ble_eq_true rfl⟩) hN hK hP hD hS hA rfl hl.1 rfl (Nat.le_of_ble_eq_true rfl) dX7_base_45 (st1 := [.long r45]) rfl ⟨Nat.zero_le _, Nat.zero_le _⟩ (fun H locs hP hD hS => ?_)
        obtain rfl := Option.some.inj hf
        exact hR H locs 48 ls hP hD hS dX7_base_48
    · have hf := hf_t c_22 hf
      refine lv_iconst (pc := 25) hx hb (v := (-1)) dX7_base_25 (by decide) ?_
      obtain ⟨r26, hc26, hf⟩ := hf_b hf
      refine cl_S (pc := 26) (As := [.int (-1)]) (rest := []) hx hb hml hown hts (kX7_told l D A B _ S (-1) r26 hc26) (va_cwS 1 hts gwRX7_140 rfl rfl rfl hdX7_told ⟨Nat.le_of_ble_eq_true rfl, Nat.le_of_ble_eq_true rfl⟩) hN hK hP hD hS hA rfl hl.1 rfl (Nat.le_of_ble_eq_true rfl) dX7_base_26 (st1 := [.long r26]) rfl ⟨Nat.zero_le _, Nat.zero_le _⟩ (fun H locs hP hD hS => ?_)
      obtain rfl := Option.some.inj hf
      exact hR H locs 29 ls hP hD hS dX7_base_29
set_option maxHeartbeats 4000000 in
set_option maxRecDepth 100000 in
theorem kX7_clearsRules (l : Launch) (D : va_G) (A : Nat → Nat) (B : Nat → ClassId) (sz : Nat) (S : w_S) (a1 : Int32) (a2 : Int32) (a3 : Int32) (a4 : Int64) (z : Int64 × w_S) (hf : fX7_clearsRules S a1 a2 a3 a4 = some z) : MetW l yX7_clearsRules (wsO yX7_clearsRules cX7_clearsRules 12 (some .long)) rm_X7_clearsRules [.ref (A 0), .int a1, .int a2, .int a3, .long a4] D (tyB B) (wM A B S) (wM A B z.2) sz (some (.long z.1)) := by
  refine MetW.mkL (cc := cX7_clearsRules) (maxL := 12) (by decide) (Nat.le_of_ble_eq_true rfl) ?_
  intro p e s m args below meth c Ad Q hx hb hts hown hml hN hK hA hR H locs ls hP hD hS hl
  have hl : lv_has ls 12 [(0, .ref (A 0)), (1, .int a1), (2, .int a2), (3, .int a3), (4, .long a4)] := hl
  rw [fX7_clearsRules] at hf
  refine lv_aload_n (pc := 0) hx hb dX7_clearsRules_0 rfl (lv_at hl 0 rfl) ?_
  refine vMgRX7_58_0 (pc := 1) hx hb hts mU_96 inU7 hown hK hP dX7_clearsRules_1 ?_
  refine lv_bipush (pc := 4) hx hb (v := 9) dX7_clearsRules_4 (by decide) ?_
  refine lv_iload_n (pc := 6) hx hb dX7_clearsRules_6 rfl (lv_at hl 1 rfl) ?_
  refine lv_imul (pc := 7) hx hb dX7_clearsRules_7 ?_
  refine lv_iload_n (pc := 8) hx hb dX7_clearsRules_8 rfl (lv_at hl 3 rfl) ?_
  refine lv_iadd (pc := 9) hx hb dX7_clearsRules_9 ?_
  obtain ⟨hg10, hf⟩ := hf_g hf
  refine vMra_13 (pc := 10) hx hb hK hP (f := (gB S 1)) rfl hg10 dX7_clearsRules_10 ?_
  refine lv_lstore (pc := 11) hx hb (lv' := [(6, .long ((gB S 1) ((9 * a1) + a3).toNatClampNeg)), (0, .ref (A 0)), (1, .int a1), (2, .int a2), (3, .int a3), (4, .long a4)]) dX7_clearsRules_11 hl (by decide) rfl (fun ls hl => ?_)
  refine lv_iconst (pc := 13) hx hb (v := 0) dX7_clearsRules_13 (by decide) ?_
  refine lv_istore (pc := 14) hx hb (lv' := [(8, .int 0), (6, .long ((gB S 1) ((9 * a1) + a3).toNatClampNeg)), (0, .ref (A 0)), (1, .int a1), (2, .int a2), (3, .int a3), (4, .long a4)]) dX7_clearsRules_14 hl (by decide) rfl (fun ls hl => ?_)
  obtain ⟨q16, hq16, hf⟩ := hf_b hf
  have hk16 : ∀ (H : Heap) (locs : List Loc) (ls : Array Slot), va_P D vwCl (wM A B q16) H → va_D Ad (wM A B q16) → va_S Ad s.heap H locs → lv_has ls 12 [(6, .long ((gB S 1) ((9 * a1) + a3).toNatClampNeg))] → W p l e rm_X7_clearsRules s m args below meth c H locs 0 0 Q (F0 m 112 ls []) := by
    intro H locs ls hP hD hS hl
    refine lv_lload (pc := 112) hx hb dX7_clearsRules_112 (lv_at hl 0 rfl) ?_
    obtain rfl := Option.some.inj hf
    exact hR H locs 114 ls hP hD hS dX7_clearsRules_114
  have lp16 : ∀ (n : Nat) (T16 : w_S) (u8_16 : Int32) (H : Heap) (locs : List Loc) (ls : Array Slot), fX7_clearsRules_L16 a1 a2 a3 a4 ((gB S 1) ((9 * a1) + a3).toNatClampNeg) n T16 u8_16 = some q16 → va_P D vwCl (wM A B T16) H → va_D Ad (wM A B T16) → va_S Ad s.heap H locs → lv_has ls 12 [(0, .ref (A 0)), (1, .int a1), (2, .int a2), (3, .int a3), (4, .long a4), (6, .long ((gB S 1) ((9 * a1) + a3).toNatClampNeg)), (8, .int u8_16)] → W p l e rm_X7_clearsRules s m args below meth c H locs 0 0 Q (F0 m 16 ls []) := by
    intro n16
    induction n16 with
    | zero => intro T16 u8_16 H locs ls hq16; exact hf_0 hq16
    | succ n16 ih16 =>
      intro T16 u8_16 H locs ls hq16 hP hD hS hl
      rw [fX7_clearsRules_L16] at hq16
      refine lv_iload (pc := 16) hx hb dX7_clearsRules_16 (lv_at hl 6 rfl) ?_
      refine lv_iload_n (pc := 18) hx hb dX7_clearsRules_18 rfl (lv_at hl 2 rfl) ?_
      refine lv_icmp_ge (pc := 19) hx hb (tgt := 112) dX7_clearsRules_19 (by decide) (fun c_19 => ?_) (fun c_19 => ?_)
      · have hq16 := hf_t c_19 hq16
        obtain rfl := Option.some.inj hq16
        exact hk16 H locs ls hP hD hS (lv_sub hl [5] rfl)
      · have hq16 := hf_f c_19 hq16
        refine lv_aload_n (pc := 22) hx hb dX7_clearsRules_22 rfl (lv_at hl 0 rfl) ?_
        refine vMgRX7_58_0 (pc := 23) hx hb hts mU_96 inU7 hown hK hP dX7_clearsRules_23 ?_
        refine lv_bipush (pc := 26) hx hb (v := 9) dX7_clearsRules_26 (by decide) ?_
        refine lv_iload (pc := 28) hx hb dX7_clearsRules_28 (lv_at hl 6 rfl) ?_
        refine lv_imul (pc := 30) hx hb dX7_clearsRules_30 ?_
        refine lv_iload_n (pc := 31) hx hb dX7_clearsRules_31 rfl (lv_at hl 3 rfl) ?_
        refine lv_iadd (pc := 32) hx hb dX7_clearsRules_32 ?_
        obtain ⟨hg33, hq16⟩ := hf_g hq16
        refine vMra_13 (pc := 33) hx hb hK hP (f := (gB T16 1)) rfl hg33 dX7_clearsRules_33 ?_
        refine lv_lstore (pc := 34) hx hb (lv' := [(9, .long ((gB T16 1) ((9 * u8_16) + a3).toNatClampNeg)), (0, .ref (A 0)), (1, .int a1), (2, .int a2), (3, .int a3), (4, .long a4), (6, .long ((gB S 1) ((9 * a1) + a3).toNatClampNeg)), (8, .int u8_16)]) dX7_clearsRules_34 hl (by decide) rfl (fun ls hl => ?_)
        refine lv_iconst (pc := 36) hx hb (v := 0) dX7_clearsRules_36 (by decide) ?_
        refine lv_istore (pc := 37) hx hb (lv' := [(11, .int 0), (9, .long ((gB T16 1) ((9 * u8_16) + a3).toNatClampNeg)), (0, .ref (A 0)), (1, .int a1), (2, .int a2), (3, .int a3), (4, .long a4), (6, .long ((gB S 1) ((9 * a1) + a3).toNatClampNeg)), (8, .int u8_16)]) dX7_clearsRules_37 hl (by decide) rfl (fun ls hl => ?_)
        obtain ⟨q39, hq39, hq16⟩ := hf_b hq16
        have hk39 : ∀ (H : Heap) (locs : List Loc) (ls : Array Slot), va_P D vwCl (wM A B q39) H → va_D Ad (wM A B q39) → va_S Ad s.heap H locs → lv_has ls 12 [(0, .ref (A 0)), (1, .int a1), (2, .int a2), (3, .int a3), (4, .long a4), (6, .long ((gB S 1) ((9 * a1) + a3).toNatClampNeg)), (8, .int u8_16)] → W p l e rm_X7_clearsRules s m args below meth c H locs 0 0 Q (F0 m 106 ls []) := by
          intro H locs ls hP hD hS hl
          refine lv_iinc (pc := 106) hx hb (v := u8_16 + 1) (lv' := [(8, .int (u8_16 + 1)), (0, .ref (A 0)), (1, .int a1), (2, .int a2), (3, .int a3), (4, .long a4), (6, .long ((gB S 1) ((9 * a1) + a3).toNatClampNeg))]) dX7_clearsRules_106 hl (k := 6) rfl rfl (by decide) rfl (fun ls hl => ?_)
          refine lv_goto (pc := 109) hx hb (tgt := 16) dX7_clearsRules_109 (by decide) ?_
          exact ih16 q39 (u8_16 + 1) H locs ls hq16 hP hD hS (lv_sub hl [1, 2, 3, 4, 5, 6, 0] rfl)
        have lp39 : ∀ (n : Nat) (T39 : w_S) (u11_39 : Int32) (H : Heap) (locs : List Loc) (ls : Array Slot), fX7_clearsRules_L39 a1 a2 a3 a4 ((gB S 1) ((9 * a1) + a3).toNatClampNeg) u8_16 ((gB T16 1) ((9 * u8_16) + a3).toNatClampNeg) n T39 u11_39 = some q39 → va_P D vwCl (wM A B T39) H → va_D Ad (wM A B T39) → va_S Ad s.heap H locs → lv_has ls 12 [(0, .ref (A 0)), (1, .int a1), (2, .int a2), (3, .int a3), (4, .long a4), (6, .long ((gB S 1) ((9 * a1) + a3).toNatClampNeg)), (8, .int u8_16), (9, .long ((gB T16 1) ((9 * u8_16) + a3).toNatClampNeg)), (11, .int u11_39)] → W p l e rm_X7_clearsRules s m args below meth c H locs 0 0 Q (F0 m 39 ls []) := by
          intro n39
          induction n39 with
          | zero => intro T39 u11_39 H locs ls hq39; exact hf_0 hq39
          | succ n39 ih39 =>
            intro T39 u11_39 H locs ls hq39 hP hD hS hl
            rw [fX7_clearsRules_L39] at hq39
            refine lv_iload (pc := 39) hx hb dX7_clearsRules_39 (lv_at hl 8 rfl) ?_
            refine lv_bipush (pc := 41) hx hb (v := 9) dX7_clearsRules_41 (by decide) ?_
            refine lv_icmp_ge (pc := 43) hx hb (tgt := 106) dX7_clearsRules_43 (by decide) (fun c_43 => ?_) (fun c_43 => ?_)
            · have hq39 := hf_t c_43 hq39
              obtain rfl := Option.some.inj hq39
              exact hk39 H locs ls hP hD hS (lv_sub hl [0, 1, 2, 3, 4, 5, 6] rfl)
            · have hq39 := hf_f c_43 hq39
              refine lv_iload (pc := 46) hx hb dX7_clearsRules_46 (lv_at hl 6 rfl) ?_
              refine lv_iload_n (pc := 48) hx hb dX7_clearsRules_48 rfl (lv_at hl 1 rfl) ?_
              refine lv_icmp_eq (pc := 49) hx hb (tgt := 106) dX7_clearsRules_49 (by decide) (fun c_49 => ?_) (fun c_49 => ?_)
              · have hq39 := hf_t c_49 hq39
                obtain rfl := Option.some.inj hq39
                exact hk39 H locs ls hP hD hS (lv_sub hl [0, 1, 2, 3, 4, 5, 6] rfl)
              · have hq39 := hf_f c_49 hq39
                refine lv_aload_n (pc := 52) hx hb dX7_clearsRules_52 rfl (lv_at hl 0 rfl) ?_
                refine vMgRX7_58_0 (pc := 53) hx hb hts mU_96 inU7 hown hK hP dX7_clearsRules_53 ?_
                refine lv_bipush (pc := 56) hx hb (v := 9) dX7_clearsRules_56 (by decide) ?_
                refine lv_iload (pc := 58) hx hb dX7_clearsRules_58 (lv_at hl 6 rfl) ?_
                refine lv_imul (pc := 60) hx hb dX7_clearsRules_60 ?_
                refine lv_iload (pc := 61) hx hb dX7_clearsRules_61 (lv_at hl 8 rfl) ?_
                refine lv_iadd (pc := 63) hx hb dX7_clearsRules_63 ?_
                refine lv_lload (pc := 64) hx hb dX7_clearsRules_64 (lv_at hl 5 rfl) ?_
                refine lv_aload_n (pc := 66) hx hb dX7_clearsRules_66 rfl (lv_at hl 0 rfl) ?_
                refine vMgRX7_58_0 (pc := 67) hx hb hts mU_96 inU7 hown hK hP dX7_clearsRules_67 ?_
                refine lv_bipush (pc := 70) hx hb (v := 9) dX7_clearsRules_70 (by decide) ?_
                refine lv_iload (pc := 72) hx hb dX7_clearsRules_72 (lv_at hl 6 rfl) ?_
                refine lv_imul (pc := 74) hx hb dX7_clearsRules_74 ?_
                refine lv_iload (pc := 75) hx hb dX7_clearsRules_75 (lv_at hl 8 rfl) ?_
                refine lv_iadd (pc := 77) hx hb dX7_clearsRules_77 ?_
                obtain ⟨hg78, hq39⟩ := hf_g hq39
                refine vMra_13 (pc := 78) hx hb hK hP (f := (gB T39 1)) rfl hg78 dX7_clearsRules_78 ?_
                refine lv_lmul (pc := 79) hx hb dX7_clearsRules_79 ?_
                refine lv_lload (pc := 80) hx hb dX7_clearsRules_80 (lv_at hl 7 rfl) ?_
                refine lv_aload_n (pc := 82) hx hb dX7_clearsRules_82 rfl (lv_at hl 0 rfl) ?_
                refine vMgRX7_58_0 (pc := 83) hx hb hts mU_96 inU7 hown hK hP dX7_clearsRules_83 ?_
                refine lv_bipush (pc := 86) hx hb (v := 9) dX7_clearsRules_86 (by decide) ?_
                refine lv_iload_n (pc := 88) hx hb dX7_clearsRules_88 rfl (lv_at hl 1 rfl) ?_
                refine lv_imul (pc := 89) hx hb dX7_clearsRules_89 ?_
                refine lv_iload (pc := 90) hx hb dX7_clearsRules_90 (lv_at hl 8 rfl) ?_
                refine lv_iadd (pc := 92) hx hb dX7_clearsRules_92 ?_
                obtain ⟨hg93, hq39⟩ := hf_g hq39
                refine vMra_13 (pc := 93) hx hb hK hP (f := (gB T39 1)) rfl hg93 dX7_clearsRules_93 ?_
                refine lv_lmul (pc := 94) hx hb dX7_clearsRules_94 ?_
                refine lv_lsub (pc := 95) hx hb dX7_clearsRules_95 ?_
                refine lv_lload (pc := 96) hx hb dX7_clearsRules_96 (lv_at hl 4 rfl) ?_
                obtain ⟨hg98, hq39⟩ := hf_g hq39
                refine lv_ldiv (pc := 98) hx hb dX7_clearsRules_98 hg98 ?_
                obtain ⟨hg99, hq39⟩ := hf_g hq39
                refine vMwa_13 (pc := 99) hx hb hK hP hD hS (f := (gB T39 1)) rfl hg99 dX7_clearsRules_99 (fun H locs hP hD hS => ?_)
                refine lv_iinc (pc := 100) hx hb (v := u11_39 + 1) (lv' := [(11, .int (u11_39 + 1)), (0, .ref (A 0)), (1, .int a1), (2, .int a2), (3, .int a3), (4, .long a4), (6, .long ((gB S 1) ((9 * a1) + a3).toNatClampNeg)), (8, .int u8_16), (9, .long ((gB T16 1) ((9 * u8_16) + a3).toNatClampNeg))]) dX7_clearsRules_100 hl (k := 8) rfl rfl (by decide) rfl (fun ls hl => ?_)
                refine lv_goto (pc := 103) hx hb (tgt := 39) dX7_clearsRules_103 (by decide) ?_
                exact ih39 (sB T39 1 (vp_updL (gB T39 1) ((9 * u8_16) + u11_39).toNatClampNeg (((((gB S 1) ((9 * a1) + a3).toNatClampNeg) * ((gB T39 1) ((9 * u8_16) + u11_39).toNatClampNeg)) - (((gB T16 1) ((9 * u8_16) + a3).toNatClampNeg) * ((gB T39 1) ((9 * a1) + u11_39).toNatClampNeg))) / a4))) (u11_39 + 1) H locs ls hq39 hP hD hS (lv_sub hl [1, 2, 3, 4, 5, 6, 7, 8, 0] rfl)
        exact lp39 256 T16 0 H locs ls hq39 hP hD hS (lv_sub hl [2, 3, 4, 5, 6, 7, 8, 1, 0] rfl)
  exact lp16 256 S 0 H locs ls hq16 hP hD hS (lv_sub hl [2, 3, 4, 5, 6, 1, 0] rfl)
set_option maxHeartbeats 4000000 in
set_option maxRecDepth 100000 in
theorem kX7_swapsRules (l : Launch) (D : va_G) (A : Nat → Nat) (B : Nat → ClassId) (sz : Nat) (S : w_S) (a1 : Int32) (a2 : Int32) (z : w_S) (hf : fX7_swapsRules S a1 a2 = some z) : MetW l yX7_swapsRules (wsO yX7_swapsRules cX7_swapsRules 6 none) rm_X7_swapsRules [.ref (A 0), .int a1, .int a2] D (tyB B) (wM A B S) (wM A B z) sz (none) := by
  refine MetW.mkV (cc := cX7_swapsRules) (maxL := 6) (by decide) (Nat.le_of_ble_eq_true rfl) ?_
  intro p e s m args below meth c Ad Q hx hb hts hown hml hN hK hA hR H locs ls hP hD hS hl
  have hl : lv_has ls 6 [(0, .ref (A 0)), (1, .int a1), (2, .int a2)] := hl
  rw [fX7_swapsRules] at hf
  refine lv_iconst (pc := 0) hx hb (v := 0) dX7_swapsRules_0 (by decide) ?_
  refine lv_istore_n (pc := 1) hx hb (lv' := [(3, .int 0), (0, .ref (A 0)), (1, .int a1), (2, .int a2)]) dX7_swapsRules_1 rfl hl (by decide) rfl (fun ls hl => ?_)
  obtain ⟨q2, hq2, hf⟩ := hf_b hf
  have hk2 : ∀ (H : Heap) (locs : List Loc) (ls : Array Slot), va_P D vwCl (wM A B q2) H → va_D Ad (wM A B q2) → va_S Ad s.heap H locs → lv_has ls 6 [] → W p l e rm_X7_swapsRules s m args below meth c H locs 0 0 Q (F0 m 62 ls []) := by
    intro H locs ls hP hD hS hl
    obtain rfl := Option.some.inj hf
    exact hR H locs 62 ls hP hD hS dX7_swapsRules_62
  have lp2 : ∀ (n : Nat) (T2 : w_S) (u3_2 : Int32) (H : Heap) (locs : List Loc) (ls : Array Slot), fX7_swapsRules_L2 a1 a2 n T2 u3_2 = some q2 → va_P D vwCl (wM A B T2) H → va_D Ad (wM A B T2) → va_S Ad s.heap H locs → lv_has ls 6 [(0, .ref (A 0)), (1, .int a1), (2, .int a2), (3, .int u3_2)] → W p l e rm_X7_swapsRules s m args below meth c H locs 0 0 Q (F0 m 2 ls []) := by
    intro n2
    induction n2 with
    | zero => intro T2 u3_2 H locs ls hq2; exact hf_0 hq2
    | succ n2 ih2 =>
      intro T2 u3_2 H locs ls hq2 hP hD hS hl
      rw [fX7_swapsRules_L2] at hq2
      refine lv_iload_n (pc := 2) hx hb dX7_swapsRules_2 rfl (lv_at hl 3 rfl) ?_
      refine lv_bipush (pc := 3) hx hb (v := 9) dX7_swapsRules_3 (by decide) ?_
      refine lv_icmp_ge (pc := 5) hx hb (tgt := 62) dX7_swapsRules_5 (by decide) (fun c_5 => ?_) (fun c_5 => ?_)
      · have hq2 := hf_t c_5 hq2
        obtain rfl := Option.some.inj hq2
        exact hk2 H locs ls hP hD hS (lv_sub hl [] rfl)
      · have hq2 := hf_f c_5 hq2
        refine lv_aload_n (pc := 8) hx hb dX7_swapsRules_8 rfl (lv_at hl 0 rfl) ?_
        refine vMgRX7_58_0 (pc := 9) hx hb hts mU_96 inU7 hown hK hP dX7_swapsRules_9 ?_
        refine lv_bipush (pc := 12) hx hb (v := 9) dX7_swapsRules_12 (by decide) ?_
        refine lv_iload_n (pc := 14) hx hb dX7_swapsRules_14 rfl (lv_at hl 1 rfl) ?_
        refine lv_imul (pc := 15) hx hb dX7_swapsRules_15 ?_
        refine lv_iload_n (pc := 16) hx hb dX7_swapsRules_16 rfl (lv_at hl 3 rfl) ?_
        refine lv_iadd (pc := 17) hx hb dX7_swapsRules_17 ?_
        obtain ⟨hg18, hq2⟩ := hf_g hq2
        refine vMra_13 (pc := 18) hx hb hK hP (f := (gB T2 1)) rfl hg18 dX7_swapsRules_18 ?_
        refine lv_lstore (pc := 19) hx hb (lv' := [(4, .long ((gB T2 1) ((9 * a1) + u3_2).toNatClampNeg)), (0, .ref (A 0)), (1, .int a1), (2, .int a2), (3, .int u3_2)]) dX7_swapsRules_19 hl (by decide) rfl (fun ls hl => ?_)
        refine lv_aload_n (pc := 21) hx hb dX7_swapsRules_21 rfl (lv_at hl 1 rfl) ?_
        refine vMgRX7_58_0 (pc := 22) hx hb hts mU_96 inU7 hown hK hP dX7_swapsRules_22 ?_
        refine lv_bipush (pc := 25) hx hb (v := 9) dX7_swapsRules_25 (by decide) ?_
        refine lv_iload_n (pc := 27) hx hb dX7_swapsRules_27 rfl (lv_at hl 2 rfl) ?_
        refine lv_imul (pc := 28) hx hb dX7_swapsRules_28 ?_
        refine lv_iload_n (pc := 29) hx hb dX7_swapsRules_29 rfl (lv_at hl 4 rfl) ?_
        refine lv_iadd (pc := 30) hx hb dX7_swapsRules_30 ?_
        refine lv_aload_n (pc := 31) hx hb dX7_swapsRules_31 rfl (lv_at hl 1 rfl) ?_
        refine vMgRX7_58_0 (pc := 32) hx hb hts mU_96 inU7 hown hK hP dX7_swapsRules_32 ?_
        refine lv_bipush (pc := 35) hx hb (v := 9) dX7_swapsRules_35 (by decide) ?_
        refine lv_iload_n (pc := 37) hx hb dX7_swapsRules_37 rfl (lv_at hl 3 rfl) ?_
        refine lv_imul (pc := 38) hx hb dX7_swapsRules_38 ?_
        refine lv_iload_n (pc := 39) hx hb dX7_swapsRules_39 rfl (lv_at hl 4 rfl) ?_
        refine lv_iadd (pc := 40) hx hb dX7_swapsRules_40 ?_
        obtain ⟨hg41, hq2⟩ := hf_g hq2
        refine vMra_13 (pc := 41) hx hb hK hP (f := (gB T2 1)) rfl hg41 dX7_swapsRules_41 ?_
        obtain ⟨hg42, hq2⟩ := hf_g hq2
        refine vMwa_13 (pc := 42) hx hb hK hP hD hS (f := (gB T2 1)) rfl hg42 dX7_swapsRules_42 (fun H locs hP hD hS => ?_)
        refine lv_aload_n (pc := 43) hx hb dX7_swapsRules_43 rfl (lv_at hl 1 rfl) ?_
        refine vMgRX7_58_0 (pc := 44) hx hb hts mU_96 inU7 hown hK hP dX7_swapsRules_44 ?_
        refine lv_bipush (pc := 47) hx hb (v := 9) dX7_swapsRules_47 (by decide) ?_
        refine lv_iload_n (pc := 49) hx hb dX7_swapsRules_49 rfl (lv_at hl 3 rfl) ?_
        refine lv_imul (pc := 50) hx hb dX7_swapsRules_50 ?_
        refine lv_iload_n (pc := 51) hx hb dX7_swapsRules_51 rfl (lv_at hl 4 rfl) ?_
        refine lv_iadd (pc := 52) hx hb dX7_swapsRules_52 ?_
        refine lv_lload (pc := 53) hx hb dX7_swapsRules_53 (lv_at hl 0 rfl) ?_
        obtain ⟨hg55, hq2⟩ := hf_g hq2
        refine vMwa_13 (pc := 55) hx hb hK hP hD hS (f := vp_updL (gB T2 1) ((9 * a1) + u3_2).toNatClampNeg ((gB T2 1) ((9 * a2) + u3_2).toNatClampNeg)) rfl hg55 dX7_swapsRules_55 (fun H locs hP hD hS => ?_)
        refine lv_iinc (pc := 56) hx hb (v := u3_2 + 1) (lv' := [(3, .int (u3_2 + 1)), (4, .long ((gB T2 1) ((9 * a1) + u3_2).toNatClampNeg)), (0, .ref (A 0)), (1, .int a1), (2, .int a2)]) dX7_swapsRules_56 hl (k := 4) rfl rfl (by decide) rfl (fun ls hl => ?_)
        refine lv_goto (pc := 59) hx hb (tgt := 2) dX7_swapsRules_59 (by decide) ?_
        exact ih2 (sB (sB T2 1 (vp_updL (gB T2 1) ((9 * a1) + u3_2).toNatClampNeg ((gB T2 1) ((9 * a2) + u3_2).toNatClampNeg))) 1 (vp_updL (vp_updL (gB T2 1) ((9 * a1) + u3_2).toNatClampNeg ((gB T2 1) ((9 * a2) + u3_2).toNatClampNeg)) ((9 * a2) + u3_2).toNatClampNeg ((gB T2 1) ((9 * a1) + u3_2).toNatClampNeg))) (u3_2 + 1) H locs ls hq2 hP hD hS (lv_sub hl [2, 3, 4, 0] rfl)
  exact lp2 256 S 0 H locs ls hq2 hP hD hS (lv_sub hl [1, 2, 3, 0] rfl)
