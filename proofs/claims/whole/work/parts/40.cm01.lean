set_option maxHeartbeats 4000000 in
set_option maxRecDepth 100000 in
theorem kX7_table (l : Launch) (D : va_G) (A : Nat → Nat) (B : Nat → ClassId) (sz : Nat) (S : w_S) (z : w_S) (hf : fX7_table S = some z) : MetW l yX7_table (wsO yX7_table cX7_table 4 none) rm_X7_table [.ref (A 0)] D (tyB B) (wM A B S) (wM A B z) sz (none) := by
  refine MetW.mkV (cc := cX7_table) (maxL := 4) (by decide) (Nat.le_of_ble_eq_true rfl) ?_
  intro p e s m args below meth c Ad Q hx hb hts hown hml hN hK hA hR H locs ls hP hD hS hl
  have hl : lv_has ls 4 [(0, .ref (A 0))] := hl
  rw [fX7_table] at hf
  refine lv_aload_n (pc := 0) hx hb dX7_table_0 rfl (lv_at hl 0 rfl) ?_
  refine lv_bipush (pc := 1) hx hb (v := 97) dX7_table_1 (by decide) ?_
  obtain ⟨r3, hc3, hf⟩ := hf_b hf
  refine cl_V (pc := 3) (As := [.int 97]) (rest := []) hx hb hml hown hts (kX7_is l D A B _ S 97 r3 hc3) (cwV 1 hts gwRX7_170 rfl rfl rfl hdX7_is ⟨Nat.le_of_ble_eq_true rfl, Nat.le_of_ble_eq_true rfl⟩) hN hK hP hD hS hA (va_recv hK hP (ci := 7) (q0 := 0) rfl (eM_0 A B _)) rfl hl.1 rfl (Nat.le_of_ble_eq_true rfl) dX7_table_3 (st1 := [.int r3]) rfl ⟨Nat.zero_le _, Nat.zero_le _⟩ (fun H locs hP hD hS => ?_)
  obtain ⟨q40, hv40, hf⟩ := hf_b hf
  have hj40 : ∀ (H : Heap) (locs : List Loc) (ls : Array Slot), va_P D vwCl (wM A B S) H → va_D Ad (wM A B S) → va_S Ad s.heap H locs → lv_has ls 4 [(0, .ref (A 0))] → W p l e rm_X7_table s m args below meth c H locs 0 0 Q (F0 m 40 ls [.int q40]) := by
    intro H locs ls hP hD hS hl
    refine lv_istore_n (pc := 40) hx hb (lv' := [(1, .int q40), (0, .ref (A 0))]) dX7_table_40 rfl hl (by decide) rfl (fun ls hl => ?_)
    refine lv_iload_n (pc := 41) hx hb dX7_table_41 rfl (lv_at hl 0 rfl) ?_
    refine lv_if_ge (pc := 42) hx hb (tgt := 50) dX7_table_42 (by decide) (fun c_42 => ?_) (fun c_42 => ?_)
    · have hf := hf_t c_42 hf
      refine lv_aload_n (pc := 50) hx hb dX7_table_50 rfl (lv_at hl 1 rfl) ?_
      obtain ⟨r51, hc51, hf⟩ := hf_b hf
      refine cl_V (pc := 51) (As := []) (rest := []) hx hb hml hown hts (kX7_next l D A B _ S r51 hc51) (cwV 0 hts gwRX7_173 rfl rfl rfl hdX7_next ⟨Nat.le_of_ble_eq_true rfl, Nat.le_of_ble_eq_true rfl⟩) hN hK hP hD hS hA (va_recv hK hP (ci := 7) (q0 := 0) rfl (eM_0 A B _)) rfl hl.1 rfl (Nat.le_of_ble_eq_true rfl) dX7_table_51 (st1 := []) rfl ⟨Nat.zero_le _, Nat.zero_le _⟩ (fun H locs hP hD hS => ?_)
      refine lv_iconst (pc := 54) hx hb (v := 0) dX7_table_54 (by decide) ?_
      refine lv_istore_n (pc := 55) hx hb (lv' := [(2, .int 0), (1, .int q40), (0, .ref (A 0))]) dX7_table_55 rfl hl (by decide) rfl (fun ls hl => ?_)
      obtain ⟨q56, hq56, hf⟩ := hf_b hf
      have hk56 : ∀ (H : Heap) (locs : List Loc) (ls : Array Slot), va_P D vwCl (wM A B q56) H → va_D Ad (wM A B q56) → va_S Ad s.heap H locs → lv_has ls 4 [(0, .ref (A 0))] → W p l e rm_X7_table s m args below meth c H locs 0 0 Q (F0 m 156 ls []) := by
        intro H locs ls hP hD hS hl
        refine lv_aload_n (pc := 156) hx hb dX7_table_156 rfl (lv_at hl 0 rfl) ?_
        refine lv_dup (pc := 157) hx hb dX7_table_157 rfl ?_
        refine vMgRX7_183_0 (pc := 158) hx hb hts mU_328 inU7 hown hK hP (x := (gI q56 13)) rfl dX7_table_158 ?_
        refine lv_iconst (pc := 161) hx hb (v := 1) dX7_table_161 (by decide) ?_
        refine lv_iadd (pc := 162) hx hb dX7_table_162 ?_
        refine vMpRX7_183_0 (pc := 163) hx hb hts mU_328 inU7 hown hK hP hD hS dX7_table_163 (fun H locs hP hD hS => ?_)
        obtain rfl := Option.some.inj hf
        exact hR H locs 166 ls hP hD hS dX7_table_166
      have lp56 : ∀ (n : Nat) (T56 : w_S) (u2_56 : Int32) (H : Heap) (locs : List Loc) (ls : Array Slot), fX7_table_L56 q40 n T56 u2_56 = some q56 → va_P D vwCl (wM A B T56) H → va_D Ad (wM A B T56) → va_S Ad s.heap H locs → lv_has ls 4 [(0, .ref (A 0)), (1, .int q40), (2, .int u2_56)] → W p l e rm_X7_table s m args below meth c H locs 0 0 Q (F0 m 56 ls []) := by
        intro n56
        induction n56 with
        | zero => intro T56 u2_56 H locs ls hq56; exact hf_0 hq56
        | succ n56 ih56 =>
          intro T56 u2_56 H locs ls hq56 hP hD hS hl
          rw [fX7_table_L56] at hq56
          refine lv_iload_n (pc := 56) hx hb dX7_table_56 rfl (lv_at hl 2 rfl) ?_
          refine lv_aload_n (pc := 57) hx hb dX7_table_57 rfl (lv_at hl 0 rfl) ?_
          refine lv_iload_n (pc := 58) hx hb dX7_table_58 rfl (lv_at hl 1 rfl) ?_
          obtain ⟨r59, hc59, hq56⟩ := hf_b hq56
          refine cl_V (pc := 59) (As := [.int q40]) (rest := [.int u2_56]) hx hb hml hown hts (kX7_rowsOf l D A B _ T56 q40 r59 hc59) (cwV 1 hts gwRX7_103 rfl rfl rfl hdX7_rowsOf ⟨Nat.le_of_ble_eq_true rfl, Nat.le_of_ble_eq_true rfl⟩) hN hK hP hD hS hA (va_recv hK hP (ci := 7) (q0 := 0) rfl (eM_0 A B _)) rfl hl.1 rfl (Nat.le_of_ble_eq_true rfl) dX7_table_59 (st1 := [.int r59, .int u2_56]) rfl ⟨Nat.zero_le _, Nat.zero_le _⟩ (fun H locs hP hD hS => ?_)
          refine lv_icmp_ge (pc := 62) hx hb (tgt := 156) dX7_table_62 (by decide) (fun c_62 => ?_) (fun c_62 => ?_)
          · have hq56 := hf_t c_62 hq56
            obtain rfl := Option.some.inj hq56
            exact hk56 H locs ls hP hD hS (lv_sub hl [0] rfl)
          · have hq56 := hf_f c_62 hq56
            refine lv_aload_n (pc := 65) hx hb dX7_table_65 rfl (lv_at hl 0 rfl) ?_
            refine vMgRX7_167_0 (pc := 66) hx hb hts mU_327 inU7 hown hK hP (x := (gI T56 12)) rfl dX7_table_66 ?_
            refine lv_if_ge (pc := 69) hx hb (tgt := 156) dX7_table_69 (by decide) (fun c_69 => ?_) (fun c_69 => ?_)
            · have hq56 := hf_t c_69 hq56
              obtain rfl := Option.some.inj hq56
              exact hk56 H locs ls hP hD hS (lv_sub hl [0] rfl)
            · have hq56 := hf_f c_69 hq56
              refine lv_iconst (pc := 72) hx hb (v := 0) dX7_table_72 (by decide) ?_
              refine lv_istore_n (pc := 73) hx hb (lv' := [(3, .int 0), (0, .ref (A 0)), (1, .int q40), (2, .int u2_56)]) dX7_table_73 rfl hl (by decide) rfl (fun ls hl => ?_)
              obtain ⟨q74, hq74, hq56⟩ := hf_b hq56
              have hk74 : ∀ (H : Heap) (locs : List Loc) (ls : Array Slot), va_P D vwCl (wM A B q74) H → va_D Ad (wM A B q74) → va_S Ad s.heap H locs → lv_has ls 4 [(0, .ref (A 0)), (1, .int q40), (2, .int u2_56)] → W p l e rm_X7_table s m args below meth c H locs 0 0 Q (F0 m 103 ls []) := by
                intro H locs ls hP hD hS hl
                refine lv_aload_n (pc := 103) hx hb dX7_table_103 rfl (lv_at hl 0 rfl) ?_
                refine vMgRX7_167_0 (pc := 104) hx hb hts mU_327 inU7 hown hK hP (x := (gI q74 12)) rfl dX7_table_104 ?_
                obtain ⟨q139, hv139, hq56⟩ := hf_b hq56
                have hj139 : ∀ (H : Heap) (locs : List Loc) (ls : Array Slot), va_P D vwCl (wM A B q139) H → va_D Ad (wM A B q139) → va_S Ad s.heap H locs → lv_has ls 4 [(0, .ref (A 0)), (1, .int q40), (2, .int u2_56)] → W p l e rm_X7_table s m args below meth c H locs 0 0 Q (F0 m 139 ls []) := by
                  intro H locs ls hP hD hS hl
                  refine lv_aload_n (pc := 139) hx hb dX7_table_139 rfl (lv_at hl 0 rfl) ?_
                  refine vMgRX7_167_0 (pc := 140) hx hb hts mU_327 inU7 hown hK hP (x := (gI q139 12)) rfl dX7_table_140 ?_
                  refine lv_if_ge (pc := 143) hx hb (tgt := 150) dX7_table_143 (by decide) (fun c_143 => ?_) (fun c_143 => ?_)
                  · have hq56 := hf_t c_143 hq56
                    refine lv_iinc (pc := 150) hx hb (v := u2_56 + 1) (lv' := [(2, .int (u2_56 + 1)), (0, .ref (A 0)), (1, .int q40)]) dX7_table_150 hl (k := 2) rfl rfl (by decide) rfl (fun ls hl => ?_)
                    refine lv_goto (pc := 153) hx hb (tgt := 56) dX7_table_153 (by decide) ?_
                    exact ih56 q139 (u2_56 + 1) H locs ls hq56 hP hD hS (lv_sub hl [1, 2, 0] rfl)
                  · have hq56 := hf_f c_143 hq56
                    refine lv_aload_n (pc := 146) hx hb dX7_table_146 rfl (lv_at hl 0 rfl) ?_
                    obtain ⟨r147, hc147, hq56⟩ := hf_b hq56
                    refine cl_V (pc := 147) (As := []) (rest := []) hx hb hml hown hts (kX7_next l D A B _ q139 r147 hc147) (cwV 0 hts gwRX7_173 rfl rfl rfl hdX7_next ⟨Nat.le_of_ble_eq_true rfl, Nat.le_of_ble_eq_true rfl⟩) hN hK hP hD hS hA (va_recv hK hP (ci := 7) (q0 := 0) rfl (eM_0 A B _)) rfl hl.1 rfl (Nat.le_of_ble_eq_true rfl) dX7_table_147 (st1 := []) rfl ⟨Nat.zero_le _, Nat.zero_le _⟩ (fun H locs hP hD hS => ?_)
                    refine lv_iinc (pc := 150) hx hb (v := u2_56 + 1) (lv' := [(2, .int (u2_56 + 1)), (0, .ref (A 0)), (1, .int q40)]) dX7_table_150 hl (k := 2) rfl rfl (by decide) rfl (fun ls hl => ?_)
                    refine lv_goto (pc := 153) hx hb (tgt := 56) dX7_table_153 (by decide) ?_
                    exact ih56 r147 (u2_56 + 1) H locs ls hq56 hP hD hS (lv_sub hl [1, 2, 0] rfl)
                refine lv_if_ge (pc := 107) hx hb (tgt := 139) dX7_table_107 (by decide) (fun c_107 => ?_) (fun c_107 => ?_)
                · have hv139 := hf_t c_107 hv139
                  obtain rfl := Option.some.inj hv139
                  exact hj139 H locs ls hP hD hS (lv_sub hl [0, 1, 2] rfl)
                · have hv139 := hf_f c_107 hv139
                  refine lv_aload_n (pc := 110) hx hb dX7_table_110 rfl (lv_at hl 0 rfl) ?_
                  refine lv_iload_n (pc := 111) hx hb dX7_table_111 rfl (lv_at hl 2 rfl) ?_
                  refine lv_iconst (pc := 112) hx hb (v := 1) dX7_table_112 (by decide) ?_
                  refine lv_iadd (pc := 113) hx hb dX7_table_113 ?_
                  refine lv_aload_n (pc := 114) hx hb dX7_table_114 rfl (lv_at hl 0 rfl) ?_
                  refine lv_iload_n (pc := 115) hx hb dX7_table_115 rfl (lv_at hl 1 rfl) ?_
                  obtain ⟨r116, hc116, hv139⟩ := hf_b hv139
                  refine cl_V (pc := 116) (As := [.int q40]) (rest := [.int (u2_56 + 1), .ref (A 0)]) hx hb hml hown hts (kX7_rowsOf l D A B _ q74 q40 r116 hc116) (cwV 1 hts gwRX7_103 rfl rfl rfl hdX7_rowsOf ⟨Nat.le_of_ble_eq_true rfl, Nat.le_of_ble_eq_true rfl⟩) hN hK hP hD hS hA (va_recv hK hP (ci := 7) (q0 := 0) rfl (eM_0 A B _)) rfl hl.1 rfl (Nat.le_of_ble_eq_true rfl) dX7_table_116 (st1 := [.int r116, .int (u2_56 + 1), .ref (A 0)]) rfl ⟨Nat.zero_le _, Nat.zero_le _⟩ (fun H locs hP hD hS => ?_)
                  obtain ⟨q129, hv129, hv139⟩ := hf_b hv139
                  have hj129 : ∀ (H : Heap) (locs : List Loc) (ls : Array Slot), va_P D vwCl (wM A B q74) H → va_D Ad (wM A B q74) → va_S Ad s.heap H locs → lv_has ls 4 [(0, .ref (A 0)), (1, .int q40), (2, .int u2_56)] → W p l e rm_X7_table s m args below meth c H locs 0 0 Q (F0 m 129 ls [.int q129, .ref (A 0)]) := by
                    intro H locs ls hP hD hS hl
                    obtain ⟨r129, hc129, hv139⟩ := hf_b hv139
                    refine cl_V (pc := 129) (As := [.int q129]) (rest := []) hx hb hml hown hts (kX7_is l D A B _ q74 q129 r129 hc129) (cwV 1 hts gwRX7_170 rfl rfl rfl hdX7_is ⟨Nat.le_of_ble_eq_true rfl, Nat.le_of_ble_eq_true rfl⟩) hN hK hP hD hS hA (va_recv hK hP (ci := 7) (q0 := 0) rfl (eM_0 A B _)) rfl hl.1 rfl (Nat.le_of_ble_eq_true rfl) dX7_table_129 (st1 := [.int r129]) rfl ⟨Nat.zero_le _, Nat.zero_le _⟩ (fun H locs hP hD hS => ?_)
                    refine lv_if_ne (pc := 132) hx hb (tgt := 139) dX7_table_132 (by decide) (fun c_132 => ?_) (fun c_132 => ?_)
                    · have hv139 := hf_f c_132 hv139
                      obtain rfl := Option.some.inj hv139
                      exact hj139 H locs ls hP hD hS (lv_sub hl [0, 1, 2] rfl)
                    · have hv139 := hf_t c_132 hv139
                      refine lv_aload_n (pc := 135) hx hb dX7_table_135 rfl (lv_at hl 0 rfl) ?_
                      obtain ⟨r136, hc136, hv139⟩ := hf_b hv139
                      refine cl_V (pc := 136) (As := []) (rest := []) hx hb hml hown hts (kX7_fails l D A B _ q74 r136 hc136) (cwV 0 hts gwRX7_176 rfl rfl rfl hdX7_fails ⟨Nat.le_of_ble_eq_true rfl, Nat.le_of_ble_eq_true rfl⟩) hN hK hP hD hS hA (va_recv hK hP (ci := 7) (q0 := 0) rfl (eM_0 A B _)) rfl hl.1 rfl (Nat.le_of_ble_eq_true rfl) dX7_table_136 (st1 := []) rfl ⟨Nat.zero_le _, Nat.zero_le _⟩ (fun H locs hP hD hS => ?_)
                      obtain rfl := Option.some.inj hv139
                      exact hj139 H locs ls hP hD hS (lv_sub hl [0, 1, 2] rfl)
                  refine lv_icmp_ge (pc := 119) hx hb (tgt := 127) dX7_table_119 (by decide) (fun c_119 => ?_) (fun c_119 => ?_)
                  · have hv129 := hf_t c_119 hv129
                    refine lv_bipush (pc := 127) hx hb (v := 59) dX7_table_127 (by decide) ?_
                    obtain rfl := Option.some.inj hv129
                    exact hj129 H locs ls hP hD hS (lv_sub hl [0, 1, 2] rfl)
                  · have hv129 := hf_f c_119 hv129
                    refine lv_bipush (pc := 122) hx hb (v := 44) dX7_table_122 (by decide) ?_
                    refine lv_goto (pc := 124) hx hb (tgt := 129) dX7_table_124 (by decide) ?_
                    obtain rfl := Option.some.inj hv129
                    exact hj129 H locs ls hP hD hS (lv_sub hl [0, 1, 2] rfl)
              have lp74 : ∀ (n : Nat) (T74 : w_S) (u3_74 : Int32) (H : Heap) (locs : List Loc) (ls : Array Slot), fX7_table_L74 q40 u2_56 n T74 u3_74 = some q74 → va_P D vwCl (wM A B T74) H → va_D Ad (wM A B T74) → va_S Ad s.heap H locs → lv_has ls 4 [(0, .ref (A 0)), (1, .int q40), (2, .int u2_56), (3, .int u3_74)] → W p l e rm_X7_table s m args below meth c H locs 0 0 Q (F0 m 74 ls []) := by
                intro n74
                induction n74 with
                | zero => intro T74 u3_74 H locs ls hq74; exact hf_0 hq74
                | succ n74 ih74 =>
                  intro T74 u3_74 H locs ls hq74 hP hD hS hl
                  rw [fX7_table_L74] at hq74
                  refine lv_iload_n (pc := 74) hx hb dX7_table_74 rfl (lv_at hl 3 rfl) ?_
                  refine lv_aload_n (pc := 75) hx hb dX7_table_75 rfl (lv_at hl 0 rfl) ?_
                  refine lv_iload_n (pc := 76) hx hb dX7_table_76 rfl (lv_at hl 1 rfl) ?_
                  obtain ⟨r77, hc77, hq74⟩ := hf_b hq74
                  refine cl_V (pc := 77) (As := [.int q40]) (rest := [.int u3_74]) hx hb hml hown hts (kX7_columnsOf l D A B _ T74 q40 r77 hc77) (cwV 1 hts gwRX7_107 rfl rfl rfl hdX7_columnsOf ⟨Nat.le_of_ble_eq_true rfl, Nat.le_of_ble_eq_true rfl⟩) hN hK hP hD hS hA (va_recv hK hP (ci := 7) (q0 := 0) rfl (eM_0 A B _)) rfl hl.1 rfl (Nat.le_of_ble_eq_true rfl) dX7_table_77 (st1 := [.int r77, .int u3_74]) rfl ⟨Nat.zero_le _, Nat.zero_le _⟩ (fun H locs hP hD hS => ?_)
                  refine lv_icmp_ge (pc := 80) hx hb (tgt := 103) dX7_table_80 (by decide) (fun c_80 => ?_) (fun c_80 => ?_)
                  · have hq74 := hf_t c_80 hq74
                    obtain rfl := Option.some.inj hq74
                    exact hk74 H locs ls hP hD hS (lv_sub hl [0, 1, 2] rfl)
                  · have hq74 := hf_f c_80 hq74
                    refine lv_aload_n (pc := 83) hx hb dX7_table_83 rfl (lv_at hl 0 rfl) ?_
                    refine vMgRX7_167_0 (pc := 84) hx hb hts mU_327 inU7 hown hK hP (x := (gI T74 12)) rfl dX7_table_84 ?_
                    refine lv_if_ge (pc := 87) hx hb (tgt := 103) dX7_table_87 (by decide) (fun c_87 => ?_) (fun c_87 => ?_)
                    · have hq74 := hf_t c_87 hq74
                      obtain rfl := Option.some.inj hq74
                      exact hk74 H locs ls hP hD hS (lv_sub hl [0, 1, 2] rfl)
                    · have hq74 := hf_f c_87 hq74
                      refine lv_aload_n (pc := 90) hx hb dX7_table_90 rfl (lv_at hl 0 rfl) ?_
                      refine lv_iload_n (pc := 91) hx hb dX7_table_91 rfl (lv_at hl 1 rfl) ?_
                      refine lv_iload_n (pc := 92) hx hb dX7_table_92 rfl (lv_at hl 2 rfl) ?_
                      refine lv_iload_n (pc := 93) hx hb dX7_table_93 rfl (lv_at hl 3 rfl) ?_
                      obtain ⟨r94, hc94, hq74⟩ := hf_b hq74
                      refine cl_V (pc := 94) (As := [.int q40, .int u2_56, .int u3_74]) (rest := []) hx hb hml hown hts (kX7_entryOf l D A B _ T74 q40 u2_56 u3_74 r94 hc94) (cwV 3 hts gwRX7_179 rfl rfl rfl hdX7_entryOf ⟨Nat.le_of_ble_eq_true rfl, Nat.le_of_ble_eq_true rfl⟩) hN hK hP hD hS hA (va_recv hK hP (ci := 7) (q0 := 0) rfl (eM_0 A B _)) rfl hl.1 rfl (Nat.le_of_ble_eq_true rfl) dX7_table_94 (st1 := []) rfl ⟨Nat.zero_le _, Nat.zero_le _⟩ (fun H locs hP hD hS => ?_)
                      refine lv_iinc (pc := 97) hx hb (v := u3_74 + 1) (lv' := [(3, .int (u3_74 + 1)), (0, .ref (A 0)), (1, .int q40), (2, .int u2_56)]) dX7_table_97 hl (k := 3) rfl rfl (by decide) rfl (fun ls hl => ?_)
                      refine lv_goto (pc := 100) hx hb (tgt := 74) dX7_table_100 (by decide) ?_
                      exact ih74 r94 (u3_74 + 1) H locs ls hq74 hP hD hS (lv_sub hl [1, 2, 3, 0] rfl)
              exact lp74 256 T56 0 H locs ls hq74 hP hD hS (lv_sub hl [1, 2, 3, 0] rfl)
      exact lp56 256 r51 0 H locs ls hq56 hP hD hS (lv_sub hl [2, 1, 0] rfl)
    · have hf := hf_f c_42 hf
      refine lv_aload_n (pc := 45) hx hb dX7_table_45 rfl (lv_at hl 1 rfl) ?_
      obtain ⟨r46, hc46, hf⟩ := hf_b hf
      refine cl_V (pc := 46) (As := []) (rest := []) hx hb hml hown hts (kX7_fails l D A B _ S r46 hc46) (cwV 0 hts gwRX7_176 rfl rfl rfl hdX7_fails ⟨Nat.le_of_ble_eq_true rfl, Nat.le_of_ble_eq_true rfl⟩) hN hK hP hD hS hA (va_recv hK hP (ci := 7) (q0 := 0) rfl (eM_0 A B _)) rfl hl.1 rfl (Nat.le_of_ble_eq_true rfl) dX7_table_46 (st1 := []) rfl ⟨Nat.zero_le _, Nat.zero_le _⟩ (fun H locs hP hD hS => ?_)
      obtain rfl := Option.some.inj hf
      exact hR H locs 49 ls hP hD hS dX7_table_49
  refine lv_if_eq (pc := 6) hx hb (tgt := 13) dX7_table_6 (by decide) (fun c_6 => ?_) (fun c_6 => ?_)
  · have hv40 := hf_t c_6 hv40
    refine lv_aload_n (pc := 13) hx hb dX7_table_13 rfl (lv_at hl 0 rfl) ?_
    refine lv_bipush (pc := 14) hx hb (v := 98) dX7_table_14 (by decide) ?_
    obtain ⟨r16, hc16, hv40⟩ := hf_b hv40
    refine cl_V (pc := 16) (As := [.int 98]) (rest := []) hx hb hml hown hts (kX7_is l D A B _ S 98 r16 hc16) (cwV 1 hts gwRX7_170 rfl rfl rfl hdX7_is ⟨Nat.le_of_ble_eq_true rfl, Nat.le_of_ble_eq_true rfl⟩) hN hK hP hD hS hA (va_recv hK hP (ci := 7) (q0 := 0) rfl (eM_0 A B _)) rfl hl.1 rfl (Nat.le_of_ble_eq_true rfl) dX7_table_16 (st1 := [.int r16]) rfl ⟨Nat.zero_le _, Nat.zero_le _⟩ (fun H locs hP hD hS => ?_)
    refine lv_if_eq (pc := 19) hx hb (tgt := 26) dX7_table_19 (by decide) (fun c_19 => ?_) (fun c_19 => ?_)
    · have hv40 := hf_t c_19 hv40
      refine lv_aload_n (pc := 26) hx hb dX7_table_26 rfl (lv_at hl 0 rfl) ?_
      refine lv_bipush (pc := 27) hx hb (v := 99) dX7_table_27 (by decide) ?_
      obtain ⟨r29, hc29, hv40⟩ := hf_b hv40
      refine cl_V (pc := 29) (As := [.int 99]) (rest := []) hx hb hml hown hts (kX7_is l D A B _ S 99 r29 hc29) (cwV 1 hts gwRX7_170 rfl rfl rfl hdX7_is ⟨Nat.le_of_ble_eq_true rfl, Nat.le_of_ble_eq_true rfl⟩) hN hK hP hD hS hA (va_recv hK hP (ci := 7) (q0 := 0) rfl (eM_0 A B _)) rfl hl.1 rfl (Nat.le_of_ble_eq_true rfl) dX7_table_29 (st1 := [.int r29]) rfl ⟨Nat.zero_le _, Nat.zero_le _⟩ (fun H locs hP hD hS => ?_)
      refine lv_if_eq (pc := 32) hx hb (tgt := 39) dX7_table_32 (by decide) (fun c_32 => ?_) (fun c_32 => ?_)
      · have hv40 := hf_t c_32 hv40
        refine lv_iconst (pc := 39) hx hb (v := (-1)) dX7_table_39 (by decide) ?_
        obtain rfl := Option.some.inj hv40
        exact hj40 H locs ls hP hD hS (lv_sub hl [0] rfl)
      · have hv40 := hf_f c_32 hv40
        refine lv_iconst (pc := 35) hx hb (v := 2) dX7_table_35 (by decide) ?_
        refine lv_goto (pc := 36) hx hb (tgt := 40) dX7_table_36 (by decide) ?_
        obtain rfl := Option.some.inj hv40
        exact hj40 H locs ls hP hD hS (lv_sub hl [0] rfl)
    · have hv40 := hf_f c_19 hv40
      refine lv_iconst (pc := 22) hx hb (v := 1) dX7_table_22 (by decide) ?_
      refine lv_goto (pc := 23) hx hb (tgt := 40) dX7_table_23 (by decide) ?_
      obtain rfl := Option.some.inj hv40
      exact hj40 H locs ls hP hD hS (lv_sub hl [0] rfl)
  · have hv40 := hf_f c_6 hv40
    refine lv_iconst (pc := 9) hx hb (v := 0) dX7_table_9 (by decide) ?_
    refine lv_goto (pc := 10) hx hb (tgt := 40) dX7_table_10 (by decide) ?_
    obtain rfl := Option.some.inj hv40
    exact hj40 H locs ls hP hD hS (lv_sub hl [0] rfl)
set_option maxHeartbeats 4000000 in
set_option maxRecDepth 100000 in
theorem kX7_text (l : Launch) (D : va_G) (A : Nat → Nat) (B : Nat → ClassId) (sz : Nat) (S : w_S) (z : Int32 × w_S) (hf : fX7_text S = some z) : MetW l yX7_text (wsO yX7_text cX7_text 1 (some .int)) rm_X7_text [.ref (A 0)] D (tyB B) (wM A B S) (wM A B z.2) sz (some (.int z.1)) := by
  refine MetW.mkI (cc := cX7_text) (maxL := 1) (by decide) (Nat.le_of_ble_eq_true rfl) ?_
  intro p e s m args below meth c Ad Q hx hb hts hown hml hN hK hA hR H locs ls hP hD hS hl
  have hl : lv_has ls 1 [(0, .ref (A 0))] := hl
  rw [fX7_text] at hf
  refine lv_aload_n (pc := 0) hx hb dX7_text_0 rfl (lv_at hl 0 rfl) ?_
  refine lv_aload_n (pc := 1) hx hb dX7_text_1 rfl (lv_at hl 0 rfl) ?_
  refine vMgRX7_7_0 (pc := 2) hx hb hts mU_81 inU7 hown hK hP dX7_text_2 ?_
  refine lv_aload_n (pc := 5) hx hb dX7_text_5 rfl (lv_at hl 0 rfl) ?_
  refine vMgRX7_16_0 (pc := 6) hx hb hts mU_83 inU7 hown hK hP dX7_text_6 ?_
  obtain ⟨r9, hc9, hf⟩ := hf_b hf
  refine cl_V (pc := 9) (As := [.ref (A 1), .ref (A 3)]) (rest := []) hx hb hml hown hts (kX7_saves_1_3 l D A B _ S r9 hc9) (cwV 2 hts gwRX7_186 rfl rfl rfl hdX7_saves ⟨Nat.le_of_ble_eq_true rfl, Nat.le_of_ble_eq_true rfl⟩) hN hK hP hD hS hA (va_recv hK hP (ci := 7) (q0 := 0) rfl (eM_0 A B _)) rfl hl.1 rfl (Nat.le_of_ble_eq_true rfl) dX7_text_9 (st1 := []) rfl ⟨Nat.zero_le _, Nat.zero_le _⟩ (fun H locs hP hD hS => ?_)
  refine lv_aload_n (pc := 12) hx hb dX7_text_12 rfl (lv_at hl 0 rfl) ?_
  refine lv_iconst (pc := 13) hx hb (v := 0) dX7_text_13 (by decide) ?_
  refine vMpRX7_154_0 (pc := 14) hx hb hts mU_326 inU7 hown hK hP hD hS dX7_text_14 (fun H locs hP hD hS => ?_)
  refine lv_aload_n (pc := 17) hx hb dX7_text_17 rfl (lv_at hl 0 rfl) ?_
  refine lv_iconst (pc := 18) hx hb (v := (-1)) dX7_text_18 (by decide) ?_
  refine vMpRX7_167_0 (pc := 19) hx hb hts mU_327 inU7 hown hK hP hD hS dX7_text_19 (fun H locs hP hD hS => ?_)
  refine lv_aload_n (pc := 22) hx hb dX7_text_22 rfl (lv_at hl 0 rfl) ?_
  refine lv_iconst (pc := 23) hx hb (v := 0) dX7_text_23 (by decide) ?_
  refine vMpRX7_183_0 (pc := 24) hx hb hts mU_328 inU7 hown hK hP hD hS dX7_text_24 (fun H locs hP hD hS => ?_)
  refine lv_aload_n (pc := 27) hx hb dX7_text_27 rfl (lv_at hl 0 rfl) ?_
  obtain ⟨r28, hc28, hf⟩ := hf_b hf
  refine cl_V (pc := 28) (As := []) (rest := []) hx hb hml hown hts (kX7_next l D A B _ (sI (sI (sI r9 11 0) 12 (-1)) 13 0) r28 hc28) (cwV 0 hts gwRX7_173 rfl rfl rfl hdX7_next ⟨Nat.le_of_ble_eq_true rfl, Nat.le_of_ble_eq_true rfl⟩) hN hK hP hD hS hA (va_recv hK hP (ci := 7) (q0 := 0) rfl (eM_0 A B _)) rfl hl.1 rfl (Nat.le_of_ble_eq_true rfl) dX7_text_28 (st1 := []) rfl ⟨Nat.zero_le _, Nat.zero_le _⟩ (fun H locs hP hD hS => ?_)
  obtain ⟨q31, hq31, hf⟩ := hf_b hf
  have hk31 : ∀ (H : Heap) (locs : List Loc) (ls : Array Slot), va_P D vwCl (wM A B q31) H → va_D Ad (wM A B q31) → va_S Ad s.heap H locs → lv_has ls 1 [(0, .ref (A 0))] → W p l e rm_X7_text s m args below meth c H locs 0 0 Q (F0 m 56 ls []) := by
    intro H locs ls hP hD hS hl
    refine lv_aload_n (pc := 56) hx hb dX7_text_56 rfl (lv_at hl 0 rfl) ?_
    refine lv_iconst (pc := 57) hx hb (v := 0) dX7_text_57 (by decide) ?_
    refine vMpRX7_151_0 (pc := 58) hx hb hts mU_272 inU7 hown hK hP hD hS dX7_text_58 (fun H locs hP hD hS => ?_)
    refine lv_aload_n (pc := 61) hx hb dX7_text_61 rfl (lv_at hl 0 rfl) ?_
    refine vMgRX7_167_0 (pc := 62) hx hb hts mU_327 inU7 hown hK hP (x := (gI q31 12)) rfl dX7_text_62 ?_
    refine lv_if_ge (pc := 65) hx hb (tgt := 73) dX7_text_65 (by decide) (fun c_65 => ?_) (fun c_65 => ?_)
    · have hf := hf_t c_65 hf
      refine lv_aload_n (pc := 73) hx hb dX7_text_73 rfl (lv_at hl 0 rfl) ?_
      refine lv_aload_n (pc := 74) hx hb dX7_text_74 rfl (lv_at hl 0 rfl) ?_
      refine vMgRX7_16_0 (pc := 75) hx hb hts mU_83 inU7 hown hK hP dX7_text_75 ?_
      refine lv_aload_n (pc := 78) hx hb dX7_text_78 rfl (lv_at hl 0 rfl) ?_
      refine vMgRX7_7_0 (pc := 79) hx hb hts mU_81 inU7 hown hK hP dX7_text_79 ?_
      obtain ⟨r82, hc82, hf⟩ := hf_b hf
      refine cl_V (pc := 82) (As := [.ref (A 3), .ref (A 1)]) (rest := []) hx hb hml hown hts (kX7_saves_3_1 l D A B _ (sI q31 9 0) r82 hc82) (cwV 2 hts gwRX7_186 rfl rfl rfl hdX7_saves ⟨Nat.le_of_ble_eq_true rfl, Nat.le_of_ble_eq_true rfl⟩) hN hK hP hD hS hA (va_recv hK hP (ci := 7) (q0 := 0) rfl (eM_0 A B _)) rfl hl.1 rfl (Nat.le_of_ble_eq_true rfl) dX7_text_82 (st1 := []) rfl ⟨Nat.zero_le _, Nat.zero_le _⟩ (fun H locs hP hD hS => ?_)
      refine lv_bipush (pc := 85) hx hb (v := (-100)) dX7_text_85 (by decide) ?_
      refine lv_aload_n (pc := 87) hx hb dX7_text_87 rfl (lv_at hl 0 rfl) ?_
      refine vMgRX7_167_0 (pc := 88) hx hb hts mU_327 inU7 hown hK hP (x := (gI r82 12)) rfl dX7_text_88 ?_
      refine lv_isub (pc := 91) hx hb dX7_text_91 ?_
      obtain rfl := Option.some.inj hf
      exact hR H locs 92 ls hP hD hS dX7_text_92
    · have hf := hf_f c_65 hf
      refine lv_aload_n (pc := 68) hx hb dX7_text_68 rfl (lv_at hl 0 rfl) ?_
      refine vMgRX7_183_0 (pc := 69) hx hb hts mU_328 inU7 hown hK hP (x := (gI q31 13)) rfl dX7_text_69 ?_
      obtain rfl := Option.some.inj hf
      exact hR H locs 72 ls hP hD hS dX7_text_72
  have lp31 : ∀ (n : Nat) (T31 : w_S) (H : Heap) (locs : List Loc) (ls : Array Slot), fX7_text_L31  n T31 = some q31 → va_P D vwCl (wM A B T31) H → va_D Ad (wM A B T31) → va_S Ad s.heap H locs → lv_has ls 1 [(0, .ref (A 0))] → W p l e rm_X7_text s m args below meth c H locs 0 0 Q (F0 m 31 ls []) := by
    intro n31
    induction n31 with
    | zero => intro T31 H locs ls hq31; exact hf_0 hq31
    | succ n31 ih31 =>
      intro T31 H locs ls hq31 hP hD hS hl
      rw [fX7_text_L31] at hq31
      refine lv_aload_n (pc := 31) hx hb dX7_text_31 rfl (lv_at hl 0 rfl) ?_
      refine vMgRX7_167_0 (pc := 32) hx hb hts mU_327 inU7 hown hK hP (x := (gI T31 12)) rfl dX7_text_32 ?_
      refine lv_if_ge (pc := 35) hx hb (tgt := 56) dX7_text_35 (by decide) (fun c_35 => ?_) (fun c_35 => ?_)
      · have hq31 := hf_t c_35 hq31
        obtain rfl := Option.some.inj hq31
        exact hk31 H locs ls hP hD hS (lv_sub hl [0] rfl)
      · have hq31 := hf_f c_35 hq31
        refine lv_aload_n (pc := 38) hx hb dX7_text_38 rfl (lv_at hl 0 rfl) ?_
        refine vMgRX7_157_0 (pc := 39) hx hb hts mU_329 inU7 hown hK hP (x := (gI T31 10)) rfl dX7_text_39 ?_
        refine lv_aload_n (pc := 42) hx hb dX7_text_42 rfl (lv_at hl 0 rfl) ?_
        refine vMgRX7_151_0 (pc := 43) hx hb hts mU_272 inU7 hown hK hP (x := (gI T31 9)) rfl dX7_text_43 ?_
        refine lv_icmp_ge (pc := 46) hx hb (tgt := 56) dX7_text_46 (by decide) (fun c_46 => ?_) (fun c_46 => ?_)
        · have hq31 := hf_t c_46 hq31
          obtain rfl := Option.some.inj hq31
          exact hk31 H locs ls hP hD hS (lv_sub hl [0] rfl)
        · have hq31 := hf_f c_46 hq31
          refine lv_aload_n (pc := 49) hx hb dX7_text_49 rfl (lv_at hl 0 rfl) ?_
          obtain ⟨r50, hc50, hq31⟩ := hf_b hq31
          refine cl_V (pc := 50) (As := []) (rest := []) hx hb hml hown hts (kX7_table l D A B _ T31 r50 hc50) (cwV 0 hts gwRX7_190 rfl rfl rfl hdX7_table ⟨Nat.le_of_ble_eq_true rfl, Nat.le_of_ble_eq_true rfl⟩) hN hK hP hD hS hA (va_recv hK hP (ci := 7) (q0 := 0) rfl (eM_0 A B _)) rfl hl.1 rfl (Nat.le_of_ble_eq_true rfl) dX7_text_50 (st1 := []) rfl ⟨Nat.zero_le _, Nat.zero_le _⟩ (fun H locs hP hD hS => ?_)
          refine lv_goto (pc := 53) hx hb (tgt := 31) dX7_text_53 (by decide) ?_
          exact ih31 r50 H locs ls hq31 hP hD hS (lv_sub hl [0] rfl)
  exact lp31 256 r28 H locs ls hq31 hP hD hS (lv_sub hl [0] rfl)
set_option maxHeartbeats 4000000 in
set_option maxRecDepth 100000 in
theorem kX7_isKind (l : Launch) (D : va_G) (A : Nat → Nat) (B : Nat → ClassId) (sz : Nat) (S : w_S) (a0 : Int32) (z : Int32) (hf : fX7_isKind a0 = some z) : MetW l yX7_isKind (wsO yX7_isKind cX7_isKind 1 (some .boolean)) rm_X7_isKind [.int a0] D (tyB B) (wM A B S) (wM A B S) sz (some (.int z)) := by
  refine MetW.mkZ (cc := cX7_isKind) (maxL := 1) (by decide) (Nat.le_of_ble_eq_true rfl) ?_
  intro p e s m args below meth c Ad Q hx hb hts hown hml hN hK hA hR H locs ls hP hD hS hl
  have hl : lv_has ls 1 [(0, .int a0)] := hl
  rw [fX7_isKind] at hf
  refine lv_iload_n (pc := 0) hx hb dX7_isKind_0 rfl (lv_at hl 0 rfl) ?_
  refine lv_i2l (pc := 1) hx hb (v := a0.toInt64) dX7_isKind_1 rfl ?_
  refine lv_lconst (pc := 2) hx hb (v := 0) dX7_isKind_2 (by decide) ?_
  refine lv_ldc2 (pc := 3) hx hb (v := 6) hown (hts (.constantLong RX7 193 (6)) mU_388) dX7_isKind_3 ?_
  obtain ⟨r6, hc6, hf⟩ := hf_b hf
  refine cl_S (pc := 6) (As := [.long a0.toInt64, .long 0, .long 6]) (rest := []) hx hb hml hown hts (kX7_in l D A B _ S a0.toInt64 0 6 r6 hc6) (va_cwS 3 hts gwRX7_99 rfl rfl rfl hdX7_in ⟨Nat.le_of_ble_eq_true rfl, Nat.le_of_ble_eq_true rfl⟩) hN hK hP hD hS hA rfl hl.1 rfl (Nat.le_of_ble_eq_true rfl) dX7_isKind_6 (st1 := [.int r6]) rfl ⟨Nat.zero_le _, Nat.zero_le _⟩ (fun H locs hP hD hS => ?_)
  obtain ⟨hg9, hf⟩ := hf_g hf
  obtain rfl := Option.some.inj hf
  exact hR H locs 9 ls hP hD hS (nz_of hg9) dX7_isKind_9
set_option maxHeartbeats 4000000 in
set_option maxRecDepth 100000 in
theorem kX7_equation (l : Launch) (D : va_G) (A : Nat → Nat) (B : Nat → ClassId) (sz : Nat) (S : w_S) (a1 : Int32) (a2 : Int32) (z : Int32 × w_S) (hf : fX7_equation S a1 a2 = some z) : MetW l yX7_equation (wsO yX7_equation cX7_equation 3 (some .int)) rm_X7_equation [.ref (A 0), .int a1, .int a2] D (tyB B) (wM A B S) (wM A B z.2) sz (some (.int z.1)) := by
  refine MetW.mkI (cc := cX7_equation) (maxL := 3) (by decide) (Nat.le_of_ble_eq_true rfl) ?_
  intro p e s m args below meth c Ad Q hx hb hts hown hml hN hK hA hR H locs ls hP hD hS hl
  have hl : lv_has ls 3 [(0, .ref (A 0)), (1, .int a1), (2, .int a2)] := hl
  rw [fX7_equation] at hf
  refine lv_iload_n (pc := 0) hx hb dX7_equation_0 rfl (lv_at hl 1 rfl) ?_
  obtain ⟨r1, hc1, hf⟩ := hf_b hf
  refine cl_S (pc := 1) (As := [.int a1]) (rest := []) hx hb hml hown hts (kX7_isKind l D A B _ S a1 r1 hc1) (va_cwS 1 hts gwRX7_198 rfl rfl rfl hdX7_isKind ⟨Nat.le_of_ble_eq_true rfl, Nat.le_of_ble_eq_true rfl⟩) hN hK hP hD hS hA rfl hl.1 rfl (Nat.le_of_ble_eq_true rfl) dX7_equation_1 (st1 := [.int r1]) rfl ⟨Nat.zero_le _, Nat.zero_le _⟩ (fun H locs hP hD hS => ?_)
  refine lv_if_eq (pc := 4) hx hb (tgt := 21) dX7_equation_4 (by decide) (fun c_4 => ?_) (fun c_4 => ?_)
  · have hf := hf_t c_4 hf
    refine lv_iconst (pc := 21) hx hb (v := (-1)) dX7_equation_21 (by decide) ?_
    obtain rfl := Option.some.inj hf
    exact hR H locs 22 ls hP hD hS dX7_equation_22
  · have hf := hf_f c_4 hf
    refine lv_iload_n (pc := 7) hx hb dX7_equation_7 rfl (lv_at hl 2 rfl) ?_
    refine lv_i2l (pc := 8) hx hb (v := a2.toInt64) dX7_equation_8 rfl ?_
    refine lv_ldc2 (pc := 9) hx hb (v := (-2)) hown (hts (.constantLong RX7 201 (-2)) mU_383) dX7_equation_9 ?_
    refine lv_ldc2 (pc := 12) hx hb (v := 2) hown (hts (.constantLong RX7 97 (2)) mU_167) dX7_equation_12 ?_
    obtain ⟨r15, hc15, hf⟩ := hf_b hf
    refine cl_S (pc := 15) (As := [.long a2.toInt64, .long (-2), .long 2]) (rest := []) hx hb hml hown hts (kX7_in l D A B _ S a2.toInt64 (-2) 2 r15 hc15) (va_cwS 3 hts gwRX7_99 rfl rfl rfl hdX7_in ⟨Nat.le_of_ble_eq_true rfl, Nat.le_of_ble_eq_true rfl⟩) hN hK hP hD hS hA rfl hl.1 rfl (Nat.le_of_ble_eq_true rfl) dX7_equation_15 (st1 := [.int r15]) rfl ⟨Nat.zero_le _, Nat.zero_le _⟩ (fun H locs hP hD hS => ?_)
    refine lv_if_ne (pc := 18) hx hb (tgt := 23) dX7_equation_18 (by decide) (fun c_18 => ?_) (fun c_18 => ?_)
    · have hf := hf_f c_18 hf
      refine lv_aload_n (pc := 23) hx hb dX7_equation_23 rfl (lv_at hl 0 rfl) ?_
      refine vMgRX7_195_0 (pc := 24) hx hb hts mU_384 inU7 hown hK hP (x := (gI S 2)) rfl dX7_equation_24 ?_
      refine lv_bipush (pc := 27) hx hb (v := 6) dX7_equation_27 (by decide) ?_
      refine lv_icmp_ne (pc := 29) hx hb (tgt := 35) dX7_equation_29 (by decide) (fun c_29 => ?_) (fun c_29 => ?_)
      · have hf := hf_f c_29 hf
        refine lv_aload_n (pc := 35) hx hb dX7_equation_35 rfl (lv_at hl 0 rfl) ?_
        refine vMgRX7_29_0 (pc := 36) hx hb hts mU_87 inU7 hown hK hP dX7_equation_36 ?_
        refine lv_aload_n (pc := 39) hx hb dX7_equation_39 rfl (lv_at hl 0 rfl) ?_
        refine vMgRX7_195_0 (pc := 40) hx hb hts mU_384 inU7 hown hK hP (x := (gI S 2)) rfl dX7_equation_40 ?_
        refine lv_iload_n (pc := 43) hx hb dX7_equation_43 rfl (lv_at hl 1 rfl) ?_
        obtain ⟨hg44, hf⟩ := hf_g hf
        refine vMwa_4 (pc := 44) hx hb hK hP hD hS (f := (gA S 3)) rfl hg44 dX7_equation_44 (fun H locs hP hD hS => ?_)
        refine lv_aload_n (pc := 45) hx hb dX7_equation_45 rfl (lv_at hl 0 rfl) ?_
        refine vMgRX7_32_0 (pc := 46) hx hb hts mU_88 inU7 hown hK hP dX7_equation_46 ?_
        refine lv_aload_n (pc := 49) hx hb dX7_equation_49 rfl (lv_at hl 0 rfl) ?_
        refine vMgRX7_195_0 (pc := 50) hx hb hts mU_384 inU7 hown hK hP (x := (gI S 2)) rfl dX7_equation_50 ?_
        refine lv_iload_n (pc := 53) hx hb dX7_equation_53 rfl (lv_at hl 2 rfl) ?_
        obtain ⟨hg54, hf⟩ := hf_g hf
        refine vMwa_5 (pc := 54) hx hb hK hP hD hS (f := (gA S 4)) rfl hg54 dX7_equation_54 (fun H locs hP hD hS => ?_)
        refine lv_aload_n (pc := 55) hx hb dX7_equation_55 rfl (lv_at hl 0 rfl) ?_
        refine lv_dup (pc := 56) hx hb dX7_equation_56 rfl ?_
        refine vMgRX7_195_0 (pc := 57) hx hb hts mU_384 inU7 hown hK hP (x := (gI S 2)) rfl dX7_equation_57 ?_
        refine lv_iconst (pc := 60) hx hb (v := 1) dX7_equation_60 (by decide) ?_
        refine lv_iadd (pc := 61) hx hb dX7_equation_61 ?_
        refine vMpRX7_195_0 (pc := 62) hx hb hts mU_384 inU7 hown hK hP hD hS dX7_equation_62 (fun H locs hP hD hS => ?_)
        refine lv_aload_n (pc := 65) hx hb dX7_equation_65 rfl (lv_at hl 0 rfl) ?_
        refine vMgRX7_195_0 (pc := 66) hx hb hts mU_384 inU7 hown hK hP (x := (gI S 2) + 1) rfl dX7_equation_66 ?_
        refine lv_iconst (pc := 69) hx hb (v := 1) dX7_equation_69 (by decide) ?_
        refine lv_isub (pc := 70) hx hb dX7_equation_70 ?_
        obtain rfl := Option.some.inj hf
        exact hR H locs 71 ls hP hD hS dX7_equation_71
      · have hf := hf_t c_29 hf
        refine lv_bipush (pc := 32) hx hb (v := (-2)) dX7_equation_32 (by decide) ?_
        obtain rfl := Option.some.inj hf
        exact hR H locs 34 ls hP hD hS dX7_equation_34
    · have hf := hf_t c_18 hf
      refine lv_iconst (pc := 21) hx hb (v := (-1)) dX7_equation_21 (by decide) ?_
      obtain rfl := Option.some.inj hf
      exact hR H locs 22 ls hP hD hS dX7_equation_22
set_option maxHeartbeats 4000000 in
set_option maxRecDepth 100000 in
theorem kX7_freeOnes (l : Launch) (D : va_G) (A : Nat → Nat) (B : Nat → ClassId) (sz : Nat) (S : w_S) (z : Int32) (hf : fX7_freeOnes S = some z) : MetW l yX7_freeOnes (wsO yX7_freeOnes cX7_freeOnes 3 (some .int)) rm_X7_freeOnes [.ref (A 0)] D (tyB B) (wM A B S) (wM A B S) sz (some (.int z)) := by
  refine MetW.mkI (cc := cX7_freeOnes) (maxL := 3) (by decide) (Nat.le_of_ble_eq_true rfl) ?_
  intro p e s m args below meth c Ad Q hx hb hts hown hml hN hK hA hR H locs ls hP hD hS hl
  have hl : lv_has ls 3 [(0, .ref (A 0))] := hl
  rw [fX7_freeOnes] at hf
  refine lv_iconst (pc := 0) hx hb (v := 0) dX7_freeOnes_0 (by decide) ?_
  refine lv_istore_n (pc := 1) hx hb (lv' := [(1, .int 0), (0, .ref (A 0))]) dX7_freeOnes_1 rfl hl (by decide) rfl (fun ls hl => ?_)
  refine lv_iconst (pc := 2) hx hb (v := 0) dX7_freeOnes_2 (by decide) ?_
  refine lv_istore_n (pc := 3) hx hb (lv' := [(2, .int 0), (1, .int 0), (0, .ref (A 0))]) dX7_freeOnes_3 rfl hl (by decide) rfl (fun ls hl => ?_)
  obtain ⟨q4, hq4, hf⟩ := hf_b hf
  have hk4 : ∀ (H : Heap) (locs : List Loc) (ls : Array Slot), va_P D vwCl (wM A B S) H → va_D Ad (wM A B S) → va_S Ad s.heap H locs → lv_has ls 3 [(1, .int q4)] → W p l e rm_X7_freeOnes s m args below meth c H locs 0 0 Q (F0 m 37 ls []) := by
    intro H locs ls hP hD hS hl
    refine lv_iload_n (pc := 37) hx hb dX7_freeOnes_37 rfl (lv_at hl 0 rfl) ?_
    obtain rfl := Option.some.inj hf
    exact hR H locs 38 ls hP hD hS dX7_freeOnes_38
  have lp4 : ∀ (n : Nat) (u1_4 : Int32) (u2_4 : Int32) (H : Heap) (locs : List Loc) (ls : Array Slot), fX7_freeOnes_L4 S n u1_4 u2_4 = some q4 → va_P D vwCl (wM A B S) H → va_D Ad (wM A B S) → va_S Ad s.heap H locs → lv_has ls 3 [(0, .ref (A 0)), (1, .int u1_4), (2, .int u2_4)] → W p l e rm_X7_freeOnes s m args below meth c H locs 0 0 Q (F0 m 4 ls []) := by
    intro n4
    induction n4 with
    | zero => intro u1_4 u2_4 H locs ls hq4; exact hf_0 hq4
    | succ n4 ih4 =>
      intro u1_4 u2_4 H locs ls hq4 hP hD hS hl
      rw [fX7_freeOnes_L4] at hq4
      refine lv_iload_n (pc := 4) hx hb dX7_freeOnes_4 rfl (lv_at hl 2 rfl) ?_
      refine lv_aload_n (pc := 5) hx hb dX7_freeOnes_5 rfl (lv_at hl 0 rfl) ?_
      refine vMgRX7_229_0 (pc := 6) hx hb hts mU_544 inU7 hown hK hP (x := (gI S 15)) rfl dX7_freeOnes_6 ?_
      refine lv_icmp_ge (pc := 9) hx hb (tgt := 37) dX7_freeOnes_9 (by decide) (fun c_9 => ?_) (fun c_9 => ?_)
      · have hq4 := hf_t c_9 hq4
        obtain rfl := Option.some.inj hq4
        exact hk4 H locs ls hP hD hS (lv_sub hl [1] rfl)
      · have hq4 := hf_f c_9 hq4
        refine lv_iload_n (pc := 12) hx hb dX7_freeOnes_12 rfl (lv_at hl 1 rfl) ?_
        refine lv_aload_n (pc := 13) hx hb dX7_freeOnes_13 rfl (lv_at hl 0 rfl) ?_
        refine vMgRX7_55_0 (pc := 14) hx hb hts mU_95 inU7 hown hK hP dX7_freeOnes_14 ?_
        refine lv_iload_n (pc := 17) hx hb dX7_freeOnes_17 rfl (lv_at hl 2 rfl) ?_
        obtain ⟨hg18, hq4⟩ := hf_g hq4
        refine vMra_12 (pc := 18) hx hb hK hP (f := (gA S 10)) rfl hg18 dX7_freeOnes_18 ?_
        refine lv_if_ge (pc := 19) hx hb (tgt := 28) dX7_freeOnes_19 (by decide) (fun c_19 => ?_) (fun c_19 => ?_)
        · have hq4 := hf_t c_19 hq4
          refine lv_iconst (pc := 28) hx hb (v := 0) dX7_freeOnes_28 (by decide) ?_
          refine lv_ior (pc := 29) hx hb dX7_freeOnes_29 ?_
          refine lv_istore_n (pc := 30) hx hb (lv' := [(1, .int (u1_4 ||| 0)), (0, .ref (A 0)), (2, .int u2_4)]) dX7_freeOnes_30 rfl hl (by decide) rfl (fun ls hl => ?_)
          refine lv_iinc (pc := 31) hx hb (v := u2_4 + 1) (lv' := [(2, .int (u2_4 + 1)), (1, .int (u1_4 ||| 0)), (0, .ref (A 0))]) dX7_freeOnes_31 hl (k := 2) rfl rfl (by decide) rfl (fun ls hl => ?_)
          refine lv_goto (pc := 34) hx hb (tgt := 4) dX7_freeOnes_34 (by decide) ?_
          exact ih4 (u1_4 ||| 0) (u2_4 + 1) H locs ls hq4 hP hD hS (lv_sub hl [2, 1, 0] rfl)
        · have hq4 := hf_f c_19 hq4
          refine lv_iconst (pc := 22) hx hb (v := 1) dX7_freeOnes_22 (by decide) ?_
          refine lv_iload_n (pc := 23) hx hb dX7_freeOnes_23 rfl (lv_at hl 2 rfl) ?_
          refine lv_ishl (pc := 24) hx hb dX7_freeOnes_24 ?_
          refine lv_goto (pc := 25) hx hb (tgt := 29) dX7_freeOnes_25 (by decide) ?_
          refine lv_ior (pc := 29) hx hb dX7_freeOnes_29 ?_
          refine lv_istore_n (pc := 30) hx hb (lv' := [(1, .int (u1_4 ||| (1 <<< (u2_4 &&& 31)))), (0, .ref (A 0)), (2, .int u2_4)]) dX7_freeOnes_30 rfl hl (by decide) rfl (fun ls hl => ?_)
          refine lv_iinc (pc := 31) hx hb (v := u2_4 + 1) (lv' := [(2, .int (u2_4 + 1)), (1, .int (u1_4 ||| (1 <<< (u2_4 &&& 31)))), (0, .ref (A 0))]) dX7_freeOnes_31 hl (k := 2) rfl rfl (by decide) rfl (fun ls hl => ?_)
          refine lv_goto (pc := 34) hx hb (tgt := 4) dX7_freeOnes_34 (by decide) ?_
          exact ih4 (u1_4 ||| (1 <<< (u2_4 &&& 31))) (u2_4 + 1) H locs ls hq4 hP hD hS (lv_sub hl [2, 1, 0] rfl)
  exact lp4 256 0 0 H locs ls hq4 hP hD hS (lv_sub hl [2, 1, 0] rfl)
set_option maxHeartbeats 4000000 in
set_option maxRecDepth 100000 in
theorem kX7_isEquation (l : Launch) (D : va_G) (A : Nat → Nat) (B : Nat → ClassId) (sz : Nat) (S : w_S) (a1 : Int32) (z : Int32) (hf : fX7_isEquation S a1 = some z) : MetW l yX7_isEquation (wsO yX7_isEquation cX7_isEquation 2 (some .boolean)) rm_X7_isEquation [.ref (A 0), .int a1] D (tyB B) (wM A B S) (wM A B S) sz (some (.int z)) := by
  refine MetW.mkZ (cc := cX7_isEquation) (maxL := 2) (by decide) (Nat.le_of_ble_eq_true rfl) ?_
  intro p e s m args below meth c Ad Q hx hb hts hown hml hN hK hA hR H locs ls hP hD hS hl
  have hl : lv_has ls 2 [(0, .ref (A 0)), (1, .int a1)] := hl
  rw [fX7_isEquation] at hf
  refine lv_iload_n (pc := 0) hx hb dX7_isEquation_0 rfl (lv_at hl 1 rfl) ?_
  refine lv_i2l (pc := 1) hx hb (v := a1.toInt64) dX7_isEquation_1 rfl ?_
  refine lv_lconst (pc := 2) hx hb (v := 0) dX7_isEquation_2 (by decide) ?_
  refine lv_aload_n (pc := 3) hx hb dX7_isEquation_3 rfl (lv_at hl 0 rfl) ?_
  refine vMgRX7_195_0 (pc := 4) hx hb hts mU_384 inU7 hown hK hP (x := (gI S 2)) rfl dX7_isEquation_4 ?_
  refine lv_iconst (pc := 7) hx hb (v := 1) dX7_isEquation_7 (by decide) ?_
  refine lv_isub (pc := 8) hx hb dX7_isEquation_8 ?_
  refine lv_i2l (pc := 9) hx hb (v := ((gI S 2) - 1).toInt64) dX7_isEquation_9 rfl ?_
  obtain ⟨r10, hc10, hf⟩ := hf_b hf
  refine cl_S (pc := 10) (As := [.long a1.toInt64, .long 0, .long (((gI S 2) - 1).toInt64)]) (rest := []) hx hb hml hown hts (kX7_in l D A B _ S a1.toInt64 0 (((gI S 2) - 1).toInt64) r10 hc10) (va_cwS 3 hts gwRX7_99 rfl rfl rfl hdX7_in ⟨Nat.le_of_ble_eq_true rfl, Nat.le_of_ble_eq_true rfl⟩) hN hK hP hD hS hA rfl hl.1 rfl (Nat.le_of_ble_eq_true rfl) dX7_isEquation_10 (st1 := [.int r10]) rfl ⟨Nat.zero_le _, Nat.zero_le _⟩ (fun H locs hP hD hS => ?_)
  obtain ⟨hg13, hf⟩ := hf_g hf
  obtain rfl := Option.some.inj hf
  exact hR H locs 13 ls hP hD hS (nz_of hg13) dX7_isEquation_13
set_option maxHeartbeats 4000000 in
set_option maxRecDepth 100000 in
theorem kX7_isLike (l : Launch) (D : va_G) (A : Nat → Nat) (B : Nat → ClassId) (sz : Nat) (S : w_S) (a1 : Int32) (z : Int32) (hf : fX7_isLike S a1 = some z) : MetW l yX7_isLike (wsO yX7_isLike cX7_isLike 2 (some .boolean)) rm_X7_isLike [.ref (A 0), .int a1] D (tyB B) (wM A B S) (wM A B S) sz (some (.int z)) := by
  refine MetW.mkZ (cc := cX7_isLike) (maxL := 2) (by decide) (Nat.le_of_ble_eq_true rfl) ?_
  intro p e s m args below meth c Ad Q hx hb hts hown hml hN hK hA hR H locs ls hP hD hS hl
  have hl : lv_has ls 2 [(0, .ref (A 0)), (1, .int a1)] := hl
  rw [fX7_isLike] at hf
  refine lv_iload_n (pc := 0) hx hb dX7_isLike_0 rfl (lv_at hl 1 rfl) ?_
  refine lv_iconst (pc := 1) hx hb (v := 1) dX7_isLike_1 (by decide) ?_
  refine lv_icmp_le (pc := 2) hx hb (tgt := 16) dX7_isLike_2 (by decide) (fun c_2 => ?_) (fun c_2 => ?_)
  · have hf := hf_t c_2 hf
    refine lv_iconst (pc := 16) hx hb (v := 1) dX7_isLike_16 (by decide) ?_
    refine lv_goto (pc := 17) hx hb (tgt := 21) dX7_isLike_17 (by decide) ?_
    obtain rfl := Option.some.inj hf
    exact hR H locs 21 ls hP hD hS (nz_of (.inr rfl)) dX7_isLike_21
  · have hf := hf_f c_2 hf
    refine lv_aload_n (pc := 5) hx hb dX7_isLike_5 rfl (lv_at hl 0 rfl) ?_
    refine vMgRX7_23_0 (pc := 6) hx hb hts mU_85 inU7 hown hK hP (x := (gI S 1)) rfl dX7_isLike_6 ?_
    refine lv_aload_n (pc := 9) hx hb dX7_isLike_9 rfl (lv_at hl 0 rfl) ?_
    refine vMgRX7_19_0 (pc := 10) hx hb hts mU_84 inU7 hown hK hP (x := (gI S 0)) rfl dX7_isLike_10 ?_
    refine lv_icmp_ne (pc := 13) hx hb (tgt := 20) dX7_isLike_13 (by decide) (fun c_13 => ?_) (fun c_13 => ?_)
    · have hf := hf_f c_13 hf
      refine lv_iconst (pc := 20) hx hb (v := 0) dX7_isLike_20 (by decide) ?_
      obtain rfl := Option.some.inj hf
      exact hR H locs 21 ls hP hD hS (nz_of (.inl rfl)) dX7_isLike_21
    · have hf := hf_t c_13 hf
      refine lv_iconst (pc := 16) hx hb (v := 1) dX7_isLike_16 (by decide) ?_
      refine lv_goto (pc := 17) hx hb (tgt := 21) dX7_isLike_17 (by decide) ?_
      obtain rfl := Option.some.inj hf
      exact hR H locs 21 ls hP hD hS (nz_of (.inr rfl)) dX7_isLike_21
set_option maxHeartbeats 4000000 in
set_option maxRecDepth 100000 in
theorem kX7_isUnknown (l : Launch) (D : va_G) (A : Nat → Nat) (B : Nat → ClassId) (sz : Nat) (S : w_S) (a0 : Int32) (a1 : Int32) (a2 : Int32) (z : Int32) (hf : fX7_isUnknown a0 a1 a2 = some z) : MetW l yX7_isUnknown (wsO yX7_isUnknown cX7_isUnknown 3 (some .boolean)) rm_X7_isUnknown [.int a0, .int a1, .int a2] D (tyB B) (wM A B S) (wM A B S) sz (some (.int z)) := by
  refine MetW.mkZ (cc := cX7_isUnknown) (maxL := 3) (by decide) (Nat.le_of_ble_eq_true rfl) ?_
  intro p e s m args below meth c Ad Q hx hb hts hown hml hN hK hA hR H locs ls hP hD hS hl
  have hl : lv_has ls 3 [(0, .int a0), (1, .int a1), (2, .int a2)] := hl
  rw [fX7_isUnknown] at hf
  refine lv_iload_n (pc := 0) hx hb dX7_isUnknown_0 rfl (lv_at hl 0 rfl) ?_
  refine lv_iconst (pc := 1) hx hb (v := 4) dX7_isUnknown_1 (by decide) ?_
  refine lv_icmp_ne (pc := 2) hx hb (tgt := 18) dX7_isUnknown_2 (by decide) (fun c_2 => ?_) (fun c_2 => ?_)
  · have hf := hf_f c_2 hf
    refine lv_iload_n (pc := 18) hx hb dX7_isUnknown_18 rfl (lv_at hl 0 rfl) ?_
    refine lv_iconst (pc := 19) hx hb (v := 5) dX7_isUnknown_19 (by decide) ?_
    refine lv_icmp_ne (pc := 20) hx hb (tgt := 36) dX7_isUnknown_20 (by decide) (fun c_20 => ?_) (fun c_20 => ?_)
    · have hf := hf_f c_20 hf
      refine lv_iload_n (pc := 36) hx hb dX7_isUnknown_36 rfl (lv_at hl 0 rfl) ?_
      refine lv_bipush (pc := 37) hx hb (v := 6) dX7_isUnknown_37 (by decide) ?_
      refine lv_icmp_ne (pc := 39) hx hb (tgt := 47) dX7_isUnknown_39 (by decide) (fun c_39 => ?_) (fun c_39 => ?_)
      · have hf := hf_f c_39 hf
        refine lv_iconst (pc := 47) hx hb (v := 1) dX7_isUnknown_47 (by decide) ?_
        refine lv_goto (pc := 48) hx hb (tgt := 52) dX7_isUnknown_48 (by decide) ?_
        obtain rfl := Option.some.inj hf
        exact hR H locs 52 ls hP hD hS (nz_of (.inr rfl)) dX7_isUnknown_52
      · have hf := hf_t c_39 hf
        refine lv_iload_n (pc := 42) hx hb dX7_isUnknown_42 rfl (lv_at hl 2 rfl) ?_
        refine lv_iload_n (pc := 43) hx hb dX7_isUnknown_43 rfl (lv_at hl 1 rfl) ?_
        refine lv_icmp_le (pc := 44) hx hb (tgt := 51) dX7_isUnknown_44 (by decide) (fun c_44 => ?_) (fun c_44 => ?_)
        · have hf := hf_t c_44 hf
          refine lv_iconst (pc := 51) hx hb (v := 0) dX7_isUnknown_51 (by decide) ?_
          obtain rfl := Option.some.inj hf
          exact hR H locs 52 ls hP hD hS (nz_of (.inl rfl)) dX7_isUnknown_52
        · have hf := hf_f c_44 hf
          refine lv_iconst (pc := 47) hx hb (v := 1) dX7_isUnknown_47 (by decide) ?_
          refine lv_goto (pc := 48) hx hb (tgt := 52) dX7_isUnknown_48 (by decide) ?_
          obtain rfl := Option.some.inj hf
          exact hR H locs 52 ls hP hD hS (nz_of (.inr rfl)) dX7_isUnknown_52
    · have hf := hf_t c_20 hf
      refine lv_iload_n (pc := 23) hx hb dX7_isUnknown_23 rfl (lv_at hl 2 rfl) ?_
      refine lv_iload_n (pc := 24) hx hb dX7_isUnknown_24 rfl (lv_at hl 1 rfl) ?_
      refine lv_icmp_lt (pc := 25) hx hb (tgt := 32) dX7_isUnknown_25 (by decide) (fun c_25 => ?_) (fun c_25 => ?_)
      · have hf := hf_t c_25 hf
        refine lv_iconst (pc := 32) hx hb (v := 0) dX7_isUnknown_32 (by decide) ?_
        refine lv_goto (pc := 33) hx hb (tgt := 52) dX7_isUnknown_33 (by decide) ?_
        obtain rfl := Option.some.inj hf
        exact hR H locs 52 ls hP hD hS (nz_of (.inl rfl)) dX7_isUnknown_52
      · have hf := hf_f c_25 hf
        refine lv_iconst (pc := 28) hx hb (v := 1) dX7_isUnknown_28 (by decide) ?_
        refine lv_goto (pc := 29) hx hb (tgt := 52) dX7_isUnknown_29 (by decide) ?_
        obtain rfl := Option.some.inj hf
        exact hR H locs 52 ls hP hD hS (nz_of (.inr rfl)) dX7_isUnknown_52
  · have hf := hf_t c_2 hf
    refine lv_iload_n (pc := 5) hx hb dX7_isUnknown_5 rfl (lv_at hl 1 rfl) ?_
    refine lv_iload_n (pc := 6) hx hb dX7_isUnknown_6 rfl (lv_at hl 2 rfl) ?_
    refine lv_icmp_ne (pc := 7) hx hb (tgt := 14) dX7_isUnknown_7 (by decide) (fun c_7 => ?_) (fun c_7 => ?_)
    · have hf := hf_f c_7 hf
      refine lv_iconst (pc := 14) hx hb (v := 0) dX7_isUnknown_14 (by decide) ?_
      refine lv_goto (pc := 15) hx hb (tgt := 52) dX7_isUnknown_15 (by decide) ?_
      obtain rfl := Option.some.inj hf
      exact hR H locs 52 ls hP hD hS (nz_of (.inl rfl)) dX7_isUnknown_52
    · have hf := hf_t c_7 hf
      refine lv_iconst (pc := 10) hx hb (v := 1) dX7_isUnknown_10 (by decide) ?_
      refine lv_goto (pc := 11) hx hb (tgt := 52) dX7_isUnknown_11 (by decide) ?_
      obtain rfl := Option.some.inj hf
      exact hR H locs 52 ls hP hD hS (nz_of (.inr rfl)) dX7_isUnknown_52
set_option maxHeartbeats 4000000 in
set_option maxRecDepth 100000 in
theorem kX7_unknownsOf (l : Launch) (D : va_G) (A : Nat → Nat) (B : Nat → ClassId) (sz : Nat) (S : w_S) (a1 : Int32) (z : Int32 × w_S) (hf : fX7_unknownsOf S a1 = some z) : MetW l yX7_unknownsOf (wsO yX7_unknownsOf cX7_unknownsOf 4 (some .int)) rm_X7_unknownsOf [.ref (A 0), .int a1] D (tyB B) (wM A B S) (wM A B z.2) sz (some (.int z.1)) := by
  refine MetW.mkI (cc := cX7_unknownsOf) (maxL := 4) (by decide) (Nat.le_of_ble_eq_true rfl) ?_
  intro p e s m args below meth c Ad Q hx hb hts hown hml hN hK hA hR H locs ls hP hD hS hl
  have hl : lv_has ls 4 [(0, .ref (A 0)), (1, .int a1)] := hl
  rw [fX7_unknownsOf] at hf
  refine lv_iconst (pc := 0) hx hb (v := 0) dX7_unknownsOf_0 (by decide) ?_
  refine lv_istore_n (pc := 1) hx hb (lv' := [(2, .int 0), (0, .ref (A 0)), (1, .int a1)]) dX7_unknownsOf_1 rfl hl (by decide) rfl (fun ls hl => ?_)
  refine lv_iconst (pc := 2) hx hb (v := 0) dX7_unknownsOf_2 (by decide) ?_
  refine lv_istore_n (pc := 3) hx hb (lv' := [(3, .int 0), (2, .int 0), (0, .ref (A 0)), (1, .int a1)]) dX7_unknownsOf_3 rfl hl (by decide) rfl (fun ls hl => ?_)
  obtain ⟨q4, hq4, hf⟩ := hf_b hf
  have hk4 : ∀ (H : Heap) (locs : List Loc) (ls : Array Slot), va_P D vwCl (wM A B q4.1) H → va_D Ad (wM A B q4.1) → va_S Ad s.heap H locs → lv_has ls 4 [(2, .int q4.2)] → W p l e rm_X7_unknownsOf s m args below meth c H locs 0 0 Q (F0 m 52 ls []) := by
    intro H locs ls hP hD hS hl
    refine lv_iload_n (pc := 52) hx hb dX7_unknownsOf_52 rfl (lv_at hl 0 rfl) ?_
    obtain rfl := Option.some.inj hf
    exact hR H locs 53 ls hP hD hS dX7_unknownsOf_53
  have lp4 : ∀ (n : Nat) (T4 : w_S) (u2_4 : Int32) (u3_4 : Int32) (H : Heap) (locs : List Loc) (ls : Array Slot), fX7_unknownsOf_L4 a1 n T4 u2_4 u3_4 = some q4 → va_P D vwCl (wM A B T4) H → va_D Ad (wM A B T4) → va_S Ad s.heap H locs → lv_has ls 4 [(0, .ref (A 0)), (1, .int a1), (2, .int u2_4), (3, .int u3_4)] → W p l e rm_X7_unknownsOf s m args below meth c H locs 0 0 Q (F0 m 4 ls []) := by
    intro n4
    induction n4 with
    | zero => intro T4 u2_4 u3_4 H locs ls hq4; exact hf_0 hq4
    | succ n4 ih4 =>
      intro T4 u2_4 u3_4 H locs ls hq4 hP hD hS hl
      rw [fX7_unknownsOf_L4] at hq4
      refine lv_iload_n (pc := 4) hx hb dX7_unknownsOf_4 rfl (lv_at hl 3 rfl) ?_
      refine lv_aload_n (pc := 5) hx hb dX7_unknownsOf_5 rfl (lv_at hl 0 rfl) ?_
      refine vMgRX7_19_0 (pc := 6) hx hb hts mU_84 inU7 hown hK hP (x := (gI T4 0)) rfl dX7_unknownsOf_6 ?_
      refine lv_aload_n (pc := 9) hx hb dX7_unknownsOf_9 rfl (lv_at hl 0 rfl) ?_
      refine vMgRX7_23_0 (pc := 10) hx hb hts mU_85 inU7 hown hK hP (x := (gI T4 1)) rfl dX7_unknownsOf_10 ?_
      refine lv_imul (pc := 13) hx hb dX7_unknownsOf_13 ?_
      refine lv_icmp_ge (pc := 14) hx hb (tgt := 52) dX7_unknownsOf_14 (by decide) (fun c_14 => ?_) (fun c_14 => ?_)
      · have hq4 := hf_t c_14 hq4
        obtain rfl := Option.some.inj hq4
        exact hk4 H locs ls hP hD hS (lv_sub hl [2] rfl)
      · have hq4 := hf_f c_14 hq4
        refine lv_iload_n (pc := 17) hx hb dX7_unknownsOf_17 rfl (lv_at hl 1 rfl) ?_
        refine lv_iload_n (pc := 18) hx hb dX7_unknownsOf_18 rfl (lv_at hl 3 rfl) ?_
        refine lv_aload_n (pc := 19) hx hb dX7_unknownsOf_19 rfl (lv_at hl 0 rfl) ?_
        refine vMgRX7_23_0 (pc := 20) hx hb hts mU_85 inU7 hown hK hP (x := (gI T4 1)) rfl dX7_unknownsOf_20 ?_
        obtain ⟨hg23, hq4⟩ := hf_g hq4
        refine lv_idiv (pc := 23) hx hb dX7_unknownsOf_23 hg23 ?_
        refine lv_iload_n (pc := 24) hx hb dX7_unknownsOf_24 rfl (lv_at hl 3 rfl) ?_
        refine lv_aload_n (pc := 25) hx hb dX7_unknownsOf_25 rfl (lv_at hl 0 rfl) ?_
        refine vMgRX7_23_0 (pc := 26) hx hb hts mU_85 inU7 hown hK hP (x := (gI T4 1)) rfl dX7_unknownsOf_26 ?_
        obtain ⟨hg29, hq4⟩ := hf_g hq4
        refine lv_irem (pc := 29) hx hb dX7_unknownsOf_29 hg29 ?_
        obtain ⟨r30, hc30, hq4⟩ := hf_b hq4
        refine cl_S (pc := 30) (As := [.int a1, .int (u3_4 / (gI T4 1)), .int (u3_4 - u3_4 / (gI T4 1) * (gI T4 1))]) (rest := []) hx hb hml hown hts (kX7_isUnknown l D A B _ T4 a1 (u3_4 / (gI T4 1)) (u3_4 - u3_4 / (gI T4 1) * (gI T4 1)) r30 hc30) (va_cwS 3 hts gwRX7_206 rfl rfl rfl hdX7_isUnknown ⟨Nat.le_of_ble_eq_true rfl, Nat.le_of_ble_eq_true rfl⟩) hN hK hP hD hS hA rfl hl.1 rfl (Nat.le_of_ble_eq_true rfl) dX7_unknownsOf_30 (st1 := [.int r30]) rfl ⟨Nat.zero_le _, Nat.zero_le _⟩ (fun H locs hP hD hS => ?_)
        refine lv_if_eq (pc := 33) hx hb (tgt := 46) dX7_unknownsOf_33 (by decide) (fun c_33 => ?_) (fun c_33 => ?_)
        · have hq4 := hf_t c_33 hq4
          refine lv_iinc (pc := 46) hx hb (v := u3_4 + 1) (lv' := [(3, .int (u3_4 + 1)), (0, .ref (A 0)), (1, .int a1), (2, .int u2_4)]) dX7_unknownsOf_46 hl (k := 3) rfl rfl (by decide) rfl (fun ls hl => ?_)
          refine lv_goto (pc := 49) hx hb (tgt := 4) dX7_unknownsOf_49 (by decide) ?_
          exact ih4 T4 u2_4 (u3_4 + 1) H locs ls hq4 hP hD hS (lv_sub hl [1, 2, 3, 0] rfl)
        · have hq4 := hf_f c_33 hq4
          refine lv_aload_n (pc := 36) hx hb dX7_unknownsOf_36 rfl (lv_at hl 0 rfl) ?_
          refine vMgRX7_45_0 (pc := 37) hx hb hts mU_92 inU7 hown hK hP dX7_unknownsOf_37 ?_
          refine lv_iload_n (pc := 40) hx hb dX7_unknownsOf_40 rfl (lv_at hl 2 rfl) ?_
          refine lv_iload_n (pc := 41) hx hb dX7_unknownsOf_41 rfl (lv_at hl 3 rfl) ?_
          obtain ⟨hg42, hq4⟩ := hf_g hq4
          refine vMwa_9 (pc := 42) hx hb hK hP hD hS (f := (gA T4 8)) rfl hg42 dX7_unknownsOf_42 (fun H locs hP hD hS => ?_)
          refine lv_iinc (pc := 43) hx hb (v := u2_4 + 1) (lv' := [(2, .int (u2_4 + 1)), (0, .ref (A 0)), (1, .int a1), (3, .int u3_4)]) dX7_unknownsOf_43 hl (k := 2) rfl rfl (by decide) rfl (fun ls hl => ?_)
          refine lv_iinc (pc := 46) hx hb (v := u3_4 + 1) (lv' := [(3, .int (u3_4 + 1)), (2, .int (u2_4 + 1)), (0, .ref (A 0)), (1, .int a1)]) dX7_unknownsOf_46 hl (k := 3) rfl rfl (by decide) rfl (fun ls hl => ?_)
          refine lv_goto (pc := 49) hx hb (tgt := 4) dX7_unknownsOf_49 (by decide) ?_
          exact ih4 (sA T4 8 (upd (gA T4 8) u2_4.toNatClampNeg u3_4)) (u2_4 + 1) (u3_4 + 1) H locs ls hq4 hP hD hS (lv_sub hl [2, 3, 1, 0] rfl)
  exact lp4 256 S 0 0 H locs ls hq4 hP hD hS (lv_sub hl [2, 3, 1, 0] rfl)
set_option maxHeartbeats 4000000 in
set_option maxRecDepth 100000 in
theorem kX7_isFit (l : Launch) (D : va_G) (A : Nat → Nat) (B : Nat → ClassId) (sz : Nat) (S : w_S) (a1 : Int32) (z : Int32 × w_S) (hf : fX7_isFit S a1 = some z) : MetW l yX7_isFit (wsO yX7_isFit cX7_isFit 2 (some .boolean)) rm_X7_isFit [.ref (A 0), .int a1] D (tyB B) (wM A B S) (wM A B z.2) sz (some (.int z.1)) := by
  refine MetW.mkZ (cc := cX7_isFit) (maxL := 2) (by decide) (Nat.le_of_ble_eq_true rfl) ?_
  intro p e s m args below meth c Ad Q hx hb hts hown hml hN hK hA hR H locs ls hP hD hS hl
  have hl : lv_has ls 2 [(0, .ref (A 0)), (1, .int a1)] := hl
  rw [fX7_isFit] at hf
  refine lv_aload_n (pc := 0) hx hb dX7_isFit_0 rfl (lv_at hl 0 rfl) ?_
  refine lv_iload_n (pc := 1) hx hb dX7_isFit_1 rfl (lv_at hl 1 rfl) ?_
  obtain ⟨r2, hc2, hf⟩ := hf_b hf
  refine cl_V (pc := 2) (As := [.int a1]) (rest := []) hx hb hml hown hts (kX7_isLike l D A B _ S a1 r2 hc2) (cwV 1 hts gwRX7_209 rfl rfl rfl hdX7_isLike ⟨Nat.le_of_ble_eq_true rfl, Nat.le_of_ble_eq_true rfl⟩) hN hK hP hD hS hA (va_recv hK hP (ci := 7) (q0 := 0) rfl (eM_0 A B _)) rfl hl.1 rfl (Nat.le_of_ble_eq_true rfl) dX7_isFit_2 (st1 := [.int r2]) rfl ⟨Nat.zero_le _, Nat.zero_le _⟩ (fun H locs hP hD hS => ?_)
  refine lv_if_eq (pc := 5) hx hb (tgt := 22) dX7_isFit_5 (by decide) (fun c_5 => ?_) (fun c_5 => ?_)
  · have hf := hf_t c_5 hf
    refine lv_iconst (pc := 22) hx hb (v := 0) dX7_isFit_22 (by decide) ?_
    obtain rfl := Option.some.inj hf
    exact hR H locs 23 ls hP hD hS (nz_of (.inl rfl)) dX7_isFit_23
  · have hf := hf_f c_5 hf
    refine lv_aload_n (pc := 8) hx hb dX7_isFit_8 rfl (lv_at hl 0 rfl) ?_
    refine lv_iload_n (pc := 9) hx hb dX7_isFit_9 rfl (lv_at hl 1 rfl) ?_
    obtain ⟨r10, hc10, hf⟩ := hf_b hf
    refine cl_V (pc := 10) (As := [.int a1]) (rest := []) hx hb hml hown hts (kX7_unknownsOf l D A B _ S a1 r10 hc10) (cwV 1 hts gwRX7_212 rfl rfl rfl hdX7_unknownsOf ⟨Nat.le_of_ble_eq_true rfl, Nat.le_of_ble_eq_true rfl⟩) hN hK hP hD hS hA (va_recv hK hP (ci := 7) (q0 := 0) rfl (eM_0 A B _)) rfl hl.1 rfl (Nat.le_of_ble_eq_true rfl) dX7_isFit_10 (st1 := [.int r10.1]) rfl ⟨Nat.zero_le _, Nat.zero_le _⟩ (fun H locs hP hD hS => ?_)
    refine lv_bipush (pc := 13) hx hb (v := 6) dX7_isFit_13 (by decide) ?_
    refine lv_icmp_gt (pc := 15) hx hb (tgt := 22) dX7_isFit_15 (by decide) (fun c_15 => ?_) (fun c_15 => ?_)
    · have hf := hf_t c_15 hf
      refine lv_iconst (pc := 22) hx hb (v := 0) dX7_isFit_22 (by decide) ?_
      obtain rfl := Option.some.inj hf
      exact hR H locs 23 ls hP hD hS (nz_of (.inl rfl)) dX7_isFit_23
    · have hf := hf_f c_15 hf
      refine lv_iconst (pc := 18) hx hb (v := 1) dX7_isFit_18 (by decide) ?_
      refine lv_goto (pc := 19) hx hb (tgt := 23) dX7_isFit_19 (by decide) ?_
      obtain rfl := Option.some.inj hf
      exact hR H locs 23 ls hP hD hS (nz_of (.inr rfl)) dX7_isFit_23
set_option maxHeartbeats 4000000 in
set_option maxRecDepth 100000 in
theorem kX7_isSolved (l : Launch) (D : va_G) (A : Nat → Nat) (B : Nat → ClassId) (sz : Nat) (S : w_S) (z : Int32) (hf : fX7_isSolved S = some z) : MetW l yX7_isSolved (wsO yX7_isSolved cX7_isSolved 2 (some .boolean)) rm_X7_isSolved [.ref (A 0)] D (tyB B) (wM A B S) (wM A B S) sz (some (.int z)) := by
  refine MetW.mkZ (cc := cX7_isSolved) (maxL := 2) (by decide) (Nat.le_of_ble_eq_true rfl) ?_
  intro p e s m args below meth c Ad Q hx hb hts hown hml hN hK hA hR H locs ls hP hD hS hl
  have hl : lv_has ls 2 [(0, .ref (A 0))] := hl
  rw [fX7_isSolved] at hf
  refine lv_aload_n (pc := 0) hx hb dX7_isSolved_0 rfl (lv_at hl 0 rfl) ?_
  refine vMgRX7_239_0 (pc := 1) hx hb hts mU_516 inU7 hown hK hP (x := (gI S 16)) rfl dX7_isSolved_1 ?_
  refine lv_istore_n (pc := 4) hx hb (lv' := [(1, .int (gI S 16)), (0, .ref (A 0))]) dX7_isSolved_4 rfl hl (by decide) rfl (fun ls hl => ?_)
  have hk5 : ∀  (H : Heap) (locs : List Loc) (ls : Array Slot), some 1 = some z → va_P D vwCl (wM A B S) H → va_D Ad (wM A B S) → va_S Ad s.heap H locs → lv_has ls 2 [] → W p l e rm_X7_isSolved s m args below meth c H locs 0 0 Q (F0 m 40 ls []) := by
    intro  H locs ls hf hP hD hS hl
    refine lv_iconst (pc := 40) hx hb (v := 1) dX7_isSolved_40 (by decide) ?_
    obtain rfl := Option.some.inj hf
    exact hR H locs 41 ls hP hD hS (nz_of (.inr rfl)) dX7_isSolved_41
  have lp5 : ∀ (n : Nat) (u1_5 : Int32) (H : Heap) (locs : List Loc) (ls : Array Slot), fX7_isSolved_L5 (some 1) S n u1_5 = some z → va_P D vwCl (wM A B S) H → va_D Ad (wM A B S) → va_S Ad s.heap H locs → lv_has ls 2 [(0, .ref (A 0)), (1, .int u1_5)] → W p l e rm_X7_isSolved s m args below meth c H locs 0 0 Q (F0 m 5 ls []) := by
    intro n5
    induction n5 with
    | zero => intro u1_5 H locs ls hf; exact hf_0 hf
    | succ n5 ih5 =>
      intro u1_5 H locs ls hf hP hD hS hl
      rw [fX7_isSolved_L5] at hf
      refine lv_iload_n (pc := 5) hx hb dX7_isSolved_5 rfl (lv_at hl 1 rfl) ?_
      refine lv_aload_n (pc := 6) hx hb dX7_isSolved_6 rfl (lv_at hl 0 rfl) ?_
      refine vMgRX7_232_0 (pc := 7) hx hb hts mU_545 inU7 hown hK hP (x := (gI S 14)) rfl dX7_isSolved_7 ?_
      refine lv_icmp_ge (pc := 10) hx hb (tgt := 40) dX7_isSolved_10 (by decide) (fun c_10 => ?_) (fun c_10 => ?_)
      · have hf := hf_t c_10 hf
        exact hk5  H locs ls hf hP hD hS (lv_sub hl [] rfl)
      · have hf := hf_f c_10 hf
        refine lv_aload_n (pc := 13) hx hb dX7_isSolved_13 rfl (lv_at hl 0 rfl) ?_
        refine vMgRX7_48_0 (pc := 14) hx hb hts mU_93 inU7 hown hK hP dX7_isSolved_14 ?_
        refine lv_bipush (pc := 17) hx hb (v := 8) dX7_isSolved_17 (by decide) ?_
        refine lv_iload_n (pc := 19) hx hb dX7_isSolved_19 rfl (lv_at hl 1 rfl) ?_
        refine lv_imul (pc := 20) hx hb dX7_isSolved_20 ?_
        refine lv_aload_n (pc := 21) hx hb dX7_isSolved_21 rfl (lv_at hl 0 rfl) ?_
        refine vMgRX7_229_0 (pc := 22) hx hb hts mU_544 inU7 hown hK hP (x := (gI S 15)) rfl dX7_isSolved_22 ?_
        refine lv_iadd (pc := 25) hx hb dX7_isSolved_25 ?_
        obtain ⟨hg26, hf⟩ := hf_g hf
        refine vMra_10 (pc := 26) hx hb hK hP (f := (gB S 0)) rfl hg26 dX7_isSolved_26 ?_
        refine lv_lconst (pc := 27) hx hb (v := 0) dX7_isSolved_27 (by decide) ?_
        refine W.lcmp (pc := 28) hx hb dX7_isSolved_28 ?_
        refine lv_if_eq (pc := 29) hx hb (tgt := 34) dX7_isSolved_29 (by decide) (fun c_29 => ?_) (fun c_29 => ?_)
        · have c_29 := lg_eq0.mp c_29
          have hf := hf_t c_29 hf
          refine lv_iinc (pc := 34) hx hb (v := u1_5 + 1) (lv' := [(1, .int (u1_5 + 1)), (0, .ref (A 0))]) dX7_isSolved_34 hl (k := 1) rfl rfl (by decide) rfl (fun ls hl => ?_)
          refine lv_goto (pc := 37) hx hb (tgt := 5) dX7_isSolved_37 (by decide) ?_
          exact ih5 (u1_5 + 1) H locs ls hf hP hD hS (lv_sub hl [1, 0] rfl)
        · have c_29 := fun h9 => c_29 (lg_eq0.mpr h9)
          have hf := hf_f c_29 hf
          refine lv_iconst (pc := 32) hx hb (v := 0) dX7_isSolved_32 (by decide) ?_
          obtain rfl := Option.some.inj hf
          exact hR H locs 33 ls hP hD hS (nz_of (.inl rfl)) dX7_isSolved_33
  exact lp5 256 (gI S 16) H locs ls hf hP hD hS (lv_sub hl [1, 0] rfl)
set_option maxHeartbeats 4000000 in
set_option maxRecDepth 100000 in
theorem kX7_shaped (l : Launch) (D : va_G) (A : Nat → Nat) (B : Nat → ClassId) (sz : Nat) (S : w_S) (a0 : Int32) (a1 : Int32) (a2 : Int32) (a3 : Int32) (a4 : Int32) (z : Int32) (hf : fX7_shaped a0 a1 a2 a3 a4 = some z) : MetW l yX7_shaped (wsO yX7_shaped cX7_shaped 6 (some .int)) rm_X7_shaped [.int a0, .int a1, .int a2, .int a3, .int a4] D (tyB B) (wM A B S) (wM A B S) sz (some (.int z)) := by
  refine MetW.mkI (cc := cX7_shaped) (maxL := 6) (by decide) (Nat.le_of_ble_eq_true rfl) ?_
  intro p e s m args below meth c Ad Q hx hb hts hown hml hN hK hA hR H locs ls hP hD hS hl
  have hl : lv_has ls 6 [(0, .int a0), (1, .int a1), (2, .int a2), (3, .int a3), (4, .int a4)] := hl
  rw [fX7_shaped] at hf
  refine lv_iload_n (pc := 0) hx hb dX7_shaped_0 rfl (lv_at hl 1 rfl) ?_
  refine lv_iload_n (pc := 1) hx hb dX7_shaped_1 rfl (lv_at hl 3 rfl) ?_
  obtain ⟨q16, hv16, hf⟩ := hf_b hf
  have hj16 : ∀ (H : Heap) (locs : List Loc) (ls : Array Slot), va_P D vwCl (wM A B S) H → va_D Ad (wM A B S) → va_S Ad s.heap H locs → lv_has ls 6 [(0, .int a0), (1, .int a1), (2, .int a2), (3, .int a3), (4, .int a4)] → W p l e rm_X7_shaped s m args below meth c H locs 0 0 Q (F0 m 16 ls [.int q16]) := by
    intro H locs ls hP hD hS hl
    refine lv_istore (pc := 16) hx hb (lv' := [(5, .int q16), (0, .int a0), (1, .int a1), (2, .int a2), (3, .int a3), (4, .int a4)]) dX7_shaped_16 hl (by decide) rfl (fun ls hl => ?_)
    refine lv_iload_n (pc := 18) hx hb dX7_shaped_18 rfl (lv_at hl 1 rfl) ?_
    by_cases e19_4 : a0 = (4 : Int32)
    · have hf := hf_t e19_4 hf
      refine lv_tableIn (pc := 19) hx hb (off := 25) (tgt := 44) dX7_shaped_19 (by rw [e19_4]; decide) (by rw [e19_4]; decide) (by rw [e19_4]; rfl) (by decide) ?_
      refine lv_iload (pc := 44) hx hb dX7_shaped_44 (lv_at hl 0 rfl) ?_
      refine lv_if_eq (pc := 46) hx hb (tgt := 58) dX7_shaped_46 (by decide) (fun c_46 => ?_) (fun c_46 => ?_)
      · have hf := hf_t c_46 hf
        refine lv_iconst (pc := 58) hx hb (v := 0) dX7_shaped_58 (by decide) ?_
        obtain rfl := Option.some.inj hf
        exact hR H locs 59 ls hP hD hS dX7_shaped_59
      · have hf := hf_f c_46 hf
        refine lv_iload_n (pc := 49) hx hb dX7_shaped_49 rfl (lv_at hl 2 rfl) ?_
        refine lv_iload_n (pc := 50) hx hb dX7_shaped_50 rfl (lv_at hl 3 rfl) ?_
        refine lv_icmp_ne (pc := 51) hx hb (tgt := 58) dX7_shaped_51 (by decide) (fun c_51 => ?_) (fun c_51 => ?_)
        · have hf := hf_f c_51 hf
          refine lv_iconst (pc := 58) hx hb (v := 0) dX7_shaped_58 (by decide) ?_
          obtain rfl := Option.some.inj hf
          exact hR H locs 59 ls hP hD hS dX7_shaped_59
        · have hf := hf_t c_51 hf
          refine lv_iconst (pc := 54) hx hb (v := 1) dX7_shaped_54 (by decide) ?_
          refine lv_goto (pc := 55) hx hb (tgt := 59) dX7_shaped_55 (by decide) ?_
          obtain rfl := Option.some.inj hf
          exact hR H locs 59 ls hP hD hS dX7_shaped_59
    · have hf := hf_f e19_4 hf
      by_cases e19_5 : a0 = (5 : Int32)
      · have hf := hf_t e19_5 hf
        refine lv_tableIn (pc := 19) hx hb (off := 41) (tgt := 60) dX7_shaped_19 (by rw [e19_5]; decide) (by rw [e19_5]; decide) (by rw [e19_5]; rfl) (by decide) ?_
        refine lv_iload (pc := 60) hx hb dX7_shaped_60 (lv_at hl 0 rfl) ?_
        refine lv_if_ne (pc := 62) hx hb (tgt := 76) dX7_shaped_62 (by decide) (fun c_62 => ?_) (fun c_62 => ?_)
        · have hf := hf_f c_62 hf
          refine lv_iconst (pc := 76) hx hb (v := 1) dX7_shaped_76 (by decide) ?_
          refine lv_goto (pc := 77) hx hb (tgt := 81) dX7_shaped_77 (by decide) ?_
          obtain rfl := Option.some.inj hf
          exact hR H locs 81 ls hP hD hS dX7_shaped_81
        · have hf := hf_t c_62 hf
          refine lv_iload_n (pc := 65) hx hb dX7_shaped_65 rfl (lv_at hl 2 rfl) ?_
          refine lv_iload (pc := 66) hx hb dX7_shaped_66 (lv_at hl 5 rfl) ?_
          refine lv_icmp_ne (pc := 68) hx hb (tgt := 80) dX7_shaped_68 (by decide) (fun c_68 => ?_) (fun c_68 => ?_)
          · have hf := hf_f c_68 hf
            refine lv_iconst (pc := 80) hx hb (v := 0) dX7_shaped_80 (by decide) ?_
            obtain rfl := Option.some.inj hf
            exact hR H locs 81 ls hP hD hS dX7_shaped_81
          · have hf := hf_t c_68 hf
            refine lv_iload_n (pc := 71) hx hb dX7_shaped_71 rfl (lv_at hl 3 rfl) ?_
            refine lv_iload_n (pc := 72) hx hb dX7_shaped_72 rfl (lv_at hl 4 rfl) ?_
            refine lv_icmp_ne (pc := 73) hx hb (tgt := 80) dX7_shaped_73 (by decide) (fun c_73 => ?_) (fun c_73 => ?_)
            · have hf := hf_f c_73 hf
              refine lv_iconst (pc := 80) hx hb (v := 0) dX7_shaped_80 (by decide) ?_
              obtain rfl := Option.some.inj hf
              exact hR H locs 81 ls hP hD hS dX7_shaped_81
            · have hf := hf_t c_73 hf
              refine lv_iconst (pc := 76) hx hb (v := 1) dX7_shaped_76 (by decide) ?_
              refine lv_goto (pc := 77) hx hb (tgt := 81) dX7_shaped_77 (by decide) ?_
              obtain rfl := Option.some.inj hf
              exact hR H locs 81 ls hP hD hS dX7_shaped_81
      · have hf := hf_f e19_5 hf
        by_cases e19_6 : a0 = (6 : Int32)
        · have hf := hf_t e19_6 hf
          refine lv_tableIn (pc := 19) hx hb (off := 63) (tgt := 82) dX7_shaped_19 (by rw [e19_6]; decide) (by rw [e19_6]; decide) (by rw [e19_6]; rfl) (by decide) ?_
          refine lv_iload_n (pc := 82) hx hb dX7_shaped_82 rfl (lv_at hl 2 rfl) ?_
          refine lv_iload_n (pc := 83) hx hb dX7_shaped_83 rfl (lv_at hl 3 rfl) ?_
          refine lv_icmp_ne (pc := 84) hx hb (tgt := 91) dX7_shaped_84 (by decide) (fun c_84 => ?_) (fun c_84 => ?_)
          · have hf := hf_f c_84 hf
            refine lv_iload (pc := 91) hx hb dX7_shaped_91 (lv_at hl 0 rfl) ?_
            refine lv_if_eq (pc := 93) hx hb (tgt := 100) dX7_shaped_93 (by decide) (fun c_93 => ?_) (fun c_93 => ?_)
            · have hf := hf_t c_93 hf
              refine lv_iload_n (pc := 100) hx hb dX7_shaped_100 rfl (lv_at hl 2 rfl) ?_
              refine lv_iload (pc := 101) hx hb dX7_shaped_101 (lv_at hl 5 rfl) ?_
              refine lv_icmp_ne (pc := 103) hx hb (tgt := 115) dX7_shaped_103 (by decide) (fun c_103 => ?_) (fun c_103 => ?_)
              · have hf := hf_f c_103 hf
                refine lv_iconst (pc := 115) hx hb (v := 0) dX7_shaped_115 (by decide) ?_
                obtain rfl := Option.some.inj hf
                exact hR H locs 116 ls hP hD hS dX7_shaped_116
              · have hf := hf_t c_103 hf
                refine lv_iload_n (pc := 106) hx hb dX7_shaped_106 rfl (lv_at hl 3 rfl) ?_
                refine lv_iload_n (pc := 107) hx hb dX7_shaped_107 rfl (lv_at hl 4 rfl) ?_
                refine lv_icmp_ne (pc := 108) hx hb (tgt := 115) dX7_shaped_108 (by decide) (fun c_108 => ?_) (fun c_108 => ?_)
                · have hf := hf_f c_108 hf
                  refine lv_iconst (pc := 115) hx hb (v := 0) dX7_shaped_115 (by decide) ?_
                  obtain rfl := Option.some.inj hf
                  exact hR H locs 116 ls hP hD hS dX7_shaped_116
                · have hf := hf_t c_108 hf
                  refine lv_iconst (pc := 111) hx hb (v := (-1)) dX7_shaped_111 (by decide) ?_
                  refine lv_goto (pc := 112) hx hb (tgt := 116) dX7_shaped_112 (by decide) ?_
                  obtain rfl := Option.some.inj hf
                  exact hR H locs 116 ls hP hD hS dX7_shaped_116
            · have hf := hf_f c_93 hf
              refine lv_iconst (pc := 96) hx hb (v := 1) dX7_shaped_96 (by decide) ?_
              refine lv_goto (pc := 97) hx hb (tgt := 116) dX7_shaped_97 (by decide) ?_
              obtain rfl := Option.some.inj hf
              exact hR H locs 116 ls hP hD hS dX7_shaped_116
          · have hf := hf_t c_84 hf
            refine lv_iconst (pc := 87) hx hb (v := 0) dX7_shaped_87 (by decide) ?_
            refine lv_goto (pc := 88) hx hb (tgt := 116) dX7_shaped_88 (by decide) ?_
            obtain rfl := Option.some.inj hf
            exact hR H locs 116 ls hP hD hS dX7_shaped_116
        · have hf := hf_f e19_6 hf
          have n19_4 := lv_neT (a := 4) e19_4 rfl
          have n19_5 := lv_neT (a := 5) e19_5 rfl
          have n19_6 := lv_neT (a := 6) e19_6 rfl
          refine lv_tableOut (pc := 19) hx hb (tgt := 117) dX7_shaped_19 (by omega) (by decide) ?_
          refine lv_iload (pc := 117) hx hb dX7_shaped_117 (lv_at hl 0 rfl) ?_
          refine lv_if_eq (pc := 119) hx hb (tgt := 126) dX7_shaped_119 (by decide) (fun c_119 => ?_) (fun c_119 => ?_)
          · have hf := hf_t c_119 hf
            refine lv_iconst (pc := 126) hx hb (v := 0) dX7_shaped_126 (by decide) ?_
            obtain rfl := Option.some.inj hf
            exact hR H locs 127 ls hP hD hS dX7_shaped_127
          · have hf := hf_f c_119 hf
            refine lv_iconst (pc := 122) hx hb (v := 1) dX7_shaped_122 (by decide) ?_
            refine lv_goto (pc := 123) hx hb (tgt := 127) dX7_shaped_123 (by decide) ?_
            obtain rfl := Option.some.inj hf
            exact hR H locs 127 ls hP hD hS dX7_shaped_127
  refine lv_icmp_ne (pc := 2) hx hb (tgt := 15) dX7_shaped_2 (by decide) (fun c_2 => ?_) (fun c_2 => ?_)
  · have hv16 := hf_f c_2 hv16
    refine lv_iconst (pc := 15) hx hb (v := 0) dX7_shaped_15 (by decide) ?_
    obtain rfl := Option.some.inj hv16
    exact hj16 H locs ls hP hD hS (lv_sub hl [0, 1, 2, 3, 4] rfl)
  · have hv16 := hf_t c_2 hv16
    refine lv_iload_n (pc := 5) hx hb dX7_shaped_5 rfl (lv_at hl 2 rfl) ?_
    refine lv_iload (pc := 6) hx hb dX7_shaped_6 (lv_at hl 4 rfl) ?_
    refine lv_icmp_ne (pc := 8) hx hb (tgt := 15) dX7_shaped_8 (by decide) (fun c_8 => ?_) (fun c_8 => ?_)
    · have hv16 := hf_f c_8 hv16
      refine lv_iconst (pc := 15) hx hb (v := 0) dX7_shaped_15 (by decide) ?_
      obtain rfl := Option.some.inj hv16
      exact hj16 H locs ls hP hD hS (lv_sub hl [0, 1, 2, 3, 4] rfl)
    · have hv16 := hf_t c_8 hv16
      refine lv_iconst (pc := 11) hx hb (v := 1) dX7_shaped_11 (by decide) ?_
      refine lv_goto (pc := 12) hx hb (tgt := 16) dX7_shaped_12 (by decide) ?_
      obtain rfl := Option.some.inj hv16
      exact hj16 H locs ls hP hD hS (lv_sub hl [0, 1, 2, 3, 4] rfl)
set_option maxHeartbeats 4000000 in
set_option maxRecDepth 100000 in
theorem kX7_rightOf (l : Launch) (D : va_G) (A : Nat → Nat) (B : Nat → ClassId) (sz : Nat) (S : w_S) (a1 : Int32) (a2 : Int32) (a3 : Int32) (z : Int32) (hf : fX7_rightOf S a1 a2 a3 = some z) : MetW l yX7_rightOf (wsO yX7_rightOf cX7_rightOf 4 (some .int)) rm_X7_rightOf [.ref (A 0), .int a1, .int a2, .int a3] D (tyB B) (wM A B S) (wM A B S) sz (some (.int z)) := by
  refine MetW.mkI (cc := cX7_rightOf) (maxL := 4) (by decide) (Nat.le_of_ble_eq_true rfl) ?_
  intro p e s m args below meth c Ad Q hx hb hts hown hml hN hK hA hR H locs ls hP hD hS hl
  have hl : lv_has ls 4 [(0, .ref (A 0)), (1, .int a1), (2, .int a2), (3, .int a3)] := hl
  rw [fX7_rightOf] at hf
  refine lv_iload_n (pc := 0) hx hb dX7_rightOf_0 rfl (lv_at hl 1 rfl) ?_
  refine lv_if_ne (pc := 1) hx hb (tgt := 14) dX7_rightOf_1 (by decide) (fun c_1 => ?_) (fun c_1 => ?_)
  · have hf := hf_f c_1 hf
    refine lv_iload_n (pc := 14) hx hb dX7_rightOf_14 rfl (lv_at hl 1 rfl) ?_
    refine lv_iconst (pc := 15) hx hb (v := 1) dX7_rightOf_15 (by decide) ?_
    refine lv_icmp_ne (pc := 16) hx hb (tgt := 23) dX7_rightOf_16 (by decide) (fun c_16 => ?_) (fun c_16 => ?_)
    · have hf := hf_f c_16 hf
      refine lv_iload_n (pc := 23) hx hb dX7_rightOf_23 rfl (lv_at hl 1 rfl) ?_
      refine lv_iconst (pc := 24) hx hb (v := 2) dX7_rightOf_24 (by decide) ?_
      refine lv_icmp_eq (pc := 25) hx hb (tgt := 33) dX7_rightOf_25 (by decide) (fun c_25 => ?_) (fun c_25 => ?_)
      · have hf := hf_t c_25 hf
        refine lv_aload_n (pc := 33) hx hb dX7_rightOf_33 rfl (lv_at hl 0 rfl) ?_
        refine lv_iconst (pc := 34) hx hb (v := 0) dX7_rightOf_34 (by decide) ?_
        refine lv_iload_n (pc := 35) hx hb dX7_rightOf_35 rfl (lv_at hl 2 rfl) ?_
        refine lv_iload_n (pc := 36) hx hb dX7_rightOf_36 rfl (lv_at hl 3 rfl) ?_
        obtain ⟨r37, hc37, hf⟩ := hf_b hf
        refine cl_V (pc := 37) (As := [.int 0, .int a2, .int a3]) (rest := []) hx hb hml hown hts (kX7_its l D A B _ S 0 a2 a3 r37 hc37) (cwV 3 hts gwRX7_128 rfl rfl rfl hdX7_its ⟨Nat.le_of_ble_eq_true rfl, Nat.le_of_ble_eq_true rfl⟩) hN hK hP hD hS hA (va_recv hK hP (ci := 7) (q0 := 0) rfl (eM_0 A B _)) rfl hl.1 rfl (Nat.le_of_ble_eq_true rfl) dX7_rightOf_37 (st1 := [.int r37]) rfl ⟨Nat.zero_le _, Nat.zero_le _⟩ (fun H locs hP hD hS => ?_)
        refine lv_ineg (pc := 40) hx hb dX7_rightOf_40 ?_
        refine lv_goto (pc := 41) hx hb (tgt := 51) dX7_rightOf_41 (by decide) ?_
        obtain rfl := Option.some.inj hf
        exact hR H locs 51 ls hP hD hS dX7_rightOf_51
      · have hf := hf_f c_25 hf
        refine lv_iload_n (pc := 28) hx hb dX7_rightOf_28 rfl (lv_at hl 1 rfl) ?_
        refine lv_iconst (pc := 29) hx hb (v := 4) dX7_rightOf_29 (by decide) ?_
        refine lv_icmp_ne (pc := 30) hx hb (tgt := 44) dX7_rightOf_30 (by decide) (fun c_30 => ?_) (fun c_30 => ?_)
        · have hf := hf_f c_30 hf
          refine lv_aload_n (pc := 44) hx hb dX7_rightOf_44 rfl (lv_at hl 0 rfl) ?_
          refine lv_iconst (pc := 45) hx hb (v := 0) dX7_rightOf_45 (by decide) ?_
          refine lv_iload_n (pc := 46) hx hb dX7_rightOf_46 rfl (lv_at hl 3 rfl) ?_
          refine lv_iload_n (pc := 47) hx hb dX7_rightOf_47 rfl (lv_at hl 2 rfl) ?_
          obtain ⟨r48, hc48, hf⟩ := hf_b hf
          refine cl_V (pc := 48) (As := [.int 0, .int a3, .int a2]) (rest := []) hx hb hml hown hts (kX7_its l D A B _ S 0 a3 a2 r48 hc48) (cwV 3 hts gwRX7_128 rfl rfl rfl hdX7_its ⟨Nat.le_of_ble_eq_true rfl, Nat.le_of_ble_eq_true rfl⟩) hN hK hP hD hS hA (va_recv hK hP (ci := 7) (q0 := 0) rfl (eM_0 A B _)) rfl hl.1 rfl (Nat.le_of_ble_eq_true rfl) dX7_rightOf_48 (st1 := [.int r48]) rfl ⟨Nat.zero_le _, Nat.zero_le _⟩ (fun H locs hP hD hS => ?_)
          obtain rfl := Option.some.inj hf
          exact hR H locs 51 ls hP hD hS dX7_rightOf_51
        · have hf := hf_t c_30 hf
          refine lv_aload_n (pc := 33) hx hb dX7_rightOf_33 rfl (lv_at hl 0 rfl) ?_
          refine lv_iconst (pc := 34) hx hb (v := 0) dX7_rightOf_34 (by decide) ?_
          refine lv_iload_n (pc := 35) hx hb dX7_rightOf_35 rfl (lv_at hl 2 rfl) ?_
          refine lv_iload_n (pc := 36) hx hb dX7_rightOf_36 rfl (lv_at hl 3 rfl) ?_
          obtain ⟨r37, hc37, hf⟩ := hf_b hf
          refine cl_V (pc := 37) (As := [.int 0, .int a2, .int a3]) (rest := []) hx hb hml hown hts (kX7_its l D A B _ S 0 a2 a3 r37 hc37) (cwV 3 hts gwRX7_128 rfl rfl rfl hdX7_its ⟨Nat.le_of_ble_eq_true rfl, Nat.le_of_ble_eq_true rfl⟩) hN hK hP hD hS hA (va_recv hK hP (ci := 7) (q0 := 0) rfl (eM_0 A B _)) rfl hl.1 rfl (Nat.le_of_ble_eq_true rfl) dX7_rightOf_37 (st1 := [.int r37]) rfl ⟨Nat.zero_le _, Nat.zero_le _⟩ (fun H locs hP hD hS => ?_)
          refine lv_ineg (pc := 40) hx hb dX7_rightOf_40 ?_
          refine lv_goto (pc := 41) hx hb (tgt := 51) dX7_rightOf_41 (by decide) ?_
          obtain rfl := Option.some.inj hf
          exact hR H locs 51 ls hP hD hS dX7_rightOf_51
    · have hf := hf_t c_16 hf
      refine lv_iconst (pc := 19) hx hb (v := 0) dX7_rightOf_19 (by decide) ?_
      refine lv_goto (pc := 20) hx hb (tgt := 51) dX7_rightOf_20 (by decide) ?_
      obtain rfl := Option.some.inj hf
      exact hR H locs 51 ls hP hD hS dX7_rightOf_51
  · have hf := hf_t c_1 hf
    refine lv_aload_n (pc := 4) hx hb dX7_rightOf_4 rfl (lv_at hl 0 rfl) ?_
    refine lv_iconst (pc := 5) hx hb (v := 1) dX7_rightOf_5 (by decide) ?_
    refine lv_iload_n (pc := 6) hx hb dX7_rightOf_6 rfl (lv_at hl 2 rfl) ?_
    refine lv_iload_n (pc := 7) hx hb dX7_rightOf_7 rfl (lv_at hl 3 rfl) ?_
    obtain ⟨r8, hc8, hf⟩ := hf_b hf
    refine cl_V (pc := 8) (As := [.int 1, .int a2, .int a3]) (rest := []) hx hb hml hown hts (kX7_its l D A B _ S 1 a2 a3 r8 hc8) (cwV 3 hts gwRX7_128 rfl rfl rfl hdX7_its ⟨Nat.le_of_ble_eq_true rfl, Nat.le_of_ble_eq_true rfl⟩) hN hK hP hD hS hA (va_recv hK hP (ci := 7) (q0 := 0) rfl (eM_0 A B _)) rfl hl.1 rfl (Nat.le_of_ble_eq_true rfl) dX7_rightOf_8 (st1 := [.int r8]) rfl ⟨Nat.zero_le _, Nat.zero_le _⟩ (fun H locs hP hD hS => ?_)
    refine lv_goto (pc := 11) hx hb (tgt := 51) dX7_rightOf_11 (by decide) ?_
    obtain rfl := Option.some.inj hf
    exact hR H locs 51 ls hP hD hS dX7_rightOf_51
set_option maxHeartbeats 4000000 in
set_option maxRecDepth 100000 in
theorem kX7_times0 (l : Launch) (D : va_G) (A : Nat → Nat) (B : Nat → ClassId) (sz : Nat) (S : w_S) (a1 : Int32) (a2 : Int32) (a3 : Int32) (a4 : Int32) (a5 : Int32) (a6 : Int32) (z : Int32) (hf : fX7_times0 S a1 a2 a3 a4 a5 a6 = some z) : MetW l yX7_times0 (wsO yX7_times0 cX7_times0 7 (some .int)) rm_X7_times0 [.ref (A 0), .int a1, .int a2, .int a3, .int a4, .int a5, .int a6] D (tyB B) (wM A B S) (wM A B S) sz (some (.int z)) := by
  refine MetW.mkI (cc := cX7_times0) (maxL := 7) (by decide) (Nat.le_of_ble_eq_true rfl) ?_
  intro p e s m args below meth c Ad Q hx hb hts hown hml hN hK hA hR H locs ls hP hD hS hl
  have hl : lv_has ls 7 [(0, .ref (A 0)), (1, .int a1), (2, .int a2), (3, .int a3), (4, .int a4), (5, .int a5), (6, .int a6)] := hl
  rw [fX7_times0] at hf
  refine lv_iload (pc := 0) hx hb dX7_times0_0 (lv_at hl 4 rfl) ?_
  refine lv_iload (pc := 2) hx hb dX7_times0_2 (lv_at hl 6 rfl) ?_
  obtain ⟨q19, hv19, hf⟩ := hf_b hf
  have hj19 : ∀ (H : Heap) (locs : List Loc) (ls : Array Slot), va_P D vwCl (wM A B S) H → va_D Ad (wM A B S) → va_S Ad s.heap H locs → lv_has ls 7 [(0, .ref (A 0)), (1, .int a1), (2, .int a2), (3, .int a3), (4, .int a4), (5, .int a5), (6, .int a6)] → W p l e rm_X7_times0 s m args below meth c H locs 0 0 Q (F0 m 19 ls [.int q19]) := by
    intro H locs ls hP hD hS hl
    refine lv_iload_n (pc := 19) hx hb dX7_times0_19 rfl (lv_at hl 3 rfl) ?_
    refine lv_iload (pc := 20) hx hb dX7_times0_20 (lv_at hl 5 rfl) ?_
    obtain ⟨q37, hv37, hf⟩ := hf_b hf
    have hj37 : ∀ (H : Heap) (locs : List Loc) (ls : Array Slot), va_P D vwCl (wM A B S) H → va_D Ad (wM A B S) → va_S Ad s.heap H locs → lv_has ls 7 [(0, .ref (A 0)), (1, .int a1), (3, .int a3), (4, .int a4), (5, .int a5), (6, .int a6)] → W p l e rm_X7_times0 s m args below meth c H locs 0 0 Q (F0 m 37 ls [.int q37, .int q19]) := by
      intro H locs ls hP hD hS hl
      refine lv_iadd (pc := 37) hx hb dX7_times0_37 ?_
      refine lv_iload_n (pc := 38) hx hb dX7_times0_38 rfl (lv_at hl 2 rfl) ?_
      refine lv_iload (pc := 39) hx hb dX7_times0_39 (lv_at hl 4 rfl) ?_
      refine lv_icmp_ne (pc := 41) hx hb (tgt := 56) dX7_times0_41 (by decide) (fun c_41 => ?_) (fun c_41 => ?_)
      · have hf := hf_f c_41 hf
        refine lv_iconst (pc := 56) hx hb (v := 0) dX7_times0_56 (by decide) ?_
        refine lv_iadd (pc := 57) hx hb dX7_times0_57 ?_
        obtain rfl := Option.some.inj hf
        exact hR H locs 58 ls hP hD hS dX7_times0_58
      · have hf := hf_t c_41 hf
        refine lv_aload_n (pc := 44) hx hb dX7_times0_44 rfl (lv_at hl 0 rfl) ?_
        refine lv_iload_n (pc := 45) hx hb dX7_times0_45 rfl (lv_at hl 1 rfl) ?_
        refine lv_iload (pc := 46) hx hb dX7_times0_46 (lv_at hl 5 rfl) ?_
        refine lv_iload (pc := 48) hx hb dX7_times0_48 (lv_at hl 3 rfl) ?_
        obtain ⟨r50, hc50, hf⟩ := hf_b hf
        refine cl_V (pc := 50) (As := [.int a1, .int a6, .int a4]) (rest := [.int (q19 + q37)]) hx hb hml hown hts (kX7_rightOf l D A B _ S a1 a6 a4 r50 hc50) (cwV 3 hts gwRX7_215 rfl rfl rfl hdX7_rightOf ⟨Nat.le_of_ble_eq_true rfl, Nat.le_of_ble_eq_true rfl⟩) hN hK hP hD hS hA (va_recv hK hP (ci := 7) (q0 := 0) rfl (eM_0 A B _)) rfl hl.1 rfl (Nat.le_of_ble_eq_true rfl) dX7_times0_50 (st1 := [.int r50, .int (q19 + q37)]) rfl ⟨Nat.zero_le _, Nat.zero_le _⟩ (fun H locs hP hD hS => ?_)
        refine lv_goto (pc := 53) hx hb (tgt := 57) dX7_times0_53 (by decide) ?_
        refine lv_iadd (pc := 57) hx hb dX7_times0_57 ?_
        obtain rfl := Option.some.inj hf
        exact hR H locs 58 ls hP hD hS dX7_times0_58
    refine lv_icmp_ne (pc := 22) hx hb (tgt := 36) dX7_times0_22 (by decide) (fun c_22 => ?_) (fun c_22 => ?_)
    · have hv37 := hf_f c_22 hv37
      refine lv_iconst (pc := 36) hx hb (v := 0) dX7_times0_36 (by decide) ?_
      obtain rfl := Option.some.inj hv37
      exact hj37 H locs ls hP hD hS (lv_sub hl [0, 1, 3, 4, 5, 6] rfl)
    · have hv37 := hf_t c_22 hv37
      refine lv_iload (pc := 25) hx hb dX7_times0_25 (lv_at hl 4 rfl) ?_
      refine lv_iload (pc := 27) hx hb dX7_times0_27 (lv_at hl 6 rfl) ?_
      refine lv_icmp_ne (pc := 29) hx hb (tgt := 36) dX7_times0_29 (by decide) (fun c_29 => ?_) (fun c_29 => ?_)
      · have hv37 := hf_f c_29 hv37
        refine lv_iconst (pc := 36) hx hb (v := 0) dX7_times0_36 (by decide) ?_
        obtain rfl := Option.some.inj hv37
        exact hj37 H locs ls hP hD hS (lv_sub hl [0, 1, 3, 4, 5, 6] rfl)
      · have hv37 := hf_t c_29 hv37
        refine lv_iload_n (pc := 32) hx hb dX7_times0_32 rfl (lv_at hl 2 rfl) ?_
        refine lv_goto (pc := 33) hx hb (tgt := 37) dX7_times0_33 (by decide) ?_
        obtain rfl := Option.some.inj hv37
        exact hj37 H locs ls hP hD hS (lv_sub hl [0, 1, 3, 4, 5, 6] rfl)
  refine lv_icmp_ne (pc := 4) hx hb (tgt := 18) dX7_times0_4 (by decide) (fun c_4 => ?_) (fun c_4 => ?_)
  · have hv19 := hf_f c_4 hv19
    refine lv_iconst (pc := 18) hx hb (v := 0) dX7_times0_18 (by decide) ?_
    obtain rfl := Option.some.inj hv19
    exact hj19 H locs ls hP hD hS (lv_sub hl [0, 1, 2, 3, 4, 5, 6] rfl)
  · have hv19 := hf_t c_4 hv19
    refine lv_aload_n (pc := 7) hx hb dX7_times0_7 rfl (lv_at hl 0 rfl) ?_
    refine lv_iconst (pc := 8) hx hb (v := 0) dX7_times0_8 (by decide) ?_
    refine lv_iload_n (pc := 9) hx hb dX7_times0_9 rfl (lv_at hl 3 rfl) ?_
    refine lv_iload (pc := 10) hx hb dX7_times0_10 (lv_at hl 5 rfl) ?_
    obtain ⟨r12, hc12, hv19⟩ := hf_b hv19
    refine cl_V (pc := 12) (As := [.int 0, .int a3, .int a5]) (rest := []) hx hb hml hown hts (kX7_its l D A B _ S 0 a3 a5 r12 hc12) (cwV 3 hts gwRX7_128 rfl rfl rfl hdX7_its ⟨Nat.le_of_ble_eq_true rfl, Nat.le_of_ble_eq_true rfl⟩) hN hK hP hD hS hA (va_recv hK hP (ci := 7) (q0 := 0) rfl (eM_0 A B _)) rfl hl.1 rfl (Nat.le_of_ble_eq_true rfl) dX7_times0_12 (st1 := [.int r12]) rfl ⟨Nat.zero_le _, Nat.zero_le _⟩ (fun H locs hP hD hS => ?_)
    refine lv_goto (pc := 15) hx hb (tgt := 19) dX7_times0_15 (by decide) ?_
    obtain rfl := Option.some.inj hv19
    exact hj19 H locs ls hP hD hS (lv_sub hl [0, 1, 2, 3, 4, 5, 6] rfl)
set_option maxHeartbeats 4000000 in
set_option maxRecDepth 100000 in
theorem kX7_takenBy (l : Launch) (D : va_G) (A : Nat → Nat) (B : Nat → ClassId) (sz : Nat) (S : w_S) (a1 : Int32) (a2 : Int32) (a3 : Int32) (a4 : Int32) (a5 : Int32) (z : Int32) (hf : fX7_takenBy S a1 a2 a3 a4 a5 = some z) : MetW l yX7_takenBy (wsO yX7_takenBy cX7_takenBy 9 (some .int)) rm_X7_takenBy [.ref (A 0), .int a1, .int a2, .int a3, .int a4, .int a5] D (tyB B) (wM A B S) (wM A B S) sz (some (.int z)) := by
  refine MetW.mkI (cc := cX7_takenBy) (maxL := 9) (by decide) (Nat.le_of_ble_eq_true rfl) ?_
  intro p e s m args below meth c Ad Q hx hb hts hown hml hN hK hA hR H locs ls hP hD hS hl
  have hl : lv_has ls 9 [(0, .ref (A 0)), (1, .int a1), (2, .int a2), (3, .int a3), (4, .int a4), (5, .int a5)] := hl
  rw [fX7_takenBy] at hf
  refine lv_iconst (pc := 0) hx hb (v := 0) dX7_takenBy_0 (by decide) ?_
  refine lv_istore (pc := 1) hx hb (lv' := [(6, .int 0), (0, .ref (A 0)), (1, .int a1), (2, .int a2), (3, .int a3), (4, .int a4), (5, .int a5)]) dX7_takenBy_1 hl (by decide) rfl (fun ls hl => ?_)
  refine lv_iconst (pc := 3) hx hb (v := 0) dX7_takenBy_3 (by decide) ?_
  refine lv_istore (pc := 4) hx hb (lv' := [(7, .int 0), (6, .int 0), (0, .ref (A 0)), (1, .int a1), (2, .int a2), (3, .int a3), (4, .int a4), (5, .int a5)]) dX7_takenBy_4 hl (by decide) rfl (fun ls hl => ?_)
  obtain ⟨q6, hq6, hf⟩ := hf_b hf
  have hk6 : ∀ (H : Heap) (locs : List Loc) (ls : Array Slot), va_P D vwCl (wM A B S) H → va_D Ad (wM A B S) → va_S Ad s.heap H locs → lv_has ls 9 [(6, .int q6)] → W p l e rm_X7_takenBy s m args below meth c H locs 0 0 Q (F0 m 121 ls []) := by
    intro H locs ls hP hD hS hl
    refine lv_iload (pc := 121) hx hb dX7_takenBy_121 (lv_at hl 0 rfl) ?_
    obtain rfl := Option.some.inj hf
    exact hR H locs 123 ls hP hD hS dX7_takenBy_123
  have lp6 : ∀ (n : Nat) (u6_6 : Int32) (u7_6 : Int32) (H : Heap) (locs : List Loc) (ls : Array Slot), fX7_takenBy_L6 S a1 a2 a3 a4 a5 n u6_6 u7_6 = some q6 → va_P D vwCl (wM A B S) H → va_D Ad (wM A B S) → va_S Ad s.heap H locs → lv_has ls 9 [(0, .ref (A 0)), (1, .int a1), (2, .int a2), (3, .int a3), (4, .int a4), (5, .int a5), (6, .int u6_6), (7, .int u7_6)] → W p l e rm_X7_takenBy s m args below meth c H locs 0 0 Q (F0 m 6 ls []) := by
    intro n6
    induction n6 with
    | zero => intro u6_6 u7_6 H locs ls hq6; exact hf_0 hq6
    | succ n6 ih6 =>
      intro u6_6 u7_6 H locs ls hq6 hP hD hS hl
      rw [fX7_takenBy_L6] at hq6
      refine lv_iload (pc := 6) hx hb dX7_takenBy_6 (lv_at hl 7 rfl) ?_
      refine lv_aload_n (pc := 8) hx hb dX7_takenBy_8 rfl (lv_at hl 0 rfl) ?_
      refine vMgRX7_19_0 (pc := 9) hx hb hts mU_84 inU7 hown hK hP (x := (gI S 0)) rfl dX7_takenBy_9 ?_
      refine lv_aload_n (pc := 12) hx hb dX7_takenBy_12 rfl (lv_at hl 0 rfl) ?_
      refine vMgRX7_23_0 (pc := 13) hx hb hts mU_85 inU7 hown hK hP (x := (gI S 1)) rfl dX7_takenBy_13 ?_
      refine lv_imul (pc := 16) hx hb dX7_takenBy_16 ?_
      refine lv_icmp_ge (pc := 17) hx hb (tgt := 121) dX7_takenBy_17 (by decide) (fun c_17 => ?_) (fun c_17 => ?_)
      · have hq6 := hf_t c_17 hq6
        obtain rfl := Option.some.inj hq6
        exact hk6 H locs ls hP hD hS (lv_sub hl [6] rfl)
      · have hq6 := hf_f c_17 hq6
        refine lv_iload_n (pc := 20) hx hb dX7_takenBy_20 rfl (lv_at hl 2 rfl) ?_
        refine lv_iload (pc := 21) hx hb dX7_takenBy_21 (lv_at hl 7 rfl) ?_
        refine lv_aload_n (pc := 23) hx hb dX7_takenBy_23 rfl (lv_at hl 0 rfl) ?_
        refine vMgRX7_23_0 (pc := 24) hx hb hts mU_85 inU7 hown hK hP (x := (gI S 1)) rfl dX7_takenBy_24 ?_
        obtain ⟨hg27, hq6⟩ := hf_g hq6
        refine lv_idiv (pc := 27) hx hb dX7_takenBy_27 hg27 ?_
        refine lv_iload (pc := 28) hx hb dX7_takenBy_28 (lv_at hl 7 rfl) ?_
        refine lv_aload_n (pc := 30) hx hb dX7_takenBy_30 rfl (lv_at hl 0 rfl) ?_
        refine vMgRX7_23_0 (pc := 31) hx hb hts mU_85 inU7 hown hK hP (x := (gI S 1)) rfl dX7_takenBy_31 ?_
        obtain ⟨hg34, hq6⟩ := hf_g hq6
        refine lv_irem (pc := 34) hx hb dX7_takenBy_34 hg34 ?_
        refine lv_aload_n (pc := 35) hx hb dX7_takenBy_35 rfl (lv_at hl 0 rfl) ?_
        refine vMgRX7_45_0 (pc := 36) hx hb hts mU_92 inU7 hown hK hP dX7_takenBy_36 ?_
        refine lv_iload (pc := 39) hx hb dX7_takenBy_39 (lv_at hl 5 rfl) ?_
        obtain ⟨hg41, hq6⟩ := hf_g hq6
        refine vMra_9 (pc := 41) hx hb hK hP (f := (gA S 8)) rfl hg41 dX7_takenBy_41 ?_
        refine lv_aload_n (pc := 42) hx hb dX7_takenBy_42 rfl (lv_at hl 0 rfl) ?_
        refine vMgRX7_23_0 (pc := 43) hx hb hts mU_85 inU7 hown hK hP (x := (gI S 1)) rfl dX7_takenBy_43 ?_
        obtain ⟨hg46, hq6⟩ := hf_g hq6
        refine lv_idiv (pc := 46) hx hb dX7_takenBy_46 hg46 ?_
        refine lv_aload_n (pc := 47) hx hb dX7_takenBy_47 rfl (lv_at hl 0 rfl) ?_
        refine vMgRX7_45_0 (pc := 48) hx hb hts mU_92 inU7 hown hK hP dX7_takenBy_48 ?_
        refine lv_iload (pc := 51) hx hb dX7_takenBy_51 (lv_at hl 5 rfl) ?_
        obtain ⟨hg53, hq6⟩ := hf_g hq6
        refine vMra_9 (pc := 53) hx hb hK hP (f := (gA S 8)) rfl hg53 dX7_takenBy_53 ?_
        refine lv_aload_n (pc := 54) hx hb dX7_takenBy_54 rfl (lv_at hl 0 rfl) ?_
        refine vMgRX7_23_0 (pc := 55) hx hb hts mU_85 inU7 hown hK hP (x := (gI S 1)) rfl dX7_takenBy_55 ?_
        obtain ⟨hg58, hq6⟩ := hf_g hq6
        refine lv_irem (pc := 58) hx hb dX7_takenBy_58 hg58 ?_
        obtain ⟨r59, hc59, hq6⟩ := hf_b hq6
        refine cl_S (pc := 59) (As := [.int a2, .int (u7_6 / (gI S 1)), .int (u7_6 - u7_6 / (gI S 1) * (gI S 1)), .int (((gA S 8) a5.toNatClampNeg) / (gI S 1)), .int (((gA S 8) a5.toNatClampNeg) - ((gA S 8) a5.toNatClampNeg) / (gI S 1) * (gI S 1))]) (rest := []) hx hb hml hown hts (kX7_shaped l D A B _ S a2 (u7_6 / (gI S 1)) (u7_6 - u7_6 / (gI S 1) * (gI S 1)) (((gA S 8) a5.toNatClampNeg) / (gI S 1)) (((gA S 8) a5.toNatClampNeg) - ((gA S 8) a5.toNatClampNeg) / (gI S 1) * (gI S 1)) r59 hc59) (va_cwS 5 hts gwRX7_218 rfl rfl rfl hdX7_shaped ⟨Nat.le_of_ble_eq_true rfl, Nat.le_of_ble_eq_true rfl⟩) hN hK hP hD hS hA rfl hl.1 rfl (Nat.le_of_ble_eq_true rfl) dX7_takenBy_59 (st1 := [.int r59]) rfl ⟨Nat.zero_le _, Nat.zero_le _⟩ (fun H locs hP hD hS => ?_)
        refine lv_istore (pc := 62) hx hb (lv' := [(8, .int r59), (0, .ref (A 0)), (1, .int a1), (2, .int a2), (3, .int a3), (4, .int a4), (5, .int a5), (6, .int u6_6), (7, .int u7_6)]) dX7_takenBy_62 hl (by decide) rfl (fun ls hl => ?_)
        refine lv_iload (pc := 64) hx hb dX7_takenBy_64 (lv_at hl 7 rfl) ?_
        refine lv_iload (pc := 66) hx hb dX7_takenBy_66 (lv_at hl 0 rfl) ?_
        refine lv_if_ne (pc := 68) hx hb (tgt := 75) dX7_takenBy_68 (by decide) (fun c_68 => ?_) (fun c_68 => ?_)
        · have hq6 := hf_f c_68 hq6
          refine lv_iload (pc := 75) hx hb dX7_takenBy_75 (lv_at hl 0 rfl) ?_
          refine lv_aload_n (pc := 77) hx hb dX7_takenBy_77 rfl (lv_at hl 1 rfl) ?_
          refine lv_iload_n (pc := 78) hx hb dX7_takenBy_78 rfl (lv_at hl 2 rfl) ?_
          refine lv_iload_n (pc := 79) hx hb dX7_takenBy_79 rfl (lv_at hl 4 rfl) ?_
          refine lv_iload (pc := 80) hx hb dX7_takenBy_80 (lv_at hl 5 rfl) ?_
          refine lv_aload_n (pc := 82) hx hb dX7_takenBy_82 rfl (lv_at hl 1 rfl) ?_
          refine vMgRX7_23_0 (pc := 83) hx hb hts mU_85 inU7 hown hK hP (x := (gI S 1)) rfl dX7_takenBy_83 ?_
          obtain ⟨hg86, hq6⟩ := hf_g hq6
          refine lv_idiv (pc := 86) hx hb dX7_takenBy_86 hg86 ?_
          refine lv_iload (pc := 87) hx hb dX7_takenBy_87 (lv_at hl 5 rfl) ?_
          refine lv_aload_n (pc := 89) hx hb dX7_takenBy_89 rfl (lv_at hl 1 rfl) ?_
          refine vMgRX7_23_0 (pc := 90) hx hb hts mU_85 inU7 hown hK hP (x := (gI S 1)) rfl dX7_takenBy_90 ?_
          obtain ⟨hg93, hq6⟩ := hf_g hq6
          refine lv_irem (pc := 93) hx hb dX7_takenBy_93 hg93 ?_
          refine lv_iload (pc := 94) hx hb dX7_takenBy_94 (lv_at hl 8 rfl) ?_
          refine lv_aload_n (pc := 96) hx hb dX7_takenBy_96 rfl (lv_at hl 1 rfl) ?_
          refine vMgRX7_23_0 (pc := 97) hx hb hts mU_85 inU7 hown hK hP (x := (gI S 1)) rfl dX7_takenBy_97 ?_
          obtain ⟨hg100, hq6⟩ := hf_g hq6
          refine lv_idiv (pc := 100) hx hb dX7_takenBy_100 hg100 ?_
          refine lv_iload (pc := 101) hx hb dX7_takenBy_101 (lv_at hl 8 rfl) ?_
          refine lv_aload_n (pc := 103) hx hb dX7_takenBy_103 rfl (lv_at hl 1 rfl) ?_
          refine vMgRX7_23_0 (pc := 104) hx hb hts mU_85 inU7 hown hK hP (x := (gI S 1)) rfl dX7_takenBy_104 ?_
          obtain ⟨hg107, hq6⟩ := hf_g hq6
          refine lv_irem (pc := 107) hx hb dX7_takenBy_107 hg107 ?_
          obtain ⟨r108, hc108, hq6⟩ := hf_b hq6
          refine cl_V (pc := 108) (As := [.int a1, .int a3, .int (a4 / (gI S 1)), .int (a4 - a4 / (gI S 1) * (gI S 1)), .int (u7_6 / (gI S 1)), .int (u7_6 - u7_6 / (gI S 1) * (gI S 1))]) (rest := [.int r59, .int u6_6]) hx hb hml hown hts (kX7_times0 l D A B _ S a1 a3 (a4 / (gI S 1)) (a4 - a4 / (gI S 1) * (gI S 1)) (u7_6 / (gI S 1)) (u7_6 - u7_6 / (gI S 1) * (gI S 1)) r108 hc108) (cwV 6 hts gwRX7_222 rfl rfl rfl hdX7_times0 ⟨Nat.le_of_ble_eq_true rfl, Nat.le_of_ble_eq_true rfl⟩) hN hK hP hD hS hA (va_recv hK hP (ci := 7) (q0 := 0) rfl (eM_0 A B _)) rfl hl.1 rfl (Nat.le_of_ble_eq_true rfl) dX7_takenBy_108 (st1 := [.int r108, .int r59, .int u6_6]) rfl ⟨Nat.zero_le _, Nat.zero_le _⟩ (fun H locs hP hD hS => ?_)
          refine lv_imul (pc := 111) hx hb dX7_takenBy_111 ?_
          refine lv_iadd (pc := 112) hx hb dX7_takenBy_112 ?_
          refine lv_istore (pc := 113) hx hb (lv' := [(6, .int (u6_6 + (r59 * r108))), (8, .int r59), (0, .ref (A 0)), (1, .int a1), (2, .int a2), (3, .int a3), (4, .int a4), (5, .int a5), (7, .int u7_6)]) dX7_takenBy_113 hl (by decide) rfl (fun ls hl => ?_)
          refine lv_iinc (pc := 115) hx hb (v := u7_6 + 1) (lv' := [(7, .int (u7_6 + 1)), (6, .int (u6_6 + (r59 * r108))), (8, .int r59), (0, .ref (A 0)), (1, .int a1), (2, .int a2), (3, .int a3), (4, .int a4), (5, .int a5)]) dX7_takenBy_115 hl (k := 8) rfl rfl (by decide) rfl (fun ls hl => ?_)
          refine lv_goto (pc := 118) hx hb (tgt := 6) dX7_takenBy_118 (by decide) ?_
          exact ih6 (u6_6 + (r59 * r108)) (u7_6 + 1) H locs ls hq6 hP hD hS (lv_sub hl [3, 4, 5, 6, 7, 8, 1, 0] rfl)
        · have hq6 := hf_t c_68 hq6
          refine lv_iconst (pc := 71) hx hb (v := 0) dX7_takenBy_71 (by decide) ?_
          refine lv_goto (pc := 72) hx hb (tgt := 112) dX7_takenBy_72 (by decide) ?_
          refine lv_iadd (pc := 112) hx hb dX7_takenBy_112 ?_
          refine lv_istore (pc := 113) hx hb (lv' := [(6, .int (u6_6 + 0)), (8, .int r59), (0, .ref (A 0)), (1, .int a1), (2, .int a2), (3, .int a3), (4, .int a4), (5, .int a5), (7, .int u7_6)]) dX7_takenBy_113 hl (by decide) rfl (fun ls hl => ?_)
          refine lv_iinc (pc := 115) hx hb (v := u7_6 + 1) (lv' := [(7, .int (u7_6 + 1)), (6, .int (u6_6 + 0)), (8, .int r59), (0, .ref (A 0)), (1, .int a1), (2, .int a2), (3, .int a3), (4, .int a4), (5, .int a5)]) dX7_takenBy_115 hl (k := 8) rfl rfl (by decide) rfl (fun ls hl => ?_)
          refine lv_goto (pc := 118) hx hb (tgt := 6) dX7_takenBy_118 (by decide) ?_
          exact ih6 (u6_6 + 0) (u7_6 + 1) H locs ls hq6 hP hD hS (lv_sub hl [3, 4, 5, 6, 7, 8, 1, 0] rfl)
  exact lp6 256 0 0 H locs ls hq6 hP hD hS (lv_sub hl [2, 3, 4, 5, 6, 7, 1, 0] rfl)
set_option maxHeartbeats 4000000 in
set_option maxRecDepth 100000 in
theorem kX7_clears (l : Launch) (D : va_G) (A : Nat → Nat) (B : Nat → ClassId) (sz : Nat) (S : w_S) (a1 : Int32) (a2 : Int32) (z : w_S) (hf : fX7_clears S a1 a2 = some z) : MetW l yX7_clears (wsO yX7_clears cX7_clears 9 none) rm_X7_clears [.ref (A 0), .int a1, .int a2] D (tyB B) (wM A B S) (wM A B z) sz (none) := by
  refine MetW.mkV (cc := cX7_clears) (maxL := 9) (by decide) (Nat.le_of_ble_eq_true rfl) ?_
  intro p e s m args below meth c Ad Q hx hb hts hown hml hN hK hA hR H locs ls hP hD hS hl
  have hl : lv_has ls 9 [(0, .ref (A 0)), (1, .int a1), (2, .int a2)] := hl
  rw [fX7_clears] at hf
  refine lv_aload_n (pc := 0) hx hb dX7_clears_0 rfl (lv_at hl 0 rfl) ?_
  refine vMgRX7_48_0 (pc := 1) hx hb hts mU_93 inU7 hown hK hP dX7_clears_1 ?_
  refine lv_bipush (pc := 4) hx hb (v := 8) dX7_clears_4 (by decide) ?_
  refine lv_iload_n (pc := 6) hx hb dX7_clears_6 rfl (lv_at hl 1 rfl) ?_
  refine lv_imul (pc := 7) hx hb dX7_clears_7 ?_
  refine lv_iload_n (pc := 8) hx hb dX7_clears_8 rfl (lv_at hl 2 rfl) ?_
  refine lv_iadd (pc := 9) hx hb dX7_clears_9 ?_
  obtain ⟨hg10, hf⟩ := hf_g hf
  refine vMra_10 (pc := 10) hx hb hK hP (f := (gB S 0)) rfl hg10 dX7_clears_10 ?_
  refine lv_lstore_n (pc := 11) hx hb (lv' := [(3, .long ((gB S 0) ((8 * a1) + a2).toNatClampNeg)), (0, .ref (A 0)), (1, .int a1), (2, .int a2)]) dX7_clears_11 rfl hl (by decide) rfl (fun ls hl => ?_)
  refine lv_iconst (pc := 12) hx hb (v := 0) dX7_clears_12 (by decide) ?_
  refine lv_istore (pc := 13) hx hb (lv' := [(5, .int 0), (3, .long ((gB S 0) ((8 * a1) + a2).toNatClampNeg)), (0, .ref (A 0)), (1, .int a1), (2, .int a2)]) dX7_clears_13 hl (by decide) rfl (fun ls hl => ?_)
  obtain ⟨q15, hq15, hf⟩ := hf_b hf
  have hk15 : ∀ (H : Heap) (locs : List Loc) (ls : Array Slot), va_P D vwCl (wM A B q15) H → va_D Ad (wM A B q15) → va_S Ad s.heap H locs → lv_has ls 9 [(0, .ref (A 0)), (3, .long ((gB S 0) ((8 * a1) + a2).toNatClampNeg))] → W p l e rm_X7_clears s m args below meth c H locs 0 0 Q (F0 m 120 ls []) := by
    intro H locs ls hP hD hS hl
    refine lv_aload_n (pc := 120) hx hb dX7_clears_120 rfl (lv_at hl 0 rfl) ?_
    refine lv_lload_n (pc := 121) hx hb dX7_clears_121 rfl (lv_at hl 1 rfl) ?_
    refine vMpRX7_235_0 (pc := 122) hx hb hts mU_566 inU7 hown hK hP hD hS dX7_clears_122 (fun H locs hP hD hS => ?_)
    obtain rfl := Option.some.inj hf
    exact hR H locs 125 ls hP hD hS dX7_clears_125
  have lp15 : ∀ (n : Nat) (T15 : w_S) (u5_15 : Int32) (H : Heap) (locs : List Loc) (ls : Array Slot), fX7_clears_L15 a1 a2 ((gB S 0) ((8 * a1) + a2).toNatClampNeg) n T15 u5_15 = some q15 → va_P D vwCl (wM A B T15) H → va_D Ad (wM A B T15) → va_S Ad s.heap H locs → lv_has ls 9 [(0, .ref (A 0)), (1, .int a1), (2, .int a2), (3, .long ((gB S 0) ((8 * a1) + a2).toNatClampNeg)), (5, .int u5_15)] → W p l e rm_X7_clears s m args below meth c H locs 0 0 Q (F0 m 15 ls []) := by
    intro n15
    induction n15 with
    | zero => intro T15 u5_15 H locs ls hq15; exact hf_0 hq15
    | succ n15 ih15 =>
      intro T15 u5_15 H locs ls hq15 hP hD hS hl
      rw [fX7_clears_L15] at hq15
      refine lv_iload (pc := 15) hx hb dX7_clears_15 (lv_at hl 4 rfl) ?_
      refine lv_aload_n (pc := 17) hx hb dX7_clears_17 rfl (lv_at hl 0 rfl) ?_
      refine vMgRX7_232_0 (pc := 18) hx hb hts mU_545 inU7 hown hK hP (x := (gI T15 14)) rfl dX7_clears_18 ?_
      refine lv_icmp_ge (pc := 21) hx hb (tgt := 120) dX7_clears_21 (by decide) (fun c_21 => ?_) (fun c_21 => ?_)
      · have hq15 := hf_t c_21 hq15
        obtain rfl := Option.some.inj hq15
        exact hk15 H locs ls hP hD hS (lv_sub hl [0, 3] rfl)
      · have hq15 := hf_f c_21 hq15
        refine lv_iload (pc := 24) hx hb dX7_clears_24 (lv_at hl 4 rfl) ?_
        refine lv_iload_n (pc := 26) hx hb dX7_clears_26 rfl (lv_at hl 1 rfl) ?_
        refine lv_icmp_ne (pc := 27) hx hb (tgt := 33) dX7_clears_27 (by decide) (fun c_27 => ?_) (fun c_27 => ?_)
        · have hq15 := hf_f c_27 hq15
          refine lv_aload_n (pc := 33) hx hb dX7_clears_33 rfl (lv_at hl 0 rfl) ?_
          refine vMgRX7_48_0 (pc := 34) hx hb hts mU_93 inU7 hown hK hP dX7_clears_34 ?_
          refine lv_bipush (pc := 37) hx hb (v := 8) dX7_clears_37 (by decide) ?_
          refine lv_iload (pc := 39) hx hb dX7_clears_39 (lv_at hl 4 rfl) ?_
          refine lv_imul (pc := 41) hx hb dX7_clears_41 ?_
          refine lv_iload_n (pc := 42) hx hb dX7_clears_42 rfl (lv_at hl 2 rfl) ?_
          refine lv_iadd (pc := 43) hx hb dX7_clears_43 ?_
          obtain ⟨hg44, hq15⟩ := hf_g hq15
          refine vMra_10 (pc := 44) hx hb hK hP (f := (gB T15 0)) rfl hg44 dX7_clears_44 ?_
          refine lv_lstore (pc := 45) hx hb (lv' := [(6, .long ((gB T15 0) ((8 * u5_15) + a2).toNatClampNeg)), (0, .ref (A 0)), (1, .int a1), (2, .int a2), (3, .long ((gB S 0) ((8 * a1) + a2).toNatClampNeg)), (5, .int u5_15)]) dX7_clears_45 hl (by decide) rfl (fun ls hl => ?_)
          refine lv_iconst (pc := 47) hx hb (v := 0) dX7_clears_47 (by decide) ?_
          refine lv_istore (pc := 48) hx hb (lv' := [(8, .int 0), (6, .long ((gB T15 0) ((8 * u5_15) + a2).toNatClampNeg)), (0, .ref (A 0)), (1, .int a1), (2, .int a2), (3, .long ((gB S 0) ((8 * a1) + a2).toNatClampNeg)), (5, .int u5_15)]) dX7_clears_48 hl (by decide) rfl (fun ls hl => ?_)
          obtain ⟨q50, hq50, hq15⟩ := hf_b hq15
          have hk50 : ∀ (H : Heap) (locs : List Loc) (ls : Array Slot), va_P D vwCl (wM A B q50) H → va_D Ad (wM A B q50) → va_S Ad s.heap H locs → lv_has ls 9 [(0, .ref (A 0)), (1, .int a1), (2, .int a2), (3, .long ((gB S 0) ((8 * a1) + a2).toNatClampNeg)), (5, .int u5_15)] → W p l e rm_X7_clears s m args below meth c H locs 0 0 Q (F0 m 114 ls []) := by
            intro H locs ls hP hD hS hl
            refine lv_iinc (pc := 114) hx hb (v := u5_15 + 1) (lv' := [(5, .int (u5_15 + 1)), (0, .ref (A 0)), (1, .int a1), (2, .int a2), (3, .long ((gB S 0) ((8 * a1) + a2).toNatClampNeg))]) dX7_clears_114 hl (k := 4) rfl rfl (by decide) rfl (fun ls hl => ?_)
            refine lv_goto (pc := 117) hx hb (tgt := 15) dX7_clears_117 (by decide) ?_
            exact ih15 q50 (u5_15 + 1) H locs ls hq15 hP hD hS (lv_sub hl [1, 2, 3, 4, 0] rfl)
          have lp50 : ∀ (n : Nat) (T50 : w_S) (u8_50 : Int32) (H : Heap) (locs : List Loc) (ls : Array Slot), fX7_clears_L50 a1 a2 ((gB S 0) ((8 * a1) + a2).toNatClampNeg) u5_15 ((gB T15 0) ((8 * u5_15) + a2).toNatClampNeg) n T50 u8_50 = some q50 → va_P D vwCl (wM A B T50) H → va_D Ad (wM A B T50) → va_S Ad s.heap H locs → lv_has ls 9 [(0, .ref (A 0)), (1, .int a1), (2, .int a2), (3, .long ((gB S 0) ((8 * a1) + a2).toNatClampNeg)), (5, .int u5_15), (6, .long ((gB T15 0) ((8 * u5_15) + a2).toNatClampNeg)), (8, .int u8_50)] → W p l e rm_X7_clears s m args below meth c H locs 0 0 Q (F0 m 50 ls []) := by
            intro n50
            induction n50 with
            | zero => intro T50 u8_50 H locs ls hq50; exact hf_0 hq50
            | succ n50 ih50 =>
              intro T50 u8_50 H locs ls hq50 hP hD hS hl
              rw [fX7_clears_L50] at hq50
              refine lv_iload (pc := 50) hx hb dX7_clears_50 (lv_at hl 6 rfl) ?_
              refine lv_aload_n (pc := 52) hx hb dX7_clears_52 rfl (lv_at hl 0 rfl) ?_
              refine vMgRX7_229_0 (pc := 53) hx hb hts mU_544 inU7 hown hK hP (x := (gI T50 15)) rfl dX7_clears_53 ?_
              refine lv_icmp_gt (pc := 56) hx hb (tgt := 114) dX7_clears_56 (by decide) (fun c_56 => ?_) (fun c_56 => ?_)
              · have hq50 := hf_t c_56 hq50
                obtain rfl := Option.some.inj hq50
                exact hk50 H locs ls hP hD hS (lv_sub hl [0, 1, 2, 3, 4] rfl)
              · have hq50 := hf_f c_56 hq50
                refine lv_aload_n (pc := 59) hx hb dX7_clears_59 rfl (lv_at hl 0 rfl) ?_
                refine vMgRX7_48_0 (pc := 60) hx hb hts mU_93 inU7 hown hK hP dX7_clears_60 ?_
                refine lv_bipush (pc := 63) hx hb (v := 8) dX7_clears_63 (by decide) ?_
                refine lv_iload (pc := 65) hx hb dX7_clears_65 (lv_at hl 4 rfl) ?_
                refine lv_imul (pc := 67) hx hb dX7_clears_67 ?_
                refine lv_iload (pc := 68) hx hb dX7_clears_68 (lv_at hl 6 rfl) ?_
                refine lv_iadd (pc := 70) hx hb dX7_clears_70 ?_
                refine lv_lload_n (pc := 71) hx hb dX7_clears_71 rfl (lv_at hl 3 rfl) ?_
                refine lv_aload_n (pc := 72) hx hb dX7_clears_72 rfl (lv_at hl 0 rfl) ?_
                refine vMgRX7_48_0 (pc := 73) hx hb hts mU_93 inU7 hown hK hP dX7_clears_73 ?_
                refine lv_bipush (pc := 76) hx hb (v := 8) dX7_clears_76 (by decide) ?_
                refine lv_iload (pc := 78) hx hb dX7_clears_78 (lv_at hl 4 rfl) ?_
                refine lv_imul (pc := 80) hx hb dX7_clears_80 ?_
                refine lv_iload (pc := 81) hx hb dX7_clears_81 (lv_at hl 6 rfl) ?_
                refine lv_iadd (pc := 83) hx hb dX7_clears_83 ?_
                obtain ⟨hg84, hq50⟩ := hf_g hq50
                refine vMra_10 (pc := 84) hx hb hK hP (f := (gB T50 0)) rfl hg84 dX7_clears_84 ?_
                refine lv_lmul (pc := 85) hx hb dX7_clears_85 ?_
                refine lv_lload (pc := 86) hx hb dX7_clears_86 (lv_at hl 5 rfl) ?_
                refine lv_aload_n (pc := 88) hx hb dX7_clears_88 rfl (lv_at hl 0 rfl) ?_
                refine vMgRX7_48_0 (pc := 89) hx hb hts mU_93 inU7 hown hK hP dX7_clears_89 ?_
                refine lv_bipush (pc := 92) hx hb (v := 8) dX7_clears_92 (by decide) ?_
                refine lv_iload_n (pc := 94) hx hb dX7_clears_94 rfl (lv_at hl 1 rfl) ?_
                refine lv_imul (pc := 95) hx hb dX7_clears_95 ?_
                refine lv_iload (pc := 96) hx hb dX7_clears_96 (lv_at hl 6 rfl) ?_
                refine lv_iadd (pc := 98) hx hb dX7_clears_98 ?_
                obtain ⟨hg99, hq50⟩ := hf_g hq50
                refine vMra_10 (pc := 99) hx hb hK hP (f := (gB T50 0)) rfl hg99 dX7_clears_99 ?_
                refine lv_lmul (pc := 100) hx hb dX7_clears_100 ?_
                refine lv_lsub (pc := 101) hx hb dX7_clears_101 ?_
                refine lv_aload_n (pc := 102) hx hb dX7_clears_102 rfl (lv_at hl 0 rfl) ?_
                refine vMgRX7_235_0 (pc := 103) hx hb hts mU_566 inU7 hown hK hP (x := (gL T50 0)) rfl dX7_clears_103 ?_
                obtain ⟨hg106, hq50⟩ := hf_g hq50
                refine lv_ldiv (pc := 106) hx hb dX7_clears_106 hg106 ?_
                obtain ⟨hg107, hq50⟩ := hf_g hq50
                refine vMwa_10 (pc := 107) hx hb hK hP hD hS (f := (gB T50 0)) rfl hg107 dX7_clears_107 (fun H locs hP hD hS => ?_)
                refine lv_iinc (pc := 108) hx hb (v := u8_50 + 1) (lv' := [(8, .int (u8_50 + 1)), (0, .ref (A 0)), (1, .int a1), (2, .int a2), (3, .long ((gB S 0) ((8 * a1) + a2).toNatClampNeg)), (5, .int u5_15), (6, .long ((gB T15 0) ((8 * u5_15) + a2).toNatClampNeg))]) dX7_clears_108 hl (k := 6) rfl rfl (by decide) rfl (fun ls hl => ?_)
                refine lv_goto (pc := 111) hx hb (tgt := 50) dX7_clears_111 (by decide) ?_
                exact ih50 (sB T50 0 (vp_updL (gB T50 0) ((8 * u5_15) + u8_50).toNatClampNeg (((((gB S 0) ((8 * a1) + a2).toNatClampNeg) * ((gB T50 0) ((8 * u5_15) + u8_50).toNatClampNeg)) - (((gB T15 0) ((8 * u5_15) + a2).toNatClampNeg) * ((gB T50 0) ((8 * a1) + u8_50).toNatClampNeg))) / (gL T50 0)))) (u8_50 + 1) H locs ls hq50 hP hD hS (lv_sub hl [1, 2, 3, 4, 5, 6, 0] rfl)
          exact lp50 256 T15 0 H locs ls hq50 hP hD hS (lv_sub hl [2, 3, 4, 5, 6, 1, 0] rfl)
        · have hq15 := hf_t c_27 hq15
          refine lv_goto (pc := 30) hx hb (tgt := 114) dX7_clears_30 (by decide) ?_
          refine lv_iinc (pc := 114) hx hb (v := u5_15 + 1) (lv' := [(5, .int (u5_15 + 1)), (0, .ref (A 0)), (1, .int a1), (2, .int a2), (3, .long ((gB S 0) ((8 * a1) + a2).toNatClampNeg))]) dX7_clears_114 hl (k := 4) rfl rfl (by decide) rfl (fun ls hl => ?_)
          refine lv_goto (pc := 117) hx hb (tgt := 15) dX7_clears_117 (by decide) ?_
          exact ih15 T15 (u5_15 + 1) H locs ls hq15 hP hD hS (lv_sub hl [1, 2, 3, 4, 0] rfl)
  exact lp15 256 S 0 H locs ls hq15 hP hD hS (lv_sub hl [2, 3, 4, 1, 0] rfl)
set_option maxHeartbeats 4000000 in
set_option maxRecDepth 100000 in
theorem kX7_swaps (l : Launch) (D : va_G) (A : Nat → Nat) (B : Nat → ClassId) (sz : Nat) (S : w_S) (a1 : Int32) (a2 : Int32) (z : w_S) (hf : fX7_swaps S a1 a2 = some z) : MetW l yX7_swaps (wsO yX7_swaps cX7_swaps 6 none) rm_X7_swaps [.ref (A 0), .int a1, .int a2] D (tyB B) (wM A B S) (wM A B z) sz (none) := by
  refine MetW.mkV (cc := cX7_swaps) (maxL := 6) (by decide) (Nat.le_of_ble_eq_true rfl) ?_
  intro p e s m args below meth c Ad Q hx hb hts hown hml hN hK hA hR H locs ls hP hD hS hl
  have hl : lv_has ls 6 [(0, .ref (A 0)), (1, .int a1), (2, .int a2)] := hl
  rw [fX7_swaps] at hf
  refine lv_aload_n (pc := 0) hx hb dX7_swaps_0 rfl (lv_at hl 0 rfl) ?_
  refine lv_dup (pc := 1) hx hb dX7_swaps_1 rfl ?_
  refine vMgRX7_226_0 (pc := 2) hx hb hts mU_565 inU7 hown hK hP (x := (gI S 17)) rfl dX7_swaps_2 ?_
  refine lv_iload_n (pc := 5) hx hb dX7_swaps_5 rfl (lv_at hl 1 rfl) ?_
  refine lv_iload_n (pc := 6) hx hb dX7_swaps_6 rfl (lv_at hl 2 rfl) ?_
  obtain ⟨q15, hv15, hf⟩ := hf_b hf
  have hj15 : ∀ (H : Heap) (locs : List Loc) (ls : Array Slot), va_P D vwCl (wM A B S) H → va_D Ad (wM A B S) → va_S Ad s.heap H locs → lv_has ls 6 [(0, .ref (A 0)), (1, .int a1), (2, .int a2)] → W p l e rm_X7_swaps s m args below meth c H locs 0 0 Q (F0 m 15 ls [.int q15, .int (gI S 17), .ref (A 0)]) := by
    intro H locs ls hP hD hS hl
    refine lv_iadd (pc := 15) hx hb dX7_swaps_15 ?_
    refine vMpRX7_226_0 (pc := 16) hx hb hts mU_565 inU7 hown hK hP hD hS dX7_swaps_16 (fun H locs hP hD hS => ?_)
    refine lv_iconst (pc := 19) hx hb (v := 0) dX7_swaps_19 (by decide) ?_
    refine lv_istore_n (pc := 20) hx hb (lv' := [(3, .int 0), (0, .ref (A 0)), (1, .int a1), (2, .int a2)]) dX7_swaps_20 rfl hl (by decide) rfl (fun ls hl => ?_)
    obtain ⟨q21, hq21, hf⟩ := hf_b hf
    have hk21 : ∀ (H : Heap) (locs : List Loc) (ls : Array Slot), va_P D vwCl (wM A B q21) H → va_D Ad (wM A B q21) → va_S Ad s.heap H locs → lv_has ls 6 [] → W p l e rm_X7_swaps s m args below meth c H locs 0 0 Q (F0 m 83 ls []) := by
      intro H locs ls hP hD hS hl
      obtain rfl := Option.some.inj hf
      exact hR H locs 83 ls hP hD hS dX7_swaps_83
    have lp21 : ∀ (n : Nat) (T21 : w_S) (u3_21 : Int32) (H : Heap) (locs : List Loc) (ls : Array Slot), fX7_swaps_L21 a1 a2 n T21 u3_21 = some q21 → va_P D vwCl (wM A B T21) H → va_D Ad (wM A B T21) → va_S Ad s.heap H locs → lv_has ls 6 [(0, .ref (A 0)), (1, .int a1), (2, .int a2), (3, .int u3_21)] → W p l e rm_X7_swaps s m args below meth c H locs 0 0 Q (F0 m 21 ls []) := by
      intro n21
      induction n21 with
      | zero => intro T21 u3_21 H locs ls hq21; exact hf_0 hq21
      | succ n21 ih21 =>
        intro T21 u3_21 H locs ls hq21 hP hD hS hl
        rw [fX7_swaps_L21] at hq21
        refine lv_iload_n (pc := 21) hx hb dX7_swaps_21 rfl (lv_at hl 3 rfl) ?_
        refine lv_aload_n (pc := 22) hx hb dX7_swaps_22 rfl (lv_at hl 0 rfl) ?_
        refine vMgRX7_229_0 (pc := 23) hx hb hts mU_544 inU7 hown hK hP (x := (gI T21 15)) rfl dX7_swaps_23 ?_
        refine lv_icmp_gt (pc := 26) hx hb (tgt := 83) dX7_swaps_26 (by decide) (fun c_26 => ?_) (fun c_26 => ?_)
        · have hq21 := hf_t c_26 hq21
          obtain rfl := Option.some.inj hq21
          exact hk21 H locs ls hP hD hS (lv_sub hl [] rfl)
        · have hq21 := hf_f c_26 hq21
          refine lv_aload_n (pc := 29) hx hb dX7_swaps_29 rfl (lv_at hl 0 rfl) ?_
          refine vMgRX7_48_0 (pc := 30) hx hb hts mU_93 inU7 hown hK hP dX7_swaps_30 ?_
          refine lv_bipush (pc := 33) hx hb (v := 8) dX7_swaps_33 (by decide) ?_
          refine lv_iload_n (pc := 35) hx hb dX7_swaps_35 rfl (lv_at hl 1 rfl) ?_
          refine lv_imul (pc := 36) hx hb dX7_swaps_36 ?_
          refine lv_iload_n (pc := 37) hx hb dX7_swaps_37 rfl (lv_at hl 3 rfl) ?_
          refine lv_iadd (pc := 38) hx hb dX7_swaps_38 ?_
          obtain ⟨hg39, hq21⟩ := hf_g hq21
          refine vMra_10 (pc := 39) hx hb hK hP (f := (gB T21 0)) rfl hg39 dX7_swaps_39 ?_
          refine lv_lstore (pc := 40) hx hb (lv' := [(4, .long ((gB T21 0) ((8 * a1) + u3_21).toNatClampNeg)), (0, .ref (A 0)), (1, .int a1), (2, .int a2), (3, .int u3_21)]) dX7_swaps_40 hl (by decide) rfl (fun ls hl => ?_)
          refine lv_aload_n (pc := 42) hx hb dX7_swaps_42 rfl (lv_at hl 1 rfl) ?_
          refine vMgRX7_48_0 (pc := 43) hx hb hts mU_93 inU7 hown hK hP dX7_swaps_43 ?_
          refine lv_bipush (pc := 46) hx hb (v := 8) dX7_swaps_46 (by decide) ?_
          refine lv_iload_n (pc := 48) hx hb dX7_swaps_48 rfl (lv_at hl 2 rfl) ?_
          refine lv_imul (pc := 49) hx hb dX7_swaps_49 ?_
          refine lv_iload_n (pc := 50) hx hb dX7_swaps_50 rfl (lv_at hl 4 rfl) ?_
          refine lv_iadd (pc := 51) hx hb dX7_swaps_51 ?_
          refine lv_aload_n (pc := 52) hx hb dX7_swaps_52 rfl (lv_at hl 1 rfl) ?_
          refine vMgRX7_48_0 (pc := 53) hx hb hts mU_93 inU7 hown hK hP dX7_swaps_53 ?_
          refine lv_bipush (pc := 56) hx hb (v := 8) dX7_swaps_56 (by decide) ?_
          refine lv_iload_n (pc := 58) hx hb dX7_swaps_58 rfl (lv_at hl 3 rfl) ?_
          refine lv_imul (pc := 59) hx hb dX7_swaps_59 ?_
          refine lv_iload_n (pc := 60) hx hb dX7_swaps_60 rfl (lv_at hl 4 rfl) ?_
          refine lv_iadd (pc := 61) hx hb dX7_swaps_61 ?_
          obtain ⟨hg62, hq21⟩ := hf_g hq21
          refine vMra_10 (pc := 62) hx hb hK hP (f := (gB T21 0)) rfl hg62 dX7_swaps_62 ?_
          obtain ⟨hg63, hq21⟩ := hf_g hq21
          refine vMwa_10 (pc := 63) hx hb hK hP hD hS (f := (gB T21 0)) rfl hg63 dX7_swaps_63 (fun H locs hP hD hS => ?_)
          refine lv_aload_n (pc := 64) hx hb dX7_swaps_64 rfl (lv_at hl 1 rfl) ?_
          refine vMgRX7_48_0 (pc := 65) hx hb hts mU_93 inU7 hown hK hP dX7_swaps_65 ?_
          refine lv_bipush (pc := 68) hx hb (v := 8) dX7_swaps_68 (by decide) ?_
          refine lv_iload_n (pc := 70) hx hb dX7_swaps_70 rfl (lv_at hl 3 rfl) ?_
          refine lv_imul (pc := 71) hx hb dX7_swaps_71 ?_
          refine lv_iload_n (pc := 72) hx hb dX7_swaps_72 rfl (lv_at hl 4 rfl) ?_
          refine lv_iadd (pc := 73) hx hb dX7_swaps_73 ?_
          refine lv_lload (pc := 74) hx hb dX7_swaps_74 (lv_at hl 0 rfl) ?_
          obtain ⟨hg76, hq21⟩ := hf_g hq21
          refine vMwa_10 (pc := 76) hx hb hK hP hD hS (f := vp_updL (gB T21 0) ((8 * a1) + u3_21).toNatClampNeg ((gB T21 0) ((8 * a2) + u3_21).toNatClampNeg)) rfl hg76 dX7_swaps_76 (fun H locs hP hD hS => ?_)
          refine lv_iinc (pc := 77) hx hb (v := u3_21 + 1) (lv' := [(3, .int (u3_21 + 1)), (4, .long ((gB T21 0) ((8 * a1) + u3_21).toNatClampNeg)), (0, .ref (A 0)), (1, .int a1), (2, .int a2)]) dX7_swaps_77 hl (k := 4) rfl rfl (by decide) rfl (fun ls hl => ?_)
          refine lv_goto (pc := 80) hx hb (tgt := 21) dX7_swaps_80 (by decide) ?_
          exact ih21 (sB (sB T21 0 (vp_updL (gB T21 0) ((8 * a1) + u3_21).toNatClampNeg ((gB T21 0) ((8 * a2) + u3_21).toNatClampNeg))) 0 (vp_updL (vp_updL (gB T21 0) ((8 * a1) + u3_21).toNatClampNeg ((gB T21 0) ((8 * a2) + u3_21).toNatClampNeg)) ((8 * a2) + u3_21).toNatClampNeg ((gB T21 0) ((8 * a1) + u3_21).toNatClampNeg))) (u3_21 + 1) H locs ls hq21 hP hD hS (lv_sub hl [2, 3, 4, 0] rfl)
    exact lp21 256 (sI S 17 ((gI S 17) + q15)) 0 H locs ls hq21 hP hD hS (lv_sub hl [1, 2, 3, 0] rfl)
  refine lv_icmp_ne (pc := 7) hx hb (tgt := 14) dX7_swaps_7 (by decide) (fun c_7 => ?_) (fun c_7 => ?_)
  · have hv15 := hf_f c_7 hv15
    refine lv_iconst (pc := 14) hx hb (v := 1) dX7_swaps_14 (by decide) ?_
    obtain rfl := Option.some.inj hv15
    exact hj15 H locs ls hP hD hS (lv_sub hl [0, 1, 2] rfl)
  · have hv15 := hf_t c_7 hv15
    refine lv_iconst (pc := 10) hx hb (v := 0) dX7_swaps_10 (by decide) ?_
    refine lv_goto (pc := 11) hx hb (tgt := 15) dX7_swaps_11 (by decide) ?_
    obtain rfl := Option.some.inj hv15
    exact hj15 H locs ls hP hD hS (lv_sub hl [0, 1, 2] rfl)
set_option maxHeartbeats 4000000 in
set_option maxRecDepth 100000 in
theorem kX7_works (l : Launch) (D : va_G) (A : Nat → Nat) (B : Nat → ClassId) (sz : Nat) (S : w_S) (z : w_S) (hf : fX7_works S = some z) : MetW l yX7_works (wsO yX7_works cX7_works 3 none) rm_X7_works [.ref (A 0)] D (tyB B) (wM A B S) (wM A B z) sz (none) := by
  refine MetW.mkV (cc := cX7_works) (maxL := 3) (by decide) (Nat.le_of_ble_eq_true rfl) ?_
  intro p e s m args below meth c Ad Q hx hb hts hown hml hN hK hA hR H locs ls hP hD hS hl
  have hl : lv_has ls 3 [(0, .ref (A 0))] := hl
  rw [fX7_works] at hf
  refine lv_aload_n (pc := 0) hx hb dX7_works_0 rfl (lv_at hl 0 rfl) ?_
  refine lv_iconst (pc := 1) hx hb (v := 0) dX7_works_1 (by decide) ?_
  refine vMpRX7_239_0 (pc := 2) hx hb hts mU_516 inU7 hown hK hP hD hS dX7_works_2 (fun H locs hP hD hS => ?_)
  refine lv_aload_n (pc := 5) hx hb dX7_works_5 rfl (lv_at hl 0 rfl) ?_
  refine lv_iconst (pc := 6) hx hb (v := 0) dX7_works_6 (by decide) ?_
  refine vMpRX7_226_0 (pc := 7) hx hb hts mU_565 inU7 hown hK hP hD hS dX7_works_7 (fun H locs hP hD hS => ?_)
  refine lv_aload_n (pc := 10) hx hb dX7_works_10 rfl (lv_at hl 0 rfl) ?_
  refine lv_lconst (pc := 11) hx hb (v := 1) dX7_works_11 (by decide) ?_
  refine vMpRX7_235_0 (pc := 12) hx hb hts mU_566 inU7 hown hK hP hD hS dX7_works_12 (fun H locs hP hD hS => ?_)
  refine lv_iconst (pc := 15) hx hb (v := 0) dX7_works_15 (by decide) ?_
  refine lv_istore_n (pc := 16) hx hb (lv' := [(1, .int 0), (0, .ref (A 0))]) dX7_works_16 rfl hl (by decide) rfl (fun ls hl => ?_)
  obtain ⟨q17, hq17, hf⟩ := hf_b hf
  have hk17 : ∀ (H : Heap) (locs : List Loc) (ls : Array Slot), va_P D vwCl (wM A B q17) H → va_D Ad (wM A B q17) → va_S Ad s.heap H locs → lv_has ls 3 [] → W p l e rm_X7_works s m args below meth c H locs 0 0 Q (F0 m 137 ls []) := by
    intro H locs ls hP hD hS hl
    obtain rfl := Option.some.inj hf
    exact hR H locs 137 ls hP hD hS dX7_works_137
  have lp17 : ∀ (n : Nat) (T17 : w_S) (u1_17 : Int32) (H : Heap) (locs : List Loc) (ls : Array Slot), fX7_works_L17  n T17 u1_17 = some q17 → va_P D vwCl (wM A B T17) H → va_D Ad (wM A B T17) → va_S Ad s.heap H locs → lv_has ls 3 [(0, .ref (A 0)), (1, .int u1_17)] → W p l e rm_X7_works s m args below meth c H locs 0 0 Q (F0 m 17 ls []) := by
    intro n17
    induction n17 with
    | zero => intro T17 u1_17 H locs ls hq17; exact hf_0 hq17
    | succ n17 ih17 =>
      intro T17 u1_17 H locs ls hq17 hP hD hS hl
      rw [fX7_works_L17] at hq17
      refine lv_iload_n (pc := 17) hx hb dX7_works_17 rfl (lv_at hl 1 rfl) ?_
      refine lv_aload_n (pc := 18) hx hb dX7_works_18 rfl (lv_at hl 0 rfl) ?_
      refine vMgRX7_229_0 (pc := 19) hx hb hts mU_544 inU7 hown hK hP (x := (gI T17 15)) rfl dX7_works_19 ?_
      refine lv_icmp_ge (pc := 22) hx hb (tgt := 137) dX7_works_22 (by decide) (fun c_22 => ?_) (fun c_22 => ?_)
      · have hq17 := hf_t c_22 hq17
        obtain rfl := Option.some.inj hq17
        exact hk17 H locs ls hP hD hS (lv_sub hl [] rfl)
      · have hq17 := hf_f c_22 hq17
        refine lv_aload_n (pc := 25) hx hb dX7_works_25 rfl (lv_at hl 0 rfl) ?_
        refine vMgRX7_239_0 (pc := 26) hx hb hts mU_516 inU7 hown hK hP (x := (gI T17 16)) rfl dX7_works_26 ?_
        refine lv_istore_n (pc := 29) hx hb (lv' := [(2, .int (gI T17 16)), (0, .ref (A 0)), (1, .int u1_17)]) dX7_works_29 rfl hl (by decide) rfl (fun ls hl => ?_)
        obtain ⟨q30, hq30, hq17⟩ := hf_b hq17
        have hk30 : ∀ (H : Heap) (locs : List Loc) (ls : Array Slot), va_P D vwCl (wM A B T17) H → va_D Ad (wM A B T17) → va_S Ad s.heap H locs → lv_has ls 3 [(0, .ref (A 0)), (1, .int u1_17), (2, .int q30)] → W p l e rm_X7_works s m args below meth c H locs 0 0 Q (F0 m 60 ls []) := by
          intro H locs ls hP hD hS hl
          refine lv_aload_n (pc := 60) hx hb dX7_works_60 rfl (lv_at hl 0 rfl) ?_
          refine vMgRX7_55_0 (pc := 61) hx hb hts mU_95 inU7 hown hK hP dX7_works_61 ?_
          refine lv_iload_n (pc := 64) hx hb dX7_works_64 rfl (lv_at hl 1 rfl) ?_
          refine lv_iload_n (pc := 65) hx hb dX7_works_65 rfl (lv_at hl 2 rfl) ?_
          refine lv_aload_n (pc := 66) hx hb dX7_works_66 rfl (lv_at hl 0 rfl) ?_
          refine vMgRX7_232_0 (pc := 67) hx hb hts mU_545 inU7 hown hK hP (x := (gI T17 14)) rfl dX7_works_67 ?_
          obtain ⟨q81, hv81, hq17⟩ := hf_b hq17
          have hj81 : ∀ (H : Heap) (locs : List Loc) (ls : Array Slot), va_P D vwCl (wM A B T17) H → va_D Ad (wM A B T17) → va_S Ad s.heap H locs → lv_has ls 3 [(0, .ref (A 0)), (1, .int u1_17), (2, .int q30)] → W p l e rm_X7_works s m args below meth c H locs 0 0 Q (F0 m 81 ls [.int q81, .int u1_17, .ref (A 12)]) := by
            intro H locs ls hP hD hS hl
            obtain ⟨hg81, hq17⟩ := hf_g hq17
            refine vMwa_12 (pc := 81) hx hb hK hP hD hS (f := (gA T17 10)) rfl hg81 dX7_works_81 (fun H locs hP hD hS => ?_)
            refine lv_iload_n (pc := 82) hx hb dX7_works_82 rfl (lv_at hl 2 rfl) ?_
            refine lv_aload_n (pc := 83) hx hb dX7_works_83 rfl (lv_at hl 0 rfl) ?_
            refine vMgRX7_232_0 (pc := 84) hx hb hts mU_545 inU7 hown hK hP (x := (gI T17 14)) rfl dX7_works_84 ?_
            refine lv_icmp_ne (pc := 87) hx hb (tgt := 93) dX7_works_87 (by decide) (fun c_87 => ?_) (fun c_87 => ?_)
            · have hq17 := hf_f c_87 hq17
              refine lv_aload_n (pc := 93) hx hb dX7_works_93 rfl (lv_at hl 0 rfl) ?_
              refine lv_iload_n (pc := 94) hx hb dX7_works_94 rfl (lv_at hl 2 rfl) ?_
              refine lv_aload_n (pc := 95) hx hb dX7_works_95 rfl (lv_at hl 0 rfl) ?_
              refine vMgRX7_239_0 (pc := 96) hx hb hts mU_516 inU7 hown hK hP (x := (gI T17 16)) rfl dX7_works_96 ?_
              obtain ⟨r99, hc99, hq17⟩ := hf_b hq17
              refine cl_V (pc := 99) (As := [.int q30, .int (gI T17 16)]) (rest := []) hx hb hml hown hts (kX7_swaps l D A B _ (sA T17 10 (upd (gA T17 10) u1_17.toNatClampNeg q81)) q30 (gI T17 16) r99 hc99) (cwV 2 hts gwRX7_242 rfl rfl rfl hdX7_swaps ⟨Nat.le_of_ble_eq_true rfl, Nat.le_of_ble_eq_true rfl⟩) hN hK hP hD hS hA (va_recv hK hP (ci := 7) (q0 := 0) rfl (eM_0 A B _)) rfl hl.1 rfl (Nat.le_of_ble_eq_true rfl) dX7_works_99 (st1 := []) rfl ⟨Nat.zero_le _, Nat.zero_le _⟩ (fun H locs hP hD hS => ?_)
              refine lv_aload_n (pc := 102) hx hb dX7_works_102 rfl (lv_at hl 0 rfl) ?_
              refine lv_aload_n (pc := 103) hx hb dX7_works_103 rfl (lv_at hl 0 rfl) ?_
              refine vMgRX7_239_0 (pc := 104) hx hb hts mU_516 inU7 hown hK hP (x := (gI r99 16)) rfl dX7_works_104 ?_
              refine lv_iload_n (pc := 107) hx hb dX7_works_107 rfl (lv_at hl 1 rfl) ?_
              obtain ⟨r108, hc108, hq17⟩ := hf_b hq17
              refine cl_V (pc := 108) (As := [.int (gI r99 16), .int u1_17]) (rest := []) hx hb hml hown hts (kX7_clears l D A B _ r99 (gI r99 16) u1_17 r108 hc108) (cwV 2 hts gwRX7_246 rfl rfl rfl hdX7_clears ⟨Nat.le_of_ble_eq_true rfl, Nat.le_of_ble_eq_true rfl⟩) hN hK hP hD hS hA (va_recv hK hP (ci := 7) (q0 := 0) rfl (eM_0 A B _)) rfl hl.1 rfl (Nat.le_of_ble_eq_true rfl) dX7_works_108 (st1 := []) rfl ⟨Nat.zero_le _, Nat.zero_le _⟩ (fun H locs hP hD hS => ?_)
              refine lv_aload_n (pc := 111) hx hb dX7_works_111 rfl (lv_at hl 0 rfl) ?_
              refine vMgRX7_52_0 (pc := 112) hx hb hts mU_94 inU7 hown hK hP dX7_works_112 ?_
              refine lv_aload_n (pc := 115) hx hb dX7_works_115 rfl (lv_at hl 0 rfl) ?_
              refine vMgRX7_239_0 (pc := 116) hx hb hts mU_516 inU7 hown hK hP (x := (gI r108 16)) rfl dX7_works_116 ?_
              refine lv_iload_n (pc := 119) hx hb dX7_works_119 rfl (lv_at hl 1 rfl) ?_
              obtain ⟨hg120, hq17⟩ := hf_g hq17
              refine vMwa_11 (pc := 120) hx hb hK hP hD hS (f := (gA r108 9)) rfl hg120 dX7_works_120 (fun H locs hP hD hS => ?_)
              refine lv_aload_n (pc := 121) hx hb dX7_works_121 rfl (lv_at hl 0 rfl) ?_
              refine lv_dup (pc := 122) hx hb dX7_works_122 rfl ?_
              refine vMgRX7_239_0 (pc := 123) hx hb hts mU_516 inU7 hown hK hP (x := (gI r108 16)) rfl dX7_works_123 ?_
              refine lv_iconst (pc := 126) hx hb (v := 1) dX7_works_126 (by decide) ?_
              refine lv_iadd (pc := 127) hx hb dX7_works_127 ?_
              refine vMpRX7_239_0 (pc := 128) hx hb hts mU_516 inU7 hown hK hP hD hS dX7_works_128 (fun H locs hP hD hS => ?_)
              refine lv_iinc (pc := 131) hx hb (v := u1_17 + 1) (lv' := [(1, .int (u1_17 + 1)), (0, .ref (A 0)), (2, .int q30)]) dX7_works_131 hl (k := 1) rfl rfl (by decide) rfl (fun ls hl => ?_)
              refine lv_goto (pc := 134) hx hb (tgt := 17) dX7_works_134 (by decide) ?_
              exact ih17 (sI (sA r108 9 (upd (gA r108 9) (gI r108 16).toNatClampNeg u1_17)) 16 ((gI r108 16) + 1)) (u1_17 + 1) H locs ls hq17 hP hD hS (lv_sub hl [1, 0] rfl)
            · have hq17 := hf_t c_87 hq17
              refine lv_goto (pc := 90) hx hb (tgt := 131) dX7_works_90 (by decide) ?_
              refine lv_iinc (pc := 131) hx hb (v := u1_17 + 1) (lv' := [(1, .int (u1_17 + 1)), (0, .ref (A 0)), (2, .int q30)]) dX7_works_131 hl (k := 1) rfl rfl (by decide) rfl (fun ls hl => ?_)
              refine lv_goto (pc := 134) hx hb (tgt := 17) dX7_works_134 (by decide) ?_
              exact ih17 (sA T17 10 (upd (gA T17 10) u1_17.toNatClampNeg q81)) (u1_17 + 1) H locs ls hq17 hP hD hS (lv_sub hl [1, 0] rfl)
          refine lv_icmp_ge (pc := 70) hx hb (tgt := 80) dX7_works_70 (by decide) (fun c_70 => ?_) (fun c_70 => ?_)
          · have hv81 := hf_t c_70 hv81
            refine lv_iconst (pc := 80) hx hb (v := (-1)) dX7_works_80 (by decide) ?_
            obtain rfl := Option.some.inj hv81
            exact hj81 H locs ls hP hD hS (lv_sub hl [0, 1, 2] rfl)
          · have hv81 := hf_f c_70 hv81
            refine lv_aload_n (pc := 73) hx hb dX7_works_73 rfl (lv_at hl 0 rfl) ?_
            refine vMgRX7_239_0 (pc := 74) hx hb hts mU_516 inU7 hown hK hP (x := (gI T17 16)) rfl dX7_works_74 ?_
            refine lv_goto (pc := 77) hx hb (tgt := 81) dX7_works_77 (by decide) ?_
            obtain rfl := Option.some.inj hv81
            exact hj81 H locs ls hP hD hS (lv_sub hl [0, 1, 2] rfl)
        have lp30 : ∀ (n : Nat) (u2_30 : Int32) (H : Heap) (locs : List Loc) (ls : Array Slot), fX7_works_L30 T17 u1_17 n u2_30 = some q30 → va_P D vwCl (wM A B T17) H → va_D Ad (wM A B T17) → va_S Ad s.heap H locs → lv_has ls 3 [(0, .ref (A 0)), (1, .int u1_17), (2, .int u2_30)] → W p l e rm_X7_works s m args below meth c H locs 0 0 Q (F0 m 30 ls []) := by
          intro n30
          induction n30 with
          | zero => intro u2_30 H locs ls hq30; exact hf_0 hq30
          | succ n30 ih30 =>
            intro u2_30 H locs ls hq30 hP hD hS hl
            rw [fX7_works_L30] at hq30
            refine lv_iload_n (pc := 30) hx hb dX7_works_30 rfl (lv_at hl 2 rfl) ?_
            refine lv_aload_n (pc := 31) hx hb dX7_works_31 rfl (lv_at hl 0 rfl) ?_
            refine vMgRX7_232_0 (pc := 32) hx hb hts mU_545 inU7 hown hK hP (x := (gI T17 14)) rfl dX7_works_32 ?_
            refine lv_icmp_ge (pc := 35) hx hb (tgt := 60) dX7_works_35 (by decide) (fun c_35 => ?_) (fun c_35 => ?_)
            · have hq30 := hf_t c_35 hq30
              obtain rfl := Option.some.inj hq30
              exact hk30 H locs ls hP hD hS (lv_sub hl [0, 1, 2] rfl)
            · have hq30 := hf_f c_35 hq30
              refine lv_aload_n (pc := 38) hx hb dX7_works_38 rfl (lv_at hl 0 rfl) ?_
              refine vMgRX7_48_0 (pc := 39) hx hb hts mU_93 inU7 hown hK hP dX7_works_39 ?_
              refine lv_bipush (pc := 42) hx hb (v := 8) dX7_works_42 (by decide) ?_
              refine lv_iload_n (pc := 44) hx hb dX7_works_44 rfl (lv_at hl 2 rfl) ?_
              refine lv_imul (pc := 45) hx hb dX7_works_45 ?_
              refine lv_iload_n (pc := 46) hx hb dX7_works_46 rfl (lv_at hl 1 rfl) ?_
              refine lv_iadd (pc := 47) hx hb dX7_works_47 ?_
              obtain ⟨hg48, hq30⟩ := hf_g hq30
              refine vMra_10 (pc := 48) hx hb hK hP (f := (gB T17 0)) rfl hg48 dX7_works_48 ?_
              refine lv_lconst (pc := 49) hx hb (v := 0) dX7_works_49 (by decide) ?_
              refine W.lcmp (pc := 50) hx hb dX7_works_50 ?_
              refine lv_if_ne (pc := 51) hx hb (tgt := 60) dX7_works_51 (by decide) (fun c_51 => ?_) (fun c_51 => ?_)
              · have c_51 := fun h9 => c_51 (lg_eq0.mpr h9)
                have hq30 := hf_f c_51 hq30
                obtain rfl := Option.some.inj hq30
                exact hk30 H locs ls hP hD hS (lv_sub hl [0, 1, 2] rfl)
              · have c_51 := lg_eq0.mp c_51
                have hq30 := hf_t c_51 hq30
                refine lv_iinc (pc := 54) hx hb (v := u2_30 + 1) (lv' := [(2, .int (u2_30 + 1)), (0, .ref (A 0)), (1, .int u1_17)]) dX7_works_54 hl (k := 2) rfl rfl (by decide) rfl (fun ls hl => ?_)
                refine lv_goto (pc := 57) hx hb (tgt := 30) dX7_works_57 (by decide) ?_
                exact ih30 (u2_30 + 1) H locs ls hq30 hP hD hS (lv_sub hl [1, 2, 0] rfl)
        exact lp30 256 (gI T17 16) H locs ls hq30 hP hD hS (lv_sub hl [1, 2, 0] rfl)
  exact lp17 256 (sL (sI (sI S 16 0) 17 0) 0 1) 0 H locs ls hq17 hP hD hS (lv_sub hl [1, 0] rfl)
