set_option maxHeartbeats 4000000 in
set_option maxRecDepth 100000 in
theorem kX6_kindAbove (l : Launch) (D : va_G) (A : Nat → Nat) (B : Nat → ClassId) (sz : Nat) (S : w_S) (a0 : Int32) (z : Int32) (hf : fX6_kindAbove a0 = some z) : MetW l yX6_kindAbove (wsO yX6_kindAbove cX6_kindAbove 1 (some .int)) rm_X6_kindAbove [.int a0] D (tyB B) (wX A B S) (wX A B S) sz (some (.int z)) := by
  refine MetW.mkI (cc := cX6_kindAbove) (maxL := 1) (by decide) (Nat.le_of_ble_eq_true rfl) ?_
  intro p e s m args below meth c Ad Q hx hb hts hown hml hN hK hA hR H locs ls hP hD hS hl
  have hl : lv_has ls 1 [(0, .int a0)] := hl
  rw [fX6_kindAbove] at hf
  refine lv_iload_n (pc := 0) hx hb dX6_kindAbove_0 rfl (lv_at hl 0 rfl) ?_
  by_cases e1_0 : a0 = (0 : Int32)
  · have hf := hf_t e1_0 hf
    refine lv_tableIn (pc := 1) hx hb (off := 43) (tgt := 44) dX6_kindAbove_1 (by rw [e1_0]; decide) (by rw [e1_0]; decide) (by rw [e1_0]; rfl) (by decide) ?_
    refine lv_iconst (pc := 44) hx hb (v := (-1)) dX6_kindAbove_44 (by decide) ?_
    obtain rfl := Option.some.inj hf
    exact hR H locs 45 ls hP hD hS dX6_kindAbove_45
  · have hf := hf_f e1_0 hf
    by_cases e1_1 : a0 = (1 : Int32)
    · have hf := hf_t e1_1 hf
      refine lv_tableIn (pc := 1) hx hb (off := 51) (tgt := 52) dX6_kindAbove_1 (by rw [e1_1]; decide) (by rw [e1_1]; decide) (by rw [e1_1]; rfl) (by decide) ?_
      refine lv_iconst (pc := 52) hx hb (v := 0) dX6_kindAbove_52 (by decide) ?_
      obtain rfl := Option.some.inj hf
      exact hR H locs 53 ls hP hD hS dX6_kindAbove_53
    · have hf := hf_f e1_1 hf
      by_cases e1_2 : a0 = (2 : Int32)
      · have hf := hf_t e1_2 hf
        refine lv_tableIn (pc := 1) hx hb (off := 51) (tgt := 52) dX6_kindAbove_1 (by rw [e1_2]; decide) (by rw [e1_2]; decide) (by rw [e1_2]; rfl) (by decide) ?_
        refine lv_iconst (pc := 52) hx hb (v := 0) dX6_kindAbove_52 (by decide) ?_
        obtain rfl := Option.some.inj hf
        exact hR H locs 53 ls hP hD hS dX6_kindAbove_53
      · have hf := hf_f e1_2 hf
        by_cases e1_3 : a0 = (3 : Int32)
        · have hf := hf_t e1_3 hf
          refine lv_tableIn (pc := 1) hx hb (off := 51) (tgt := 52) dX6_kindAbove_1 (by rw [e1_3]; decide) (by rw [e1_3]; decide) (by rw [e1_3]; rfl) (by decide) ?_
          refine lv_iconst (pc := 52) hx hb (v := 0) dX6_kindAbove_52 (by decide) ?_
          obtain rfl := Option.some.inj hf
          exact hR H locs 53 ls hP hD hS dX6_kindAbove_53
        · have hf := hf_f e1_3 hf
          by_cases e1_4 : a0 = (4 : Int32)
          · have hf := hf_t e1_4 hf
            refine lv_tableIn (pc := 1) hx hb (off := 45) (tgt := 46) dX6_kindAbove_1 (by rw [e1_4]; decide) (by rw [e1_4]; decide) (by rw [e1_4]; rfl) (by decide) ?_
            refine lv_iconst (pc := 46) hx hb (v := 2) dX6_kindAbove_46 (by decide) ?_
            obtain rfl := Option.some.inj hf
            exact hR H locs 47 ls hP hD hS dX6_kindAbove_47
          · have hf := hf_f e1_4 hf
            by_cases e1_5 : a0 = (5 : Int32)
            · have hf := hf_t e1_5 hf
              refine lv_tableIn (pc := 1) hx hb (off := 47) (tgt := 48) dX6_kindAbove_1 (by rw [e1_5]; decide) (by rw [e1_5]; decide) (by rw [e1_5]; rfl) (by decide) ?_
              refine lv_iconst (pc := 48) hx hb (v := 3) dX6_kindAbove_48 (by decide) ?_
              obtain rfl := Option.some.inj hf
              exact hR H locs 49 ls hP hD hS dX6_kindAbove_49
            · have hf := hf_f e1_5 hf
              by_cases e1_6 : a0 = (6 : Int32)
              · have hf := hf_t e1_6 hf
                refine lv_tableIn (pc := 1) hx hb (off := 49) (tgt := 50) dX6_kindAbove_1 (by rw [e1_6]; decide) (by rw [e1_6]; decide) (by rw [e1_6]; rfl) (by decide) ?_
                refine lv_iconst (pc := 50) hx hb (v := 5) dX6_kindAbove_50 (by decide) ?_
                obtain rfl := Option.some.inj hf
                exact hR H locs 51 ls hP hD hS dX6_kindAbove_51
              · have hf := hf_f e1_6 hf
                have n1_0 := lv_neT (a := 0) e1_0 rfl
                have n1_1 := lv_neT (a := 1) e1_1 rfl
                have n1_2 := lv_neT (a := 2) e1_2 rfl
                have n1_3 := lv_neT (a := 3) e1_3 rfl
                have n1_4 := lv_neT (a := 4) e1_4 rfl
                have n1_5 := lv_neT (a := 5) e1_5 rfl
                have n1_6 := lv_neT (a := 6) e1_6 rfl
                refine lv_tableOut (pc := 1) hx hb (tgt := 52) dX6_kindAbove_1 (by omega) (by decide) ?_
                refine lv_iconst (pc := 52) hx hb (v := 0) dX6_kindAbove_52 (by decide) ?_
                obtain rfl := Option.some.inj hf
                exact hR H locs 53 ls hP hD hS dX6_kindAbove_53
set_option maxHeartbeats 4000000 in
set_option maxRecDepth 100000 in
theorem kX6_isUnder (l : Launch) (D : va_G) (A : Nat → Nat) (B : Nat → ClassId) (sz : Nat) (S : w_S) (a0 : Int32) (a1 : Int32) (z : Int32) (hf : fX6_isUnder a0 a1 = some z) : MetW l yX6_isUnder (wsO yX6_isUnder cX6_isUnder 4 (some .boolean)) rm_X6_isUnder [.int a0, .int a1] D (tyB B) (wX A B S) (wX A B S) sz (some (.int z)) := by
  refine MetW.mkZ (cc := cX6_isUnder) (maxL := 4) (by decide) (Nat.le_of_ble_eq_true rfl) ?_
  intro p e s m args below meth c Ad Q hx hb hts hown hml hN hK hA hR H locs ls hP hD hS hl
  have hl : lv_has ls 4 [(0, .int a0), (1, .int a1)] := hl
  rw [fX6_isUnder] at hf
  refine lv_iload_n (pc := 0) hx hb dX6_isUnder_0 rfl (lv_at hl 0 rfl) ?_
  refine lv_istore_n (pc := 1) hx hb (lv' := [(2, .int a0), (0, .int a0), (1, .int a1)]) dX6_isUnder_1 rfl hl (by decide) rfl (fun ls hl => ?_)
  refine lv_iconst (pc := 2) hx hb (v := 0) dX6_isUnder_2 (by decide) ?_
  refine lv_istore_n (pc := 3) hx hb (lv' := [(3, .int 0), (2, .int a0), (0, .int a0), (1, .int a1)]) dX6_isUnder_3 rfl hl (by decide) rfl (fun ls hl => ?_)
  obtain ⟨q4, hq4, hf⟩ := hf_b hf
  have hk4 : ∀ (H : Heap) (locs : List Loc) (ls : Array Slot), va_P D vwCl (wX A B S) H → va_D Ad (wX A B S) → va_S Ad s.heap H locs → lv_has ls 4 [(1, .int a1), (2, .int q4)] → W p l e rm_X6_isUnder s m args below meth c H locs 0 0 Q (F0 m 30 ls []) := by
    intro H locs ls hP hD hS hl
    refine lv_iload_n (pc := 30) hx hb dX6_isUnder_30 rfl (lv_at hl 1 rfl) ?_
    refine lv_iload_n (pc := 31) hx hb dX6_isUnder_31 rfl (lv_at hl 0 rfl) ?_
    refine lv_icmp_ne (pc := 32) hx hb (tgt := 39) dX6_isUnder_32 (by decide) (fun c_32 => ?_) (fun c_32 => ?_)
    · have hf := hf_f c_32 hf
      refine lv_iconst (pc := 39) hx hb (v := 0) dX6_isUnder_39 (by decide) ?_
      obtain rfl := Option.some.inj hf
      exact hR H locs 40 ls hP hD hS (nz_of (.inl rfl)) dX6_isUnder_40
    · have hf := hf_t c_32 hf
      refine lv_iconst (pc := 35) hx hb (v := 1) dX6_isUnder_35 (by decide) ?_
      refine lv_goto (pc := 36) hx hb (tgt := 40) dX6_isUnder_36 (by decide) ?_
      obtain rfl := Option.some.inj hf
      exact hR H locs 40 ls hP hD hS (nz_of (.inr rfl)) dX6_isUnder_40
  have lp4 : ∀ (n : Nat) (u2_4 : Int32) (u3_4 : Int32) (H : Heap) (locs : List Loc) (ls : Array Slot), fX6_isUnder_L4 a1 n u2_4 u3_4 = some q4 → va_P D vwCl (wX A B S) H → va_D Ad (wX A B S) → va_S Ad s.heap H locs → lv_has ls 4 [(1, .int a1), (2, .int u2_4), (3, .int u3_4)] → W p l e rm_X6_isUnder s m args below meth c H locs 0 0 Q (F0 m 4 ls []) := by
    intro n4
    induction n4 with
    | zero => intro u2_4 u3_4 H locs ls hq4; exact hf_0 hq4
    | succ n4 ih4 =>
      intro u2_4 u3_4 H locs ls hq4 hP hD hS hl
      rw [fX6_isUnder_L4] at hq4
      refine lv_iload_n (pc := 4) hx hb dX6_isUnder_4 rfl (lv_at hl 2 rfl) ?_
      refine lv_bipush (pc := 5) hx hb (v := 7) dX6_isUnder_5 (by decide) ?_
      refine lv_icmp_ge (pc := 7) hx hb (tgt := 30) dX6_isUnder_7 (by decide) (fun c_7 => ?_) (fun c_7 => ?_)
      · have hq4 := hf_t c_7 hq4
        obtain rfl := Option.some.inj hq4
        exact hk4 H locs ls hP hD hS (lv_sub hl [0, 1] rfl)
      · have hq4 := hf_f c_7 hq4
        refine lv_iload_n (pc := 10) hx hb dX6_isUnder_10 rfl (lv_at hl 1 rfl) ?_
        refine lv_if_lt (pc := 11) hx hb (tgt := 30) dX6_isUnder_11 (by decide) (fun c_11 => ?_) (fun c_11 => ?_)
        · have hq4 := hf_t c_11 hq4
          obtain rfl := Option.some.inj hq4
          exact hk4 H locs ls hP hD hS (lv_sub hl [0, 1] rfl)
        · have hq4 := hf_f c_11 hq4
          refine lv_iload_n (pc := 14) hx hb dX6_isUnder_14 rfl (lv_at hl 1 rfl) ?_
          refine lv_iload_n (pc := 15) hx hb dX6_isUnder_15 rfl (lv_at hl 0 rfl) ?_
          refine lv_icmp_eq (pc := 16) hx hb (tgt := 30) dX6_isUnder_16 (by decide) (fun c_16 => ?_) (fun c_16 => ?_)
          · have hq4 := hf_t c_16 hq4
            obtain rfl := Option.some.inj hq4
            exact hk4 H locs ls hP hD hS (lv_sub hl [0, 1] rfl)
          · have hq4 := hf_f c_16 hq4
            refine lv_iload_n (pc := 19) hx hb dX6_isUnder_19 rfl (lv_at hl 1 rfl) ?_
            obtain ⟨r20, hc20, hq4⟩ := hf_b hq4
            refine cl_S (pc := 20) (As := [.int u2_4]) (rest := []) hx hb hml hown hts (kX6_kindAbove l D A B _ S u2_4 r20 hc20) (va_cwS 1 hts gwRX6_323 rfl rfl rfl hdX6_kindAbove ⟨Nat.le_of_ble_eq_true rfl, Nat.le_of_ble_eq_true rfl⟩) hN hK hP hD hS hA rfl hl.1 rfl (Nat.le_of_ble_eq_true rfl) dX6_isUnder_20 (st1 := [.int r20]) rfl ⟨Nat.zero_le _, Nat.zero_le _⟩ (fun H locs hP hD hS => ?_)
            refine lv_istore_n (pc := 23) hx hb (lv' := [(2, .int r20), (1, .int a1), (3, .int u3_4)]) dX6_isUnder_23 rfl hl (by decide) rfl (fun ls hl => ?_)
            refine lv_iinc (pc := 24) hx hb (v := u3_4 + 1) (lv' := [(3, .int (u3_4 + 1)), (2, .int r20), (1, .int a1)]) dX6_isUnder_24 hl (k := 2) rfl rfl (by decide) rfl (fun ls hl => ?_)
            refine lv_goto (pc := 27) hx hb (tgt := 4) dX6_isUnder_27 (by decide) ?_
            exact ih4 r20 (u3_4 + 1) H locs ls hq4 hP hD hS (lv_sub hl [2, 1, 0] rfl)
  exact lp4 256 a0 0 H locs ls hq4 hP hD hS (lv_sub hl [3, 1, 0] rfl)
set_option maxHeartbeats 4000000 in
set_option maxRecDepth 100000 in
theorem kX6_taken (l : Launch) (D : va_G) (A : Nat → Nat) (B : Nat → ClassId) (sz : Nat) (S : w_S) (a1 : Int32) (a2 : Int32) (z : Int32) (hf : fX6_taken S a1 a2 = some z) : MetW l yX6_taken (wsO yX6_taken cX6_taken 7 (some .int)) rm_X6_taken [.ref (A 0), .int a1, .int a2] D (tyB B) (wX A B S) (wX A B S) sz (some (.int z)) := by
  refine MetW.mkI (cc := cX6_taken) (maxL := 7) (by decide) (Nat.le_of_ble_eq_true rfl) ?_
  intro p e s m args below meth c Ad Q hx hb hts hown hml hN hK hA hR H locs ls hP hD hS hl
  have hl : lv_has ls 7 [(0, .ref (A 0)), (1, .int a1), (2, .int a2)] := hl
  rw [fX6_taken] at hf
  refine lv_iload_n (pc := 0) hx hb dX6_taken_0 rfl (lv_at hl 2 rfl) ?_
  refine lv_bipush (pc := 1) hx hb (v := 10) dX6_taken_1 (by decide) ?_
  obtain ⟨q21, hv21, hf⟩ := hf_b hf
  have hj21 : ∀ (H : Heap) (locs : List Loc) (ls : Array Slot), va_P D vwCl (wX A B S) H → va_D Ad (wX A B S) → va_S Ad s.heap H locs → lv_has ls 7 [(0, .ref (A 0)), (1, .int a1), (2, .int a2)] → W p l e rm_X6_taken s m args below meth c H locs 0 0 Q (F0 m 21 ls [.int q21]) := by
    intro H locs ls hP hD hS hl
    refine lv_istore_n (pc := 21) hx hb (lv' := [(3, .int q21), (0, .ref (A 0)), (1, .int a1), (2, .int a2)]) dX6_taken_21 rfl hl (by decide) rfl (fun ls hl => ?_)
    refine lv_iload_n (pc := 22) hx hb dX6_taken_22 rfl (lv_at hl 2 rfl) ?_
    obtain ⟨r23, hc23, hf⟩ := hf_b hf
    refine cl_S (pc := 23) (As := [.int a1]) (rest := []) hx hb hml hown hts (kX6_isShelf l D A B _ S a1 r23 hc23) (va_cwS 1 hts gwRX6_275 rfl rfl rfl hdX6_isShelf ⟨Nat.le_of_ble_eq_true rfl, Nat.le_of_ble_eq_true rfl⟩) hN hK hP hD hS hA rfl hl.1 rfl (Nat.le_of_ble_eq_true rfl) dX6_taken_23 (st1 := [.int r23]) rfl ⟨Nat.zero_le _, Nat.zero_le _⟩ (fun H locs hP hD hS => ?_)
    refine lv_if_eq (pc := 26) hx hb (tgt := 40) dX6_taken_26 (by decide) (fun c_26 => ?_) (fun c_26 => ?_)
    · have hf := hf_t c_26 hf
      refine lv_iconst (pc := 40) hx hb (v := (-1)) dX6_taken_40 (by decide) ?_
      obtain rfl := Option.some.inj hf
      exact hR H locs 41 ls hP hD hS dX6_taken_41
    · have hf := hf_f c_26 hf
      refine lv_iload_n (pc := 29) hx hb dX6_taken_29 rfl (lv_at hl 3 rfl) ?_
      obtain ⟨r30, hc30, hf⟩ := hf_b hf
      refine cl_S (pc := 30) (As := [.int a2]) (rest := []) hx hb hml hown hts (kX6_isKind l D A B _ S a2 r30 hc30) (va_cwS 1 hts gwRX6_113 rfl rfl rfl hdX6_isKind ⟨Nat.le_of_ble_eq_true rfl, Nat.le_of_ble_eq_true rfl⟩) hN hK hP hD hS hA rfl hl.1 rfl (Nat.le_of_ble_eq_true rfl) dX6_taken_30 (st1 := [.int r30]) rfl ⟨Nat.zero_le _, Nat.zero_le _⟩ (fun H locs hP hD hS => ?_)
      refine lv_if_ne (pc := 33) hx hb (tgt := 42) dX6_taken_33 (by decide) (fun c_33 => ?_) (fun c_33 => ?_)
      · have hf := hf_f c_33 hf
        refine lv_aload_n (pc := 42) hx hb dX6_taken_42 rfl (lv_at hl 1 rfl) ?_
        refine vXgRX6_54_0 (pc := 43) hx hb hts mU_35 inU6 hown hK hP dX6_taken_43 ?_
        refine lv_iload_n (pc := 46) hx hb dX6_taken_46 rfl (lv_at hl 2 rfl) ?_
        by_cases e47_0 : a1 = (0 : Int32)
        · have hf := hf_t e47_0 hf
          refine vXrq_38_0 (pc := 47) hx hb hK hP e47_0 dX6_taken_47 ?_
          refine lv_astore (pc := 48) hx hb (lv' := [(4, .ref (A 39)), (3, .int q21), (0, .ref (A 0)), (1, .int a1), (2, .int a2)]) dX6_taken_48 hl (by decide) rfl (fun ls hl => ?_)
          refine lv_aload_n (pc := 50) hx hb dX6_taken_50 rfl (lv_at hl 2 rfl) ?_
          refine lv_aload (pc := 51) hx hb dX6_taken_51 (lv_at hl 0 rfl) ?_
          obtain ⟨r53, hc53, hf⟩ := hf_b hf
          refine cl_V (pc := 53) (As := [.ref (A 39)]) (rest := []) hx hb hml hown hts (kX6_heldNow_39 l D A B _ S r53 hc53) (cwV 1 hts gwRX6_281 rfl rfl rfl hdX6_heldNow ⟨Nat.le_of_ble_eq_true rfl, Nat.le_of_ble_eq_true rfl⟩) hN hK hP hD hS hA (va_recv hK hP (ci := 6) (q0 := 0) rfl (eX_0 A B _)) rfl hl.1 rfl (Nat.le_of_ble_eq_true rfl) dX6_taken_53 (st1 := [.int r53]) rfl ⟨Nat.zero_le _, Nat.zero_le _⟩ (fun H locs hP hD hS => ?_)
          refine lv_istore (pc := 56) hx hb (lv' := [(5, .int r53), (4, .ref (A 39)), (3, .int q21), (0, .ref (A 0)), (1, .int a1), (2, .int a2)]) dX6_taken_56 hl (by decide) rfl (fun ls hl => ?_)
          refine lv_iload (pc := 58) hx hb dX6_taken_58 (lv_at hl 0 rfl) ?_
          refine lv_iconst (pc := 60) hx hb (v := 2) dX6_taken_60 (by decide) ?_
          refine lv_icmp_ne (pc := 61) hx hb (tgt := 67) dX6_taken_61 (by decide) (fun c_61 => ?_) (fun c_61 => ?_)
          · have hf := hf_f c_61 hf
            refine lv_iload (pc := 67) hx hb dX6_taken_67 (lv_at hl 0 rfl) ?_
            refine lv_iconst (pc := 69) hx hb (v := 1) dX6_taken_69 (by decide) ?_
            refine lv_icmp_ne (pc := 70) hx hb (tgt := 99) dX6_taken_70 (by decide) (fun c_70 => ?_) (fun c_70 => ?_)
            · have hf := hf_f c_70 hf
              refine lv_iload_n (pc := 99) hx hb dX6_taken_99 rfl (lv_at hl 2 rfl) ?_
              refine lv_if_ne (pc := 100) hx hb (tgt := 126) dX6_taken_100 (by decide) (fun c_100 => ?_) (fun c_100 => ?_)
              · have hf := hf_f c_100 hf
                refine lv_iconst (pc := 126) hx hb (v := 0) dX6_taken_126 (by decide) ?_
                refine lv_istore (pc := 127) hx hb (lv' := [(6, .int 0), (5, .int r53), (4, .ref (A 39)), (3, .int q21), (0, .ref (A 0)), (1, .int a1), (2, .int a2)]) dX6_taken_127 hl (by decide) rfl (fun ls hl => ?_)
                refine lv_iload (pc := 129) hx hb dX6_taken_129 (lv_at hl 0 rfl) ?_
                refine lv_if_eq (pc := 131) hx hb (tgt := 142) dX6_taken_131 (by decide) (fun c_131 => ?_) (fun c_131 => ?_)
                · have hf := hf_t c_131 hf
                  refine lv_bipush (pc := 142) hx hb (v := (-13)) dX6_taken_142 (by decide) ?_
                  obtain rfl := Option.some.inj hf
                  exact hR H locs 144 ls hP hD hS dX6_taken_144
                · have hf := hf_f c_131 hf
                  refine lv_aload (pc := 134) hx hb dX6_taken_134 (lv_at hl 2 rfl) ?_
                  refine vXgRX6_286_39 (pc := 136) hx hb hts mU_958 inU3 hown hK hP (x := (gI S 37)) rfl dX6_taken_136 ?_
                  refine lv_goto (pc := 139) hx hb (tgt := 144) dX6_taken_139 (by decide) ?_
                  obtain rfl := Option.some.inj hf
                  exact hR H locs 144 ls hP hD hS dX6_taken_144
              · have hf := hf_t c_100 hf
                refine lv_aload_n (pc := 103) hx hb dX6_taken_103 rfl (lv_at hl 3 rfl) ?_
                refine vXgRX6_10_0 (pc := 104) hx hb hts mU_16 inU6 hown hK hP dX6_taken_104 ?_
                refine lv_aload (pc := 107) hx hb dX6_taken_107 (lv_at hl 1 rfl) ?_
                refine vXgRX6_286_39 (pc := 109) hx hb hts mU_958 inU3 hown hK hP (x := (gI S 37)) rfl dX6_taken_109 ?_
                obtain ⟨r112, hc112, hf⟩ := hf_b hf
                refine cl_V (pc := 112) (As := [.int (gI S 37)]) (rest := []) hx hb hml hown hts (kX4_kindOf_1 l D A B _ S (gI S 37) r112 hc112) (cwV 1 hts gwRX6_128 rfl rfl rfl hdX4_kindOf ⟨Nat.le_of_ble_eq_true rfl, Nat.le_of_ble_eq_true rfl⟩) hN hK hP hD hS hA (va_recv hK hP (ci := 4) (q0 := 1) rfl (eX_1 A B _)) rfl hl.1 rfl (Nat.le_of_ble_eq_true rfl) dX6_taken_112 (st1 := [.int r112]) rfl ⟨Nat.zero_le _, Nat.zero_le _⟩ (fun H locs hP hD hS => ?_)
                refine lv_iload_n (pc := 115) hx hb dX6_taken_115 rfl (lv_at hl 5 rfl) ?_
                obtain ⟨r116, hc116, hf⟩ := hf_b hf
                refine cl_S (pc := 116) (As := [.int r112, .int a2]) (rest := []) hx hb hml hown hts (kX6_isUnder l D A B _ S r112 a2 r116 hc116) (va_cwS 2 hts gwRX6_289 rfl rfl rfl hdX6_isUnder ⟨Nat.le_of_ble_eq_true rfl, Nat.le_of_ble_eq_true rfl⟩) hN hK hP hD hS hA rfl hl.1 rfl (Nat.le_of_ble_eq_true rfl) dX6_taken_116 (st1 := [.int r116]) rfl ⟨Nat.zero_le _, Nat.zero_le _⟩ (fun H locs hP hD hS => ?_)
                refine lv_if_eq (pc := 119) hx hb (tgt := 126) dX6_taken_119 (by decide) (fun c_119 => ?_) (fun c_119 => ?_)
                · have hf := hf_t c_119 hf
                  refine lv_iconst (pc := 126) hx hb (v := 0) dX6_taken_126 (by decide) ?_
                  refine lv_istore (pc := 127) hx hb (lv' := [(6, .int 0), (5, .int r53), (4, .ref (A 39)), (3, .int q21), (0, .ref (A 0)), (1, .int a1), (2, .int a2)]) dX6_taken_127 hl (by decide) rfl (fun ls hl => ?_)
                  refine lv_iload (pc := 129) hx hb dX6_taken_129 (lv_at hl 0 rfl) ?_
                  refine lv_if_eq (pc := 131) hx hb (tgt := 142) dX6_taken_131 (by decide) (fun c_131 => ?_) (fun c_131 => ?_)
                  · have hf := hf_t c_131 hf
                    refine lv_bipush (pc := 142) hx hb (v := (-13)) dX6_taken_142 (by decide) ?_
                    obtain rfl := Option.some.inj hf
                    exact hR H locs 144 ls hP hD hS dX6_taken_144
                  · have hf := hf_f c_131 hf
                    refine lv_aload (pc := 134) hx hb dX6_taken_134 (lv_at hl 2 rfl) ?_
                    refine vXgRX6_286_39 (pc := 136) hx hb hts mU_958 inU3 hown hK hP (x := (gI S 37)) rfl dX6_taken_136 ?_
                    refine lv_goto (pc := 139) hx hb (tgt := 144) dX6_taken_139 (by decide) ?_
                    obtain rfl := Option.some.inj hf
                    exact hR H locs 144 ls hP hD hS dX6_taken_144
                · have hf := hf_f c_119 hf
                  refine lv_iconst (pc := 122) hx hb (v := 1) dX6_taken_122 (by decide) ?_
                  refine lv_goto (pc := 123) hx hb (tgt := 127) dX6_taken_123 (by decide) ?_
                  refine lv_istore (pc := 127) hx hb (lv' := [(6, .int 1), (5, .int r53), (4, .ref (A 39)), (3, .int q21), (0, .ref (A 0)), (1, .int a1), (2, .int a2)]) dX6_taken_127 hl (by decide) rfl (fun ls hl => ?_)
                  refine lv_iload (pc := 129) hx hb dX6_taken_129 (lv_at hl 0 rfl) ?_
                  refine lv_if_eq (pc := 131) hx hb (tgt := 142) dX6_taken_131 (by decide) (fun c_131 => ?_) (fun c_131 => ?_)
                  · have hf := hf_t c_131 hf
                    refine lv_bipush (pc := 142) hx hb (v := (-13)) dX6_taken_142 (by decide) ?_
                    obtain rfl := Option.some.inj hf
                    exact hR H locs 144 ls hP hD hS dX6_taken_144
                  · have hf := hf_f c_131 hf
                    refine lv_aload (pc := 134) hx hb dX6_taken_134 (lv_at hl 2 rfl) ?_
                    refine vXgRX6_286_39 (pc := 136) hx hb hts mU_958 inU3 hown hK hP (x := (gI S 37)) rfl dX6_taken_136 ?_
                    refine lv_goto (pc := 139) hx hb (tgt := 144) dX6_taken_139 (by decide) ?_
                    obtain rfl := Option.some.inj hf
                    exact hR H locs 144 ls hP hD hS dX6_taken_144
            · have hf := hf_t c_70 hf
              refine lv_iload_n (pc := 73) hx hb dX6_taken_73 rfl (lv_at hl 2 rfl) ?_
              obtain ⟨q94, hv94, hf⟩ := hf_b hf
              have hj94 : ∀ (H : Heap) (locs : List Loc) (ls : Array Slot), va_P D vwCl (wX A B S) H → va_D Ad (wX A B S) → va_S Ad s.heap H locs → lv_has ls 7 [(4, .ref (A 39))] → W p l e rm_X6_taken s m args below meth c H locs 0 0 Q (F0 m 94 ls [.int q94]) := by
                intro H locs ls hP hD hS hl
                refine lv_istore (pc := 94) hx hb (lv' := [(6, .int q94), (4, .ref (A 39))]) dX6_taken_94 hl (by decide) rfl (fun ls hl => ?_)
                refine lv_goto (pc := 96) hx hb (tgt := 129) dX6_taken_96 (by decide) ?_
                refine lv_iload (pc := 129) hx hb dX6_taken_129 (lv_at hl 0 rfl) ?_
                refine lv_if_eq (pc := 131) hx hb (tgt := 142) dX6_taken_131 (by decide) (fun c_131 => ?_) (fun c_131 => ?_)
                · have hf := hf_t c_131 hf
                  refine lv_bipush (pc := 142) hx hb (v := (-13)) dX6_taken_142 (by decide) ?_
                  obtain rfl := Option.some.inj hf
                  exact hR H locs 144 ls hP hD hS dX6_taken_144
                · have hf := hf_f c_131 hf
                  refine lv_aload (pc := 134) hx hb dX6_taken_134 (lv_at hl 1 rfl) ?_
                  refine vXgRX6_286_39 (pc := 136) hx hb hts mU_958 inU3 hown hK hP (x := (gI S 37)) rfl dX6_taken_136 ?_
                  refine lv_goto (pc := 139) hx hb (tgt := 144) dX6_taken_139 (by decide) ?_
                  obtain rfl := Option.some.inj hf
                  exact hR H locs 144 ls hP hD hS dX6_taken_144
              refine lv_if_eq (pc := 74) hx hb (tgt := 93) dX6_taken_74 (by decide) (fun c_74 => ?_) (fun c_74 => ?_)
              · have hv94 := hf_t c_74 hv94
                refine lv_iconst (pc := 93) hx hb (v := 0) dX6_taken_93 (by decide) ?_
                obtain rfl := Option.some.inj hv94
                exact hj94 H locs ls hP hD hS (lv_sub hl [1] rfl)
              · have hv94 := hf_f c_74 hv94
                refine lv_aload (pc := 77) hx hb dX6_taken_77 (lv_at hl 1 rfl) ?_
                refine vXgRX6_285_39 (pc := 79) hx hb hts mU_957 inU3 hown hK hP (x := (gI S 38)) rfl dX6_taken_79 ?_
                refine lv_iload_n (pc := 82) hx hb dX6_taken_82 rfl (lv_at hl 5 rfl) ?_
                refine lv_bipush (pc := 83) hx hb (v := 10) dX6_taken_83 (by decide) ?_
                refine lv_isub (pc := 85) hx hb dX6_taken_85 ?_
                refine lv_icmp_ne (pc := 86) hx hb (tgt := 93) dX6_taken_86 (by decide) (fun c_86 => ?_) (fun c_86 => ?_)
                · have hv94 := hf_f c_86 hv94
                  refine lv_iconst (pc := 93) hx hb (v := 0) dX6_taken_93 (by decide) ?_
                  obtain rfl := Option.some.inj hv94
                  exact hj94 H locs ls hP hD hS (lv_sub hl [1] rfl)
                · have hv94 := hf_t c_86 hv94
                  refine lv_iconst (pc := 89) hx hb (v := 1) dX6_taken_89 (by decide) ?_
                  refine lv_goto (pc := 90) hx hb (tgt := 94) dX6_taken_90 (by decide) ?_
                  obtain rfl := Option.some.inj hv94
                  exact hj94 H locs ls hP hD hS (lv_sub hl [1] rfl)
          · have hf := hf_t c_61 hf
            refine lv_bipush (pc := 64) hx hb (v := (-11)) dX6_taken_64 (by decide) ?_
            obtain rfl := Option.some.inj hf
            exact hR H locs 66 ls hP hD hS dX6_taken_66
        · have hf := hf_f e47_0 hf
          by_cases e47_1 : a1 = (1 : Int32)
          · have hf := hf_t e47_1 hf
            refine vXrq_38_1 (pc := 47) hx hb hK hP e47_1 dX6_taken_47 ?_
            refine lv_astore (pc := 48) hx hb (lv' := [(4, .ref (A 40)), (3, .int q21), (0, .ref (A 0)), (1, .int a1), (2, .int a2)]) dX6_taken_48 hl (by decide) rfl (fun ls hl => ?_)
            refine lv_aload_n (pc := 50) hx hb dX6_taken_50 rfl (lv_at hl 2 rfl) ?_
            refine lv_aload (pc := 51) hx hb dX6_taken_51 (lv_at hl 0 rfl) ?_
            obtain ⟨r53, hc53, hf⟩ := hf_b hf
            refine cl_V (pc := 53) (As := [.ref (A 40)]) (rest := []) hx hb hml hown hts (kX6_heldNow_40 l D A B _ S r53 hc53) (cwV 1 hts gwRX6_281 rfl rfl rfl hdX6_heldNow ⟨Nat.le_of_ble_eq_true rfl, Nat.le_of_ble_eq_true rfl⟩) hN hK hP hD hS hA (va_recv hK hP (ci := 6) (q0 := 0) rfl (eX_0 A B _)) rfl hl.1 rfl (Nat.le_of_ble_eq_true rfl) dX6_taken_53 (st1 := [.int r53]) rfl ⟨Nat.zero_le _, Nat.zero_le _⟩ (fun H locs hP hD hS => ?_)
            refine lv_istore (pc := 56) hx hb (lv' := [(5, .int r53), (4, .ref (A 40)), (3, .int q21), (0, .ref (A 0)), (1, .int a1), (2, .int a2)]) dX6_taken_56 hl (by decide) rfl (fun ls hl => ?_)
            refine lv_iload (pc := 58) hx hb dX6_taken_58 (lv_at hl 0 rfl) ?_
            refine lv_iconst (pc := 60) hx hb (v := 2) dX6_taken_60 (by decide) ?_
            refine lv_icmp_ne (pc := 61) hx hb (tgt := 67) dX6_taken_61 (by decide) (fun c_61 => ?_) (fun c_61 => ?_)
            · have hf := hf_f c_61 hf
              refine lv_iload (pc := 67) hx hb dX6_taken_67 (lv_at hl 0 rfl) ?_
              refine lv_iconst (pc := 69) hx hb (v := 1) dX6_taken_69 (by decide) ?_
              refine lv_icmp_ne (pc := 70) hx hb (tgt := 99) dX6_taken_70 (by decide) (fun c_70 => ?_) (fun c_70 => ?_)
              · have hf := hf_f c_70 hf
                refine lv_iload_n (pc := 99) hx hb dX6_taken_99 rfl (lv_at hl 2 rfl) ?_
                refine lv_if_ne (pc := 100) hx hb (tgt := 126) dX6_taken_100 (by decide) (fun c_100 => ?_) (fun c_100 => ?_)
                · have hf := hf_f c_100 hf
                  refine lv_iconst (pc := 126) hx hb (v := 0) dX6_taken_126 (by decide) ?_
                  refine lv_istore (pc := 127) hx hb (lv' := [(6, .int 0), (5, .int r53), (4, .ref (A 40)), (3, .int q21), (0, .ref (A 0)), (1, .int a1), (2, .int a2)]) dX6_taken_127 hl (by decide) rfl (fun ls hl => ?_)
                  refine lv_iload (pc := 129) hx hb dX6_taken_129 (lv_at hl 0 rfl) ?_
                  refine lv_if_eq (pc := 131) hx hb (tgt := 142) dX6_taken_131 (by decide) (fun c_131 => ?_) (fun c_131 => ?_)
                  · have hf := hf_t c_131 hf
                    refine lv_bipush (pc := 142) hx hb (v := (-13)) dX6_taken_142 (by decide) ?_
                    obtain rfl := Option.some.inj hf
                    exact hR H locs 144 ls hP hD hS dX6_taken_144
                  · have hf := hf_f c_131 hf
                    refine lv_aload (pc := 134) hx hb dX6_taken_134 (lv_at hl 2 rfl) ?_
                    refine vXgRX6_286_40 (pc := 136) hx hb hts mU_958 inU3 hown hK hP (x := (gI S 40)) rfl dX6_taken_136 ?_
                    refine lv_goto (pc := 139) hx hb (tgt := 144) dX6_taken_139 (by decide) ?_
                    obtain rfl := Option.some.inj hf
                    exact hR H locs 144 ls hP hD hS dX6_taken_144
                · have hf := hf_t c_100 hf
                  refine lv_aload_n (pc := 103) hx hb dX6_taken_103 rfl (lv_at hl 3 rfl) ?_
                  refine vXgRX6_10_0 (pc := 104) hx hb hts mU_16 inU6 hown hK hP dX6_taken_104 ?_
                  refine lv_aload (pc := 107) hx hb dX6_taken_107 (lv_at hl 1 rfl) ?_
                  refine vXgRX6_286_40 (pc := 109) hx hb hts mU_958 inU3 hown hK hP (x := (gI S 40)) rfl dX6_taken_109 ?_
                  obtain ⟨r112, hc112, hf⟩ := hf_b hf
                  refine cl_V (pc := 112) (As := [.int (gI S 40)]) (rest := []) hx hb hml hown hts (kX4_kindOf_1 l D A B _ S (gI S 40) r112 hc112) (cwV 1 hts gwRX6_128 rfl rfl rfl hdX4_kindOf ⟨Nat.le_of_ble_eq_true rfl, Nat.le_of_ble_eq_true rfl⟩) hN hK hP hD hS hA (va_recv hK hP (ci := 4) (q0 := 1) rfl (eX_1 A B _)) rfl hl.1 rfl (Nat.le_of_ble_eq_true rfl) dX6_taken_112 (st1 := [.int r112]) rfl ⟨Nat.zero_le _, Nat.zero_le _⟩ (fun H locs hP hD hS => ?_)
                  refine lv_iload_n (pc := 115) hx hb dX6_taken_115 rfl (lv_at hl 5 rfl) ?_
                  obtain ⟨r116, hc116, hf⟩ := hf_b hf
                  refine cl_S (pc := 116) (As := [.int r112, .int a2]) (rest := []) hx hb hml hown hts (kX6_isUnder l D A B _ S r112 a2 r116 hc116) (va_cwS 2 hts gwRX6_289 rfl rfl rfl hdX6_isUnder ⟨Nat.le_of_ble_eq_true rfl, Nat.le_of_ble_eq_true rfl⟩) hN hK hP hD hS hA rfl hl.1 rfl (Nat.le_of_ble_eq_true rfl) dX6_taken_116 (st1 := [.int r116]) rfl ⟨Nat.zero_le _, Nat.zero_le _⟩ (fun H locs hP hD hS => ?_)
                  refine lv_if_eq (pc := 119) hx hb (tgt := 126) dX6_taken_119 (by decide) (fun c_119 => ?_) (fun c_119 => ?_)
                  · have hf := hf_t c_119 hf
                    refine lv_iconst (pc := 126) hx hb (v := 0) dX6_taken_126 (by decide) ?_
                    refine lv_istore (pc := 127) hx hb (lv' := [(6, .int 0), (5, .int r53), (4, .ref (A 40)), (3, .int q21), (0, .ref (A 0)), (1, .int a1), (2, .int a2)]) dX6_taken_127 hl (by decide) rfl (fun ls hl => ?_)
                    refine lv_iload (pc := 129) hx hb dX6_taken_129 (lv_at hl 0 rfl) ?_
                    refine lv_if_eq (pc := 131) hx hb (tgt := 142) dX6_taken_131 (by decide) (fun c_131 => ?_) (fun c_131 => ?_)
                    · have hf := hf_t c_131 hf
                      refine lv_bipush (pc := 142) hx hb (v := (-13)) dX6_taken_142 (by decide) ?_
                      obtain rfl := Option.some.inj hf
                      exact hR H locs 144 ls hP hD hS dX6_taken_144
                    · have hf := hf_f c_131 hf
                      refine lv_aload (pc := 134) hx hb dX6_taken_134 (lv_at hl 2 rfl) ?_
                      refine vXgRX6_286_40 (pc := 136) hx hb hts mU_958 inU3 hown hK hP (x := (gI S 40)) rfl dX6_taken_136 ?_
                      refine lv_goto (pc := 139) hx hb (tgt := 144) dX6_taken_139 (by decide) ?_
                      obtain rfl := Option.some.inj hf
                      exact hR H locs 144 ls hP hD hS dX6_taken_144
                  · have hf := hf_f c_119 hf
                    refine lv_iconst (pc := 122) hx hb (v := 1) dX6_taken_122 (by decide) ?_
                    refine lv_goto (pc := 123) hx hb (tgt := 127) dX6_taken_123 (by decide) ?_
                    refine lv_istore (pc := 127) hx hb (lv' := [(6, .int 1), (5, .int r53), (4, .ref (A 40)), (3, .int q21), (0, .ref (A 0)), (1, .int a1), (2, .int a2)]) dX6_taken_127 hl (by decide) rfl (fun ls hl => ?_)
                    refine lv_iload (pc := 129) hx hb dX6_taken_129 (lv_at hl 0 rfl) ?_
                    refine lv_if_eq (pc := 131) hx hb (tgt := 142) dX6_taken_131 (by decide) (fun c_131 => ?_) (fun c_131 => ?_)
                    · have hf := hf_t c_131 hf
                      refine lv_bipush (pc := 142) hx hb (v := (-13)) dX6_taken_142 (by decide) ?_
                      obtain rfl := Option.some.inj hf
                      exact hR H locs 144 ls hP hD hS dX6_taken_144
                    · have hf := hf_f c_131 hf
                      refine lv_aload (pc := 134) hx hb dX6_taken_134 (lv_at hl 2 rfl) ?_
                      refine vXgRX6_286_40 (pc := 136) hx hb hts mU_958 inU3 hown hK hP (x := (gI S 40)) rfl dX6_taken_136 ?_
                      refine lv_goto (pc := 139) hx hb (tgt := 144) dX6_taken_139 (by decide) ?_
                      obtain rfl := Option.some.inj hf
                      exact hR H locs 144 ls hP hD hS dX6_taken_144
              · have hf := hf_t c_70 hf
                refine lv_iload_n (pc := 73) hx hb dX6_taken_73 rfl (lv_at hl 2 rfl) ?_
                obtain ⟨q94, hv94, hf⟩ := hf_b hf
                have hj94 : ∀ (H : Heap) (locs : List Loc) (ls : Array Slot), va_P D vwCl (wX A B S) H → va_D Ad (wX A B S) → va_S Ad s.heap H locs → lv_has ls 7 [(4, .ref (A 40))] → W p l e rm_X6_taken s m args below meth c H locs 0 0 Q (F0 m 94 ls [.int q94]) := by
                  intro H locs ls hP hD hS hl
                  refine lv_istore (pc := 94) hx hb (lv' := [(6, .int q94), (4, .ref (A 40))]) dX6_taken_94 hl (by decide) rfl (fun ls hl => ?_)
                  refine lv_goto (pc := 96) hx hb (tgt := 129) dX6_taken_96 (by decide) ?_
                  refine lv_iload (pc := 129) hx hb dX6_taken_129 (lv_at hl 0 rfl) ?_
                  refine lv_if_eq (pc := 131) hx hb (tgt := 142) dX6_taken_131 (by decide) (fun c_131 => ?_) (fun c_131 => ?_)
                  · have hf := hf_t c_131 hf
                    refine lv_bipush (pc := 142) hx hb (v := (-13)) dX6_taken_142 (by decide) ?_
                    obtain rfl := Option.some.inj hf
                    exact hR H locs 144 ls hP hD hS dX6_taken_144
                  · have hf := hf_f c_131 hf
                    refine lv_aload (pc := 134) hx hb dX6_taken_134 (lv_at hl 1 rfl) ?_
                    refine vXgRX6_286_40 (pc := 136) hx hb hts mU_958 inU3 hown hK hP (x := (gI S 40)) rfl dX6_taken_136 ?_
                    refine lv_goto (pc := 139) hx hb (tgt := 144) dX6_taken_139 (by decide) ?_
                    obtain rfl := Option.some.inj hf
                    exact hR H locs 144 ls hP hD hS dX6_taken_144
                refine lv_if_eq (pc := 74) hx hb (tgt := 93) dX6_taken_74 (by decide) (fun c_74 => ?_) (fun c_74 => ?_)
                · have hv94 := hf_t c_74 hv94
                  refine lv_iconst (pc := 93) hx hb (v := 0) dX6_taken_93 (by decide) ?_
                  obtain rfl := Option.some.inj hv94
                  exact hj94 H locs ls hP hD hS (lv_sub hl [1] rfl)
                · have hv94 := hf_f c_74 hv94
                  refine lv_aload (pc := 77) hx hb dX6_taken_77 (lv_at hl 1 rfl) ?_
                  refine vXgRX6_285_40 (pc := 79) hx hb hts mU_957 inU3 hown hK hP (x := (gI S 41)) rfl dX6_taken_79 ?_
                  refine lv_iload_n (pc := 82) hx hb dX6_taken_82 rfl (lv_at hl 5 rfl) ?_
                  refine lv_bipush (pc := 83) hx hb (v := 10) dX6_taken_83 (by decide) ?_
                  refine lv_isub (pc := 85) hx hb dX6_taken_85 ?_
                  refine lv_icmp_ne (pc := 86) hx hb (tgt := 93) dX6_taken_86 (by decide) (fun c_86 => ?_) (fun c_86 => ?_)
                  · have hv94 := hf_f c_86 hv94
                    refine lv_iconst (pc := 93) hx hb (v := 0) dX6_taken_93 (by decide) ?_
                    obtain rfl := Option.some.inj hv94
                    exact hj94 H locs ls hP hD hS (lv_sub hl [1] rfl)
                  · have hv94 := hf_t c_86 hv94
                    refine lv_iconst (pc := 89) hx hb (v := 1) dX6_taken_89 (by decide) ?_
                    refine lv_goto (pc := 90) hx hb (tgt := 94) dX6_taken_90 (by decide) ?_
                    obtain rfl := Option.some.inj hv94
                    exact hj94 H locs ls hP hD hS (lv_sub hl [1] rfl)
            · have hf := hf_t c_61 hf
              refine lv_bipush (pc := 64) hx hb (v := (-11)) dX6_taken_64 (by decide) ?_
              obtain rfl := Option.some.inj hf
              exact hR H locs 66 ls hP hD hS dX6_taken_66
          · have hf := hf_f e47_1 hf
            by_cases e47_2 : a1 = (2 : Int32)
            · have hf := hf_t e47_2 hf
              refine vXrq_38_2 (pc := 47) hx hb hK hP e47_2 dX6_taken_47 ?_
              refine lv_astore (pc := 48) hx hb (lv' := [(4, .ref (A 41)), (3, .int q21), (0, .ref (A 0)), (1, .int a1), (2, .int a2)]) dX6_taken_48 hl (by decide) rfl (fun ls hl => ?_)
              refine lv_aload_n (pc := 50) hx hb dX6_taken_50 rfl (lv_at hl 2 rfl) ?_
              refine lv_aload (pc := 51) hx hb dX6_taken_51 (lv_at hl 0 rfl) ?_
              obtain ⟨r53, hc53, hf⟩ := hf_b hf
              refine cl_V (pc := 53) (As := [.ref (A 41)]) (rest := []) hx hb hml hown hts (kX6_heldNow_41 l D A B _ S r53 hc53) (cwV 1 hts gwRX6_281 rfl rfl rfl hdX6_heldNow ⟨Nat.le_of_ble_eq_true rfl, Nat.le_of_ble_eq_true rfl⟩) hN hK hP hD hS hA (va_recv hK hP (ci := 6) (q0 := 0) rfl (eX_0 A B _)) rfl hl.1 rfl (Nat.le_of_ble_eq_true rfl) dX6_taken_53 (st1 := [.int r53]) rfl ⟨Nat.zero_le _, Nat.zero_le _⟩ (fun H locs hP hD hS => ?_)
              refine lv_istore (pc := 56) hx hb (lv' := [(5, .int r53), (4, .ref (A 41)), (3, .int q21), (0, .ref (A 0)), (1, .int a1), (2, .int a2)]) dX6_taken_56 hl (by decide) rfl (fun ls hl => ?_)
              refine lv_iload (pc := 58) hx hb dX6_taken_58 (lv_at hl 0 rfl) ?_
              refine lv_iconst (pc := 60) hx hb (v := 2) dX6_taken_60 (by decide) ?_
              refine lv_icmp_ne (pc := 61) hx hb (tgt := 67) dX6_taken_61 (by decide) (fun c_61 => ?_) (fun c_61 => ?_)
              · have hf := hf_f c_61 hf
                refine lv_iload (pc := 67) hx hb dX6_taken_67 (lv_at hl 0 rfl) ?_
                refine lv_iconst (pc := 69) hx hb (v := 1) dX6_taken_69 (by decide) ?_
                refine lv_icmp_ne (pc := 70) hx hb (tgt := 99) dX6_taken_70 (by decide) (fun c_70 => ?_) (fun c_70 => ?_)
                · have hf := hf_f c_70 hf
                  refine lv_iload_n (pc := 99) hx hb dX6_taken_99 rfl (lv_at hl 2 rfl) ?_
                  refine lv_if_ne (pc := 100) hx hb (tgt := 126) dX6_taken_100 (by decide) (fun c_100 => ?_) (fun c_100 => ?_)
                  · have hf := hf_f c_100 hf
                    refine lv_iconst (pc := 126) hx hb (v := 0) dX6_taken_126 (by decide) ?_
                    refine lv_istore (pc := 127) hx hb (lv' := [(6, .int 0), (5, .int r53), (4, .ref (A 41)), (3, .int q21), (0, .ref (A 0)), (1, .int a1), (2, .int a2)]) dX6_taken_127 hl (by decide) rfl (fun ls hl => ?_)
                    refine lv_iload (pc := 129) hx hb dX6_taken_129 (lv_at hl 0 rfl) ?_
                    refine lv_if_eq (pc := 131) hx hb (tgt := 142) dX6_taken_131 (by decide) (fun c_131 => ?_) (fun c_131 => ?_)
                    · have hf := hf_t c_131 hf
                      refine lv_bipush (pc := 142) hx hb (v := (-13)) dX6_taken_142 (by decide) ?_
                      obtain rfl := Option.some.inj hf
                      exact hR H locs 144 ls hP hD hS dX6_taken_144
                    · have hf := hf_f c_131 hf
                      refine lv_aload (pc := 134) hx hb dX6_taken_134 (lv_at hl 2 rfl) ?_
                      refine vXgRX6_286_41 (pc := 136) hx hb hts mU_958 inU3 hown hK hP (x := (gI S 43)) rfl dX6_taken_136 ?_
                      refine lv_goto (pc := 139) hx hb (tgt := 144) dX6_taken_139 (by decide) ?_
                      obtain rfl := Option.some.inj hf
                      exact hR H locs 144 ls hP hD hS dX6_taken_144
                  · have hf := hf_t c_100 hf
                    refine lv_aload_n (pc := 103) hx hb dX6_taken_103 rfl (lv_at hl 3 rfl) ?_
                    refine vXgRX6_10_0 (pc := 104) hx hb hts mU_16 inU6 hown hK hP dX6_taken_104 ?_
                    refine lv_aload (pc := 107) hx hb dX6_taken_107 (lv_at hl 1 rfl) ?_
                    refine vXgRX6_286_41 (pc := 109) hx hb hts mU_958 inU3 hown hK hP (x := (gI S 43)) rfl dX6_taken_109 ?_
                    obtain ⟨r112, hc112, hf⟩ := hf_b hf
                    refine cl_V (pc := 112) (As := [.int (gI S 43)]) (rest := []) hx hb hml hown hts (kX4_kindOf_1 l D A B _ S (gI S 43) r112 hc112) (cwV 1 hts gwRX6_128 rfl rfl rfl hdX4_kindOf ⟨Nat.le_of_ble_eq_true rfl, Nat.le_of_ble_eq_true rfl⟩) hN hK hP hD hS hA (va_recv hK hP (ci := 4) (q0 := 1) rfl (eX_1 A B _)) rfl hl.1 rfl (Nat.le_of_ble_eq_true rfl) dX6_taken_112 (st1 := [.int r112]) rfl ⟨Nat.zero_le _, Nat.zero_le _⟩ (fun H locs hP hD hS => ?_)
                    refine lv_iload_n (pc := 115) hx hb dX6_taken_115 rfl (lv_at hl 5 rfl) ?_
                    obtain ⟨r116, hc116, hf⟩ := hf_b hf
                    refine cl_S (pc := 116) (As := [.int r112, .int a2]) (rest := []) hx hb hml hown hts (kX6_isUnder l D A B _ S r112 a2 r116 hc116) (va_cwS 2 hts gwRX6_289 rfl rfl rfl hdX6_isUnder ⟨Nat.le_of_ble_eq_true rfl, Nat.le_of_ble_eq_true rfl⟩) hN hK hP hD hS hA rfl hl.1 rfl (Nat.le_of_ble_eq_true rfl) dX6_taken_116 (st1 := [.int r116]) rfl ⟨Nat.zero_le _, Nat.zero_le _⟩ (fun H locs hP hD hS => ?_)
                    refine lv_if_eq (pc := 119) hx hb (tgt := 126) dX6_taken_119 (by decide) (fun c_119 => ?_) (fun c_119 => ?_)
                    · have hf := hf_t c_119 hf
                      refine lv_iconst (pc := 126) hx hb (v := 0) dX6_taken_126 (by decide) ?_
                      refine lv_istore (pc := 127) hx hb (lv' := [(6, .int 0), (5, .int r53), (4, .ref (A 41)), (3, .int q21), (0, .ref (A 0)), (1, .int a1), (2, .int a2)]) dX6_taken_127 hl (by decide) rfl (fun ls hl => ?_)
                      refine lv_iload (pc := 129) hx hb dX6_taken_129 (lv_at hl 0 rfl) ?_
                      refine lv_if_eq (pc := 131) hx hb (tgt := 142) dX6_taken_131 (by decide) (fun c_131 => ?_) (fun c_131 => ?_)
                      · have hf := hf_t c_131 hf
                        refine lv_bipush (pc := 142) hx hb (v := (-13)) dX6_taken_142 (by decide) ?_
                        obtain rfl := Option.some.inj hf
                        exact hR H locs 144 ls hP hD hS dX6_taken_144
                      · have hf := hf_f c_131 hf
                        refine lv_aload (pc := 134) hx hb dX6_taken_134 (lv_at hl 2 rfl) ?_
                        refine vXgRX6_286_41 (pc := 136) hx hb hts mU_958 inU3 hown hK hP (x := (gI S 43)) rfl dX6_taken_136 ?_
                        refine lv_goto (pc := 139) hx hb (tgt := 144) dX6_taken_139 (by decide) ?_
                        obtain rfl := Option.some.inj hf
                        exact hR H locs 144 ls hP hD hS dX6_taken_144
                    · have hf := hf_f c_119 hf
                      refine lv_iconst (pc := 122) hx hb (v := 1) dX6_taken_122 (by decide) ?_
                      refine lv_goto (pc := 123) hx hb (tgt := 127) dX6_taken_123 (by decide) ?_
                      refine lv_istore (pc := 127) hx hb (lv' := [(6, .int 1), (5, .int r53), (4, .ref (A 41)), (3, .int q21), (0, .ref (A 0)), (1, .int a1), (2, .int a2)]) dX6_taken_127 hl (by decide) rfl (fun ls hl => ?_)
                      refine lv_iload (pc := 129) hx hb dX6_taken_129 (lv_at hl 0 rfl) ?_
                      refine lv_if_eq (pc := 131) hx hb (tgt := 142) dX6_taken_131 (by decide) (fun c_131 => ?_) (fun c_131 => ?_)
                      · have hf := hf_t c_131 hf
                        refine lv_bipush (pc := 142) hx hb (v := (-13)) dX6_taken_142 (by decide) ?_
                        obtain rfl := Option.some.inj hf
                        exact hR H locs 144 ls hP hD hS dX6_taken_144
                      · have hf := hf_f c_131 hf
                        refine lv_aload (pc := 134) hx hb dX6_taken_134 (lv_at hl 2 rfl) ?_
                        refine vXgRX6_286_41 (pc := 136) hx hb hts mU_958 inU3 hown hK hP (x := (gI S 43)) rfl dX6_taken_136 ?_
                        refine lv_goto (pc := 139) hx hb (tgt := 144) dX6_taken_139 (by decide) ?_
                        obtain rfl := Option.some.inj hf
                        exact hR H locs 144 ls hP hD hS dX6_taken_144
                · have hf := hf_t c_70 hf
                  refine lv_iload_n (pc := 73) hx hb dX6_taken_73 rfl (lv_at hl 2 rfl) ?_
                  obtain ⟨q94, hv94, hf⟩ := hf_b hf
                  have hj94 : ∀ (H : Heap) (locs : List Loc) (ls : Array Slot), va_P D vwCl (wX A B S) H → va_D Ad (wX A B S) → va_S Ad s.heap H locs → lv_has ls 7 [(4, .ref (A 41))] → W p l e rm_X6_taken s m args below meth c H locs 0 0 Q (F0 m 94 ls [.int q94]) := by
                    intro H locs ls hP hD hS hl
                    refine lv_istore (pc := 94) hx hb (lv' := [(6, .int q94), (4, .ref (A 41))]) dX6_taken_94 hl (by decide) rfl (fun ls hl => ?_)
                    refine lv_goto (pc := 96) hx hb (tgt := 129) dX6_taken_96 (by decide) ?_
                    refine lv_iload (pc := 129) hx hb dX6_taken_129 (lv_at hl 0 rfl) ?_
                    refine lv_if_eq (pc := 131) hx hb (tgt := 142) dX6_taken_131 (by decide) (fun c_131 => ?_) (fun c_131 => ?_)
                    · have hf := hf_t c_131 hf
                      refine lv_bipush (pc := 142) hx hb (v := (-13)) dX6_taken_142 (by decide) ?_
                      obtain rfl := Option.some.inj hf
                      exact hR H locs 144 ls hP hD hS dX6_taken_144
                    · have hf := hf_f c_131 hf
                      refine lv_aload (pc := 134) hx hb dX6_taken_134 (lv_at hl 1 rfl) ?_
                      refine vXgRX6_286_41 (pc := 136) hx hb hts mU_958 inU3 hown hK hP (x := (gI S 43)) rfl dX6_taken_136 ?_
                      refine lv_goto (pc := 139) hx hb (tgt := 144) dX6_taken_139 (by decide) ?_
                      obtain rfl := Option.some.inj hf
                      exact hR H locs 144 ls hP hD hS dX6_taken_144
                  refine lv_if_eq (pc := 74) hx hb (tgt := 93) dX6_taken_74 (by decide) (fun c_74 => ?_) (fun c_74 => ?_)
                  · have hv94 := hf_t c_74 hv94
                    refine lv_iconst (pc := 93) hx hb (v := 0) dX6_taken_93 (by decide) ?_
                    obtain rfl := Option.some.inj hv94
                    exact hj94 H locs ls hP hD hS (lv_sub hl [1] rfl)
                  · have hv94 := hf_f c_74 hv94
                    refine lv_aload (pc := 77) hx hb dX6_taken_77 (lv_at hl 1 rfl) ?_
                    refine vXgRX6_285_41 (pc := 79) hx hb hts mU_957 inU3 hown hK hP (x := (gI S 44)) rfl dX6_taken_79 ?_
                    refine lv_iload_n (pc := 82) hx hb dX6_taken_82 rfl (lv_at hl 5 rfl) ?_
                    refine lv_bipush (pc := 83) hx hb (v := 10) dX6_taken_83 (by decide) ?_
                    refine lv_isub (pc := 85) hx hb dX6_taken_85 ?_
                    refine lv_icmp_ne (pc := 86) hx hb (tgt := 93) dX6_taken_86 (by decide) (fun c_86 => ?_) (fun c_86 => ?_)
                    · have hv94 := hf_f c_86 hv94
                      refine lv_iconst (pc := 93) hx hb (v := 0) dX6_taken_93 (by decide) ?_
                      obtain rfl := Option.some.inj hv94
                      exact hj94 H locs ls hP hD hS (lv_sub hl [1] rfl)
                    · have hv94 := hf_t c_86 hv94
                      refine lv_iconst (pc := 89) hx hb (v := 1) dX6_taken_89 (by decide) ?_
                      refine lv_goto (pc := 90) hx hb (tgt := 94) dX6_taken_90 (by decide) ?_
                      obtain rfl := Option.some.inj hv94
                      exact hj94 H locs ls hP hD hS (lv_sub hl [1] rfl)
              · have hf := hf_t c_61 hf
                refine lv_bipush (pc := 64) hx hb (v := (-11)) dX6_taken_64 (by decide) ?_
                obtain rfl := Option.some.inj hf
                exact hR H locs 66 ls hP hD hS dX6_taken_66
            · have hf := hf_f e47_2 hf
              by_cases e47_3 : a1 = (3 : Int32)
              · have hf := hf_t e47_3 hf
                refine vXrq_38_3 (pc := 47) hx hb hK hP e47_3 dX6_taken_47 ?_
                refine lv_astore (pc := 48) hx hb (lv' := [(4, .ref (A 42)), (3, .int q21), (0, .ref (A 0)), (1, .int a1), (2, .int a2)]) dX6_taken_48 hl (by decide) rfl (fun ls hl => ?_)
                refine lv_aload_n (pc := 50) hx hb dX6_taken_50 rfl (lv_at hl 2 rfl) ?_
                refine lv_aload (pc := 51) hx hb dX6_taken_51 (lv_at hl 0 rfl) ?_
                obtain ⟨r53, hc53, hf⟩ := hf_b hf
                refine cl_V (pc := 53) (As := [.ref (A 42)]) (rest := []) hx hb hml hown hts (kX6_heldNow_42 l D A B _ S r53 hc53) (cwV 1 hts gwRX6_281 rfl rfl rfl hdX6_heldNow ⟨Nat.le_of_ble_eq_true rfl, Nat.le_of_ble_eq_true rfl⟩) hN hK hP hD hS hA (va_recv hK hP (ci := 6) (q0 := 0) rfl (eX_0 A B _)) rfl hl.1 rfl (Nat.le_of_ble_eq_true rfl) dX6_taken_53 (st1 := [.int r53]) rfl ⟨Nat.zero_le _, Nat.zero_le _⟩ (fun H locs hP hD hS => ?_)
                refine lv_istore (pc := 56) hx hb (lv' := [(5, .int r53), (4, .ref (A 42)), (3, .int q21), (0, .ref (A 0)), (1, .int a1), (2, .int a2)]) dX6_taken_56 hl (by decide) rfl (fun ls hl => ?_)
                refine lv_iload (pc := 58) hx hb dX6_taken_58 (lv_at hl 0 rfl) ?_
                refine lv_iconst (pc := 60) hx hb (v := 2) dX6_taken_60 (by decide) ?_
                refine lv_icmp_ne (pc := 61) hx hb (tgt := 67) dX6_taken_61 (by decide) (fun c_61 => ?_) (fun c_61 => ?_)
                · have hf := hf_f c_61 hf
                  refine lv_iload (pc := 67) hx hb dX6_taken_67 (lv_at hl 0 rfl) ?_
                  refine lv_iconst (pc := 69) hx hb (v := 1) dX6_taken_69 (by decide) ?_
                  refine lv_icmp_ne (pc := 70) hx hb (tgt := 99) dX6_taken_70 (by decide) (fun c_70 => ?_) (fun c_70 => ?_)
                  · have hf := hf_f c_70 hf
                    refine lv_iload_n (pc := 99) hx hb dX6_taken_99 rfl (lv_at hl 2 rfl) ?_
                    refine lv_if_ne (pc := 100) hx hb (tgt := 126) dX6_taken_100 (by decide) (fun c_100 => ?_) (fun c_100 => ?_)
                    · have hf := hf_f c_100 hf
                      refine lv_iconst (pc := 126) hx hb (v := 0) dX6_taken_126 (by decide) ?_
                      refine lv_istore (pc := 127) hx hb (lv' := [(6, .int 0), (5, .int r53), (4, .ref (A 42)), (3, .int q21), (0, .ref (A 0)), (1, .int a1), (2, .int a2)]) dX6_taken_127 hl (by decide) rfl (fun ls hl => ?_)
                      refine lv_iload (pc := 129) hx hb dX6_taken_129 (lv_at hl 0 rfl) ?_
                      refine lv_if_eq (pc := 131) hx hb (tgt := 142) dX6_taken_131 (by decide) (fun c_131 => ?_) (fun c_131 => ?_)
                      · have hf := hf_t c_131 hf
                        refine lv_bipush (pc := 142) hx hb (v := (-13)) dX6_taken_142 (by decide) ?_
                        obtain rfl := Option.some.inj hf
                        exact hR H locs 144 ls hP hD hS dX6_taken_144
                      · have hf := hf_f c_131 hf
                        refine lv_aload (pc := 134) hx hb dX6_taken_134 (lv_at hl 2 rfl) ?_
                        refine vXgRX6_286_42 (pc := 136) hx hb hts mU_958 inU3 hown hK hP (x := (gI S 46)) rfl dX6_taken_136 ?_
                        refine lv_goto (pc := 139) hx hb (tgt := 144) dX6_taken_139 (by decide) ?_
                        obtain rfl := Option.some.inj hf
                        exact hR H locs 144 ls hP hD hS dX6_taken_144
                    · have hf := hf_t c_100 hf
                      refine lv_aload_n (pc := 103) hx hb dX6_taken_103 rfl (lv_at hl 3 rfl) ?_
                      refine vXgRX6_10_0 (pc := 104) hx hb hts mU_16 inU6 hown hK hP dX6_taken_104 ?_
                      refine lv_aload (pc := 107) hx hb dX6_taken_107 (lv_at hl 1 rfl) ?_
                      refine vXgRX6_286_42 (pc := 109) hx hb hts mU_958 inU3 hown hK hP (x := (gI S 46)) rfl dX6_taken_109 ?_
                      obtain ⟨r112, hc112, hf⟩ := hf_b hf
                      refine cl_V (pc := 112) (As := [.int (gI S 46)]) (rest := []) hx hb hml hown hts (kX4_kindOf_1 l D A B _ S (gI S 46) r112 hc112) (cwV 1 hts gwRX6_128 rfl rfl rfl hdX4_kindOf ⟨Nat.le_of_ble_eq_true rfl, Nat.le_of_ble_eq_true rfl⟩) hN hK hP hD hS hA (va_recv hK hP (ci := 4) (q0 := 1) rfl (eX_1 A B _)) rfl hl.1 rfl (Nat.le_of_ble_eq_true rfl) dX6_taken_112 (st1 := [.int r112]) rfl ⟨Nat.zero_le _, Nat.zero_le _⟩ (fun H locs hP hD hS => ?_)
                      refine lv_iload_n (pc := 115) hx hb dX6_taken_115 rfl (lv_at hl 5 rfl) ?_
                      obtain ⟨r116, hc116, hf⟩ := hf_b hf
                      refine cl_S (pc := 116) (As := [.int r112, .int a2]) (rest := []) hx hb hml hown hts (kX6_isUnder l D A B _ S r112 a2 r116 hc116) (va_cwS 2 hts gwRX6_289 rfl rfl rfl hdX6_isUnder ⟨Nat.le_of_ble_eq_true rfl, Nat.le_of_ble_eq_true rfl⟩) hN hK hP hD hS hA rfl hl.1 rfl (Nat.le_of_ble_eq_true rfl) dX6_taken_116 (st1 := [.int r116]) rfl ⟨Nat.zero_le _, Nat.zero_le _⟩ (fun H locs hP hD hS => ?_)
                      refine lv_if_eq (pc := 119) hx hb (tgt := 126) dX6_taken_119 (by decide) (fun c_119 => ?_) (fun c_119 => ?_)
                      · have hf := hf_t c_119 hf
                        refine lv_iconst (pc := 126) hx hb (v := 0) dX6_taken_126 (by decide) ?_
                        refine lv_istore (pc := 127) hx hb (lv' := [(6, .int 0), (5, .int r53), (4, .ref (A 42)), (3, .int q21), (0, .ref (A 0)), (1, .int a1), (2, .int a2)]) dX6_taken_127 hl (by decide) rfl (fun ls hl => ?_)
                        refine lv_iload (pc := 129) hx hb dX6_taken_129 (lv_at hl 0 rfl) ?_
                        refine lv_if_eq (pc := 131) hx hb (tgt := 142) dX6_taken_131 (by decide) (fun c_131 => ?_) (fun c_131 => ?_)
                        · have hf := hf_t c_131 hf
                          refine lv_bipush (pc := 142) hx hb (v := (-13)) dX6_taken_142 (by decide) ?_
                          obtain rfl := Option.some.inj hf
                          exact hR H locs 144 ls hP hD hS dX6_taken_144
                        · have hf := hf_f c_131 hf
                          refine lv_aload (pc := 134) hx hb dX6_taken_134 (lv_at hl 2 rfl) ?_
                          refine vXgRX6_286_42 (pc := 136) hx hb hts mU_958 inU3 hown hK hP (x := (gI S 46)) rfl dX6_taken_136 ?_
                          refine lv_goto (pc := 139) hx hb (tgt := 144) dX6_taken_139 (by decide) ?_
                          obtain rfl := Option.some.inj hf
                          exact hR H locs 144 ls hP hD hS dX6_taken_144
                      · have hf := hf_f c_119 hf
                        refine lv_iconst (pc := 122) hx hb (v := 1) dX6_taken_122 (by decide) ?_
                        refine lv_goto (pc := 123) hx hb (tgt := 127) dX6_taken_123 (by decide) ?_
                        refine lv_istore (pc := 127) hx hb (lv' := [(6, .int 1), (5, .int r53), (4, .ref (A 42)), (3, .int q21), (0, .ref (A 0)), (1, .int a1), (2, .int a2)]) dX6_taken_127 hl (by decide) rfl (fun ls hl => ?_)
                        refine lv_iload (pc := 129) hx hb dX6_taken_129 (lv_at hl 0 rfl) ?_
                        refine lv_if_eq (pc := 131) hx hb (tgt := 142) dX6_taken_131 (by decide) (fun c_131 => ?_) (fun c_131 => ?_)
                        · have hf := hf_t c_131 hf
                          refine lv_bipush (pc := 142) hx hb (v := (-13)) dX6_taken_142 (by decide) ?_
                          obtain rfl := Option.some.inj hf
                          exact hR H locs 144 ls hP hD hS dX6_taken_144
                        · have hf := hf_f c_131 hf
                          refine lv_aload (pc := 134) hx hb dX6_taken_134 (lv_at hl 2 rfl) ?_
                          refine vXgRX6_286_42 (pc := 136) hx hb hts mU_958 inU3 hown hK hP (x := (gI S 46)) rfl dX6_taken_136 ?_
                          refine lv_goto (pc := 139) hx hb (tgt := 144) dX6_taken_139 (by decide) ?_
                          obtain rfl := Option.some.inj hf
                          exact hR H locs 144 ls hP hD hS dX6_taken_144
                  · have hf := hf_t c_70 hf
                    refine lv_iload_n (pc := 73) hx hb dX6_taken_73 rfl (lv_at hl 2 rfl) ?_
                    obtain ⟨q94, hv94, hf⟩ := hf_b hf
                    have hj94 : ∀ (H : Heap) (locs : List Loc) (ls : Array Slot), va_P D vwCl (wX A B S) H → va_D Ad (wX A B S) → va_S Ad s.heap H locs → lv_has ls 7 [(4, .ref (A 42))] → W p l e rm_X6_taken s m args below meth c H locs 0 0 Q (F0 m 94 ls [.int q94]) := by
                      intro H locs ls hP hD hS hl
                      refine lv_istore (pc := 94) hx hb (lv' := [(6, .int q94), (4, .ref (A 42))]) dX6_taken_94 hl (by decide) rfl (fun ls hl => ?_)
                      refine lv_goto (pc := 96) hx hb (tgt := 129) dX6_taken_96 (by decide) ?_
                      refine lv_iload (pc := 129) hx hb dX6_taken_129 (lv_at hl 0 rfl) ?_
                      refine lv_if_eq (pc := 131) hx hb (tgt := 142) dX6_taken_131 (by decide) (fun c_131 => ?_) (fun c_131 => ?_)
                      · have hf := hf_t c_131 hf
                        refine lv_bipush (pc := 142) hx hb (v := (-13)) dX6_taken_142 (by decide) ?_
                        obtain rfl := Option.some.inj hf
                        exact hR H locs 144 ls hP hD hS dX6_taken_144
                      · have hf := hf_f c_131 hf
                        refine lv_aload (pc := 134) hx hb dX6_taken_134 (lv_at hl 1 rfl) ?_
                        refine vXgRX6_286_42 (pc := 136) hx hb hts mU_958 inU3 hown hK hP (x := (gI S 46)) rfl dX6_taken_136 ?_
                        refine lv_goto (pc := 139) hx hb (tgt := 144) dX6_taken_139 (by decide) ?_
                        obtain rfl := Option.some.inj hf
                        exact hR H locs 144 ls hP hD hS dX6_taken_144
                    refine lv_if_eq (pc := 74) hx hb (tgt := 93) dX6_taken_74 (by decide) (fun c_74 => ?_) (fun c_74 => ?_)
                    · have hv94 := hf_t c_74 hv94
                      refine lv_iconst (pc := 93) hx hb (v := 0) dX6_taken_93 (by decide) ?_
                      obtain rfl := Option.some.inj hv94
                      exact hj94 H locs ls hP hD hS (lv_sub hl [1] rfl)
                    · have hv94 := hf_f c_74 hv94
                      refine lv_aload (pc := 77) hx hb dX6_taken_77 (lv_at hl 1 rfl) ?_
                      refine vXgRX6_285_42 (pc := 79) hx hb hts mU_957 inU3 hown hK hP (x := (gI S 47)) rfl dX6_taken_79 ?_
                      refine lv_iload_n (pc := 82) hx hb dX6_taken_82 rfl (lv_at hl 5 rfl) ?_
                      refine lv_bipush (pc := 83) hx hb (v := 10) dX6_taken_83 (by decide) ?_
                      refine lv_isub (pc := 85) hx hb dX6_taken_85 ?_
                      refine lv_icmp_ne (pc := 86) hx hb (tgt := 93) dX6_taken_86 (by decide) (fun c_86 => ?_) (fun c_86 => ?_)
                      · have hv94 := hf_f c_86 hv94
                        refine lv_iconst (pc := 93) hx hb (v := 0) dX6_taken_93 (by decide) ?_
                        obtain rfl := Option.some.inj hv94
                        exact hj94 H locs ls hP hD hS (lv_sub hl [1] rfl)
                      · have hv94 := hf_t c_86 hv94
                        refine lv_iconst (pc := 89) hx hb (v := 1) dX6_taken_89 (by decide) ?_
                        refine lv_goto (pc := 90) hx hb (tgt := 94) dX6_taken_90 (by decide) ?_
                        obtain rfl := Option.some.inj hv94
                        exact hj94 H locs ls hP hD hS (lv_sub hl [1] rfl)
                · have hf := hf_t c_61 hf
                  refine lv_bipush (pc := 64) hx hb (v := (-11)) dX6_taken_64 (by decide) ?_
                  obtain rfl := Option.some.inj hf
                  exact hR H locs 66 ls hP hD hS dX6_taken_66
              · have hf := hf_f e47_3 hf
                exact hf_0 hf
      · have hf := hf_t c_33 hf
        refine lv_iload_n (pc := 36) hx hb dX6_taken_36 rfl (lv_at hl 0 rfl) ?_
        refine lv_if_ne (pc := 37) hx hb (tgt := 42) dX6_taken_37 (by decide) (fun c_37 => ?_) (fun c_37 => ?_)
        · have hf := hf_f c_37 hf
          refine lv_aload_n (pc := 42) hx hb dX6_taken_42 rfl (lv_at hl 1 rfl) ?_
          refine vXgRX6_54_0 (pc := 43) hx hb hts mU_35 inU6 hown hK hP dX6_taken_43 ?_
          refine lv_iload_n (pc := 46) hx hb dX6_taken_46 rfl (lv_at hl 2 rfl) ?_
          by_cases e47_0 : a1 = (0 : Int32)
          · have hf := hf_t e47_0 hf
            refine vXrq_38_0 (pc := 47) hx hb hK hP e47_0 dX6_taken_47 ?_
            refine lv_astore (pc := 48) hx hb (lv' := [(4, .ref (A 39)), (3, .int q21), (0, .ref (A 0)), (1, .int a1), (2, .int a2)]) dX6_taken_48 hl (by decide) rfl (fun ls hl => ?_)
            refine lv_aload_n (pc := 50) hx hb dX6_taken_50 rfl (lv_at hl 2 rfl) ?_
            refine lv_aload (pc := 51) hx hb dX6_taken_51 (lv_at hl 0 rfl) ?_
            obtain ⟨r53, hc53, hf⟩ := hf_b hf
            refine cl_V (pc := 53) (As := [.ref (A 39)]) (rest := []) hx hb hml hown hts (kX6_heldNow_39 l D A B _ S r53 hc53) (cwV 1 hts gwRX6_281 rfl rfl rfl hdX6_heldNow ⟨Nat.le_of_ble_eq_true rfl, Nat.le_of_ble_eq_true rfl⟩) hN hK hP hD hS hA (va_recv hK hP (ci := 6) (q0 := 0) rfl (eX_0 A B _)) rfl hl.1 rfl (Nat.le_of_ble_eq_true rfl) dX6_taken_53 (st1 := [.int r53]) rfl ⟨Nat.zero_le _, Nat.zero_le _⟩ (fun H locs hP hD hS => ?_)
            refine lv_istore (pc := 56) hx hb (lv' := [(5, .int r53), (4, .ref (A 39)), (3, .int q21), (0, .ref (A 0)), (1, .int a1), (2, .int a2)]) dX6_taken_56 hl (by decide) rfl (fun ls hl => ?_)
            refine lv_iload (pc := 58) hx hb dX6_taken_58 (lv_at hl 0 rfl) ?_
            refine lv_iconst (pc := 60) hx hb (v := 2) dX6_taken_60 (by decide) ?_
            refine lv_icmp_ne (pc := 61) hx hb (tgt := 67) dX6_taken_61 (by decide) (fun c_61 => ?_) (fun c_61 => ?_)
            · have hf := hf_f c_61 hf
              refine lv_iload (pc := 67) hx hb dX6_taken_67 (lv_at hl 0 rfl) ?_
              refine lv_iconst (pc := 69) hx hb (v := 1) dX6_taken_69 (by decide) ?_
              refine lv_icmp_ne (pc := 70) hx hb (tgt := 99) dX6_taken_70 (by decide) (fun c_70 => ?_) (fun c_70 => ?_)
              · have hf := hf_f c_70 hf
                refine lv_iload_n (pc := 99) hx hb dX6_taken_99 rfl (lv_at hl 2 rfl) ?_
                refine lv_if_ne (pc := 100) hx hb (tgt := 126) dX6_taken_100 (by decide) (fun c_100 => ?_) (fun c_100 => ?_)
                · have hf := hf_f c_100 hf
                  refine lv_iconst (pc := 126) hx hb (v := 0) dX6_taken_126 (by decide) ?_
                  refine lv_istore (pc := 127) hx hb (lv' := [(6, .int 0), (5, .int r53), (4, .ref (A 39)), (3, .int q21), (0, .ref (A 0)), (1, .int a1), (2, .int a2)]) dX6_taken_127 hl (by decide) rfl (fun ls hl => ?_)
                  refine lv_iload (pc := 129) hx hb dX6_taken_129 (lv_at hl 0 rfl) ?_
                  refine lv_if_eq (pc := 131) hx hb (tgt := 142) dX6_taken_131 (by decide) (fun c_131 => ?_) (fun c_131 => ?_)
                  · have hf := hf_t c_131 hf
                    refine lv_bipush (pc := 142) hx hb (v := (-13)) dX6_taken_142 (by decide) ?_
                    obtain rfl := Option.some.inj hf
                    exact hR H locs 144 ls hP hD hS dX6_taken_144
                  · have hf := hf_f c_131 hf
                    refine lv_aload (pc := 134) hx hb dX6_taken_134 (lv_at hl 2 rfl) ?_
                    refine vXgRX6_286_39 (pc := 136) hx hb hts mU_958 inU3 hown hK hP (x := (gI S 37)) rfl dX6_taken_136 ?_
                    refine lv_goto (pc := 139) hx hb (tgt := 144) dX6_taken_139 (by decide) ?_
                    obtain rfl := Option.some.inj hf
                    exact hR H locs 144 ls hP hD hS dX6_taken_144
                · have hf := hf_t c_100 hf
                  refine lv_aload_n (pc := 103) hx hb dX6_taken_103 rfl (lv_at hl 3 rfl) ?_
                  refine vXgRX6_10_0 (pc := 104) hx hb hts mU_16 inU6 hown hK hP dX6_taken_104 ?_
                  refine lv_aload (pc := 107) hx hb dX6_taken_107 (lv_at hl 1 rfl) ?_
                  refine vXgRX6_286_39 (pc := 109) hx hb hts mU_958 inU3 hown hK hP (x := (gI S 37)) rfl dX6_taken_109 ?_
                  obtain ⟨r112, hc112, hf⟩ := hf_b hf
                  refine cl_V (pc := 112) (As := [.int (gI S 37)]) (rest := []) hx hb hml hown hts (kX4_kindOf_1 l D A B _ S (gI S 37) r112 hc112) (cwV 1 hts gwRX6_128 rfl rfl rfl hdX4_kindOf ⟨Nat.le_of_ble_eq_true rfl, Nat.le_of_ble_eq_true rfl⟩) hN hK hP hD hS hA (va_recv hK hP (ci := 4) (q0 := 1) rfl (eX_1 A B _)) rfl hl.1 rfl (Nat.le_of_ble_eq_true rfl) dX6_taken_112 (st1 := [.int r112]) rfl ⟨Nat.zero_le _, Nat.zero_le _⟩ (fun H locs hP hD hS => ?_)
                  refine lv_iload_n (pc := 115) hx hb dX6_taken_115 rfl (lv_at hl 5 rfl) ?_
                  obtain ⟨r116, hc116, hf⟩ := hf_b hf
                  refine cl_S (pc := 116) (As := [.int r112, .int a2]) (rest := []) hx hb hml hown hts (kX6_isUnder l D A B _ S r112 a2 r116 hc116) (va_cwS 2 hts gwRX6_289 rfl rfl rfl hdX6_isUnder ⟨Nat.le_of_ble_eq_true rfl, Nat.le_of_ble_eq_true rfl⟩) hN hK hP hD hS hA rfl hl.1 rfl (Nat.le_of_ble_eq_true rfl) dX6_taken_116 (st1 := [.int r116]) rfl ⟨Nat.zero_le _, Nat.zero_le _⟩ (fun H locs hP hD hS => ?_)
                  refine lv_if_eq (pc := 119) hx hb (tgt := 126) dX6_taken_119 (by decide) (fun c_119 => ?_) (fun c_119 => ?_)
                  · have hf := hf_t c_119 hf
                    refine lv_iconst (pc := 126) hx hb (v := 0) dX6_taken_126 (by decide) ?_
                    refine lv_istore (pc := 127) hx hb (lv' := [(6, .int 0), (5, .int r53), (4, .ref (A 39)), (3, .int q21), (0, .ref (A 0)), (1, .int a1), (2, .int a2)]) dX6_taken_127 hl (by decide) rfl (fun ls hl => ?_)
                    refine lv_iload (pc := 129) hx hb dX6_taken_129 (lv_at hl 0 rfl) ?_
                    refine lv_if_eq (pc := 131) hx hb (tgt := 142) dX6_taken_131 (by decide) (fun c_131 => ?_) (fun c_131 => ?_)
                    · have hf := hf_t c_131 hf
                      refine lv_bipush (pc := 142) hx hb (v := (-13)) dX6_taken_142 (by decide) ?_
                      obtain rfl := Option.some.inj hf
                      exact hR H locs 144 ls hP hD hS dX6_taken_144
                    · have hf := hf_f c_131 hf
                      refine lv_aload (pc := 134) hx hb dX6_taken_134 (lv_at hl 2 rfl) ?_
                      refine vXgRX6_286_39 (pc := 136) hx hb hts mU_958 inU3 hown hK hP (x := (gI S 37)) rfl dX6_taken_136 ?_
                      refine lv_goto (pc := 139) hx hb (tgt := 144) dX6_taken_139 (by decide) ?_
                      obtain rfl := Option.some.inj hf
                      exact hR H locs 144 ls hP hD hS dX6_taken_144
                  · have hf := hf_f c_119 hf
                    refine lv_iconst (pc := 122) hx hb (v := 1) dX6_taken_122 (by decide) ?_
                    refine lv_goto (pc := 123) hx hb (tgt := 127) dX6_taken_123 (by decide) ?_
                    refine lv_istore (pc := 127) hx hb (lv' := [(6, .int 1), (5, .int r53), (4, .ref (A 39)), (3, .int q21), (0, .ref (A 0)), (1, .int a1), (2, .int a2)]) dX6_taken_127 hl (by decide) rfl (fun ls hl => ?_)
                    refine lv_iload (pc := 129) hx hb dX6_taken_129 (lv_at hl 0 rfl) ?_
                    refine lv_if_eq (pc := 131) hx hb (tgt := 142) dX6_taken_131 (by decide) (fun c_131 => ?_) (fun c_131 => ?_)
                    · have hf := hf_t c_131 hf
                      refine lv_bipush (pc := 142) hx hb (v := (-13)) dX6_taken_142 (by decide) ?_
                      obtain rfl := Option.some.inj hf
                      exact hR H locs 144 ls hP hD hS dX6_taken_144
                    · have hf := hf_f c_131 hf
                      refine lv_aload (pc := 134) hx hb dX6_taken_134 (lv_at hl 2 rfl) ?_
                      refine vXgRX6_286_39 (pc := 136) hx hb hts mU_958 inU3 hown hK hP (x := (gI S 37)) rfl dX6_taken_136 ?_
                      refine lv_goto (pc := 139) hx hb (tgt := 144) dX6_taken_139 (by decide) ?_
                      obtain rfl := Option.some.inj hf
                      exact hR H locs 144 ls hP hD hS dX6_taken_144
              · have hf := hf_t c_70 hf
                refine lv_iload_n (pc := 73) hx hb dX6_taken_73 rfl (lv_at hl 2 rfl) ?_
                obtain ⟨q94, hv94, hf⟩ := hf_b hf
                have hj94 : ∀ (H : Heap) (locs : List Loc) (ls : Array Slot), va_P D vwCl (wX A B S) H → va_D Ad (wX A B S) → va_S Ad s.heap H locs → lv_has ls 7 [(4, .ref (A 39))] → W p l e rm_X6_taken s m args below meth c H locs 0 0 Q (F0 m 94 ls [.int q94]) := by
                  intro H locs ls hP hD hS hl
                  refine lv_istore (pc := 94) hx hb (lv' := [(6, .int q94), (4, .ref (A 39))]) dX6_taken_94 hl (by decide) rfl (fun ls hl => ?_)
                  refine lv_goto (pc := 96) hx hb (tgt := 129) dX6_taken_96 (by decide) ?_
                  refine lv_iload (pc := 129) hx hb dX6_taken_129 (lv_at hl 0 rfl) ?_
                  refine lv_if_eq (pc := 131) hx hb (tgt := 142) dX6_taken_131 (by decide) (fun c_131 => ?_) (fun c_131 => ?_)
                  · have hf := hf_t c_131 hf
                    refine lv_bipush (pc := 142) hx hb (v := (-13)) dX6_taken_142 (by decide) ?_
                    obtain rfl := Option.some.inj hf
                    exact hR H locs 144 ls hP hD hS dX6_taken_144
                  · have hf := hf_f c_131 hf
                    refine lv_aload (pc := 134) hx hb dX6_taken_134 (lv_at hl 1 rfl) ?_
                    refine vXgRX6_286_39 (pc := 136) hx hb hts mU_958 inU3 hown hK hP (x := (gI S 37)) rfl dX6_taken_136 ?_
                    refine lv_goto (pc := 139) hx hb (tgt := 144) dX6_taken_139 (by decide) ?_
                    obtain rfl := Option.some.inj hf
                    exact hR H locs 144 ls hP hD hS dX6_taken_144
                refine lv_if_eq (pc := 74) hx hb (tgt := 93) dX6_taken_74 (by decide) (fun c_74 => ?_) (fun c_74 => ?_)
                · have hv94 := hf_t c_74 hv94
                  refine lv_iconst (pc := 93) hx hb (v := 0) dX6_taken_93 (by decide) ?_
                  obtain rfl := Option.some.inj hv94
                  exact hj94 H locs ls hP hD hS (lv_sub hl [1] rfl)
                · have hv94 := hf_f c_74 hv94
                  refine lv_aload (pc := 77) hx hb dX6_taken_77 (lv_at hl 1 rfl) ?_
                  refine vXgRX6_285_39 (pc := 79) hx hb hts mU_957 inU3 hown hK hP (x := (gI S 38)) rfl dX6_taken_79 ?_
                  refine lv_iload_n (pc := 82) hx hb dX6_taken_82 rfl (lv_at hl 5 rfl) ?_
                  refine lv_bipush (pc := 83) hx hb (v := 10) dX6_taken_83 (by decide) ?_
                  refine lv_isub (pc := 85) hx hb dX6_taken_85 ?_
                  refine lv_icmp_ne (pc := 86) hx hb (tgt := 93) dX6_taken_86 (by decide) (fun c_86 => ?_) (fun c_86 => ?_)
                  · have hv94 := hf_f c_86 hv94
                    refine lv_iconst (pc := 93) hx hb (v := 0) dX6_taken_93 (by decide) ?_
                    obtain rfl := Option.some.inj hv94
                    exact hj94 H locs ls hP hD hS (lv_sub hl [1] rfl)
                  · have hv94 := hf_t c_86 hv94
                    refine lv_iconst (pc := 89) hx hb (v := 1) dX6_taken_89 (by decide) ?_
                    refine lv_goto (pc := 90) hx hb (tgt := 94) dX6_taken_90 (by decide) ?_
                    obtain rfl := Option.some.inj hv94
                    exact hj94 H locs ls hP hD hS (lv_sub hl [1] rfl)
            · have hf := hf_t c_61 hf
              refine lv_bipush (pc := 64) hx hb (v := (-11)) dX6_taken_64 (by decide) ?_
              obtain rfl := Option.some.inj hf
              exact hR H locs 66 ls hP hD hS dX6_taken_66
          · have hf := hf_f e47_0 hf
            by_cases e47_1 : a1 = (1 : Int32)
            · have hf := hf_t e47_1 hf
              refine vXrq_38_1 (pc := 47) hx hb hK hP e47_1 dX6_taken_47 ?_
              refine lv_astore (pc := 48) hx hb (lv' := [(4, .ref (A 40)), (3, .int q21), (0, .ref (A 0)), (1, .int a1), (2, .int a2)]) dX6_taken_48 hl (by decide) rfl (fun ls hl => ?_)
              refine lv_aload_n (pc := 50) hx hb dX6_taken_50 rfl (lv_at hl 2 rfl) ?_
              refine lv_aload (pc := 51) hx hb dX6_taken_51 (lv_at hl 0 rfl) ?_
              obtain ⟨r53, hc53, hf⟩ := hf_b hf
              refine cl_V (pc := 53) (As := [.ref (A 40)]) (rest := []) hx hb hml hown hts (kX6_heldNow_40 l D A B _ S r53 hc53) (cwV 1 hts gwRX6_281 rfl rfl rfl hdX6_heldNow ⟨Nat.le_of_ble_eq_true rfl, Nat.le_of_ble_eq_true rfl⟩) hN hK hP hD hS hA (va_recv hK hP (ci := 6) (q0 := 0) rfl (eX_0 A B _)) rfl hl.1 rfl (Nat.le_of_ble_eq_true rfl) dX6_taken_53 (st1 := [.int r53]) rfl ⟨Nat.zero_le _, Nat.zero_le _⟩ (fun H locs hP hD hS => ?_)
              refine lv_istore (pc := 56) hx hb (lv' := [(5, .int r53), (4, .ref (A 40)), (3, .int q21), (0, .ref (A 0)), (1, .int a1), (2, .int a2)]) dX6_taken_56 hl (by decide) rfl (fun ls hl => ?_)
              refine lv_iload (pc := 58) hx hb dX6_taken_58 (lv_at hl 0 rfl) ?_
              refine lv_iconst (pc := 60) hx hb (v := 2) dX6_taken_60 (by decide) ?_
              refine lv_icmp_ne (pc := 61) hx hb (tgt := 67) dX6_taken_61 (by decide) (fun c_61 => ?_) (fun c_61 => ?_)
              · have hf := hf_f c_61 hf
                refine lv_iload (pc := 67) hx hb dX6_taken_67 (lv_at hl 0 rfl) ?_
                refine lv_iconst (pc := 69) hx hb (v := 1) dX6_taken_69 (by decide) ?_
                refine lv_icmp_ne (pc := 70) hx hb (tgt := 99) dX6_taken_70 (by decide) (fun c_70 => ?_) (fun c_70 => ?_)
                · have hf := hf_f c_70 hf
                  refine lv_iload_n (pc := 99) hx hb dX6_taken_99 rfl (lv_at hl 2 rfl) ?_
                  refine lv_if_ne (pc := 100) hx hb (tgt := 126) dX6_taken_100 (by decide) (fun c_100 => ?_) (fun c_100 => ?_)
                  · have hf := hf_f c_100 hf
                    refine lv_iconst (pc := 126) hx hb (v := 0) dX6_taken_126 (by decide) ?_
                    refine lv_istore (pc := 127) hx hb (lv' := [(6, .int 0), (5, .int r53), (4, .ref (A 40)), (3, .int q21), (0, .ref (A 0)), (1, .int a1), (2, .int a2)]) dX6_taken_127 hl (by decide) rfl (fun ls hl => ?_)
                    refine lv_iload (pc := 129) hx hb dX6_taken_129 (lv_at hl 0 rfl) ?_
                    refine lv_if_eq (pc := 131) hx hb (tgt := 142) dX6_taken_131 (by decide) (fun c_131 => ?_) (fun c_131 => ?_)
                    · have hf := hf_t c_131 hf
                      refine lv_bipush (pc := 142) hx hb (v := (-13)) dX6_taken_142 (by decide) ?_
                      obtain rfl := Option.some.inj hf
                      exact hR H locs 144 ls hP hD hS dX6_taken_144
                    · have hf := hf_f c_131 hf
                      refine lv_aload (pc := 134) hx hb dX6_taken_134 (lv_at hl 2 rfl) ?_
                      refine vXgRX6_286_40 (pc := 136) hx hb hts mU_958 inU3 hown hK hP (x := (gI S 40)) rfl dX6_taken_136 ?_
                      refine lv_goto (pc := 139) hx hb (tgt := 144) dX6_taken_139 (by decide) ?_
                      obtain rfl := Option.some.inj hf
                      exact hR H locs 144 ls hP hD hS dX6_taken_144
                  · have hf := hf_t c_100 hf
                    refine lv_aload_n (pc := 103) hx hb dX6_taken_103 rfl (lv_at hl 3 rfl) ?_
                    refine vXgRX6_10_0 (pc := 104) hx hb hts mU_16 inU6 hown hK hP dX6_taken_104 ?_
                    refine lv_aload (pc := 107) hx hb dX6_taken_107 (lv_at hl 1 rfl) ?_
                    refine vXgRX6_286_40 (pc := 109) hx hb hts mU_958 inU3 hown hK hP (x := (gI S 40)) rfl dX6_taken_109 ?_
                    obtain ⟨r112, hc112, hf⟩ := hf_b hf
                    refine cl_V (pc := 112) (As := [.int (gI S 40)]) (rest := []) hx hb hml hown hts (kX4_kindOf_1 l D A B _ S (gI S 40) r112 hc112) (cwV 1 hts gwRX6_128 rfl rfl rfl hdX4_kindOf ⟨Nat.le_of_ble_eq_true rfl, Nat.le_of_ble_eq_true rfl⟩) hN hK hP hD hS hA (va_recv hK hP (ci := 4) (q0 := 1) rfl (eX_1 A B _)) rfl hl.1 rfl (Nat.le_of_ble_eq_true rfl) dX6_taken_112 (st1 := [.int r112]) rfl ⟨Nat.zero_le _, Nat.zero_le _⟩ (fun H locs hP hD hS => ?_)
                    refine lv_iload_n (pc := 115) hx hb dX6_taken_115 rfl (lv_at hl 5 rfl) ?_
                    obtain ⟨r116, hc116, hf⟩ := hf_b hf
                    refine cl_S (pc := 116) (As := [.int r112, .int a2]) (rest := []) hx hb hml hown hts (kX6_isUnder l D A B _ S r112 a2 r116 hc116) (va_cwS 2 hts gwRX6_289 rfl rfl rfl hdX6_isUnder ⟨Nat.le_of_ble_eq_true rfl, Nat.le_of_ble_eq_true rfl⟩) hN hK hP hD hS hA rfl hl.1 rfl (Nat.le_of_ble_eq_true rfl) dX6_taken_116 (st1 := [.int r116]) rfl ⟨Nat.zero_le _, Nat.zero_le _⟩ (fun H locs hP hD hS => ?_)
                    refine lv_if_eq (pc := 119) hx hb (tgt := 126) dX6_taken_119 (by decide) (fun c_119 => ?_) (fun c_119 => ?_)
                    · have hf := hf_t c_119 hf
                      refine lv_iconst (pc := 126) hx hb (v := 0) dX6_taken_126 (by decide) ?_
                      refine lv_istore (pc := 127) hx hb (lv' := [(6, .int 0), (5, .int r53), (4, .ref (A 40)), (3, .int q21), (0, .ref (A 0)), (1, .int a1), (2, .int a2)]) dX6_taken_127 hl (by decide) rfl (fun ls hl => ?_)
                      refine lv_iload (pc := 129) hx hb dX6_taken_129 (lv_at hl 0 rfl) ?_
                      refine lv_if_eq (pc := 131) hx hb (tgt := 142) dX6_taken_131 (by decide) (fun c_131 => ?_) (fun c_131 => ?_)
                      · have hf := hf_t c_131 hf
                        refine lv_bipush (pc := 142) hx hb (v := (-13)) dX6_taken_142 (by decide) ?_
                        obtain rfl := Option.some.inj hf
                        exact hR H locs 144 ls hP hD hS dX6_taken_144
                      · have hf := hf_f c_131 hf
                        refine lv_aload (pc := 134) hx hb dX6_taken_134 (lv_at hl 2 rfl) ?_
                        refine vXgRX6_286_40 (pc := 136) hx hb hts mU_958 inU3 hown hK hP (x := (gI S 40)) rfl dX6_taken_136 ?_
                        refine lv_goto (pc := 139) hx hb (tgt := 144) dX6_taken_139 (by decide) ?_
                        obtain rfl := Option.some.inj hf
                        exact hR H locs 144 ls hP hD hS dX6_taken_144
                    · have hf := hf_f c_119 hf
                      refine lv_iconst (pc := 122) hx hb (v := 1) dX6_taken_122 (by decide) ?_
                      refine lv_goto (pc := 123) hx hb (tgt := 127) dX6_taken_123 (by decide) ?_
                      refine lv_istore (pc := 127) hx hb (lv' := [(6, .int 1), (5, .int r53), (4, .ref (A 40)), (3, .int q21), (0, .ref (A 0)), (1, .int a1), (2, .int a2)]) dX6_taken_127 hl (by decide) rfl (fun ls hl => ?_)
                      refine lv_iload (pc := 129) hx hb dX6_taken_129 (lv_at hl 0 rfl) ?_
                      refine lv_if_eq (pc := 131) hx hb (tgt := 142) dX6_taken_131 (by decide) (fun c_131 => ?_) (fun c_131 => ?_)
                      · have hf := hf_t c_131 hf
                        refine lv_bipush (pc := 142) hx hb (v := (-13)) dX6_taken_142 (by decide) ?_
                        obtain rfl := Option.some.inj hf
                        exact hR H locs 144 ls hP hD hS dX6_taken_144
                      · have hf := hf_f c_131 hf
                        refine lv_aload (pc := 134) hx hb dX6_taken_134 (lv_at hl 2 rfl) ?_
                        refine vXgRX6_286_40 (pc := 136) hx hb hts mU_958 inU3 hown hK hP (x := (gI S 40)) rfl dX6_taken_136 ?_
                        refine lv_goto (pc := 139) hx hb (tgt := 144) dX6_taken_139 (by decide) ?_
                        obtain rfl := Option.some.inj hf
                        exact hR H locs 144 ls hP hD hS dX6_taken_144
                · have hf := hf_t c_70 hf
                  refine lv_iload_n (pc := 73) hx hb dX6_taken_73 rfl (lv_at hl 2 rfl) ?_
                  obtain ⟨q94, hv94, hf⟩ := hf_b hf
                  have hj94 : ∀ (H : Heap) (locs : List Loc) (ls : Array Slot), va_P D vwCl (wX A B S) H → va_D Ad (wX A B S) → va_S Ad s.heap H locs → lv_has ls 7 [(4, .ref (A 40))] → W p l e rm_X6_taken s m args below meth c H locs 0 0 Q (F0 m 94 ls [.int q94]) := by
                    intro H locs ls hP hD hS hl
                    refine lv_istore (pc := 94) hx hb (lv' := [(6, .int q94), (4, .ref (A 40))]) dX6_taken_94 hl (by decide) rfl (fun ls hl => ?_)
                    refine lv_goto (pc := 96) hx hb (tgt := 129) dX6_taken_96 (by decide) ?_
                    refine lv_iload (pc := 129) hx hb dX6_taken_129 (lv_at hl 0 rfl) ?_
                    refine lv_if_eq (pc := 131) hx hb (tgt := 142) dX6_taken_131 (by decide) (fun c_131 => ?_) (fun c_131 => ?_)
                    · have hf := hf_t c_131 hf
                      refine lv_bipush (pc := 142) hx hb (v := (-13)) dX6_taken_142 (by decide) ?_
                      obtain rfl := Option.some.inj hf
                      exact hR H locs 144 ls hP hD hS dX6_taken_144
                    · have hf := hf_f c_131 hf
                      refine lv_aload (pc := 134) hx hb dX6_taken_134 (lv_at hl 1 rfl) ?_
                      refine vXgRX6_286_40 (pc := 136) hx hb hts mU_958 inU3 hown hK hP (x := (gI S 40)) rfl dX6_taken_136 ?_
                      refine lv_goto (pc := 139) hx hb (tgt := 144) dX6_taken_139 (by decide) ?_
                      obtain rfl := Option.some.inj hf
                      exact hR H locs 144 ls hP hD hS dX6_taken_144
                  refine lv_if_eq (pc := 74) hx hb (tgt := 93) dX6_taken_74 (by decide) (fun c_74 => ?_) (fun c_74 => ?_)
                  · have hv94 := hf_t c_74 hv94
                    refine lv_iconst (pc := 93) hx hb (v := 0) dX6_taken_93 (by decide) ?_
                    obtain rfl := Option.some.inj hv94
                    exact hj94 H locs ls hP hD hS (lv_sub hl [1] rfl)
                  · have hv94 := hf_f c_74 hv94
                    refine lv_aload (pc := 77) hx hb dX6_taken_77 (lv_at hl 1 rfl) ?_
                    refine vXgRX6_285_40 (pc := 79) hx hb hts mU_957 inU3 hown hK hP (x := (gI S 41)) rfl dX6_taken_79 ?_
                    refine lv_iload_n (pc := 82) hx hb dX6_taken_82 rfl (lv_at hl 5 rfl) ?_
                    refine lv_bipush (pc := 83) hx hb (v := 10) dX6_taken_83 (by decide) ?_
                    refine lv_isub (pc := 85) hx hb dX6_taken_85 ?_
                    refine lv_icmp_ne (pc := 86) hx hb (tgt := 93) dX6_taken_86 (by decide) (fun c_86 => ?_) (fun c_86 => ?_)
                    · have hv94 := hf_f c_86 hv94
                      refine lv_iconst (pc := 93) hx hb (v := 0) dX6_taken_93 (by decide) ?_
                      obtain rfl := Option.some.inj hv94
                      exact hj94 H locs ls hP hD hS (lv_sub hl [1] rfl)
                    · have hv94 := hf_t c_86 hv94
                      refine lv_iconst (pc := 89) hx hb (v := 1) dX6_taken_89 (by decide) ?_
                      refine lv_goto (pc := 90) hx hb (tgt := 94) dX6_taken_90 (by decide) ?_
                      obtain rfl := Option.some.inj hv94
                      exact hj94 H locs ls hP hD hS (lv_sub hl [1] rfl)
              · have hf := hf_t c_61 hf
                refine lv_bipush (pc := 64) hx hb (v := (-11)) dX6_taken_64 (by decide) ?_
                obtain rfl := Option.some.inj hf
                exact hR H locs 66 ls hP hD hS dX6_taken_66
            · have hf := hf_f e47_1 hf
              by_cases e47_2 : a1 = (2 : Int32)
              · have hf := hf_t e47_2 hf
                refine vXrq_38_2 (pc := 47) hx hb hK hP e47_2 dX6_taken_47 ?_
                refine lv_astore (pc := 48) hx hb (lv' := [(4, .ref (A 41)), (3, .int q21), (0, .ref (A 0)), (1, .int a1), (2, .int a2)]) dX6_taken_48 hl (by decide) rfl (fun ls hl => ?_)
                refine lv_aload_n (pc := 50) hx hb dX6_taken_50 rfl (lv_at hl 2 rfl) ?_
                refine lv_aload (pc := 51) hx hb dX6_taken_51 (lv_at hl 0 rfl) ?_
                obtain ⟨r53, hc53, hf⟩ := hf_b hf
                refine cl_V (pc := 53) (As := [.ref (A 41)]) (rest := []) hx hb hml hown hts (kX6_heldNow_41 l D A B _ S r53 hc53) (cwV 1 hts gwRX6_281 rfl rfl rfl hdX6_heldNow ⟨Nat.le_of_ble_eq_true rfl, Nat.le_of_ble_eq_true rfl⟩) hN hK hP hD hS hA (va_recv hK hP (ci := 6) (q0 := 0) rfl (eX_0 A B _)) rfl hl.1 rfl (Nat.le_of_ble_eq_true rfl) dX6_taken_53 (st1 := [.int r53]) rfl ⟨Nat.zero_le _, Nat.zero_le _⟩ (fun H locs hP hD hS => ?_)
                refine lv_istore (pc := 56) hx hb (lv' := [(5, .int r53), (4, .ref (A 41)), (3, .int q21), (0, .ref (A 0)), (1, .int a1), (2, .int a2)]) dX6_taken_56 hl (by decide) rfl (fun ls hl => ?_)
                refine lv_iload (pc := 58) hx hb dX6_taken_58 (lv_at hl 0 rfl) ?_
                refine lv_iconst (pc := 60) hx hb (v := 2) dX6_taken_60 (by decide) ?_
                refine lv_icmp_ne (pc := 61) hx hb (tgt := 67) dX6_taken_61 (by decide) (fun c_61 => ?_) (fun c_61 => ?_)
                · have hf := hf_f c_61 hf
                  refine lv_iload (pc := 67) hx hb dX6_taken_67 (lv_at hl 0 rfl) ?_
                  refine lv_iconst (pc := 69) hx hb (v := 1) dX6_taken_69 (by decide) ?_
                  refine lv_icmp_ne (pc := 70) hx hb (tgt := 99) dX6_taken_70 (by decide) (fun c_70 => ?_) (fun c_70 => ?_)
                  · have hf := hf_f c_70 hf
                    refine lv_iload_n (pc := 99) hx hb dX6_taken_99 rfl (lv_at hl 2 rfl) ?_
                    refine lv_if_ne (pc := 100) hx hb (tgt := 126) dX6_taken_100 (by decide) (fun c_100 => ?_) (fun c_100 => ?_)
                    · have hf := hf_f c_100 hf
                      refine lv_iconst (pc := 126) hx hb (v := 0) dX6_taken_126 (by decide) ?_
                      refine lv_istore (pc := 127) hx hb (lv' := [(6, .int 0), (5, .int r53), (4, .ref (A 41)), (3, .int q21), (0, .ref (A 0)), (1, .int a1), (2, .int a2)]) dX6_taken_127 hl (by decide) rfl (fun ls hl => ?_)
                      refine lv_iload (pc := 129) hx hb dX6_taken_129 (lv_at hl 0 rfl) ?_
                      refine lv_if_eq (pc := 131) hx hb (tgt := 142) dX6_taken_131 (by decide) (fun c_131 => ?_) (fun c_131 => ?_)
                      · have hf := hf_t c_131 hf
                        refine lv_bipush (pc := 142) hx hb (v := (-13)) dX6_taken_142 (by decide) ?_
                        obtain rfl := Option.some.inj hf
                        exact hR H locs 144 ls hP hD hS dX6_taken_144
                      · have hf := hf_f c_131 hf
                        refine lv_aload (pc := 134) hx hb dX6_taken_134 (lv_at hl 2 rfl) ?_
                        refine vXgRX6_286_41 (pc := 136) hx hb hts mU_958 inU3 hown hK hP (x := (gI S 43)) rfl dX6_taken_136 ?_
                        refine lv_goto (pc := 139) hx hb (tgt := 144) dX6_taken_139 (by decide) ?_
                        obtain rfl := Option.some.inj hf
                        exact hR H locs 144 ls hP hD hS dX6_taken_144
                    · have hf := hf_t c_100 hf
                      refine lv_aload_n (pc := 103) hx hb dX6_taken_103 rfl (lv_at hl 3 rfl) ?_
                      refine vXgRX6_10_0 (pc := 104) hx hb hts mU_16 inU6 hown hK hP dX6_taken_104 ?_
                      refine lv_aload (pc := 107) hx hb dX6_taken_107 (lv_at hl 1 rfl) ?_
                      refine vXgRX6_286_41 (pc := 109) hx hb hts mU_958 inU3 hown hK hP (x := (gI S 43)) rfl dX6_taken_109 ?_
                      obtain ⟨r112, hc112, hf⟩ := hf_b hf
                      refine cl_V (pc := 112) (As := [.int (gI S 43)]) (rest := []) hx hb hml hown hts (kX4_kindOf_1 l D A B _ S (gI S 43) r112 hc112) (cwV 1 hts gwRX6_128 rfl rfl rfl hdX4_kindOf ⟨Nat.le_of_ble_eq_true rfl, Nat.le_of_ble_eq_true rfl⟩) hN hK hP hD hS hA (va_recv hK hP (ci := 4) (q0 := 1) rfl (eX_1 A B _)) rfl hl.1 rfl (Nat.le_of_ble_eq_true rfl) dX6_taken_112 (st1 := [.int r112]) rfl ⟨Nat.zero_le _, Nat.zero_le _⟩ (fun H locs hP hD hS => ?_)
                      refine lv_iload_n (pc := 115) hx hb dX6_taken_115 rfl (lv_at hl 5 rfl) ?_
                      obtain ⟨r116, hc116, hf⟩ := hf_b hf
                      refine cl_S (pc := 116) (As := [.int r112, .int a2]) (rest := []) hx hb hml hown hts (kX6_isUnder l D A B _ S r112 a2 r116 hc116) (va_cwS 2 hts gwRX6_289 rfl rfl rfl hdX6_isUnder ⟨Nat.le_of_ble_eq_true rfl, Nat.le_of_ble_eq_true rfl⟩) hN hK hP hD hS hA rfl hl.1 rfl (Nat.le_of_ble_eq_true rfl) dX6_taken_116 (st1 := [.int r116]) rfl ⟨Nat.zero_le _, Nat.zero_le _⟩ (fun H locs hP hD hS => ?_)
                      refine lv_if_eq (pc := 119) hx hb (tgt := 126) dX6_taken_119 (by decide) (fun c_119 => ?_) (fun c_119 => ?_)
                      · have hf := hf_t c_119 hf
                        refine lv_iconst (pc := 126) hx hb (v := 0) dX6_taken_126 (by decide) ?_
                        refine lv_istore (pc := 127) hx hb (lv' := [(6, .int 0), (5, .int r53), (4, .ref (A 41)), (3, .int q21), (0, .ref (A 0)), (1, .int a1), (2, .int a2)]) dX6_taken_127 hl (by decide) rfl (fun ls hl => ?_)
                        refine lv_iload (pc := 129) hx hb dX6_taken_129 (lv_at hl 0 rfl) ?_
                        refine lv_if_eq (pc := 131) hx hb (tgt := 142) dX6_taken_131 (by decide) (fun c_131 => ?_) (fun c_131 => ?_)
                        · have hf := hf_t c_131 hf
                          refine lv_bipush (pc := 142) hx hb (v := (-13)) dX6_taken_142 (by decide) ?_
                          obtain rfl := Option.some.inj hf
                          exact hR H locs 144 ls hP hD hS dX6_taken_144
                        · have hf := hf_f c_131 hf
                          refine lv_aload (pc := 134) hx hb dX6_taken_134 (lv_at hl 2 rfl) ?_
                          refine vXgRX6_286_41 (pc := 136) hx hb hts mU_958 inU3 hown hK hP (x := (gI S 43)) rfl dX6_taken_136 ?_
                          refine lv_goto (pc := 139) hx hb (tgt := 144) dX6_taken_139 (by decide) ?_
                          obtain rfl := Option.some.inj hf
                          exact hR H locs 144 ls hP hD hS dX6_taken_144
                      · have hf := hf_f c_119 hf
                        refine lv_iconst (pc := 122) hx hb (v := 1) dX6_taken_122 (by decide) ?_
                        refine lv_goto (pc := 123) hx hb (tgt := 127) dX6_taken_123 (by decide) ?_
                        refine lv_istore (pc := 127) hx hb (lv' := [(6, .int 1), (5, .int r53), (4, .ref (A 41)), (3, .int q21), (0, .ref (A 0)), (1, .int a1), (2, .int a2)]) dX6_taken_127 hl (by decide) rfl (fun ls hl => ?_)
                        refine lv_iload (pc := 129) hx hb dX6_taken_129 (lv_at hl 0 rfl) ?_
                        refine lv_if_eq (pc := 131) hx hb (tgt := 142) dX6_taken_131 (by decide) (fun c_131 => ?_) (fun c_131 => ?_)
                        · have hf := hf_t c_131 hf
                          refine lv_bipush (pc := 142) hx hb (v := (-13)) dX6_taken_142 (by decide) ?_
                          obtain rfl := Option.some.inj hf
                          exact hR H locs 144 ls hP hD hS dX6_taken_144
                        · have hf := hf_f c_131 hf
                          refine lv_aload (pc := 134) hx hb dX6_taken_134 (lv_at hl 2 rfl) ?_
                          refine vXgRX6_286_41 (pc := 136) hx hb hts mU_958 inU3 hown hK hP (x := (gI S 43)) rfl dX6_taken_136 ?_
                          refine lv_goto (pc := 139) hx hb (tgt := 144) dX6_taken_139 (by decide) ?_
                          obtain rfl := Option.some.inj hf
                          exact hR H locs 144 ls hP hD hS dX6_taken_144
                  · have hf := hf_t c_70 hf
                    refine lv_iload_n (pc := 73) hx hb dX6_taken_73 rfl (lv_at hl 2 rfl) ?_
                    obtain ⟨q94, hv94, hf⟩ := hf_b hf
                    have hj94 : ∀ (H : Heap) (locs : List Loc) (ls : Array Slot), va_P D vwCl (wX A B S) H → va_D Ad (wX A B S) → va_S Ad s.heap H locs → lv_has ls 7 [(4, .ref (A 41))] → W p l e rm_X6_taken s m args below meth c H locs 0 0 Q (F0 m 94 ls [.int q94]) := by
                      intro H locs ls hP hD hS hl
                      refine lv_istore (pc := 94) hx hb (lv' := [(6, .int q94), (4, .ref (A 41))]) dX6_taken_94 hl (by decide) rfl (fun ls hl => ?_)
                      refine lv_goto (pc := 96) hx hb (tgt := 129) dX6_taken_96 (by decide) ?_
                      refine lv_iload (pc := 129) hx hb dX6_taken_129 (lv_at hl 0 rfl) ?_
                      refine lv_if_eq (pc := 131) hx hb (tgt := 142) dX6_taken_131 (by decide) (fun c_131 => ?_) (fun c_131 => ?_)
                      · have hf := hf_t c_131 hf
                        refine lv_bipush (pc := 142) hx hb (v := (-13)) dX6_taken_142 (by decide) ?_
                        obtain rfl := Option.some.inj hf
                        exact hR H locs 144 ls hP hD hS dX6_taken_144
                      · have hf := hf_f c_131 hf
                        refine lv_aload (pc := 134) hx hb dX6_taken_134 (lv_at hl 1 rfl) ?_
                        refine vXgRX6_286_41 (pc := 136) hx hb hts mU_958 inU3 hown hK hP (x := (gI S 43)) rfl dX6_taken_136 ?_
                        refine lv_goto (pc := 139) hx hb (tgt := 144) dX6_taken_139 (by decide) ?_
                        obtain rfl := Option.some.inj hf
                        exact hR H locs 144 ls hP hD hS dX6_taken_144
                    refine lv_if_eq (pc := 74) hx hb (tgt := 93) dX6_taken_74 (by decide) (fun c_74 => ?_) (fun c_74 => ?_)
                    · have hv94 := hf_t c_74 hv94
                      refine lv_iconst (pc := 93) hx hb (v := 0) dX6_taken_93 (by decide) ?_
                      obtain rfl := Option.some.inj hv94
                      exact hj94 H locs ls hP hD hS (lv_sub hl [1] rfl)
                    · have hv94 := hf_f c_74 hv94
                      refine lv_aload (pc := 77) hx hb dX6_taken_77 (lv_at hl 1 rfl) ?_
                      refine vXgRX6_285_41 (pc := 79) hx hb hts mU_957 inU3 hown hK hP (x := (gI S 44)) rfl dX6_taken_79 ?_
                      refine lv_iload_n (pc := 82) hx hb dX6_taken_82 rfl (lv_at hl 5 rfl) ?_
                      refine lv_bipush (pc := 83) hx hb (v := 10) dX6_taken_83 (by decide) ?_
                      refine lv_isub (pc := 85) hx hb dX6_taken_85 ?_
                      refine lv_icmp_ne (pc := 86) hx hb (tgt := 93) dX6_taken_86 (by decide) (fun c_86 => ?_) (fun c_86 => ?_)
                      · have hv94 := hf_f c_86 hv94
                        refine lv_iconst (pc := 93) hx hb (v := 0) dX6_taken_93 (by decide) ?_
                        obtain rfl := Option.some.inj hv94
                        exact hj94 H locs ls hP hD hS (lv_sub hl [1] rfl)
                      · have hv94 := hf_t c_86 hv94
                        refine lv_iconst (pc := 89) hx hb (v := 1) dX6_taken_89 (by decide) ?_
                        refine lv_goto (pc := 90) hx hb (tgt := 94) dX6_taken_90 (by decide) ?_
                        obtain rfl := Option.some.inj hv94
                        exact hj94 H locs ls hP hD hS (lv_sub hl [1] rfl)
                · have hf := hf_t c_61 hf
                  refine lv_bipush (pc := 64) hx hb (v := (-11)) dX6_taken_64 (by decide) ?_
                  obtain rfl := Option.some.inj hf
                  exact hR H locs 66 ls hP hD hS dX6_taken_66
              · have hf := hf_f e47_2 hf
                by_cases e47_3 : a1 = (3 : Int32)
                · have hf := hf_t e47_3 hf
                  refine vXrq_38_3 (pc := 47) hx hb hK hP e47_3 dX6_taken_47 ?_
                  refine lv_astore (pc := 48) hx hb (lv' := [(4, .ref (A 42)), (3, .int q21), (0, .ref (A 0)), (1, .int a1), (2, .int a2)]) dX6_taken_48 hl (by decide) rfl (fun ls hl => ?_)
                  refine lv_aload_n (pc := 50) hx hb dX6_taken_50 rfl (lv_at hl 2 rfl) ?_
                  refine lv_aload (pc := 51) hx hb dX6_taken_51 (lv_at hl 0 rfl) ?_
                  obtain ⟨r53, hc53, hf⟩ := hf_b hf
                  refine cl_V (pc := 53) (As := [.ref (A 42)]) (rest := []) hx hb hml hown hts (kX6_heldNow_42 l D A B _ S r53 hc53) (cwV 1 hts gwRX6_281 rfl rfl rfl hdX6_heldNow ⟨Nat.le_of_ble_eq_true rfl, Nat.le_of_ble_eq_true rfl⟩) hN hK hP hD hS hA (va_recv hK hP (ci := 6) (q0 := 0) rfl (eX_0 A B _)) rfl hl.1 rfl (Nat.le_of_ble_eq_true rfl) dX6_taken_53 (st1 := [.int r53]) rfl ⟨Nat.zero_le _, Nat.zero_le _⟩ (fun H locs hP hD hS => ?_)
                  refine lv_istore (pc := 56) hx hb (lv' := [(5, .int r53), (4, .ref (A 42)), (3, .int q21), (0, .ref (A 0)), (1, .int a1), (2, .int a2)]) dX6_taken_56 hl (by decide) rfl (fun ls hl => ?_)
                  refine lv_iload (pc := 58) hx hb dX6_taken_58 (lv_at hl 0 rfl) ?_
                  refine lv_iconst (pc := 60) hx hb (v := 2) dX6_taken_60 (by decide) ?_
                  refine lv_icmp_ne (pc := 61) hx hb (tgt := 67) dX6_taken_61 (by decide) (fun c_61 => ?_) (fun c_61 => ?_)
                  · have hf := hf_f c_61 hf
                    refine lv_iload (pc := 67) hx hb dX6_taken_67 (lv_at hl 0 rfl) ?_
                    refine lv_iconst (pc := 69) hx hb (v := 1) dX6_taken_69 (by decide) ?_
                    refine lv_icmp_ne (pc := 70) hx hb (tgt := 99) dX6_taken_70 (by decide) (fun c_70 => ?_) (fun c_70 => ?_)
                    · have hf := hf_f c_70 hf
                      refine lv_iload_n (pc := 99) hx hb dX6_taken_99 rfl (lv_at hl 2 rfl) ?_
                      refine lv_if_ne (pc := 100) hx hb (tgt := 126) dX6_taken_100 (by decide) (fun c_100 => ?_) (fun c_100 => ?_)
                      · have hf := hf_f c_100 hf
                        refine lv_iconst (pc := 126) hx hb (v := 0) dX6_taken_126 (by decide) ?_
                        refine lv_istore (pc := 127) hx hb (lv' := [(6, .int 0), (5, .int r53), (4, .ref (A 42)), (3, .int q21), (0, .ref (A 0)), (1, .int a1), (2, .int a2)]) dX6_taken_127 hl (by decide) rfl (fun ls hl => ?_)
                        refine lv_iload (pc := 129) hx hb dX6_taken_129 (lv_at hl 0 rfl) ?_
                        refine lv_if_eq (pc := 131) hx hb (tgt := 142) dX6_taken_131 (by decide) (fun c_131 => ?_) (fun c_131 => ?_)
                        · have hf := hf_t c_131 hf
                          refine lv_bipush (pc := 142) hx hb (v := (-13)) dX6_taken_142 (by decide) ?_
                          obtain rfl := Option.some.inj hf
                          exact hR H locs 144 ls hP hD hS dX6_taken_144
                        · have hf := hf_f c_131 hf
                          refine lv_aload (pc := 134) hx hb dX6_taken_134 (lv_at hl 2 rfl) ?_
                          refine vXgRX6_286_42 (pc := 136) hx hb hts mU_958 inU3 hown hK hP (x := (gI S 46)) rfl dX6_taken_136 ?_
                          refine lv_goto (pc := 139) hx hb (tgt := 144) dX6_taken_139 (by decide) ?_
                          obtain rfl := Option.some.inj hf
                          exact hR H locs 144 ls hP hD hS dX6_taken_144
                      · have hf := hf_t c_100 hf
                        refine lv_aload_n (pc := 103) hx hb dX6_taken_103 rfl (lv_at hl 3 rfl) ?_
                        refine vXgRX6_10_0 (pc := 104) hx hb hts mU_16 inU6 hown hK hP dX6_taken_104 ?_
                        refine lv_aload (pc := 107) hx hb dX6_taken_107 (lv_at hl 1 rfl) ?_
                        refine vXgRX6_286_42 (pc := 109) hx hb hts mU_958 inU3 hown hK hP (x := (gI S 46)) rfl dX6_taken_109 ?_
                        obtain ⟨r112, hc112, hf⟩ := hf_b hf
                        refine cl_V (pc := 112) (As := [.int (gI S 46)]) (rest := []) hx hb hml hown hts (kX4_kindOf_1 l D A B _ S (gI S 46) r112 hc112) (cwV 1 hts gwRX6_128 rfl rfl rfl hdX4_kindOf ⟨Nat.le_of_ble_eq_true rfl, Nat.le_of_ble_eq_true rfl⟩) hN hK hP hD hS hA (va_recv hK hP (ci := 4) (q0 := 1) rfl (eX_1 A B _)) rfl hl.1 rfl (Nat.le_of_ble_eq_true rfl) dX6_taken_112 (st1 := [.int r112]) rfl ⟨Nat.zero_le _, Nat.zero_le _⟩ (fun H locs hP hD hS => ?_)
                        refine lv_iload_n (pc := 115) hx hb dX6_taken_115 rfl (lv_at hl 5 rfl) ?_
                        obtain ⟨r116, hc116, hf⟩ := hf_b hf
                        refine cl_S (pc := 116) (As := [.int r112, .int a2]) (rest := []) hx hb hml hown hts (kX6_isUnder l D A B _ S r112 a2 r116 hc116) (va_cwS 2 hts gwRX6_289 rfl rfl rfl hdX6_isUnder ⟨Nat.le_of_ble_eq_true rfl, Nat.le_of_ble_eq_true rfl⟩) hN hK hP hD hS hA rfl hl.1 rfl (Nat.le_of_ble_eq_true rfl) dX6_taken_116 (st1 := [.int r116]) rfl ⟨Nat.zero_le _, Nat.zero_le _⟩ (fun H locs hP hD hS => ?_)
                        refine lv_if_eq (pc := 119) hx hb (tgt := 126) dX6_taken_119 (by decide) (fun c_119 => ?_) (fun c_119 => ?_)
                        · have hf := hf_t c_119 hf
                          refine lv_iconst (pc := 126) hx hb (v := 0) dX6_taken_126 (by decide) ?_
                          refine lv_istore (pc := 127) hx hb (lv' := [(6, .int 0), (5, .int r53), (4, .ref (A 42)), (3, .int q21), (0, .ref (A 0)), (1, .int a1), (2, .int a2)]) dX6_taken_127 hl (by decide) rfl (fun ls hl => ?_)
                          refine lv_iload (pc := 129) hx hb dX6_taken_129 (lv_at hl 0 rfl) ?_
                          refine lv_if_eq (pc := 131) hx hb (tgt := 142) dX6_taken_131 (by decide) (fun c_131 => ?_) (fun c_131 => ?_)
                          · have hf := hf_t c_131 hf
                            refine lv_bipush (pc := 142) hx hb (v := (-13)) dX6_taken_142 (by decide) ?_
                            obtain rfl := Option.some.inj hf
                            exact hR H locs 144 ls hP hD hS dX6_taken_144
                          · have hf := hf_f c_131 hf
                            refine lv_aload (pc := 134) hx hb dX6_taken_134 (lv_at hl 2 rfl) ?_
                            refine vXgRX6_286_42 (pc := 136) hx hb hts mU_958 inU3 hown hK hP (x := (gI S 46)) rfl dX6_taken_136 ?_
                            refine lv_goto (pc := 139) hx hb (tgt := 144) dX6_taken_139 (by decide) ?_
                            obtain rfl := Option.some.inj hf
                            exact hR H locs 144 ls hP hD hS dX6_taken_144
                        · have hf := hf_f c_119 hf
                          refine lv_iconst (pc := 122) hx hb (v := 1) dX6_taken_122 (by decide) ?_
                          refine lv_goto (pc := 123) hx hb (tgt := 127) dX6_taken_123 (by decide) ?_
                          refine lv_istore (pc := 127) hx hb (lv' := [(6, .int 1), (5, .int r53), (4, .ref (A 42)), (3, .int q21), (0, .ref (A 0)), (1, .int a1), (2, .int a2)]) dX6_taken_127 hl (by decide) rfl (fun ls hl => ?_)
                          refine lv_iload (pc := 129) hx hb dX6_taken_129 (lv_at hl 0 rfl) ?_
                          refine lv_if_eq (pc := 131) hx hb (tgt := 142) dX6_taken_131 (by decide) (fun c_131 => ?_) (fun c_131 => ?_)
                          · have hf := hf_t c_131 hf
                            refine lv_bipush (pc := 142) hx hb (v := (-13)) dX6_taken_142 (by decide) ?_
                            obtain rfl := Option.some.inj hf
                            exact hR H locs 144 ls hP hD hS dX6_taken_144
                          · have hf := hf_f c_131 hf
                            refine lv_aload (pc := 134) hx hb dX6_taken_134 (lv_at hl 2 rfl) ?_
                            refine vXgRX6_286_42 (pc := 136) hx hb hts mU_958 inU3 hown hK hP (x := (gI S 46)) rfl dX6_taken_136 ?_
                            refine lv_goto (pc := 139) hx hb (tgt := 144) dX6_taken_139 (by decide) ?_
                            obtain rfl := Option.some.inj hf
                            exact hR H locs 144 ls hP hD hS dX6_taken_144
                    · have hf := hf_t c_70 hf
                      refine lv_iload_n (pc := 73) hx hb dX6_taken_73 rfl (lv_at hl 2 rfl) ?_
                      obtain ⟨q94, hv94, hf⟩ := hf_b hf
                      have hj94 : ∀ (H : Heap) (locs : List Loc) (ls : Array Slot), va_P D vwCl (wX A B S) H → va_D Ad (wX A B S) → va_S Ad s.heap H locs → lv_has ls 7 [(4, .ref (A 42))] → W p l e rm_X6_taken s m args below meth c H locs 0 0 Q (F0 m 94 ls [.int q94]) := by
                        intro H locs ls hP hD hS hl
                        refine lv_istore (pc := 94) hx hb (lv' := [(6, .int q94), (4, .ref (A 42))]) dX6_taken_94 hl (by decide) rfl (fun ls hl => ?_)
                        refine lv_goto (pc := 96) hx hb (tgt := 129) dX6_taken_96 (by decide) ?_
                        refine lv_iload (pc := 129) hx hb dX6_taken_129 (lv_at hl 0 rfl) ?_
                        refine lv_if_eq (pc := 131) hx hb (tgt := 142) dX6_taken_131 (by decide) (fun c_131 => ?_) (fun c_131 => ?_)
                        · have hf := hf_t c_131 hf
                          refine lv_bipush (pc := 142) hx hb (v := (-13)) dX6_taken_142 (by decide) ?_
                          obtain rfl := Option.some.inj hf
                          exact hR H locs 144 ls hP hD hS dX6_taken_144
                        · have hf := hf_f c_131 hf
                          refine lv_aload (pc := 134) hx hb dX6_taken_134 (lv_at hl 1 rfl) ?_
                          refine vXgRX6_286_42 (pc := 136) hx hb hts mU_958 inU3 hown hK hP (x := (gI S 46)) rfl dX6_taken_136 ?_
                          refine lv_goto (pc := 139) hx hb (tgt := 144) dX6_taken_139 (by decide) ?_
                          obtain rfl := Option.some.inj hf
                          exact hR H locs 144 ls hP hD hS dX6_taken_144
                      refine lv_if_eq (pc := 74) hx hb (tgt := 93) dX6_taken_74 (by decide) (fun c_74 => ?_) (fun c_74 => ?_)
                      · have hv94 := hf_t c_74 hv94
                        refine lv_iconst (pc := 93) hx hb (v := 0) dX6_taken_93 (by decide) ?_
                        obtain rfl := Option.some.inj hv94
                        exact hj94 H locs ls hP hD hS (lv_sub hl [1] rfl)
                      · have hv94 := hf_f c_74 hv94
                        refine lv_aload (pc := 77) hx hb dX6_taken_77 (lv_at hl 1 rfl) ?_
                        refine vXgRX6_285_42 (pc := 79) hx hb hts mU_957 inU3 hown hK hP (x := (gI S 47)) rfl dX6_taken_79 ?_
                        refine lv_iload_n (pc := 82) hx hb dX6_taken_82 rfl (lv_at hl 5 rfl) ?_
                        refine lv_bipush (pc := 83) hx hb (v := 10) dX6_taken_83 (by decide) ?_
                        refine lv_isub (pc := 85) hx hb dX6_taken_85 ?_
                        refine lv_icmp_ne (pc := 86) hx hb (tgt := 93) dX6_taken_86 (by decide) (fun c_86 => ?_) (fun c_86 => ?_)
                        · have hv94 := hf_f c_86 hv94
                          refine lv_iconst (pc := 93) hx hb (v := 0) dX6_taken_93 (by decide) ?_
                          obtain rfl := Option.some.inj hv94
                          exact hj94 H locs ls hP hD hS (lv_sub hl [1] rfl)
                        · have hv94 := hf_t c_86 hv94
                          refine lv_iconst (pc := 89) hx hb (v := 1) dX6_taken_89 (by decide) ?_
                          refine lv_goto (pc := 90) hx hb (tgt := 94) dX6_taken_90 (by decide) ?_
                          obtain rfl := Option.some.inj hv94
                          exact hj94 H locs ls hP hD hS (lv_sub hl [1] rfl)
                  · have hf := hf_t c_61 hf
                    refine lv_bipush (pc := 64) hx hb (v := (-11)) dX6_taken_64 (by decide) ?_
                    obtain rfl := Option.some.inj hf
                    exact hR H locs 66 ls hP hD hS dX6_taken_66
                · have hf := hf_f e47_3 hf
                  exact hf_0 hf
        · have hf := hf_t c_37 hf
          refine lv_iconst (pc := 40) hx hb (v := (-1)) dX6_taken_40 (by decide) ?_
          obtain rfl := Option.some.inj hf
          exact hR H locs 41 ls hP hD hS dX6_taken_41
  refine lv_icmp_lt (pc := 3) hx hb (tgt := 20) dX6_taken_3 (by decide) (fun c_3 => ?_) (fun c_3 => ?_)
  · have hv21 := hf_t c_3 hv21
    refine lv_iconst (pc := 20) hx hb (v := 0) dX6_taken_20 (by decide) ?_
    obtain rfl := Option.some.inj hv21
    exact hj21 H locs ls hP hD hS (lv_sub hl [0, 1, 2] rfl)
  · have hv21 := hf_f c_3 hv21
    refine lv_iload_n (pc := 6) hx hb dX6_taken_6 rfl (lv_at hl 2 rfl) ?_
    refine lv_bipush (pc := 7) hx hb (v := 10) dX6_taken_7 (by decide) ?_
    refine lv_isub (pc := 9) hx hb dX6_taken_9 ?_
    obtain ⟨r10, hc10, hv21⟩ := hf_b hv21
    refine cl_S (pc := 10) (As := [.int (a2 - 10)]) (rest := []) hx hb hml hown hts (kX6_isSort l D A B _ S (a2 - 10) r10 hc10) (va_cwS 1 hts gwRX6_249 rfl rfl rfl hdX6_isSort ⟨Nat.le_of_ble_eq_true rfl, Nat.le_of_ble_eq_true rfl⟩) hN hK hP hD hS hA rfl hl.1 rfl (Nat.le_of_ble_eq_true rfl) dX6_taken_10 (st1 := [.int r10]) rfl ⟨Nat.zero_le _, Nat.zero_le _⟩ (fun H locs hP hD hS => ?_)
    refine lv_if_eq (pc := 13) hx hb (tgt := 20) dX6_taken_13 (by decide) (fun c_13 => ?_) (fun c_13 => ?_)
    · have hv21 := hf_t c_13 hv21
      refine lv_iconst (pc := 20) hx hb (v := 0) dX6_taken_20 (by decide) ?_
      obtain rfl := Option.some.inj hv21
      exact hj21 H locs ls hP hD hS (lv_sub hl [0, 1, 2] rfl)
    · have hv21 := hf_f c_13 hv21
      refine lv_iconst (pc := 16) hx hb (v := 1) dX6_taken_16 (by decide) ?_
      refine lv_goto (pc := 17) hx hb (tgt := 21) dX6_taken_17 (by decide) ?_
      obtain rfl := Option.some.inj hv21
      exact hj21 H locs ls hP hD hS (lv_sub hl [0, 1, 2] rfl)
set_option maxHeartbeats 4000000 in
set_option maxRecDepth 100000 in
theorem kX0_forget_27 (l : Launch) (D : va_G) (A : Nat → Nat) (B : Nat → ClassId) (sz : Nat) (S : w_S) (z : w_S) (hf : fX0_forget_27 S = some z) : MetW l yX0_forget (wsO yX0_forget cX0_forget 1 none) rm_X0_forget [.ref (A 27)] D (tyB B) (wX A B S) (wX A B z) sz (none) := by
  refine MetW.mkV (cc := cX0_forget) (maxL := 1) (by decide) (Nat.le_of_ble_eq_true rfl) ?_
  intro p e s m args below meth c Ad Q hx hb hts hown hml hN hK hA hR H locs ls hP hD hS hl
  have hl : lv_has ls 1 [(0, .ref (A 27))] := hl
  rw [fX0_forget_27] at hf
  refine lv_aload_n (pc := 0) hx hb dX0_forget_0 rfl (lv_at hl 0 rfl) ?_
  refine lv_iconst (pc := 1) hx hb (v := 0) dX0_forget_1 (by decide) ?_
  refine vXpRX0_15_27 (pc := 2) hx hb hts mU_994 inU0 hown hK hP hD hS dX0_forget_2 (fun H locs hP hD hS => ?_)
  refine lv_aload_n (pc := 5) hx hb dX0_forget_5 rfl (lv_at hl 0 rfl) ?_
  refine lv_iconst (pc := 6) hx hb (v := 0) dX0_forget_6 (by decide) ?_
  refine vXpRX0_19_27 (pc := 7) hx hb hts mU_995 inU0 hown hK hP hD hS (by decide) dX0_forget_7 (fun H locs hP hD hS => ?_)
  obtain rfl := Option.some.inj hf
  exact hR H locs 10 ls hP hD hS dX0_forget_10
set_option maxHeartbeats 4000000 in
set_option maxRecDepth 100000 in
theorem kX0_begin_27 (l : Launch) (D : va_G) (A : Nat → Nat) (B : Nat → ClassId) (sz : Nat) (S : w_S) (a1 : Int32) (z : w_S) (hf : fX0_begin_27 S a1 = some z) : MetW l yX0_begin (wsO yX0_begin cX0_begin 2 none) rm_X0_begin [.ref (A 27), .int a1] D (tyB B) (wX A B S) (wX A B z) sz (none) := by
  refine MetW.mkV (cc := cX0_begin) (maxL := 2) (by decide) (Nat.le_of_ble_eq_true rfl) ?_
  intro p e s m args below meth c Ad Q hx hb hts hown hml hN hK hA hR H locs ls hP hD hS hl
  have hl : lv_has ls 2 [(0, .ref (A 27)), (1, .int a1)] := hl
  rw [fX0_begin_27] at hf
  refine lv_aload_n (pc := 0) hx hb dX0_begin_0 rfl (lv_at hl 0 rfl) ?_
  refine vXgRX0_19_27 (pc := 1) hx hb hts mU_995 inU0 hown hK hP (x := (gI S 27)) rfl dX0_begin_1 ?_
  refine lv_if_ne (pc := 4) hx hb (tgt := 43) dX0_begin_4 (by decide) (fun c_4 => ?_) (fun c_4 => ?_)
  · have hf := hf_f c_4 hf
    obtain rfl := Option.some.inj hf
    exact hR H locs 43 ls hP hD hS dX0_begin_43
  · have hf := hf_t c_4 hf
    refine lv_aload_n (pc := 7) hx hb dX0_begin_7 rfl (lv_at hl 0 rfl) ?_
    refine vXgRX0_15_27 (pc := 8) hx hb hts mU_994 inU0 hown hK hP (x := (gI S 26)) rfl dX0_begin_8 ?_
    refine lv_if_lt (pc := 11) hx hb (tgt := 43) dX0_begin_11 (by decide) (fun c_11 => ?_) (fun c_11 => ?_)
    · have hf := hf_t c_11 hf
      obtain rfl := Option.some.inj hf
      exact hR H locs 43 ls hP hD hS dX0_begin_43
    · have hf := hf_f c_11 hf
      refine lv_aload_n (pc := 14) hx hb dX0_begin_14 rfl (lv_at hl 0 rfl) ?_
      refine vXgRX0_15_27 (pc := 15) hx hb hts mU_994 inU0 hown hK hP (x := (gI S 26)) rfl dX0_begin_15 ?_
      refine lv_bipush (pc := 18) hx hb (v := 30) dX0_begin_18 (by decide) ?_
      refine lv_icmp_ge (pc := 20) hx hb (tgt := 43) dX0_begin_20 (by decide) (fun c_20 => ?_) (fun c_20 => ?_)
      · have hf := hf_t c_20 hf
        obtain rfl := Option.some.inj hf
        exact hR H locs 43 ls hP hD hS dX0_begin_43
      · have hf := hf_f c_20 hf
        refine lv_aload_n (pc := 23) hx hb dX0_begin_23 rfl (lv_at hl 0 rfl) ?_
        refine vXgRX0_9_27 (pc := 24) hx hb hts mU_67 inU0 hown hK hP dX0_begin_24 ?_
        refine lv_aload_n (pc := 27) hx hb dX0_begin_27 rfl (lv_at hl 0 rfl) ?_
        refine vXgRX0_15_27 (pc := 28) hx hb hts mU_994 inU0 hown hK hP (x := (gI S 26)) rfl dX0_begin_28 ?_
        refine lv_iload_n (pc := 31) hx hb dX0_begin_31 rfl (lv_at hl 1 rfl) ?_
        obtain ⟨hg32, hf⟩ := hf_g hf
        refine vXwa_28 (pc := 32) hx hb hK hP hD hS (f := (gA S 18)) rfl hg32 dX0_begin_32 (fun H locs hP hD hS => ?_)
        refine lv_aload_n (pc := 33) hx hb dX0_begin_33 rfl (lv_at hl 0 rfl) ?_
        refine lv_dup (pc := 34) hx hb dX0_begin_34 rfl ?_
        refine vXgRX0_15_27 (pc := 35) hx hb hts mU_994 inU0 hown hK hP (x := (gI S 26)) rfl dX0_begin_35 ?_
        refine lv_iconst (pc := 38) hx hb (v := 1) dX0_begin_38 (by decide) ?_
        refine lv_iadd (pc := 39) hx hb dX0_begin_39 ?_
        refine vXpRX0_15_27 (pc := 40) hx hb hts mU_994 inU0 hown hK hP hD hS dX0_begin_40 (fun H locs hP hD hS => ?_)
        obtain rfl := Option.some.inj hf
        exact hR H locs 43 ls hP hD hS dX0_begin_43
set_option maxHeartbeats 4000000 in
set_option maxRecDepth 100000 in
theorem kX0_closes_27_D0 (l : Launch) (D : va_G) (A : Nat → Nat) (B : Nat → ClassId) (sz : Nat) (S : w_S) (a1 : Int32) (a2 : Int32) (z : Int32 × w_S) (hf : fX0_closes_27_D0 S a1 a2 = some z) : MetW l yX0_closes (wsO yX0_closes cX0_closes 3 (some .int)) rm_X0_closes_D0 [.ref (A 27), .int a1, .int a2] D (tyB B) (wX A B S) (wX A B z.2) sz (some (.int z.1)) := by
  rw [fX0_closes_27_D0] at hf
  cases hf
set_option maxHeartbeats 4000000 in
set_option maxRecDepth 100000 in
theorem kX0_parts_27_D0 (l : Launch) (D : va_G) (A : Nat → Nat) (B : Nat → ClassId) (sz : Nat) (S : w_S) (a1 : Int32) (a2 : Int32) (z : Int32 × w_S) (hf : fX0_parts_27_D0 S a1 a2 = some z) : MetW l yX0_parts (wsO yX0_parts cX0_parts 4 (some .int)) rm_X0_parts_D0 [.ref (A 27), .int a1, .int a2] D (tyB B) (wX A B S) (wX A B z.2) sz (some (.int z.1)) := by
  rw [fX0_parts_27_D0] at hf
  cases hf
set_option maxHeartbeats 4000000 in
set_option maxRecDepth 100000 in
theorem kX0_weighs_27_D0 (l : Launch) (D : va_G) (A : Nat → Nat) (B : Nat → ClassId) (sz : Nat) (S : w_S) (a1 : Int32) (a2 : Int32) (z : Int32 × w_S) (hf : fX0_weighs_27_D0 S a1 a2 = some z) : MetW l yX0_weighs (wsO yX0_weighs cX0_weighs 3 (some .int)) rm_X0_weighs_D0 [.ref (A 27), .int a1, .int a2] D (tyB B) (wX A B S) (wX A B z.2) sz (some (.int z.1)) := by
  rw [fX0_weighs_27_D0] at hf
  cases hf
set_option maxHeartbeats 4000000 in
set_option maxRecDepth 100000 in
theorem kX0_weighs_27_D1 (l : Launch) (D : va_G) (A : Nat → Nat) (B : Nat → ClassId) (sz : Nat) (S : w_S) (a1 : Int32) (a2 : Int32) (z : Int32 × w_S) (hf : fX0_weighs_27_D1 S a1 a2 = some z) : MetW l yX0_weighs (wsO yX0_weighs cX0_weighs 3 (some .int)) rm_X0_weighs_D1 [.ref (A 27), .int a1, .int a2] D (tyB B) (wX A B S) (wX A B z.2) sz (some (.int z.1)) := by
  refine MetW.mkI (cc := cX0_weighs) (maxL := 3) (by decide) (Nat.le_of_ble_eq_true rfl) ?_
  intro p e s m args below meth c Ad Q hx hb hts hown hml hN hK hA hR H locs ls hP hD hS hl
  have hl : lv_has ls 3 [(0, .ref (A 27)), (1, .int a1), (2, .int a2)] := hl
  rw [fX0_weighs_27_D1] at hf
  refine lv_iload_n (pc := 0) hx hb dX0_weighs_0 rfl (lv_at hl 1 rfl) ?_
  by_cases e1_1 : a1 = (1 : Int32)
  · have hf := hf_t e1_1 hf
    refine lv_tableIn (pc := 1) hx hb (off := 39) (tgt := 40) dX0_weighs_1 (by rw [e1_1]; decide) (by rw [e1_1]; decide) (by rw [e1_1]; rfl) (by decide) ?_
    refine lv_aload_n (pc := 40) hx hb dX0_weighs_40 rfl (lv_at hl 0 rfl) ?_
    refine lv_bipush (pc := 41) hx hb (v := 20) dX0_weighs_41 (by decide) ?_
    obtain ⟨r43, hc43, hf⟩ := hf_b hf
    refine cl_V (pc := 43) (As := [.int 20]) (rest := []) hx hb hml hown hts (kX0_begin_27 l D A B _ S 20 r43 hc43) (cwV 1 hts gwRX0_39 rfl rfl rfl hdX0_begin ⟨Nat.le_of_ble_eq_true rfl, Nat.le_of_ble_eq_true rfl⟩) hN hK hP hD hS hA (va_recv hK hP (ci := 0) (q0 := 27) rfl (eX_27 A B _)) rfl hl.1 rfl (Nat.le_of_ble_eq_true rfl) dX0_weighs_43 (st1 := []) rfl ⟨Nat.zero_le _, Nat.zero_le _⟩ (fun H locs hP hD hS => ?_)
    refine lv_aload_n (pc := 46) hx hb dX0_weighs_46 rfl (lv_at hl 0 rfl) ?_
    refine lv_iconst (pc := 47) hx hb (v := 0) dX0_weighs_47 (by decide) ?_
    refine lv_iload_n (pc := 48) hx hb dX0_weighs_48 rfl (lv_at hl 2 rfl) ?_
    obtain ⟨r49, hc49, hf⟩ := hf_b hf
    refine cl_V (pc := 49) (As := [.int 0, .int a2]) (rest := []) hx hb hml hown hts (kX0_weighs_27_D0 l D A B _ r43 0 a2 r49 hc49) (cwV 2 hts gwRX0_26 rfl rfl rfl hdX0_weighs ⟨Nat.le_of_ble_eq_true rfl, Nat.le_of_ble_eq_true rfl⟩) hN hK hP hD hS hA (va_recv hK hP (ci := 0) (q0 := 27) rfl (eX_27 A B _)) rfl hl.1 rfl (Nat.le_of_ble_eq_true rfl) dX0_weighs_49 (st1 := [.int r49.1]) rfl ⟨Nat.zero_le _, Nat.zero_le _⟩ (fun H locs hP hD hS => ?_)
    refine lv_iconst (pc := 52) hx hb (v := 4) dX0_weighs_52 (by decide) ?_
    refine lv_iadd (pc := 53) hx hb dX0_weighs_53 ?_
    obtain rfl := Option.some.inj hf
    exact hR H locs 54 ls hP hD hS dX0_weighs_54
  · have hf := hf_f e1_1 hf
    by_cases e1_2 : a1 = (2 : Int32)
    · have hf := hf_t e1_2 hf
      refine lv_tableIn (pc := 1) hx hb (off := 89) (tgt := 90) dX0_weighs_1 (by rw [e1_2]; decide) (by rw [e1_2]; decide) (by rw [e1_2]; rfl) (by decide) ?_
      refine lv_aload_n (pc := 90) hx hb dX0_weighs_90 rfl (lv_at hl 0 rfl) ?_
      refine lv_bipush (pc := 91) hx hb (v := 10) dX0_weighs_91 (by decide) ?_
      obtain ⟨r93, hc93, hf⟩ := hf_b hf
      refine cl_V (pc := 93) (As := [.int 10]) (rest := []) hx hb hml hown hts (kX0_begin_27 l D A B _ S 10 r93 hc93) (cwV 1 hts gwRX0_39 rfl rfl rfl hdX0_begin ⟨Nat.le_of_ble_eq_true rfl, Nat.le_of_ble_eq_true rfl⟩) hN hK hP hD hS hA (va_recv hK hP (ci := 0) (q0 := 27) rfl (eX_27 A B _)) rfl hl.1 rfl (Nat.le_of_ble_eq_true rfl) dX0_weighs_93 (st1 := []) rfl ⟨Nat.zero_le _, Nat.zero_le _⟩ (fun H locs hP hD hS => ?_)
      refine lv_iload_n (pc := 96) hx hb dX0_weighs_96 rfl (lv_at hl 2 rfl) ?_
      refine lv_bipush (pc := 97) hx hb (v := 7) dX0_weighs_97 (by decide) ?_
      refine lv_imul (pc := 99) hx hb dX0_weighs_99 ?_
      refine lv_aload_n (pc := 100) hx hb dX0_weighs_100 rfl (lv_at hl 0 rfl) ?_
      refine vXgRX0_46_27 (pc := 101) hx hb hts mU_1006 inU0 hown hK hP (x := (gI r93 24)) rfl dX0_weighs_101 ?_
      refine lv_iadd (pc := 104) hx hb dX0_weighs_104 ?_
      obtain rfl := Option.some.inj hf
      exact hR H locs 105 ls hP hD hS dX0_weighs_105
    · have hf := hf_f e1_2 hf
      by_cases e1_3 : a1 = (3 : Int32)
      · have hf := hf_t e1_3 hf
        refine lv_tableIn (pc := 1) hx hb (off := 54) (tgt := 55) dX0_weighs_1 (by rw [e1_3]; decide) (by rw [e1_3]; decide) (by rw [e1_3]; rfl) (by decide) ?_
        refine lv_aload_n (pc := 55) hx hb dX0_weighs_55 rfl (lv_at hl 0 rfl) ?_
        refine lv_bipush (pc := 56) hx hb (v := 40) dX0_weighs_56 (by decide) ?_
        obtain ⟨r58, hc58, hf⟩ := hf_b hf
        refine cl_V (pc := 58) (As := [.int 40]) (rest := []) hx hb hml hown hts (kX0_begin_27 l D A B _ S 40 r58 hc58) (cwV 1 hts gwRX0_39 rfl rfl rfl hdX0_begin ⟨Nat.le_of_ble_eq_true rfl, Nat.le_of_ble_eq_true rfl⟩) hN hK hP hD hS hA (va_recv hK hP (ci := 0) (q0 := 27) rfl (eX_27 A B _)) rfl hl.1 rfl (Nat.le_of_ble_eq_true rfl) dX0_weighs_58 (st1 := []) rfl ⟨Nat.zero_le _, Nat.zero_le _⟩ (fun H locs hP hD hS => ?_)
        refine lv_aload_n (pc := 61) hx hb dX0_weighs_61 rfl (lv_at hl 0 rfl) ?_
        refine lv_iconst (pc := 62) hx hb (v := 0) dX0_weighs_62 (by decide) ?_
        refine lv_iload_n (pc := 63) hx hb dX0_weighs_63 rfl (lv_at hl 2 rfl) ?_
        refine lv_iconst (pc := 64) hx hb (v := 1) dX0_weighs_64 (by decide) ?_
        refine lv_isub (pc := 65) hx hb dX0_weighs_65 ?_
        obtain ⟨r66, hc66, hf⟩ := hf_b hf
        refine cl_V (pc := 66) (As := [.int 0, .int (a2 - 1)]) (rest := []) hx hb hml hown hts (kX0_weighs_27_D0 l D A B _ r58 0 (a2 - 1) r66 hc66) (cwV 2 hts gwRX0_26 rfl rfl rfl hdX0_weighs ⟨Nat.le_of_ble_eq_true rfl, Nat.le_of_ble_eq_true rfl⟩) hN hK hP hD hS hA (va_recv hK hP (ci := 0) (q0 := 27) rfl (eX_27 A B _)) rfl hl.1 rfl (Nat.le_of_ble_eq_true rfl) dX0_weighs_66 (st1 := [.int r66.1]) rfl ⟨Nat.zero_le _, Nat.zero_le _⟩ (fun H locs hP hD hS => ?_)
        refine lv_iconst (pc := 69) hx hb (v := 2) dX0_weighs_69 (by decide) ?_
        refine lv_imul (pc := 70) hx hb dX0_weighs_70 ?_
        obtain rfl := Option.some.inj hf
        exact hR H locs 71 ls hP hD hS dX0_weighs_71
      · have hf := hf_f e1_3 hf
        by_cases e1_4 : a1 = (4 : Int32)
        · have hf := hf_t e1_4 hf
          refine lv_tableIn (pc := 1) hx hb (off := 89) (tgt := 90) dX0_weighs_1 (by rw [e1_4]; decide) (by rw [e1_4]; decide) (by rw [e1_4]; rfl) (by decide) ?_
          refine lv_aload_n (pc := 90) hx hb dX0_weighs_90 rfl (lv_at hl 0 rfl) ?_
          refine lv_bipush (pc := 91) hx hb (v := 10) dX0_weighs_91 (by decide) ?_
          obtain ⟨r93, hc93, hf⟩ := hf_b hf
          refine cl_V (pc := 93) (As := [.int 10]) (rest := []) hx hb hml hown hts (kX0_begin_27 l D A B _ S 10 r93 hc93) (cwV 1 hts gwRX0_39 rfl rfl rfl hdX0_begin ⟨Nat.le_of_ble_eq_true rfl, Nat.le_of_ble_eq_true rfl⟩) hN hK hP hD hS hA (va_recv hK hP (ci := 0) (q0 := 27) rfl (eX_27 A B _)) rfl hl.1 rfl (Nat.le_of_ble_eq_true rfl) dX0_weighs_93 (st1 := []) rfl ⟨Nat.zero_le _, Nat.zero_le _⟩ (fun H locs hP hD hS => ?_)
          refine lv_iload_n (pc := 96) hx hb dX0_weighs_96 rfl (lv_at hl 2 rfl) ?_
          refine lv_bipush (pc := 97) hx hb (v := 7) dX0_weighs_97 (by decide) ?_
          refine lv_imul (pc := 99) hx hb dX0_weighs_99 ?_
          refine lv_aload_n (pc := 100) hx hb dX0_weighs_100 rfl (lv_at hl 0 rfl) ?_
          refine vXgRX0_46_27 (pc := 101) hx hb hts mU_1006 inU0 hown hK hP (x := (gI r93 24)) rfl dX0_weighs_101 ?_
          refine lv_iadd (pc := 104) hx hb dX0_weighs_104 ?_
          obtain rfl := Option.some.inj hf
          exact hR H locs 105 ls hP hD hS dX0_weighs_105
        · have hf := hf_f e1_4 hf
          by_cases e1_5 : a1 = (5 : Int32)
          · have hf := hf_t e1_5 hf
            refine lv_tableIn (pc := 1) hx hb (off := 54) (tgt := 55) dX0_weighs_1 (by rw [e1_5]; decide) (by rw [e1_5]; decide) (by rw [e1_5]; rfl) (by decide) ?_
            refine lv_aload_n (pc := 55) hx hb dX0_weighs_55 rfl (lv_at hl 0 rfl) ?_
            refine lv_bipush (pc := 56) hx hb (v := 40) dX0_weighs_56 (by decide) ?_
            obtain ⟨r58, hc58, hf⟩ := hf_b hf
            refine cl_V (pc := 58) (As := [.int 40]) (rest := []) hx hb hml hown hts (kX0_begin_27 l D A B _ S 40 r58 hc58) (cwV 1 hts gwRX0_39 rfl rfl rfl hdX0_begin ⟨Nat.le_of_ble_eq_true rfl, Nat.le_of_ble_eq_true rfl⟩) hN hK hP hD hS hA (va_recv hK hP (ci := 0) (q0 := 27) rfl (eX_27 A B _)) rfl hl.1 rfl (Nat.le_of_ble_eq_true rfl) dX0_weighs_58 (st1 := []) rfl ⟨Nat.zero_le _, Nat.zero_le _⟩ (fun H locs hP hD hS => ?_)
            refine lv_aload_n (pc := 61) hx hb dX0_weighs_61 rfl (lv_at hl 0 rfl) ?_
            refine lv_iconst (pc := 62) hx hb (v := 0) dX0_weighs_62 (by decide) ?_
            refine lv_iload_n (pc := 63) hx hb dX0_weighs_63 rfl (lv_at hl 2 rfl) ?_
            refine lv_iconst (pc := 64) hx hb (v := 1) dX0_weighs_64 (by decide) ?_
            refine lv_isub (pc := 65) hx hb dX0_weighs_65 ?_
            obtain ⟨r66, hc66, hf⟩ := hf_b hf
            refine cl_V (pc := 66) (As := [.int 0, .int (a2 - 1)]) (rest := []) hx hb hml hown hts (kX0_weighs_27_D0 l D A B _ r58 0 (a2 - 1) r66 hc66) (cwV 2 hts gwRX0_26 rfl rfl rfl hdX0_weighs ⟨Nat.le_of_ble_eq_true rfl, Nat.le_of_ble_eq_true rfl⟩) hN hK hP hD hS hA (va_recv hK hP (ci := 0) (q0 := 27) rfl (eX_27 A B _)) rfl hl.1 rfl (Nat.le_of_ble_eq_true rfl) dX0_weighs_66 (st1 := [.int r66.1]) rfl ⟨Nat.zero_le _, Nat.zero_le _⟩ (fun H locs hP hD hS => ?_)
            refine lv_iconst (pc := 69) hx hb (v := 2) dX0_weighs_69 (by decide) ?_
            refine lv_imul (pc := 70) hx hb dX0_weighs_70 ?_
            obtain rfl := Option.some.inj hf
            exact hR H locs 71 ls hP hD hS dX0_weighs_71
          · have hf := hf_f e1_5 hf
            by_cases e1_6 : a1 = (6 : Int32)
            · have hf := hf_t e1_6 hf
              refine lv_tableIn (pc := 1) hx hb (off := 71) (tgt := 72) dX0_weighs_1 (by rw [e1_6]; decide) (by rw [e1_6]; decide) (by rw [e1_6]; rfl) (by decide) ?_
              refine lv_aload_n (pc := 72) hx hb dX0_weighs_72 rfl (lv_at hl 0 rfl) ?_
              refine lv_bipush (pc := 73) hx hb (v := 70) dX0_weighs_73 (by decide) ?_
              obtain ⟨r75, hc75, hf⟩ := hf_b hf
              refine cl_V (pc := 75) (As := [.int 70]) (rest := []) hx hb hml hown hts (kX0_begin_27 l D A B _ S 70 r75 hc75) (cwV 1 hts gwRX0_39 rfl rfl rfl hdX0_begin ⟨Nat.le_of_ble_eq_true rfl, Nat.le_of_ble_eq_true rfl⟩) hN hK hP hD hS hA (va_recv hK hP (ci := 0) (q0 := 27) rfl (eX_27 A B _)) rfl hl.1 rfl (Nat.le_of_ble_eq_true rfl) dX0_weighs_75 (st1 := []) rfl ⟨Nat.zero_le _, Nat.zero_le _⟩ (fun H locs hP hD hS => ?_)
              refine lv_aload_n (pc := 78) hx hb dX0_weighs_78 rfl (lv_at hl 0 rfl) ?_
              refine lv_iconst (pc := 79) hx hb (v := 5) dX0_weighs_79 (by decide) ?_
              refine lv_iload_n (pc := 80) hx hb dX0_weighs_80 rfl (lv_at hl 2 rfl) ?_
              obtain ⟨r81, hc81, hf⟩ := hf_b hf
              refine cl_V (pc := 81) (As := [.int 5, .int a2]) (rest := []) hx hb hml hown hts (kX0_weighs_27_D0 l D A B _ r75 5 a2 r81 hc81) (cwV 2 hts gwRX0_26 rfl rfl rfl hdX0_weighs ⟨Nat.le_of_ble_eq_true rfl, Nat.le_of_ble_eq_true rfl⟩) hN hK hP hD hS hA (va_recv hK hP (ci := 0) (q0 := 27) rfl (eX_27 A B _)) rfl hl.1 rfl (Nat.le_of_ble_eq_true rfl) dX0_weighs_81 (st1 := [.int r81.1]) rfl ⟨Nat.zero_le _, Nat.zero_le _⟩ (fun H locs hP hD hS => ?_)
              refine lv_aload_n (pc := 84) hx hb dX0_weighs_84 rfl (lv_at hl 0 rfl) ?_
              refine vXgRX0_43_27 (pc := 85) hx hb hts mU_1005 inU0 hown hK hP (x := (gI r81.2 25)) rfl dX0_weighs_85 ?_
              refine lv_ixor (pc := 88) hx hb dX0_weighs_88 ?_
              obtain rfl := Option.some.inj hf
              exact hR H locs 89 ls hP hD hS dX0_weighs_89
            · have hf := hf_f e1_6 hf
              have n1_1 := lv_neT (a := 1) e1_1 rfl
              have n1_2 := lv_neT (a := 2) e1_2 rfl
              have n1_3 := lv_neT (a := 3) e1_3 rfl
              have n1_4 := lv_neT (a := 4) e1_4 rfl
              have n1_5 := lv_neT (a := 5) e1_5 rfl
              have n1_6 := lv_neT (a := 6) e1_6 rfl
              refine lv_tableOut (pc := 1) hx hb (tgt := 90) dX0_weighs_1 (by omega) (by decide) ?_
              refine lv_aload_n (pc := 90) hx hb dX0_weighs_90 rfl (lv_at hl 0 rfl) ?_
              refine lv_bipush (pc := 91) hx hb (v := 10) dX0_weighs_91 (by decide) ?_
              obtain ⟨r93, hc93, hf⟩ := hf_b hf
              refine cl_V (pc := 93) (As := [.int 10]) (rest := []) hx hb hml hown hts (kX0_begin_27 l D A B _ S 10 r93 hc93) (cwV 1 hts gwRX0_39 rfl rfl rfl hdX0_begin ⟨Nat.le_of_ble_eq_true rfl, Nat.le_of_ble_eq_true rfl⟩) hN hK hP hD hS hA (va_recv hK hP (ci := 0) (q0 := 27) rfl (eX_27 A B _)) rfl hl.1 rfl (Nat.le_of_ble_eq_true rfl) dX0_weighs_93 (st1 := []) rfl ⟨Nat.zero_le _, Nat.zero_le _⟩ (fun H locs hP hD hS => ?_)
              refine lv_iload_n (pc := 96) hx hb dX0_weighs_96 rfl (lv_at hl 2 rfl) ?_
              refine lv_bipush (pc := 97) hx hb (v := 7) dX0_weighs_97 (by decide) ?_
              refine lv_imul (pc := 99) hx hb dX0_weighs_99 ?_
              refine lv_aload_n (pc := 100) hx hb dX0_weighs_100 rfl (lv_at hl 0 rfl) ?_
              refine vXgRX0_46_27 (pc := 101) hx hb hts mU_1006 inU0 hown hK hP (x := (gI r93 24)) rfl dX0_weighs_101 ?_
              refine lv_iadd (pc := 104) hx hb dX0_weighs_104 ?_
              obtain rfl := Option.some.inj hf
              exact hR H locs 105 ls hP hD hS dX0_weighs_105
set_option maxHeartbeats 4000000 in
set_option maxRecDepth 100000 in
theorem kX0_weighs_27_D2 (l : Launch) (D : va_G) (A : Nat → Nat) (B : Nat → ClassId) (sz : Nat) (S : w_S) (a1 : Int32) (a2 : Int32) (z : Int32 × w_S) (hf : fX0_weighs_27_D2 S a1 a2 = some z) : MetW l yX0_weighs (wsO yX0_weighs cX0_weighs 3 (some .int)) rm_X0_weighs_D2 [.ref (A 27), .int a1, .int a2] D (tyB B) (wX A B S) (wX A B z.2) sz (some (.int z.1)) := by
  refine MetW.mkI (cc := cX0_weighs) (maxL := 3) (by decide) (Nat.le_of_ble_eq_true rfl) ?_
  intro p e s m args below meth c Ad Q hx hb hts hown hml hN hK hA hR H locs ls hP hD hS hl
  have hl : lv_has ls 3 [(0, .ref (A 27)), (1, .int a1), (2, .int a2)] := hl
  rw [fX0_weighs_27_D2] at hf
  refine lv_iload_n (pc := 0) hx hb dX0_weighs_0 rfl (lv_at hl 1 rfl) ?_
  by_cases e1_1 : a1 = (1 : Int32)
  · have hf := hf_t e1_1 hf
    refine lv_tableIn (pc := 1) hx hb (off := 39) (tgt := 40) dX0_weighs_1 (by rw [e1_1]; decide) (by rw [e1_1]; decide) (by rw [e1_1]; rfl) (by decide) ?_
    refine lv_aload_n (pc := 40) hx hb dX0_weighs_40 rfl (lv_at hl 0 rfl) ?_
    refine lv_bipush (pc := 41) hx hb (v := 20) dX0_weighs_41 (by decide) ?_
    obtain ⟨r43, hc43, hf⟩ := hf_b hf
    refine cl_V (pc := 43) (As := [.int 20]) (rest := []) hx hb hml hown hts (kX0_begin_27 l D A B _ S 20 r43 hc43) (cwV 1 hts gwRX0_39 rfl rfl rfl hdX0_begin ⟨Nat.le_of_ble_eq_true rfl, Nat.le_of_ble_eq_true rfl⟩) hN hK hP hD hS hA (va_recv hK hP (ci := 0) (q0 := 27) rfl (eX_27 A B _)) rfl hl.1 rfl (Nat.le_of_ble_eq_true rfl) dX0_weighs_43 (st1 := []) rfl ⟨Nat.zero_le _, Nat.zero_le _⟩ (fun H locs hP hD hS => ?_)
    refine lv_aload_n (pc := 46) hx hb dX0_weighs_46 rfl (lv_at hl 0 rfl) ?_
    refine lv_iconst (pc := 47) hx hb (v := 0) dX0_weighs_47 (by decide) ?_
    refine lv_iload_n (pc := 48) hx hb dX0_weighs_48 rfl (lv_at hl 2 rfl) ?_
    obtain ⟨r49, hc49, hf⟩ := hf_b hf
    refine cl_V (pc := 49) (As := [.int 0, .int a2]) (rest := []) hx hb hml hown hts (kX0_weighs_27_D1 l D A B _ r43 0 a2 r49 hc49) (cwV 2 hts gwRX0_26 rfl rfl rfl hdX0_weighs ⟨Nat.le_of_ble_eq_true rfl, Nat.le_of_ble_eq_true rfl⟩) hN hK hP hD hS hA (va_recv hK hP (ci := 0) (q0 := 27) rfl (eX_27 A B _)) rfl hl.1 rfl (Nat.le_of_ble_eq_true rfl) dX0_weighs_49 (st1 := [.int r49.1]) rfl ⟨Nat.zero_le _, Nat.zero_le _⟩ (fun H locs hP hD hS => ?_)
    refine lv_iconst (pc := 52) hx hb (v := 4) dX0_weighs_52 (by decide) ?_
    refine lv_iadd (pc := 53) hx hb dX0_weighs_53 ?_
    obtain rfl := Option.some.inj hf
    exact hR H locs 54 ls hP hD hS dX0_weighs_54
  · have hf := hf_f e1_1 hf
    by_cases e1_2 : a1 = (2 : Int32)
    · have hf := hf_t e1_2 hf
      refine lv_tableIn (pc := 1) hx hb (off := 89) (tgt := 90) dX0_weighs_1 (by rw [e1_2]; decide) (by rw [e1_2]; decide) (by rw [e1_2]; rfl) (by decide) ?_
      refine lv_aload_n (pc := 90) hx hb dX0_weighs_90 rfl (lv_at hl 0 rfl) ?_
      refine lv_bipush (pc := 91) hx hb (v := 10) dX0_weighs_91 (by decide) ?_
      obtain ⟨r93, hc93, hf⟩ := hf_b hf
      refine cl_V (pc := 93) (As := [.int 10]) (rest := []) hx hb hml hown hts (kX0_begin_27 l D A B _ S 10 r93 hc93) (cwV 1 hts gwRX0_39 rfl rfl rfl hdX0_begin ⟨Nat.le_of_ble_eq_true rfl, Nat.le_of_ble_eq_true rfl⟩) hN hK hP hD hS hA (va_recv hK hP (ci := 0) (q0 := 27) rfl (eX_27 A B _)) rfl hl.1 rfl (Nat.le_of_ble_eq_true rfl) dX0_weighs_93 (st1 := []) rfl ⟨Nat.zero_le _, Nat.zero_le _⟩ (fun H locs hP hD hS => ?_)
      refine lv_iload_n (pc := 96) hx hb dX0_weighs_96 rfl (lv_at hl 2 rfl) ?_
      refine lv_bipush (pc := 97) hx hb (v := 7) dX0_weighs_97 (by decide) ?_
      refine lv_imul (pc := 99) hx hb dX0_weighs_99 ?_
      refine lv_aload_n (pc := 100) hx hb dX0_weighs_100 rfl (lv_at hl 0 rfl) ?_
      refine vXgRX0_46_27 (pc := 101) hx hb hts mU_1006 inU0 hown hK hP (x := (gI r93 24)) rfl dX0_weighs_101 ?_
      refine lv_iadd (pc := 104) hx hb dX0_weighs_104 ?_
      obtain rfl := Option.some.inj hf
      exact hR H locs 105 ls hP hD hS dX0_weighs_105
    · have hf := hf_f e1_2 hf
      by_cases e1_3 : a1 = (3 : Int32)
      · have hf := hf_t e1_3 hf
        refine lv_tableIn (pc := 1) hx hb (off := 54) (tgt := 55) dX0_weighs_1 (by rw [e1_3]; decide) (by rw [e1_3]; decide) (by rw [e1_3]; rfl) (by decide) ?_
        refine lv_aload_n (pc := 55) hx hb dX0_weighs_55 rfl (lv_at hl 0 rfl) ?_
        refine lv_bipush (pc := 56) hx hb (v := 40) dX0_weighs_56 (by decide) ?_
        obtain ⟨r58, hc58, hf⟩ := hf_b hf
        refine cl_V (pc := 58) (As := [.int 40]) (rest := []) hx hb hml hown hts (kX0_begin_27 l D A B _ S 40 r58 hc58) (cwV 1 hts gwRX0_39 rfl rfl rfl hdX0_begin ⟨Nat.le_of_ble_eq_true rfl, Nat.le_of_ble_eq_true rfl⟩) hN hK hP hD hS hA (va_recv hK hP (ci := 0) (q0 := 27) rfl (eX_27 A B _)) rfl hl.1 rfl (Nat.le_of_ble_eq_true rfl) dX0_weighs_58 (st1 := []) rfl ⟨Nat.zero_le _, Nat.zero_le _⟩ (fun H locs hP hD hS => ?_)
        refine lv_aload_n (pc := 61) hx hb dX0_weighs_61 rfl (lv_at hl 0 rfl) ?_
        refine lv_iconst (pc := 62) hx hb (v := 0) dX0_weighs_62 (by decide) ?_
        refine lv_iload_n (pc := 63) hx hb dX0_weighs_63 rfl (lv_at hl 2 rfl) ?_
        refine lv_iconst (pc := 64) hx hb (v := 1) dX0_weighs_64 (by decide) ?_
        refine lv_isub (pc := 65) hx hb dX0_weighs_65 ?_
        obtain ⟨r66, hc66, hf⟩ := hf_b hf
        refine cl_V (pc := 66) (As := [.int 0, .int (a2 - 1)]) (rest := []) hx hb hml hown hts (kX0_weighs_27_D1 l D A B _ r58 0 (a2 - 1) r66 hc66) (cwV 2 hts gwRX0_26 rfl rfl rfl hdX0_weighs ⟨Nat.le_of_ble_eq_true rfl, Nat.le_of_ble_eq_true rfl⟩) hN hK hP hD hS hA (va_recv hK hP (ci := 0) (q0 := 27) rfl (eX_27 A B _)) rfl hl.1 rfl (Nat.le_of_ble_eq_true rfl) dX0_weighs_66 (st1 := [.int r66.1]) rfl ⟨Nat.zero_le _, Nat.zero_le _⟩ (fun H locs hP hD hS => ?_)
        refine lv_iconst (pc := 69) hx hb (v := 2) dX0_weighs_69 (by decide) ?_
        refine lv_imul (pc := 70) hx hb dX0_weighs_70 ?_
        obtain rfl := Option.some.inj hf
        exact hR H locs 71 ls hP hD hS dX0_weighs_71
      · have hf := hf_f e1_3 hf
        by_cases e1_4 : a1 = (4 : Int32)
        · have hf := hf_t e1_4 hf
          refine lv_tableIn (pc := 1) hx hb (off := 89) (tgt := 90) dX0_weighs_1 (by rw [e1_4]; decide) (by rw [e1_4]; decide) (by rw [e1_4]; rfl) (by decide) ?_
          refine lv_aload_n (pc := 90) hx hb dX0_weighs_90 rfl (lv_at hl 0 rfl) ?_
          refine lv_bipush (pc := 91) hx hb (v := 10) dX0_weighs_91 (by decide) ?_
          obtain ⟨r93, hc93, hf⟩ := hf_b hf
          refine cl_V (pc := 93) (As := [.int 10]) (rest := []) hx hb hml hown hts (kX0_begin_27 l D A B _ S 10 r93 hc93) (cwV 1 hts gwRX0_39 rfl rfl rfl hdX0_begin ⟨Nat.le_of_ble_eq_true rfl, Nat.le_of_ble_eq_true rfl⟩) hN hK hP hD hS hA (va_recv hK hP (ci := 0) (q0 := 27) rfl (eX_27 A B _)) rfl hl.1 rfl (Nat.le_of_ble_eq_true rfl) dX0_weighs_93 (st1 := []) rfl ⟨Nat.zero_le _, Nat.zero_le _⟩ (fun H locs hP hD hS => ?_)
          refine lv_iload_n (pc := 96) hx hb dX0_weighs_96 rfl (lv_at hl 2 rfl) ?_
          refine lv_bipush (pc := 97) hx hb (v := 7) dX0_weighs_97 (by decide) ?_
          refine lv_imul (pc := 99) hx hb dX0_weighs_99 ?_
          refine lv_aload_n (pc := 100) hx hb dX0_weighs_100 rfl (lv_at hl 0 rfl) ?_
          refine vXgRX0_46_27 (pc := 101) hx hb hts mU_1006 inU0 hown hK hP (x := (gI r93 24)) rfl dX0_weighs_101 ?_
          refine lv_iadd (pc := 104) hx hb dX0_weighs_104 ?_
          obtain rfl := Option.some.inj hf
          exact hR H locs 105 ls hP hD hS dX0_weighs_105
        · have hf := hf_f e1_4 hf
          by_cases e1_5 : a1 = (5 : Int32)
          · have hf := hf_t e1_5 hf
            refine lv_tableIn (pc := 1) hx hb (off := 54) (tgt := 55) dX0_weighs_1 (by rw [e1_5]; decide) (by rw [e1_5]; decide) (by rw [e1_5]; rfl) (by decide) ?_
            refine lv_aload_n (pc := 55) hx hb dX0_weighs_55 rfl (lv_at hl 0 rfl) ?_
            refine lv_bipush (pc := 56) hx hb (v := 40) dX0_weighs_56 (by decide) ?_
            obtain ⟨r58, hc58, hf⟩ := hf_b hf
            refine cl_V (pc := 58) (As := [.int 40]) (rest := []) hx hb hml hown hts (kX0_begin_27 l D A B _ S 40 r58 hc58) (cwV 1 hts gwRX0_39 rfl rfl rfl hdX0_begin ⟨Nat.le_of_ble_eq_true rfl, Nat.le_of_ble_eq_true rfl⟩) hN hK hP hD hS hA (va_recv hK hP (ci := 0) (q0 := 27) rfl (eX_27 A B _)) rfl hl.1 rfl (Nat.le_of_ble_eq_true rfl) dX0_weighs_58 (st1 := []) rfl ⟨Nat.zero_le _, Nat.zero_le _⟩ (fun H locs hP hD hS => ?_)
            refine lv_aload_n (pc := 61) hx hb dX0_weighs_61 rfl (lv_at hl 0 rfl) ?_
            refine lv_iconst (pc := 62) hx hb (v := 0) dX0_weighs_62 (by decide) ?_
            refine lv_iload_n (pc := 63) hx hb dX0_weighs_63 rfl (lv_at hl 2 rfl) ?_
            refine lv_iconst (pc := 64) hx hb (v := 1) dX0_weighs_64 (by decide) ?_
            refine lv_isub (pc := 65) hx hb dX0_weighs_65 ?_
            obtain ⟨r66, hc66, hf⟩ := hf_b hf
            refine cl_V (pc := 66) (As := [.int 0, .int (a2 - 1)]) (rest := []) hx hb hml hown hts (kX0_weighs_27_D1 l D A B _ r58 0 (a2 - 1) r66 hc66) (cwV 2 hts gwRX0_26 rfl rfl rfl hdX0_weighs ⟨Nat.le_of_ble_eq_true rfl, Nat.le_of_ble_eq_true rfl⟩) hN hK hP hD hS hA (va_recv hK hP (ci := 0) (q0 := 27) rfl (eX_27 A B _)) rfl hl.1 rfl (Nat.le_of_ble_eq_true rfl) dX0_weighs_66 (st1 := [.int r66.1]) rfl ⟨Nat.zero_le _, Nat.zero_le _⟩ (fun H locs hP hD hS => ?_)
            refine lv_iconst (pc := 69) hx hb (v := 2) dX0_weighs_69 (by decide) ?_
            refine lv_imul (pc := 70) hx hb dX0_weighs_70 ?_
            obtain rfl := Option.some.inj hf
            exact hR H locs 71 ls hP hD hS dX0_weighs_71
          · have hf := hf_f e1_5 hf
            by_cases e1_6 : a1 = (6 : Int32)
            · have hf := hf_t e1_6 hf
              refine lv_tableIn (pc := 1) hx hb (off := 71) (tgt := 72) dX0_weighs_1 (by rw [e1_6]; decide) (by rw [e1_6]; decide) (by rw [e1_6]; rfl) (by decide) ?_
              refine lv_aload_n (pc := 72) hx hb dX0_weighs_72 rfl (lv_at hl 0 rfl) ?_
              refine lv_bipush (pc := 73) hx hb (v := 70) dX0_weighs_73 (by decide) ?_
              obtain ⟨r75, hc75, hf⟩ := hf_b hf
              refine cl_V (pc := 75) (As := [.int 70]) (rest := []) hx hb hml hown hts (kX0_begin_27 l D A B _ S 70 r75 hc75) (cwV 1 hts gwRX0_39 rfl rfl rfl hdX0_begin ⟨Nat.le_of_ble_eq_true rfl, Nat.le_of_ble_eq_true rfl⟩) hN hK hP hD hS hA (va_recv hK hP (ci := 0) (q0 := 27) rfl (eX_27 A B _)) rfl hl.1 rfl (Nat.le_of_ble_eq_true rfl) dX0_weighs_75 (st1 := []) rfl ⟨Nat.zero_le _, Nat.zero_le _⟩ (fun H locs hP hD hS => ?_)
              refine lv_aload_n (pc := 78) hx hb dX0_weighs_78 rfl (lv_at hl 0 rfl) ?_
              refine lv_iconst (pc := 79) hx hb (v := 5) dX0_weighs_79 (by decide) ?_
              refine lv_iload_n (pc := 80) hx hb dX0_weighs_80 rfl (lv_at hl 2 rfl) ?_
              obtain ⟨r81, hc81, hf⟩ := hf_b hf
              refine cl_V (pc := 81) (As := [.int 5, .int a2]) (rest := []) hx hb hml hown hts (kX0_weighs_27_D1 l D A B _ r75 5 a2 r81 hc81) (cwV 2 hts gwRX0_26 rfl rfl rfl hdX0_weighs ⟨Nat.le_of_ble_eq_true rfl, Nat.le_of_ble_eq_true rfl⟩) hN hK hP hD hS hA (va_recv hK hP (ci := 0) (q0 := 27) rfl (eX_27 A B _)) rfl hl.1 rfl (Nat.le_of_ble_eq_true rfl) dX0_weighs_81 (st1 := [.int r81.1]) rfl ⟨Nat.zero_le _, Nat.zero_le _⟩ (fun H locs hP hD hS => ?_)
              refine lv_aload_n (pc := 84) hx hb dX0_weighs_84 rfl (lv_at hl 0 rfl) ?_
              refine vXgRX0_43_27 (pc := 85) hx hb hts mU_1005 inU0 hown hK hP (x := (gI r81.2 25)) rfl dX0_weighs_85 ?_
              refine lv_ixor (pc := 88) hx hb dX0_weighs_88 ?_
              obtain rfl := Option.some.inj hf
              exact hR H locs 89 ls hP hD hS dX0_weighs_89
            · have hf := hf_f e1_6 hf
              have n1_1 := lv_neT (a := 1) e1_1 rfl
              have n1_2 := lv_neT (a := 2) e1_2 rfl
              have n1_3 := lv_neT (a := 3) e1_3 rfl
              have n1_4 := lv_neT (a := 4) e1_4 rfl
              have n1_5 := lv_neT (a := 5) e1_5 rfl
              have n1_6 := lv_neT (a := 6) e1_6 rfl
              refine lv_tableOut (pc := 1) hx hb (tgt := 90) dX0_weighs_1 (by omega) (by decide) ?_
              refine lv_aload_n (pc := 90) hx hb dX0_weighs_90 rfl (lv_at hl 0 rfl) ?_
              refine lv_bipush (pc := 91) hx hb (v := 10) dX0_weighs_91 (by decide) ?_
              obtain ⟨r93, hc93, hf⟩ := hf_b hf
              refine cl_V (pc := 93) (As := [.int 10]) (rest := []) hx hb hml hown hts (kX0_begin_27 l D A B _ S 10 r93 hc93) (cwV 1 hts gwRX0_39 rfl rfl rfl hdX0_begin ⟨Nat.le_of_ble_eq_true rfl, Nat.le_of_ble_eq_true rfl⟩) hN hK hP hD hS hA (va_recv hK hP (ci := 0) (q0 := 27) rfl (eX_27 A B _)) rfl hl.1 rfl (Nat.le_of_ble_eq_true rfl) dX0_weighs_93 (st1 := []) rfl ⟨Nat.zero_le _, Nat.zero_le _⟩ (fun H locs hP hD hS => ?_)
              refine lv_iload_n (pc := 96) hx hb dX0_weighs_96 rfl (lv_at hl 2 rfl) ?_
              refine lv_bipush (pc := 97) hx hb (v := 7) dX0_weighs_97 (by decide) ?_
              refine lv_imul (pc := 99) hx hb dX0_weighs_99 ?_
              refine lv_aload_n (pc := 100) hx hb dX0_weighs_100 rfl (lv_at hl 0 rfl) ?_
              refine vXgRX0_46_27 (pc := 101) hx hb hts mU_1006 inU0 hown hK hP (x := (gI r93 24)) rfl dX0_weighs_101 ?_
              refine lv_iadd (pc := 104) hx hb dX0_weighs_104 ?_
              obtain rfl := Option.some.inj hf
              exact hR H locs 105 ls hP hD hS dX0_weighs_105
