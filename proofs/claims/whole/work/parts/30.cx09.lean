set_option maxHeartbeats 4000000 in
set_option maxRecDepth 100000 in
theorem kX6_put (l : Launch) (D : va_G) (A : Nat → Nat) (B : Nat → ClassId) (sz : Nat) (S : w_S) (a1 : Int32) (a2 : Int32) (a3 : Int64) (z : Int32 × w_S) (hf : fX6_put S a1 a2 a3 = some z) : MetW l yX6_put (wsO yX6_put cX6_put 6 (some .int)) rm_X6_put [.ref (A 0), .int a1, .int a2, .long a3] D (tyB B) (wX A B S) (wX A B z.2) sz (some (.int z.1)) := by
  refine MetW.mkI (cc := cX6_put) (maxL := 6) (by decide) (Nat.le_of_ble_eq_true rfl) ?_
  intro p e s m args below meth c Ad Q hx hb hts hown hml hN hK hA hR H locs ls hP hD hS hl
  have hl : lv_has ls 6 [(0, .ref (A 0)), (1, .int a1), (2, .int a2), (3, .long a3)] := hl
  rw [fX6_put] at hf
  refine lv_iload_n (pc := 0) hx hb dX6_put_0 rfl (lv_at hl 1 rfl) ?_
  obtain ⟨r1, hc1, hf⟩ := hf_b hf
  refine cl_S (pc := 1) (As := [.int a1]) (rest := []) hx hb hml hown hts (kX6_isSheet l D A B _ S a1 r1 hc1) (va_cwS 1 hts gwRX6_214 rfl rfl rfl hdX6_isSheet ⟨Nat.le_of_ble_eq_true rfl, Nat.le_of_ble_eq_true rfl⟩) hN hK hP hD hS hA rfl hl.1 rfl (Nat.le_of_ble_eq_true rfl) dX6_put_1 (st1 := [.int r1]) rfl ⟨Nat.zero_le _, Nat.zero_le _⟩ (fun H locs hP hD hS => ?_)
  refine lv_if_ne (pc := 4) hx hb (tgt := 9) dX6_put_4 (by decide) (fun c_4 => ?_) (fun c_4 => ?_)
  · have hf := hf_f c_4 hf
    refine lv_aload_n (pc := 9) hx hb dX6_put_9 rfl (lv_at hl 0 rfl) ?_
    refine vXgRX6_48_0 (pc := 10) hx hb hts mU_33 inU6 hown hK hP dX6_put_10 ?_
    refine lv_iload_n (pc := 13) hx hb dX6_put_13 rfl (lv_at hl 1 rfl) ?_
    by_cases e14_0 : a1 = (0 : Int32)
    · have hf := hf_t e14_0 hf
      refine vXrq_29_0 (pc := 14) hx hb hK hP e14_0 dX6_put_14 ?_
      refine lv_astore (pc := 15) hx hb (lv' := [(5, .ref (A 30)), (0, .ref (A 0)), (1, .int a1), (2, .int a2), (3, .long a3)]) dX6_put_15 hl (by decide) rfl (fun ls hl => ?_)
      refine lv_aload (pc := 17) hx hb dX6_put_17 (lv_at hl 0 rfl) ?_
      refine vXgRX6_252_30 (pc := 19) hx hb hts mU_796 inU2 hown hK hP (x := (gI S 28)) rfl dX6_put_19 ?_
      refine lv_iconst (pc := 22) hx hb (v := (-1)) dX6_put_22 (by decide) ?_
      refine lv_icmp_ne (pc := 23) hx hb (tgt := 29) dX6_put_23 (by decide) (fun c_23 => ?_) (fun c_23 => ?_)
      · have hf := hf_f c_23 hf
        refine lv_iload_n (pc := 29) hx hb dX6_put_29 rfl (lv_at hl 3 rfl) ?_
        refine lv_if_lt (pc := 30) hx hb (tgt := 42) dX6_put_30 (by decide) (fun c_30 => ?_) (fun c_30 => ?_)
        · have hf := hf_t c_30 hf
          refine lv_bipush (pc := 42) hx hb (v := (-12)) dX6_put_42 (by decide) ?_
          obtain rfl := Option.some.inj hf
          exact hR H locs 44 ls hP hD hS dX6_put_44
        · have hf := hf_f c_30 hf
          refine lv_iload_n (pc := 33) hx hb dX6_put_33 rfl (lv_at hl 3 rfl) ?_
          refine lv_aload (pc := 34) hx hb dX6_put_34 (lv_at hl 0 rfl) ?_
          refine vXgRX6_255_30 (pc := 36) hx hb hts mU_797 inU2 hown hK hP (x := (gI S 29)) rfl dX6_put_36 ?_
          refine lv_icmp_lt (pc := 39) hx hb (tgt := 45) dX6_put_39 (by decide) (fun c_39 => ?_) (fun c_39 => ?_)
          · have hf := hf_t c_39 hf
            refine lv_aload (pc := 45) hx hb dX6_put_45 (lv_at hl 0 rfl) ?_
            refine lv_iload_n (pc := 47) hx hb dX6_put_47 rfl (lv_at hl 3 rfl) ?_
            refine lv_lload_n (pc := 48) hx hb dX6_put_48 rfl (lv_at hl 4 rfl) ?_
            obtain ⟨r49, hc49, hf⟩ := hf_b hf
            refine cl_V (pc := 49) (As := [.int a2, .long a3]) (rest := []) hx hb hml hown hts (kX2_write_30 l D A B _ S a2 a3 r49 hc49) (cwV 2 hts gwRX6_227 rfl rfl rfl hdX2_write ⟨Nat.le_of_ble_eq_true rfl, Nat.le_of_ble_eq_true rfl⟩) hN hK hP hD hS hA (va_recv hK hP (ci := 2) (q0 := 30) rfl (eX_30 A B _)) rfl hl.1 rfl (Nat.le_of_ble_eq_true rfl) dX6_put_49 (st1 := []) rfl ⟨Nat.zero_le _, Nat.zero_le _⟩ (fun H locs hP hD hS => ?_)
            refine lv_iconst (pc := 52) hx hb (v := 1) dX6_put_52 (by decide) ?_
            obtain rfl := Option.some.inj hf
            exact hR H locs 53 ls hP hD hS dX6_put_53
          · have hf := hf_f c_39 hf
            refine lv_bipush (pc := 42) hx hb (v := (-12)) dX6_put_42 (by decide) ?_
            obtain rfl := Option.some.inj hf
            exact hR H locs 44 ls hP hD hS dX6_put_44
      · have hf := hf_t c_23 hf
        refine lv_bipush (pc := 26) hx hb (v := (-11)) dX6_put_26 (by decide) ?_
        obtain rfl := Option.some.inj hf
        exact hR H locs 28 ls hP hD hS dX6_put_28
    · have hf := hf_f e14_0 hf
      by_cases e14_1 : a1 = (1 : Int32)
      · have hf := hf_t e14_1 hf
        refine vXrq_29_1 (pc := 14) hx hb hK hP e14_1 dX6_put_14 ?_
        refine lv_astore (pc := 15) hx hb (lv' := [(5, .ref (A 32)), (0, .ref (A 0)), (1, .int a1), (2, .int a2), (3, .long a3)]) dX6_put_15 hl (by decide) rfl (fun ls hl => ?_)
        refine lv_aload (pc := 17) hx hb dX6_put_17 (lv_at hl 0 rfl) ?_
        refine vXgRX6_252_32 (pc := 19) hx hb hts mU_796 inU2 hown hK hP (x := (gI S 30)) rfl dX6_put_19 ?_
        refine lv_iconst (pc := 22) hx hb (v := (-1)) dX6_put_22 (by decide) ?_
        refine lv_icmp_ne (pc := 23) hx hb (tgt := 29) dX6_put_23 (by decide) (fun c_23 => ?_) (fun c_23 => ?_)
        · have hf := hf_f c_23 hf
          refine lv_iload_n (pc := 29) hx hb dX6_put_29 rfl (lv_at hl 3 rfl) ?_
          refine lv_if_lt (pc := 30) hx hb (tgt := 42) dX6_put_30 (by decide) (fun c_30 => ?_) (fun c_30 => ?_)
          · have hf := hf_t c_30 hf
            refine lv_bipush (pc := 42) hx hb (v := (-12)) dX6_put_42 (by decide) ?_
            obtain rfl := Option.some.inj hf
            exact hR H locs 44 ls hP hD hS dX6_put_44
          · have hf := hf_f c_30 hf
            refine lv_iload_n (pc := 33) hx hb dX6_put_33 rfl (lv_at hl 3 rfl) ?_
            refine lv_aload (pc := 34) hx hb dX6_put_34 (lv_at hl 0 rfl) ?_
            refine vXgRX6_255_32 (pc := 36) hx hb hts mU_797 inU2 hown hK hP (x := (gI S 31)) rfl dX6_put_36 ?_
            refine lv_icmp_lt (pc := 39) hx hb (tgt := 45) dX6_put_39 (by decide) (fun c_39 => ?_) (fun c_39 => ?_)
            · have hf := hf_t c_39 hf
              refine lv_aload (pc := 45) hx hb dX6_put_45 (lv_at hl 0 rfl) ?_
              refine lv_iload_n (pc := 47) hx hb dX6_put_47 rfl (lv_at hl 3 rfl) ?_
              refine lv_lload_n (pc := 48) hx hb dX6_put_48 rfl (lv_at hl 4 rfl) ?_
              obtain ⟨r49, hc49, hf⟩ := hf_b hf
              refine cl_V (pc := 49) (As := [.int a2, .long a3]) (rest := []) hx hb hml hown hts (kX2_write_32 l D A B _ S a2 a3 r49 hc49) (cwV 2 hts gwRX6_227 rfl rfl rfl hdX2_write ⟨Nat.le_of_ble_eq_true rfl, Nat.le_of_ble_eq_true rfl⟩) hN hK hP hD hS hA (va_recv hK hP (ci := 2) (q0 := 32) rfl (eX_32 A B _)) rfl hl.1 rfl (Nat.le_of_ble_eq_true rfl) dX6_put_49 (st1 := []) rfl ⟨Nat.zero_le _, Nat.zero_le _⟩ (fun H locs hP hD hS => ?_)
              refine lv_iconst (pc := 52) hx hb (v := 1) dX6_put_52 (by decide) ?_
              obtain rfl := Option.some.inj hf
              exact hR H locs 53 ls hP hD hS dX6_put_53
            · have hf := hf_f c_39 hf
              refine lv_bipush (pc := 42) hx hb (v := (-12)) dX6_put_42 (by decide) ?_
              obtain rfl := Option.some.inj hf
              exact hR H locs 44 ls hP hD hS dX6_put_44
        · have hf := hf_t c_23 hf
          refine lv_bipush (pc := 26) hx hb (v := (-11)) dX6_put_26 (by decide) ?_
          obtain rfl := Option.some.inj hf
          exact hR H locs 28 ls hP hD hS dX6_put_28
      · have hf := hf_f e14_1 hf
        by_cases e14_2 : a1 = (2 : Int32)
        · have hf := hf_t e14_2 hf
          refine vXrq_29_2 (pc := 14) hx hb hK hP e14_2 dX6_put_14 ?_
          refine lv_astore (pc := 15) hx hb (lv' := [(5, .ref (A 34)), (0, .ref (A 0)), (1, .int a1), (2, .int a2), (3, .long a3)]) dX6_put_15 hl (by decide) rfl (fun ls hl => ?_)
          refine lv_aload (pc := 17) hx hb dX6_put_17 (lv_at hl 0 rfl) ?_
          refine vXgRX6_252_34 (pc := 19) hx hb hts mU_796 inU2 hown hK hP (x := (gI S 32)) rfl dX6_put_19 ?_
          refine lv_iconst (pc := 22) hx hb (v := (-1)) dX6_put_22 (by decide) ?_
          refine lv_icmp_ne (pc := 23) hx hb (tgt := 29) dX6_put_23 (by decide) (fun c_23 => ?_) (fun c_23 => ?_)
          · have hf := hf_f c_23 hf
            refine lv_iload_n (pc := 29) hx hb dX6_put_29 rfl (lv_at hl 3 rfl) ?_
            refine lv_if_lt (pc := 30) hx hb (tgt := 42) dX6_put_30 (by decide) (fun c_30 => ?_) (fun c_30 => ?_)
            · have hf := hf_t c_30 hf
              refine lv_bipush (pc := 42) hx hb (v := (-12)) dX6_put_42 (by decide) ?_
              obtain rfl := Option.some.inj hf
              exact hR H locs 44 ls hP hD hS dX6_put_44
            · have hf := hf_f c_30 hf
              refine lv_iload_n (pc := 33) hx hb dX6_put_33 rfl (lv_at hl 3 rfl) ?_
              refine lv_aload (pc := 34) hx hb dX6_put_34 (lv_at hl 0 rfl) ?_
              refine vXgRX6_255_34 (pc := 36) hx hb hts mU_797 inU2 hown hK hP (x := (gI S 33)) rfl dX6_put_36 ?_
              refine lv_icmp_lt (pc := 39) hx hb (tgt := 45) dX6_put_39 (by decide) (fun c_39 => ?_) (fun c_39 => ?_)
              · have hf := hf_t c_39 hf
                refine lv_aload (pc := 45) hx hb dX6_put_45 (lv_at hl 0 rfl) ?_
                refine lv_iload_n (pc := 47) hx hb dX6_put_47 rfl (lv_at hl 3 rfl) ?_
                refine lv_lload_n (pc := 48) hx hb dX6_put_48 rfl (lv_at hl 4 rfl) ?_
                obtain ⟨r49, hc49, hf⟩ := hf_b hf
                refine cl_V (pc := 49) (As := [.int a2, .long a3]) (rest := []) hx hb hml hown hts (kX2_write_34 l D A B _ S a2 a3 r49 hc49) (cwV 2 hts gwRX6_227 rfl rfl rfl hdX2_write ⟨Nat.le_of_ble_eq_true rfl, Nat.le_of_ble_eq_true rfl⟩) hN hK hP hD hS hA (va_recv hK hP (ci := 2) (q0 := 34) rfl (eX_34 A B _)) rfl hl.1 rfl (Nat.le_of_ble_eq_true rfl) dX6_put_49 (st1 := []) rfl ⟨Nat.zero_le _, Nat.zero_le _⟩ (fun H locs hP hD hS => ?_)
                refine lv_iconst (pc := 52) hx hb (v := 1) dX6_put_52 (by decide) ?_
                obtain rfl := Option.some.inj hf
                exact hR H locs 53 ls hP hD hS dX6_put_53
              · have hf := hf_f c_39 hf
                refine lv_bipush (pc := 42) hx hb (v := (-12)) dX6_put_42 (by decide) ?_
                obtain rfl := Option.some.inj hf
                exact hR H locs 44 ls hP hD hS dX6_put_44
          · have hf := hf_t c_23 hf
            refine lv_bipush (pc := 26) hx hb (v := (-11)) dX6_put_26 (by decide) ?_
            obtain rfl := Option.some.inj hf
            exact hR H locs 28 ls hP hD hS dX6_put_28
        · have hf := hf_f e14_2 hf
          by_cases e14_3 : a1 = (3 : Int32)
          · have hf := hf_t e14_3 hf
            refine vXrq_29_3 (pc := 14) hx hb hK hP e14_3 dX6_put_14 ?_
            refine lv_astore (pc := 15) hx hb (lv' := [(5, .ref (A 36)), (0, .ref (A 0)), (1, .int a1), (2, .int a2), (3, .long a3)]) dX6_put_15 hl (by decide) rfl (fun ls hl => ?_)
            refine lv_aload (pc := 17) hx hb dX6_put_17 (lv_at hl 0 rfl) ?_
            refine vXgRX6_252_36 (pc := 19) hx hb hts mU_796 inU2 hown hK hP (x := (gI S 34)) rfl dX6_put_19 ?_
            refine lv_iconst (pc := 22) hx hb (v := (-1)) dX6_put_22 (by decide) ?_
            refine lv_icmp_ne (pc := 23) hx hb (tgt := 29) dX6_put_23 (by decide) (fun c_23 => ?_) (fun c_23 => ?_)
            · have hf := hf_f c_23 hf
              refine lv_iload_n (pc := 29) hx hb dX6_put_29 rfl (lv_at hl 3 rfl) ?_
              refine lv_if_lt (pc := 30) hx hb (tgt := 42) dX6_put_30 (by decide) (fun c_30 => ?_) (fun c_30 => ?_)
              · have hf := hf_t c_30 hf
                refine lv_bipush (pc := 42) hx hb (v := (-12)) dX6_put_42 (by decide) ?_
                obtain rfl := Option.some.inj hf
                exact hR H locs 44 ls hP hD hS dX6_put_44
              · have hf := hf_f c_30 hf
                refine lv_iload_n (pc := 33) hx hb dX6_put_33 rfl (lv_at hl 3 rfl) ?_
                refine lv_aload (pc := 34) hx hb dX6_put_34 (lv_at hl 0 rfl) ?_
                refine vXgRX6_255_36 (pc := 36) hx hb hts mU_797 inU2 hown hK hP (x := (gI S 35)) rfl dX6_put_36 ?_
                refine lv_icmp_lt (pc := 39) hx hb (tgt := 45) dX6_put_39 (by decide) (fun c_39 => ?_) (fun c_39 => ?_)
                · have hf := hf_t c_39 hf
                  refine lv_aload (pc := 45) hx hb dX6_put_45 (lv_at hl 0 rfl) ?_
                  refine lv_iload_n (pc := 47) hx hb dX6_put_47 rfl (lv_at hl 3 rfl) ?_
                  refine lv_lload_n (pc := 48) hx hb dX6_put_48 rfl (lv_at hl 4 rfl) ?_
                  obtain ⟨r49, hc49, hf⟩ := hf_b hf
                  refine cl_V (pc := 49) (As := [.int a2, .long a3]) (rest := []) hx hb hml hown hts (kX2_write_36 l D A B _ S a2 a3 r49 hc49) (cwV 2 hts gwRX6_227 rfl rfl rfl hdX2_write ⟨Nat.le_of_ble_eq_true rfl, Nat.le_of_ble_eq_true rfl⟩) hN hK hP hD hS hA (va_recv hK hP (ci := 2) (q0 := 36) rfl (eX_36 A B _)) rfl hl.1 rfl (Nat.le_of_ble_eq_true rfl) dX6_put_49 (st1 := []) rfl ⟨Nat.zero_le _, Nat.zero_le _⟩ (fun H locs hP hD hS => ?_)
                  refine lv_iconst (pc := 52) hx hb (v := 1) dX6_put_52 (by decide) ?_
                  obtain rfl := Option.some.inj hf
                  exact hR H locs 53 ls hP hD hS dX6_put_53
                · have hf := hf_f c_39 hf
                  refine lv_bipush (pc := 42) hx hb (v := (-12)) dX6_put_42 (by decide) ?_
                  obtain rfl := Option.some.inj hf
                  exact hR H locs 44 ls hP hD hS dX6_put_44
            · have hf := hf_t c_23 hf
              refine lv_bipush (pc := 26) hx hb (v := (-11)) dX6_put_26 (by decide) ?_
              obtain rfl := Option.some.inj hf
              exact hR H locs 28 ls hP hD hS dX6_put_28
          · have hf := hf_f e14_3 hf
            exact hf_0 hf
  · have hf := hf_t c_4 hf
    refine lv_iconst (pc := 7) hx hb (v := (-1)) dX6_put_7 (by decide) ?_
    obtain rfl := Option.some.inj hf
    exact hR H locs 8 ls hP hD hS dX6_put_8
set_option maxHeartbeats 4000000 in
set_option maxRecDepth 100000 in
theorem kX6_item (l : Launch) (D : va_G) (A : Nat → Nat) (B : Nat → ClassId) (sz : Nat) (S : w_S) (a1 : Int32) (a2 : Int32) (a3 : Int32) (z : Int32) (hf : fX6_item S a1 a2 a3 = some z) : MetW l yX6_item (wsO yX6_item cX6_item 5 (some .int)) rm_X6_item [.ref (A 0), .int a1, .int a2, .int a3] D (tyB B) (wX A B S) (wX A B S) sz (some (.int z)) := by
  refine MetW.mkI (cc := cX6_item) (maxL := 5) (by decide) (Nat.le_of_ble_eq_true rfl) ?_
  intro p e s m args below meth c Ad Q hx hb hts hown hml hN hK hA hR H locs ls hP hD hS hl
  have hl : lv_has ls 5 [(0, .ref (A 0)), (1, .int a1), (2, .int a2), (3, .int a3)] := hl
  rw [fX6_item] at hf
  refine lv_iload_n (pc := 0) hx hb dX6_item_0 rfl (lv_at hl 1 rfl) ?_
  obtain ⟨r1, hc1, hf⟩ := hf_b hf
  refine cl_S (pc := 1) (As := [.int a1]) (rest := []) hx hb hml hown hts (kX6_isSheet l D A B _ S a1 r1 hc1) (va_cwS 1 hts gwRX6_214 rfl rfl rfl hdX6_isSheet ⟨Nat.le_of_ble_eq_true rfl, Nat.le_of_ble_eq_true rfl⟩) hN hK hP hD hS hA rfl hl.1 rfl (Nat.le_of_ble_eq_true rfl) dX6_item_1 (st1 := [.int r1]) rfl ⟨Nat.zero_le _, Nat.zero_le _⟩ (fun H locs hP hD hS => ?_)
  refine lv_if_eq (pc := 4) hx hb (tgt := 14) dX6_item_4 (by decide) (fun c_4 => ?_) (fun c_4 => ?_)
  · have hf := hf_t c_4 hf
    refine lv_iconst (pc := 14) hx hb (v := (-1)) dX6_item_14 (by decide) ?_
    obtain rfl := Option.some.inj hf
    exact hR H locs 15 ls hP hD hS dX6_item_15
  · have hf := hf_f c_4 hf
    refine lv_iload_n (pc := 7) hx hb dX6_item_7 rfl (lv_at hl 2 rfl) ?_
    obtain ⟨r8, hc8, hf⟩ := hf_b hf
    refine cl_S (pc := 8) (As := [.int a2]) (rest := []) hx hb hml hown hts (kX6_isSort l D A B _ S a2 r8 hc8) (va_cwS 1 hts gwRX6_249 rfl rfl rfl hdX6_isSort ⟨Nat.le_of_ble_eq_true rfl, Nat.le_of_ble_eq_true rfl⟩) hN hK hP hD hS hA rfl hl.1 rfl (Nat.le_of_ble_eq_true rfl) dX6_item_8 (st1 := [.int r8]) rfl ⟨Nat.zero_le _, Nat.zero_le _⟩ (fun H locs hP hD hS => ?_)
    refine lv_if_ne (pc := 11) hx hb (tgt := 16) dX6_item_11 (by decide) (fun c_11 => ?_) (fun c_11 => ?_)
    · have hf := hf_f c_11 hf
      refine lv_aload_n (pc := 16) hx hb dX6_item_16 rfl (lv_at hl 0 rfl) ?_
      refine vXgRX6_48_0 (pc := 17) hx hb hts mU_33 inU6 hown hK hP dX6_item_17 ?_
      refine lv_iload_n (pc := 20) hx hb dX6_item_20 rfl (lv_at hl 1 rfl) ?_
      by_cases e21_0 : a1 = (0 : Int32)
      · have hf := hf_t e21_0 hf
        refine vXrq_29_0 (pc := 21) hx hb hK hP e21_0 dX6_item_21 ?_
        refine lv_astore (pc := 22) hx hb (lv' := [(4, .ref (A 30)), (0, .ref (A 0)), (1, .int a1), (2, .int a2), (3, .int a3)]) dX6_item_22 hl (by decide) rfl (fun ls hl => ?_)
        refine lv_aload (pc := 24) hx hb dX6_item_24 (lv_at hl 0 rfl) ?_
        refine vXgRX6_252_30 (pc := 26) hx hb hts mU_796 inU2 hown hK hP (x := (gI S 28)) rfl dX6_item_26 ?_
        refine lv_iconst (pc := 29) hx hb (v := (-1)) dX6_item_29 (by decide) ?_
        refine lv_icmp_ne (pc := 30) hx hb (tgt := 36) dX6_item_30 (by decide) (fun c_30 => ?_) (fun c_30 => ?_)
        · have hf := hf_f c_30 hf
          refine lv_aload (pc := 36) hx hb dX6_item_36 (lv_at hl 0 rfl) ?_
          refine vXgRX6_252_30 (pc := 38) hx hb hts mU_796 inU2 hown hK hP (x := (gI S 28)) rfl dX6_item_38 ?_
          refine lv_iload_n (pc := 41) hx hb dX6_item_41 rfl (lv_at hl 3 rfl) ?_
          refine lv_icmp_eq (pc := 42) hx hb (tgt := 48) dX6_item_42 (by decide) (fun c_42 => ?_) (fun c_42 => ?_)
          · have hf := hf_t c_42 hf
            refine lv_iload_n (pc := 48) hx hb dX6_item_48 rfl (lv_at hl 4 rfl) ?_
            refine lv_if_lt (pc := 49) hx hb (tgt := 61) dX6_item_49 (by decide) (fun c_49 => ?_) (fun c_49 => ?_)
            · have hf := hf_t c_49 hf
              refine lv_bipush (pc := 61) hx hb (v := (-12)) dX6_item_61 (by decide) ?_
              refine lv_goto (pc := 63) hx hb (tgt := 73) dX6_item_63 (by decide) ?_
              obtain rfl := Option.some.inj hf
              exact hR H locs 73 ls hP hD hS dX6_item_73
            · have hf := hf_f c_49 hf
              refine lv_iload_n (pc := 52) hx hb dX6_item_52 rfl (lv_at hl 4 rfl) ?_
              refine lv_aload (pc := 53) hx hb dX6_item_53 (lv_at hl 0 rfl) ?_
              refine vXgRX6_255_30 (pc := 55) hx hb hts mU_797 inU2 hown hK hP (x := (gI S 29)) rfl dX6_item_55 ?_
              refine lv_icmp_lt (pc := 58) hx hb (tgt := 66) dX6_item_58 (by decide) (fun c_58 => ?_) (fun c_58 => ?_)
              · have hf := hf_t c_58 hf
                refine lv_aload (pc := 66) hx hb dX6_item_66 (lv_at hl 0 rfl) ?_
                refine lv_iload_n (pc := 68) hx hb dX6_item_68 rfl (lv_at hl 4 rfl) ?_
                obtain ⟨r69, hc69, hf⟩ := hf_b hf
                refine cl_V (pc := 69) (As := [.int a3]) (rest := []) hx hb hml hown hts (kX2_read_30 l D A B _ S a3 r69 hc69) (cwV 1 hts gwRX6_258 rfl rfl rfl hdX2_read ⟨Nat.le_of_ble_eq_true rfl, Nat.le_of_ble_eq_true rfl⟩) hN hK hP hD hS hA (va_recv hK hP (ci := 2) (q0 := 30) rfl (eX_30 A B _)) rfl hl.1 rfl (Nat.le_of_ble_eq_true rfl) dX6_item_69 (st1 := [.long r69]) rfl ⟨Nat.zero_le _, Nat.zero_le _⟩ (fun H locs hP hD hS => ?_)
                refine lv_l2i (pc := 72) hx hb (v := r69.toInt32) dX6_item_72 rfl ?_
                obtain rfl := Option.some.inj hf
                exact hR H locs 73 ls hP hD hS dX6_item_73
              · have hf := hf_f c_58 hf
                refine lv_bipush (pc := 61) hx hb (v := (-12)) dX6_item_61 (by decide) ?_
                refine lv_goto (pc := 63) hx hb (tgt := 73) dX6_item_63 (by decide) ?_
                obtain rfl := Option.some.inj hf
                exact hR H locs 73 ls hP hD hS dX6_item_73
          · have hf := hf_f c_42 hf
            refine lv_bipush (pc := 45) hx hb (v := (-13)) dX6_item_45 (by decide) ?_
            obtain rfl := Option.some.inj hf
            exact hR H locs 47 ls hP hD hS dX6_item_47
        · have hf := hf_t c_30 hf
          refine lv_bipush (pc := 33) hx hb (v := (-11)) dX6_item_33 (by decide) ?_
          obtain rfl := Option.some.inj hf
          exact hR H locs 35 ls hP hD hS dX6_item_35
      · have hf := hf_f e21_0 hf
        by_cases e21_1 : a1 = (1 : Int32)
        · have hf := hf_t e21_1 hf
          refine vXrq_29_1 (pc := 21) hx hb hK hP e21_1 dX6_item_21 ?_
          refine lv_astore (pc := 22) hx hb (lv' := [(4, .ref (A 32)), (0, .ref (A 0)), (1, .int a1), (2, .int a2), (3, .int a3)]) dX6_item_22 hl (by decide) rfl (fun ls hl => ?_)
          refine lv_aload (pc := 24) hx hb dX6_item_24 (lv_at hl 0 rfl) ?_
          refine vXgRX6_252_32 (pc := 26) hx hb hts mU_796 inU2 hown hK hP (x := (gI S 30)) rfl dX6_item_26 ?_
          refine lv_iconst (pc := 29) hx hb (v := (-1)) dX6_item_29 (by decide) ?_
          refine lv_icmp_ne (pc := 30) hx hb (tgt := 36) dX6_item_30 (by decide) (fun c_30 => ?_) (fun c_30 => ?_)
          · have hf := hf_f c_30 hf
            refine lv_aload (pc := 36) hx hb dX6_item_36 (lv_at hl 0 rfl) ?_
            refine vXgRX6_252_32 (pc := 38) hx hb hts mU_796 inU2 hown hK hP (x := (gI S 30)) rfl dX6_item_38 ?_
            refine lv_iload_n (pc := 41) hx hb dX6_item_41 rfl (lv_at hl 3 rfl) ?_
            refine lv_icmp_eq (pc := 42) hx hb (tgt := 48) dX6_item_42 (by decide) (fun c_42 => ?_) (fun c_42 => ?_)
            · have hf := hf_t c_42 hf
              refine lv_iload_n (pc := 48) hx hb dX6_item_48 rfl (lv_at hl 4 rfl) ?_
              refine lv_if_lt (pc := 49) hx hb (tgt := 61) dX6_item_49 (by decide) (fun c_49 => ?_) (fun c_49 => ?_)
              · have hf := hf_t c_49 hf
                refine lv_bipush (pc := 61) hx hb (v := (-12)) dX6_item_61 (by decide) ?_
                refine lv_goto (pc := 63) hx hb (tgt := 73) dX6_item_63 (by decide) ?_
                obtain rfl := Option.some.inj hf
                exact hR H locs 73 ls hP hD hS dX6_item_73
              · have hf := hf_f c_49 hf
                refine lv_iload_n (pc := 52) hx hb dX6_item_52 rfl (lv_at hl 4 rfl) ?_
                refine lv_aload (pc := 53) hx hb dX6_item_53 (lv_at hl 0 rfl) ?_
                refine vXgRX6_255_32 (pc := 55) hx hb hts mU_797 inU2 hown hK hP (x := (gI S 31)) rfl dX6_item_55 ?_
                refine lv_icmp_lt (pc := 58) hx hb (tgt := 66) dX6_item_58 (by decide) (fun c_58 => ?_) (fun c_58 => ?_)
                · have hf := hf_t c_58 hf
                  refine lv_aload (pc := 66) hx hb dX6_item_66 (lv_at hl 0 rfl) ?_
                  refine lv_iload_n (pc := 68) hx hb dX6_item_68 rfl (lv_at hl 4 rfl) ?_
                  obtain ⟨r69, hc69, hf⟩ := hf_b hf
                  refine cl_V (pc := 69) (As := [.int a3]) (rest := []) hx hb hml hown hts (kX2_read_32 l D A B _ S a3 r69 hc69) (cwV 1 hts gwRX6_258 rfl rfl rfl hdX2_read ⟨Nat.le_of_ble_eq_true rfl, Nat.le_of_ble_eq_true rfl⟩) hN hK hP hD hS hA (va_recv hK hP (ci := 2) (q0 := 32) rfl (eX_32 A B _)) rfl hl.1 rfl (Nat.le_of_ble_eq_true rfl) dX6_item_69 (st1 := [.long r69]) rfl ⟨Nat.zero_le _, Nat.zero_le _⟩ (fun H locs hP hD hS => ?_)
                  refine lv_l2i (pc := 72) hx hb (v := r69.toInt32) dX6_item_72 rfl ?_
                  obtain rfl := Option.some.inj hf
                  exact hR H locs 73 ls hP hD hS dX6_item_73
                · have hf := hf_f c_58 hf
                  refine lv_bipush (pc := 61) hx hb (v := (-12)) dX6_item_61 (by decide) ?_
                  refine lv_goto (pc := 63) hx hb (tgt := 73) dX6_item_63 (by decide) ?_
                  obtain rfl := Option.some.inj hf
                  exact hR H locs 73 ls hP hD hS dX6_item_73
            · have hf := hf_f c_42 hf
              refine lv_bipush (pc := 45) hx hb (v := (-13)) dX6_item_45 (by decide) ?_
              obtain rfl := Option.some.inj hf
              exact hR H locs 47 ls hP hD hS dX6_item_47
          · have hf := hf_t c_30 hf
            refine lv_bipush (pc := 33) hx hb (v := (-11)) dX6_item_33 (by decide) ?_
            obtain rfl := Option.some.inj hf
            exact hR H locs 35 ls hP hD hS dX6_item_35
        · have hf := hf_f e21_1 hf
          by_cases e21_2 : a1 = (2 : Int32)
          · have hf := hf_t e21_2 hf
            refine vXrq_29_2 (pc := 21) hx hb hK hP e21_2 dX6_item_21 ?_
            refine lv_astore (pc := 22) hx hb (lv' := [(4, .ref (A 34)), (0, .ref (A 0)), (1, .int a1), (2, .int a2), (3, .int a3)]) dX6_item_22 hl (by decide) rfl (fun ls hl => ?_)
            refine lv_aload (pc := 24) hx hb dX6_item_24 (lv_at hl 0 rfl) ?_
            refine vXgRX6_252_34 (pc := 26) hx hb hts mU_796 inU2 hown hK hP (x := (gI S 32)) rfl dX6_item_26 ?_
            refine lv_iconst (pc := 29) hx hb (v := (-1)) dX6_item_29 (by decide) ?_
            refine lv_icmp_ne (pc := 30) hx hb (tgt := 36) dX6_item_30 (by decide) (fun c_30 => ?_) (fun c_30 => ?_)
            · have hf := hf_f c_30 hf
              refine lv_aload (pc := 36) hx hb dX6_item_36 (lv_at hl 0 rfl) ?_
              refine vXgRX6_252_34 (pc := 38) hx hb hts mU_796 inU2 hown hK hP (x := (gI S 32)) rfl dX6_item_38 ?_
              refine lv_iload_n (pc := 41) hx hb dX6_item_41 rfl (lv_at hl 3 rfl) ?_
              refine lv_icmp_eq (pc := 42) hx hb (tgt := 48) dX6_item_42 (by decide) (fun c_42 => ?_) (fun c_42 => ?_)
              · have hf := hf_t c_42 hf
                refine lv_iload_n (pc := 48) hx hb dX6_item_48 rfl (lv_at hl 4 rfl) ?_
                refine lv_if_lt (pc := 49) hx hb (tgt := 61) dX6_item_49 (by decide) (fun c_49 => ?_) (fun c_49 => ?_)
                · have hf := hf_t c_49 hf
                  refine lv_bipush (pc := 61) hx hb (v := (-12)) dX6_item_61 (by decide) ?_
                  refine lv_goto (pc := 63) hx hb (tgt := 73) dX6_item_63 (by decide) ?_
                  obtain rfl := Option.some.inj hf
                  exact hR H locs 73 ls hP hD hS dX6_item_73
                · have hf := hf_f c_49 hf
                  refine lv_iload_n (pc := 52) hx hb dX6_item_52 rfl (lv_at hl 4 rfl) ?_
                  refine lv_aload (pc := 53) hx hb dX6_item_53 (lv_at hl 0 rfl) ?_
                  refine vXgRX6_255_34 (pc := 55) hx hb hts mU_797 inU2 hown hK hP (x := (gI S 33)) rfl dX6_item_55 ?_
                  refine lv_icmp_lt (pc := 58) hx hb (tgt := 66) dX6_item_58 (by decide) (fun c_58 => ?_) (fun c_58 => ?_)
                  · have hf := hf_t c_58 hf
                    refine lv_aload (pc := 66) hx hb dX6_item_66 (lv_at hl 0 rfl) ?_
                    refine lv_iload_n (pc := 68) hx hb dX6_item_68 rfl (lv_at hl 4 rfl) ?_
                    obtain ⟨r69, hc69, hf⟩ := hf_b hf
                    refine cl_V (pc := 69) (As := [.int a3]) (rest := []) hx hb hml hown hts (kX2_read_34 l D A B _ S a3 r69 hc69) (cwV 1 hts gwRX6_258 rfl rfl rfl hdX2_read ⟨Nat.le_of_ble_eq_true rfl, Nat.le_of_ble_eq_true rfl⟩) hN hK hP hD hS hA (va_recv hK hP (ci := 2) (q0 := 34) rfl (eX_34 A B _)) rfl hl.1 rfl (Nat.le_of_ble_eq_true rfl) dX6_item_69 (st1 := [.long r69]) rfl ⟨Nat.zero_le _, Nat.zero_le _⟩ (fun H locs hP hD hS => ?_)
                    refine lv_l2i (pc := 72) hx hb (v := r69.toInt32) dX6_item_72 rfl ?_
                    obtain rfl := Option.some.inj hf
                    exact hR H locs 73 ls hP hD hS dX6_item_73
                  · have hf := hf_f c_58 hf
                    refine lv_bipush (pc := 61) hx hb (v := (-12)) dX6_item_61 (by decide) ?_
                    refine lv_goto (pc := 63) hx hb (tgt := 73) dX6_item_63 (by decide) ?_
                    obtain rfl := Option.some.inj hf
                    exact hR H locs 73 ls hP hD hS dX6_item_73
              · have hf := hf_f c_42 hf
                refine lv_bipush (pc := 45) hx hb (v := (-13)) dX6_item_45 (by decide) ?_
                obtain rfl := Option.some.inj hf
                exact hR H locs 47 ls hP hD hS dX6_item_47
            · have hf := hf_t c_30 hf
              refine lv_bipush (pc := 33) hx hb (v := (-11)) dX6_item_33 (by decide) ?_
              obtain rfl := Option.some.inj hf
              exact hR H locs 35 ls hP hD hS dX6_item_35
          · have hf := hf_f e21_2 hf
            by_cases e21_3 : a1 = (3 : Int32)
            · have hf := hf_t e21_3 hf
              refine vXrq_29_3 (pc := 21) hx hb hK hP e21_3 dX6_item_21 ?_
              refine lv_astore (pc := 22) hx hb (lv' := [(4, .ref (A 36)), (0, .ref (A 0)), (1, .int a1), (2, .int a2), (3, .int a3)]) dX6_item_22 hl (by decide) rfl (fun ls hl => ?_)
              refine lv_aload (pc := 24) hx hb dX6_item_24 (lv_at hl 0 rfl) ?_
              refine vXgRX6_252_36 (pc := 26) hx hb hts mU_796 inU2 hown hK hP (x := (gI S 34)) rfl dX6_item_26 ?_
              refine lv_iconst (pc := 29) hx hb (v := (-1)) dX6_item_29 (by decide) ?_
              refine lv_icmp_ne (pc := 30) hx hb (tgt := 36) dX6_item_30 (by decide) (fun c_30 => ?_) (fun c_30 => ?_)
              · have hf := hf_f c_30 hf
                refine lv_aload (pc := 36) hx hb dX6_item_36 (lv_at hl 0 rfl) ?_
                refine vXgRX6_252_36 (pc := 38) hx hb hts mU_796 inU2 hown hK hP (x := (gI S 34)) rfl dX6_item_38 ?_
                refine lv_iload_n (pc := 41) hx hb dX6_item_41 rfl (lv_at hl 3 rfl) ?_
                refine lv_icmp_eq (pc := 42) hx hb (tgt := 48) dX6_item_42 (by decide) (fun c_42 => ?_) (fun c_42 => ?_)
                · have hf := hf_t c_42 hf
                  refine lv_iload_n (pc := 48) hx hb dX6_item_48 rfl (lv_at hl 4 rfl) ?_
                  refine lv_if_lt (pc := 49) hx hb (tgt := 61) dX6_item_49 (by decide) (fun c_49 => ?_) (fun c_49 => ?_)
                  · have hf := hf_t c_49 hf
                    refine lv_bipush (pc := 61) hx hb (v := (-12)) dX6_item_61 (by decide) ?_
                    refine lv_goto (pc := 63) hx hb (tgt := 73) dX6_item_63 (by decide) ?_
                    obtain rfl := Option.some.inj hf
                    exact hR H locs 73 ls hP hD hS dX6_item_73
                  · have hf := hf_f c_49 hf
                    refine lv_iload_n (pc := 52) hx hb dX6_item_52 rfl (lv_at hl 4 rfl) ?_
                    refine lv_aload (pc := 53) hx hb dX6_item_53 (lv_at hl 0 rfl) ?_
                    refine vXgRX6_255_36 (pc := 55) hx hb hts mU_797 inU2 hown hK hP (x := (gI S 35)) rfl dX6_item_55 ?_
                    refine lv_icmp_lt (pc := 58) hx hb (tgt := 66) dX6_item_58 (by decide) (fun c_58 => ?_) (fun c_58 => ?_)
                    · have hf := hf_t c_58 hf
                      refine lv_aload (pc := 66) hx hb dX6_item_66 (lv_at hl 0 rfl) ?_
                      refine lv_iload_n (pc := 68) hx hb dX6_item_68 rfl (lv_at hl 4 rfl) ?_
                      obtain ⟨r69, hc69, hf⟩ := hf_b hf
                      refine cl_V (pc := 69) (As := [.int a3]) (rest := []) hx hb hml hown hts (kX2_read_36 l D A B _ S a3 r69 hc69) (cwV 1 hts gwRX6_258 rfl rfl rfl hdX2_read ⟨Nat.le_of_ble_eq_true rfl, Nat.le_of_ble_eq_true rfl⟩) hN hK hP hD hS hA (va_recv hK hP (ci := 2) (q0 := 36) rfl (eX_36 A B _)) rfl hl.1 rfl (Nat.le_of_ble_eq_true rfl) dX6_item_69 (st1 := [.long r69]) rfl ⟨Nat.zero_le _, Nat.zero_le _⟩ (fun H locs hP hD hS => ?_)
                      refine lv_l2i (pc := 72) hx hb (v := r69.toInt32) dX6_item_72 rfl ?_
                      obtain rfl := Option.some.inj hf
                      exact hR H locs 73 ls hP hD hS dX6_item_73
                    · have hf := hf_f c_58 hf
                      refine lv_bipush (pc := 61) hx hb (v := (-12)) dX6_item_61 (by decide) ?_
                      refine lv_goto (pc := 63) hx hb (tgt := 73) dX6_item_63 (by decide) ?_
                      obtain rfl := Option.some.inj hf
                      exact hR H locs 73 ls hP hD hS dX6_item_73
                · have hf := hf_f c_42 hf
                  refine lv_bipush (pc := 45) hx hb (v := (-13)) dX6_item_45 (by decide) ?_
                  obtain rfl := Option.some.inj hf
                  exact hR H locs 47 ls hP hD hS dX6_item_47
              · have hf := hf_t c_30 hf
                refine lv_bipush (pc := 33) hx hb (v := (-11)) dX6_item_33 (by decide) ?_
                obtain rfl := Option.some.inj hf
                exact hR H locs 35 ls hP hD hS dX6_item_35
            · have hf := hf_f e21_3 hf
              exact hf_0 hf
    · have hf := hf_t c_11 hf
      refine lv_iconst (pc := 14) hx hb (v := (-1)) dX6_item_14 (by decide) ?_
      obtain rfl := Option.some.inj hf
      exact hR H locs 15 ls hP hD hS dX6_item_15
set_option maxHeartbeats 4000000 in
set_option maxRecDepth 100000 in
theorem kX2_hasStretch_30 (l : Launch) (D : va_G) (A : Nat → Nat) (B : Nat → ClassId) (sz : Nat) (S : w_S) (a1 : Int32) (a2 : Int32) (z : Int32) (hf : fX2_hasStretch_30 S a1 a2 = some z) : MetW l yX2_hasStretch (wsO yX2_hasStretch cX2_hasStretch 3 (some .boolean)) rm_X2_hasStretch [.ref (A 30), .int a1, .int a2] D (tyB B) (wX A B S) (wX A B S) sz (some (.int z)) := by
  refine MetW.mkZ (cc := cX2_hasStretch) (maxL := 3) (by decide) (Nat.le_of_ble_eq_true rfl) ?_
  intro p e s m args below meth c Ad Q hx hb hts hown hml hN hK hA hR H locs ls hP hD hS hl
  have hl : lv_has ls 3 [(0, .ref (A 30)), (1, .int a1), (2, .int a2)] := hl
  rw [fX2_hasStretch_30] at hf
  refine lv_iload_n (pc := 0) hx hb dX2_hasStretch_0 rfl (lv_at hl 2 rfl) ?_
  refine lv_if_lt (pc := 1) hx hb (tgt := 30) dX2_hasStretch_1 (by decide) (fun c_1 => ?_) (fun c_1 => ?_)
  · have hf := hf_t c_1 hf
    refine lv_iconst (pc := 30) hx hb (v := 0) dX2_hasStretch_30 (by decide) ?_
    obtain rfl := Option.some.inj hf
    exact hR H locs 31 ls hP hD hS (nz_of (.inl rfl)) dX2_hasStretch_31
  · have hf := hf_f c_1 hf
    refine lv_iload_n (pc := 4) hx hb dX2_hasStretch_4 rfl (lv_at hl 2 rfl) ?_
    refine lv_aload_n (pc := 5) hx hb dX2_hasStretch_5 rfl (lv_at hl 0 rfl) ?_
    refine vXgRX2_28_30 (pc := 6) hx hb hts mU_767 inU2 hown hK hP (x := (gI S 29)) rfl dX2_hasStretch_6 ?_
    refine lv_icmp_gt (pc := 9) hx hb (tgt := 30) dX2_hasStretch_9 (by decide) (fun c_9 => ?_) (fun c_9 => ?_)
    · have hf := hf_t c_9 hf
      refine lv_iconst (pc := 30) hx hb (v := 0) dX2_hasStretch_30 (by decide) ?_
      obtain rfl := Option.some.inj hf
      exact hR H locs 31 ls hP hD hS (nz_of (.inl rfl)) dX2_hasStretch_31
    · have hf := hf_f c_9 hf
      refine lv_iload_n (pc := 12) hx hb dX2_hasStretch_12 rfl (lv_at hl 1 rfl) ?_
      refine lv_if_lt (pc := 13) hx hb (tgt := 30) dX2_hasStretch_13 (by decide) (fun c_13 => ?_) (fun c_13 => ?_)
      · have hf := hf_t c_13 hf
        refine lv_iconst (pc := 30) hx hb (v := 0) dX2_hasStretch_30 (by decide) ?_
        obtain rfl := Option.some.inj hf
        exact hR H locs 31 ls hP hD hS (nz_of (.inl rfl)) dX2_hasStretch_31
      · have hf := hf_f c_13 hf
        refine lv_iload_n (pc := 16) hx hb dX2_hasStretch_16 rfl (lv_at hl 1 rfl) ?_
        refine lv_aload_n (pc := 17) hx hb dX2_hasStretch_17 rfl (lv_at hl 0 rfl) ?_
        refine vXgRX2_28_30 (pc := 18) hx hb hts mU_767 inU2 hown hK hP (x := (gI S 29)) rfl dX2_hasStretch_18 ?_
        refine lv_iload_n (pc := 21) hx hb dX2_hasStretch_21 rfl (lv_at hl 2 rfl) ?_
        refine lv_isub (pc := 22) hx hb dX2_hasStretch_22 ?_
        refine lv_icmp_gt (pc := 23) hx hb (tgt := 30) dX2_hasStretch_23 (by decide) (fun c_23 => ?_) (fun c_23 => ?_)
        · have hf := hf_t c_23 hf
          refine lv_iconst (pc := 30) hx hb (v := 0) dX2_hasStretch_30 (by decide) ?_
          obtain rfl := Option.some.inj hf
          exact hR H locs 31 ls hP hD hS (nz_of (.inl rfl)) dX2_hasStretch_31
        · have hf := hf_f c_23 hf
          refine lv_iconst (pc := 26) hx hb (v := 1) dX2_hasStretch_26 (by decide) ?_
          refine lv_goto (pc := 27) hx hb (tgt := 31) dX2_hasStretch_27 (by decide) ?_
          obtain rfl := Option.some.inj hf
          exact hR H locs 31 ls hP hD hS (nz_of (.inr rfl)) dX2_hasStretch_31
set_option maxHeartbeats 4000000 in
set_option maxRecDepth 100000 in
theorem kX2_hasStretch_32 (l : Launch) (D : va_G) (A : Nat → Nat) (B : Nat → ClassId) (sz : Nat) (S : w_S) (a1 : Int32) (a2 : Int32) (z : Int32) (hf : fX2_hasStretch_32 S a1 a2 = some z) : MetW l yX2_hasStretch (wsO yX2_hasStretch cX2_hasStretch 3 (some .boolean)) rm_X2_hasStretch [.ref (A 32), .int a1, .int a2] D (tyB B) (wX A B S) (wX A B S) sz (some (.int z)) := by
  refine MetW.mkZ (cc := cX2_hasStretch) (maxL := 3) (by decide) (Nat.le_of_ble_eq_true rfl) ?_
  intro p e s m args below meth c Ad Q hx hb hts hown hml hN hK hA hR H locs ls hP hD hS hl
  have hl : lv_has ls 3 [(0, .ref (A 32)), (1, .int a1), (2, .int a2)] := hl
  rw [fX2_hasStretch_32] at hf
  refine lv_iload_n (pc := 0) hx hb dX2_hasStretch_0 rfl (lv_at hl 2 rfl) ?_
  refine lv_if_lt (pc := 1) hx hb (tgt := 30) dX2_hasStretch_1 (by decide) (fun c_1 => ?_) (fun c_1 => ?_)
  · have hf := hf_t c_1 hf
    refine lv_iconst (pc := 30) hx hb (v := 0) dX2_hasStretch_30 (by decide) ?_
    obtain rfl := Option.some.inj hf
    exact hR H locs 31 ls hP hD hS (nz_of (.inl rfl)) dX2_hasStretch_31
  · have hf := hf_f c_1 hf
    refine lv_iload_n (pc := 4) hx hb dX2_hasStretch_4 rfl (lv_at hl 2 rfl) ?_
    refine lv_aload_n (pc := 5) hx hb dX2_hasStretch_5 rfl (lv_at hl 0 rfl) ?_
    refine vXgRX2_28_32 (pc := 6) hx hb hts mU_767 inU2 hown hK hP (x := (gI S 31)) rfl dX2_hasStretch_6 ?_
    refine lv_icmp_gt (pc := 9) hx hb (tgt := 30) dX2_hasStretch_9 (by decide) (fun c_9 => ?_) (fun c_9 => ?_)
    · have hf := hf_t c_9 hf
      refine lv_iconst (pc := 30) hx hb (v := 0) dX2_hasStretch_30 (by decide) ?_
      obtain rfl := Option.some.inj hf
      exact hR H locs 31 ls hP hD hS (nz_of (.inl rfl)) dX2_hasStretch_31
    · have hf := hf_f c_9 hf
      refine lv_iload_n (pc := 12) hx hb dX2_hasStretch_12 rfl (lv_at hl 1 rfl) ?_
      refine lv_if_lt (pc := 13) hx hb (tgt := 30) dX2_hasStretch_13 (by decide) (fun c_13 => ?_) (fun c_13 => ?_)
      · have hf := hf_t c_13 hf
        refine lv_iconst (pc := 30) hx hb (v := 0) dX2_hasStretch_30 (by decide) ?_
        obtain rfl := Option.some.inj hf
        exact hR H locs 31 ls hP hD hS (nz_of (.inl rfl)) dX2_hasStretch_31
      · have hf := hf_f c_13 hf
        refine lv_iload_n (pc := 16) hx hb dX2_hasStretch_16 rfl (lv_at hl 1 rfl) ?_
        refine lv_aload_n (pc := 17) hx hb dX2_hasStretch_17 rfl (lv_at hl 0 rfl) ?_
        refine vXgRX2_28_32 (pc := 18) hx hb hts mU_767 inU2 hown hK hP (x := (gI S 31)) rfl dX2_hasStretch_18 ?_
        refine lv_iload_n (pc := 21) hx hb dX2_hasStretch_21 rfl (lv_at hl 2 rfl) ?_
        refine lv_isub (pc := 22) hx hb dX2_hasStretch_22 ?_
        refine lv_icmp_gt (pc := 23) hx hb (tgt := 30) dX2_hasStretch_23 (by decide) (fun c_23 => ?_) (fun c_23 => ?_)
        · have hf := hf_t c_23 hf
          refine lv_iconst (pc := 30) hx hb (v := 0) dX2_hasStretch_30 (by decide) ?_
          obtain rfl := Option.some.inj hf
          exact hR H locs 31 ls hP hD hS (nz_of (.inl rfl)) dX2_hasStretch_31
        · have hf := hf_f c_23 hf
          refine lv_iconst (pc := 26) hx hb (v := 1) dX2_hasStretch_26 (by decide) ?_
          refine lv_goto (pc := 27) hx hb (tgt := 31) dX2_hasStretch_27 (by decide) ?_
          obtain rfl := Option.some.inj hf
          exact hR H locs 31 ls hP hD hS (nz_of (.inr rfl)) dX2_hasStretch_31
set_option maxHeartbeats 4000000 in
set_option maxRecDepth 100000 in
theorem kX2_hasStretch_34 (l : Launch) (D : va_G) (A : Nat → Nat) (B : Nat → ClassId) (sz : Nat) (S : w_S) (a1 : Int32) (a2 : Int32) (z : Int32) (hf : fX2_hasStretch_34 S a1 a2 = some z) : MetW l yX2_hasStretch (wsO yX2_hasStretch cX2_hasStretch 3 (some .boolean)) rm_X2_hasStretch [.ref (A 34), .int a1, .int a2] D (tyB B) (wX A B S) (wX A B S) sz (some (.int z)) := by
  refine MetW.mkZ (cc := cX2_hasStretch) (maxL := 3) (by decide) (Nat.le_of_ble_eq_true rfl) ?_
  intro p e s m args below meth c Ad Q hx hb hts hown hml hN hK hA hR H locs ls hP hD hS hl
  have hl : lv_has ls 3 [(0, .ref (A 34)), (1, .int a1), (2, .int a2)] := hl
  rw [fX2_hasStretch_34] at hf
  refine lv_iload_n (pc := 0) hx hb dX2_hasStretch_0 rfl (lv_at hl 2 rfl) ?_
  refine lv_if_lt (pc := 1) hx hb (tgt := 30) dX2_hasStretch_1 (by decide) (fun c_1 => ?_) (fun c_1 => ?_)
  · have hf := hf_t c_1 hf
    refine lv_iconst (pc := 30) hx hb (v := 0) dX2_hasStretch_30 (by decide) ?_
    obtain rfl := Option.some.inj hf
    exact hR H locs 31 ls hP hD hS (nz_of (.inl rfl)) dX2_hasStretch_31
  · have hf := hf_f c_1 hf
    refine lv_iload_n (pc := 4) hx hb dX2_hasStretch_4 rfl (lv_at hl 2 rfl) ?_
    refine lv_aload_n (pc := 5) hx hb dX2_hasStretch_5 rfl (lv_at hl 0 rfl) ?_
    refine vXgRX2_28_34 (pc := 6) hx hb hts mU_767 inU2 hown hK hP (x := (gI S 33)) rfl dX2_hasStretch_6 ?_
    refine lv_icmp_gt (pc := 9) hx hb (tgt := 30) dX2_hasStretch_9 (by decide) (fun c_9 => ?_) (fun c_9 => ?_)
    · have hf := hf_t c_9 hf
      refine lv_iconst (pc := 30) hx hb (v := 0) dX2_hasStretch_30 (by decide) ?_
      obtain rfl := Option.some.inj hf
      exact hR H locs 31 ls hP hD hS (nz_of (.inl rfl)) dX2_hasStretch_31
    · have hf := hf_f c_9 hf
      refine lv_iload_n (pc := 12) hx hb dX2_hasStretch_12 rfl (lv_at hl 1 rfl) ?_
      refine lv_if_lt (pc := 13) hx hb (tgt := 30) dX2_hasStretch_13 (by decide) (fun c_13 => ?_) (fun c_13 => ?_)
      · have hf := hf_t c_13 hf
        refine lv_iconst (pc := 30) hx hb (v := 0) dX2_hasStretch_30 (by decide) ?_
        obtain rfl := Option.some.inj hf
        exact hR H locs 31 ls hP hD hS (nz_of (.inl rfl)) dX2_hasStretch_31
      · have hf := hf_f c_13 hf
        refine lv_iload_n (pc := 16) hx hb dX2_hasStretch_16 rfl (lv_at hl 1 rfl) ?_
        refine lv_aload_n (pc := 17) hx hb dX2_hasStretch_17 rfl (lv_at hl 0 rfl) ?_
        refine vXgRX2_28_34 (pc := 18) hx hb hts mU_767 inU2 hown hK hP (x := (gI S 33)) rfl dX2_hasStretch_18 ?_
        refine lv_iload_n (pc := 21) hx hb dX2_hasStretch_21 rfl (lv_at hl 2 rfl) ?_
        refine lv_isub (pc := 22) hx hb dX2_hasStretch_22 ?_
        refine lv_icmp_gt (pc := 23) hx hb (tgt := 30) dX2_hasStretch_23 (by decide) (fun c_23 => ?_) (fun c_23 => ?_)
        · have hf := hf_t c_23 hf
          refine lv_iconst (pc := 30) hx hb (v := 0) dX2_hasStretch_30 (by decide) ?_
          obtain rfl := Option.some.inj hf
          exact hR H locs 31 ls hP hD hS (nz_of (.inl rfl)) dX2_hasStretch_31
        · have hf := hf_f c_23 hf
          refine lv_iconst (pc := 26) hx hb (v := 1) dX2_hasStretch_26 (by decide) ?_
          refine lv_goto (pc := 27) hx hb (tgt := 31) dX2_hasStretch_27 (by decide) ?_
          obtain rfl := Option.some.inj hf
          exact hR H locs 31 ls hP hD hS (nz_of (.inr rfl)) dX2_hasStretch_31
set_option maxHeartbeats 4000000 in
set_option maxRecDepth 100000 in
theorem kX2_hasStretch_36 (l : Launch) (D : va_G) (A : Nat → Nat) (B : Nat → ClassId) (sz : Nat) (S : w_S) (a1 : Int32) (a2 : Int32) (z : Int32) (hf : fX2_hasStretch_36 S a1 a2 = some z) : MetW l yX2_hasStretch (wsO yX2_hasStretch cX2_hasStretch 3 (some .boolean)) rm_X2_hasStretch [.ref (A 36), .int a1, .int a2] D (tyB B) (wX A B S) (wX A B S) sz (some (.int z)) := by
  refine MetW.mkZ (cc := cX2_hasStretch) (maxL := 3) (by decide) (Nat.le_of_ble_eq_true rfl) ?_
  intro p e s m args below meth c Ad Q hx hb hts hown hml hN hK hA hR H locs ls hP hD hS hl
  have hl : lv_has ls 3 [(0, .ref (A 36)), (1, .int a1), (2, .int a2)] := hl
  rw [fX2_hasStretch_36] at hf
  refine lv_iload_n (pc := 0) hx hb dX2_hasStretch_0 rfl (lv_at hl 2 rfl) ?_
  refine lv_if_lt (pc := 1) hx hb (tgt := 30) dX2_hasStretch_1 (by decide) (fun c_1 => ?_) (fun c_1 => ?_)
  · have hf := hf_t c_1 hf
    refine lv_iconst (pc := 30) hx hb (v := 0) dX2_hasStretch_30 (by decide) ?_
    obtain rfl := Option.some.inj hf
    exact hR H locs 31 ls hP hD hS (nz_of (.inl rfl)) dX2_hasStretch_31
  · have hf := hf_f c_1 hf
    refine lv_iload_n (pc := 4) hx hb dX2_hasStretch_4 rfl (lv_at hl 2 rfl) ?_
    refine lv_aload_n (pc := 5) hx hb dX2_hasStretch_5 rfl (lv_at hl 0 rfl) ?_
    refine vXgRX2_28_36 (pc := 6) hx hb hts mU_767 inU2 hown hK hP (x := (gI S 35)) rfl dX2_hasStretch_6 ?_
    refine lv_icmp_gt (pc := 9) hx hb (tgt := 30) dX2_hasStretch_9 (by decide) (fun c_9 => ?_) (fun c_9 => ?_)
    · have hf := hf_t c_9 hf
      refine lv_iconst (pc := 30) hx hb (v := 0) dX2_hasStretch_30 (by decide) ?_
      obtain rfl := Option.some.inj hf
      exact hR H locs 31 ls hP hD hS (nz_of (.inl rfl)) dX2_hasStretch_31
    · have hf := hf_f c_9 hf
      refine lv_iload_n (pc := 12) hx hb dX2_hasStretch_12 rfl (lv_at hl 1 rfl) ?_
      refine lv_if_lt (pc := 13) hx hb (tgt := 30) dX2_hasStretch_13 (by decide) (fun c_13 => ?_) (fun c_13 => ?_)
      · have hf := hf_t c_13 hf
        refine lv_iconst (pc := 30) hx hb (v := 0) dX2_hasStretch_30 (by decide) ?_
        obtain rfl := Option.some.inj hf
        exact hR H locs 31 ls hP hD hS (nz_of (.inl rfl)) dX2_hasStretch_31
      · have hf := hf_f c_13 hf
        refine lv_iload_n (pc := 16) hx hb dX2_hasStretch_16 rfl (lv_at hl 1 rfl) ?_
        refine lv_aload_n (pc := 17) hx hb dX2_hasStretch_17 rfl (lv_at hl 0 rfl) ?_
        refine vXgRX2_28_36 (pc := 18) hx hb hts mU_767 inU2 hown hK hP (x := (gI S 35)) rfl dX2_hasStretch_18 ?_
        refine lv_iload_n (pc := 21) hx hb dX2_hasStretch_21 rfl (lv_at hl 2 rfl) ?_
        refine lv_isub (pc := 22) hx hb dX2_hasStretch_22 ?_
        refine lv_icmp_gt (pc := 23) hx hb (tgt := 30) dX2_hasStretch_23 (by decide) (fun c_23 => ?_) (fun c_23 => ?_)
        · have hf := hf_t c_23 hf
          refine lv_iconst (pc := 30) hx hb (v := 0) dX2_hasStretch_30 (by decide) ?_
          obtain rfl := Option.some.inj hf
          exact hR H locs 31 ls hP hD hS (nz_of (.inl rfl)) dX2_hasStretch_31
        · have hf := hf_f c_23 hf
          refine lv_iconst (pc := 26) hx hb (v := 1) dX2_hasStretch_26 (by decide) ?_
          refine lv_goto (pc := 27) hx hb (tgt := 31) dX2_hasStretch_27 (by decide) ?_
          obtain rfl := Option.some.inj hf
          exact hR H locs 31 ls hP hD hS (nz_of (.inr rfl)) dX2_hasStretch_31
