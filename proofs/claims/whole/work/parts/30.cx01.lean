set_option maxHeartbeats 4000000 in
set_option maxRecDepth 100000 in
theorem kX5_stretch_25 (l : Launch) (D : va_G) (A : Nat → Nat) (B : Nat → ClassId) (sz : Nat) (S : w_S) (a1 : Int32) (a2 : Int32) (z : Int32) (hf : fX5_stretch_25 S a1 a2 = some z) : MetW l yX5_stretch (wsO yX5_stretch cX5_stretch 4 (some .int)) rm_X5_stretch [.ref (A 25), .int a1, .int a2] D (tyB B) (wX A B S) (wX A B S) sz (some (.int z)) := by
  refine MetW.mkI (cc := cX5_stretch) (maxL := 4) (by decide) (Nat.le_of_ble_eq_true rfl) ?_
  intro p e s m args below meth c Ad Q hx hb hts hown hml hN hK hA hR H locs ls hP hD hS hl
  have hl : lv_has ls 4 [(0, .ref (A 25)), (1, .int a1), (2, .int a2)] := hl
  rw [fX5_stretch_25] at hf
  refine lv_iconst (pc := 0) hx hb (v := 0) dX5_stretch_0 (by decide) ?_
  refine lv_istore_n (pc := 1) hx hb (lv' := [(3, .int 0), (0, .ref (A 25)), (1, .int a1), (2, .int a2)]) dX5_stretch_1 rfl hl (by decide) rfl (fun ls hl => ?_)
  obtain ⟨q2, hq2, hf⟩ := hf_b hf
  have hk2 : ∀ (H : Heap) (locs : List Loc) (ls : Array Slot), va_P D vwCl (wX A B S) H → va_D Ad (wX A B S) → va_S Ad s.heap H locs → lv_has ls 4 [(3, .int q2)] → W p l e rm_X5_stretch s m args below meth c H locs 0 0 Q (F0 m 33 ls []) := by
    intro H locs ls hP hD hS hl
    refine lv_iload_n (pc := 33) hx hb dX5_stretch_33 rfl (lv_at hl 0 rfl) ?_
    obtain rfl := Option.some.inj hf
    exact hR H locs 34 ls hP hD hS dX5_stretch_34
  have lp2 : ∀ (n : Nat) (u3_2 : Int32) (H : Heap) (locs : List Loc) (ls : Array Slot), fX5_stretch_25_L2 S a1 a2 n u3_2 = some q2 → va_P D vwCl (wX A B S) H → va_D Ad (wX A B S) → va_S Ad s.heap H locs → lv_has ls 4 [(0, .ref (A 25)), (1, .int a1), (2, .int a2), (3, .int u3_2)] → W p l e rm_X5_stretch s m args below meth c H locs 0 0 Q (F0 m 2 ls []) := by
    intro n2
    induction n2 with
    | zero => intro u3_2 H locs ls hq2; exact hf_0 hq2
    | succ n2 ih2 =>
      intro u3_2 H locs ls hq2 hP hD hS hl
      rw [fX5_stretch_25_L2] at hq2
      refine lv_iload_n (pc := 2) hx hb dX5_stretch_2 rfl (lv_at hl 3 rfl) ?_
      refine lv_sipush (pc := 3) hx hb (v := 200) dX5_stretch_3 (by decide) ?_
      refine lv_icmp_ge (pc := 6) hx hb (tgt := 33) dX5_stretch_6 (by decide) (fun c_6 => ?_) (fun c_6 => ?_)
      · have hq2 := hf_t c_6 hq2
        obtain rfl := Option.some.inj hq2
        exact hk2 H locs ls hP hD hS (lv_sub hl [3] rfl)
      · have hq2 := hf_f c_6 hq2
        refine lv_aload_n (pc := 9) hx hb dX5_stretch_9 rfl (lv_at hl 0 rfl) ?_
        refine lv_iload_n (pc := 10) hx hb dX5_stretch_10 rfl (lv_at hl 3 rfl) ?_
        obtain ⟨r11, hc11, hq2⟩ := hf_b hq2
        refine cl_V (pc := 11) (As := [.int u3_2]) (rest := []) hx hb hml hown hts (kX5_here_25 l D A B _ S u3_2 r11 hc11) (cwV 1 hts gwRX5_33 rfl rfl rfl hdX5_here ⟨Nat.le_of_ble_eq_true rfl, Nat.le_of_ble_eq_true rfl⟩) hN hK hP hD hS hA (va_recv hK hP (ci := 5) (q0 := 25) rfl (eX_25 A B _)) rfl hl.1 rfl (Nat.le_of_ble_eq_true rfl) dX5_stretch_11 (st1 := [.int r11]) rfl ⟨Nat.zero_le _, Nat.zero_le _⟩ (fun H locs hP hD hS => ?_)
        refine lv_iload_n (pc := 14) hx hb dX5_stretch_14 rfl (lv_at hl 1 rfl) ?_
        refine lv_icmp_lt (pc := 15) hx hb (tgt := 33) dX5_stretch_15 (by decide) (fun c_15 => ?_) (fun c_15 => ?_)
        · have hq2 := hf_t c_15 hq2
          obtain rfl := Option.some.inj hq2
          exact hk2 H locs ls hP hD hS (lv_sub hl [3] rfl)
        · have hq2 := hf_f c_15 hq2
          refine lv_aload_n (pc := 18) hx hb dX5_stretch_18 rfl (lv_at hl 0 rfl) ?_
          refine lv_iload_n (pc := 19) hx hb dX5_stretch_19 rfl (lv_at hl 3 rfl) ?_
          obtain ⟨r20, hc20, hq2⟩ := hf_b hq2
          refine cl_V (pc := 20) (As := [.int u3_2]) (rest := []) hx hb hml hown hts (kX5_here_25 l D A B _ S u3_2 r20 hc20) (cwV 1 hts gwRX5_33 rfl rfl rfl hdX5_here ⟨Nat.le_of_ble_eq_true rfl, Nat.le_of_ble_eq_true rfl⟩) hN hK hP hD hS hA (va_recv hK hP (ci := 5) (q0 := 25) rfl (eX_25 A B _)) rfl hl.1 rfl (Nat.le_of_ble_eq_true rfl) dX5_stretch_20 (st1 := [.int r20]) rfl ⟨Nat.zero_le _, Nat.zero_le _⟩ (fun H locs hP hD hS => ?_)
          refine lv_iload_n (pc := 23) hx hb dX5_stretch_23 rfl (lv_at hl 2 rfl) ?_
          refine lv_icmp_gt (pc := 24) hx hb (tgt := 33) dX5_stretch_24 (by decide) (fun c_24 => ?_) (fun c_24 => ?_)
          · have hq2 := hf_t c_24 hq2
            obtain rfl := Option.some.inj hq2
            exact hk2 H locs ls hP hD hS (lv_sub hl [3] rfl)
          · have hq2 := hf_f c_24 hq2
            refine lv_iinc (pc := 27) hx hb (v := u3_2 + 1) (lv' := [(3, .int (u3_2 + 1)), (0, .ref (A 25)), (1, .int a1), (2, .int a2)]) dX5_stretch_27 hl (k := 3) rfl rfl (by decide) rfl (fun ls hl => ?_)
            refine lv_goto (pc := 30) hx hb (tgt := 2) dX5_stretch_30 (by decide) ?_
            exact ih2 (u3_2 + 1) H locs ls hq2 hP hD hS (lv_sub hl [1, 2, 3, 0] rfl)
  exact lp2 256 0 H locs ls hq2 hP hD hS (lv_sub hl [1, 2, 3, 0] rfl)
set_option maxHeartbeats 4000000 in
set_option maxRecDepth 100000 in
theorem kX5_readName_25 (l : Launch) (D : va_G) (A : Nat → Nat) (B : Nat → ClassId) (sz : Nat) (S : w_S) (z : Int32 × w_S) (hf : fX5_readName_25 S = some z) : MetW l yX5_readName (wsO yX5_readName cX5_readName 2 (some .int)) rm_X5_readName [.ref (A 25)] D (tyB B) (wX A B S) (wX A B z.2) sz (some (.int z.1)) := by
  refine MetW.mkI (cc := cX5_readName) (maxL := 2) (by decide) (Nat.le_of_ble_eq_true rfl) ?_
  intro p e s m args below meth c Ad Q hx hb hts hown hml hN hK hA hR H locs ls hP hD hS hl
  have hl : lv_has ls 2 [(0, .ref (A 25))] := hl
  rw [fX5_readName_25] at hf
  refine lv_aload_n (pc := 0) hx hb dX5_readName_0 rfl (lv_at hl 0 rfl) ?_
  refine lv_bipush (pc := 1) hx hb (v := 97) dX5_readName_1 (by decide) ?_
  refine lv_bipush (pc := 3) hx hb (v := 122) dX5_readName_3 (by decide) ?_
  obtain ⟨r5, hc5, hf⟩ := hf_b hf
  refine cl_V (pc := 5) (As := [.int 97, .int 122]) (rest := []) hx hb hml hown hts (kX5_stretch_25 l D A B _ S 97 122 r5 hc5) (cwV 2 hts gwRX5_37 rfl rfl rfl hdX5_stretch ⟨Nat.le_of_ble_eq_true rfl, Nat.le_of_ble_eq_true rfl⟩) hN hK hP hD hS hA (va_recv hK hP (ci := 5) (q0 := 25) rfl (eX_25 A B _)) rfl hl.1 rfl (Nat.le_of_ble_eq_true rfl) dX5_readName_5 (st1 := [.int r5]) rfl ⟨Nat.zero_le _, Nat.zero_le _⟩ (fun H locs hP hD hS => ?_)
  refine lv_iconst (pc := 8) hx hb (v := 1) dX5_readName_8 (by decide) ?_
  refine lv_icmp_ne (pc := 9) hx hb (tgt := 22) dX5_readName_9 (by decide) (fun c_9 => ?_) (fun c_9 => ?_)
  · have hf := hf_f c_9 hf
    refine lv_iconst (pc := 22) hx hb (v := (-1)) dX5_readName_22 (by decide) ?_
    obtain rfl := Option.some.inj hf
    exact hR H locs 23 ls hP hD hS dX5_readName_23
  · have hf := hf_t c_9 hf
    refine lv_aload_n (pc := 12) hx hb dX5_readName_12 rfl (lv_at hl 0 rfl) ?_
    refine lv_iconst (pc := 13) hx hb (v := 0) dX5_readName_13 (by decide) ?_
    obtain ⟨r14, hc14, hf⟩ := hf_b hf
    refine cl_V (pc := 14) (As := [.int 0]) (rest := []) hx hb hml hown hts (kX5_here_25 l D A B _ S 0 r14 hc14) (cwV 1 hts gwRX5_33 rfl rfl rfl hdX5_here ⟨Nat.le_of_ble_eq_true rfl, Nat.le_of_ble_eq_true rfl⟩) hN hK hP hD hS hA (va_recv hK hP (ci := 5) (q0 := 25) rfl (eX_25 A B _)) rfl hl.1 rfl (Nat.le_of_ble_eq_true rfl) dX5_readName_14 (st1 := [.int r14]) rfl ⟨Nat.zero_le _, Nat.zero_le _⟩ (fun H locs hP hD hS => ?_)
    refine lv_bipush (pc := 17) hx hb (v := 99) dX5_readName_17 (by decide) ?_
    refine lv_icmp_le (pc := 19) hx hb (tgt := 24) dX5_readName_19 (by decide) (fun c_19 => ?_) (fun c_19 => ?_)
    · have hf := hf_t c_19 hf
      refine lv_aload_n (pc := 24) hx hb dX5_readName_24 rfl (lv_at hl 0 rfl) ?_
      refine lv_iconst (pc := 25) hx hb (v := 0) dX5_readName_25 (by decide) ?_
      obtain ⟨r26, hc26, hf⟩ := hf_b hf
      refine cl_V (pc := 26) (As := [.int 0]) (rest := []) hx hb hml hown hts (kX5_here_25 l D A B _ S 0 r26 hc26) (cwV 1 hts gwRX5_33 rfl rfl rfl hdX5_here ⟨Nat.le_of_ble_eq_true rfl, Nat.le_of_ble_eq_true rfl⟩) hN hK hP hD hS hA (va_recv hK hP (ci := 5) (q0 := 25) rfl (eX_25 A B _)) rfl hl.1 rfl (Nat.le_of_ble_eq_true rfl) dX5_readName_26 (st1 := [.int r26]) rfl ⟨Nat.zero_le _, Nat.zero_le _⟩ (fun H locs hP hD hS => ?_)
      refine lv_bipush (pc := 29) hx hb (v := 97) dX5_readName_29 (by decide) ?_
      refine lv_isub (pc := 31) hx hb dX5_readName_31 ?_
      refine lv_istore_n (pc := 32) hx hb (lv' := [(1, .int (r26 - 97)), (0, .ref (A 25))]) dX5_readName_32 rfl hl (by decide) rfl (fun ls hl => ?_)
      refine lv_aload_n (pc := 33) hx hb dX5_readName_33 rfl (lv_at hl 1 rfl) ?_
      refine lv_dup (pc := 34) hx hb dX5_readName_34 rfl ?_
      refine vXgRX5_19_25 (pc := 35) hx hb hts mU_290 inU5 hown hK hP (x := (gI S 22)) rfl dX5_readName_35 ?_
      refine lv_iconst (pc := 38) hx hb (v := 1) dX5_readName_38 (by decide) ?_
      refine lv_iadd (pc := 39) hx hb dX5_readName_39 ?_
      refine vXpRX5_19_25 (pc := 40) hx hb hts mU_290 inU5 hown hK hP hD hS dX5_readName_40 (fun H locs hP hD hS => ?_)
      refine lv_iload_n (pc := 43) hx hb dX5_readName_43 rfl (lv_at hl 0 rfl) ?_
      obtain rfl := Option.some.inj hf
      exact hR H locs 44 ls hP hD hS dX5_readName_44
    · have hf := hf_f c_19 hf
      refine lv_iconst (pc := 22) hx hb (v := (-1)) dX5_readName_22 (by decide) ?_
      obtain rfl := Option.some.inj hf
      exact hR H locs 23 ls hP hD hS dX5_readName_23
set_option maxHeartbeats 4000000 in
set_option maxRecDepth 100000 in
theorem kX4_columns_13 (l : Launch) (D : va_G) (A : Nat → Nat) (B : Nat → ClassId) (sz : Nat) (S : w_S) (a1 : Int32) (z : Int32) (hf : fX4_columns_13 S a1 = some z) : MetW l yX4_columns (wsO yX4_columns cX4_columns 2 (some .int)) rm_X4_columns [.ref (A 13), .int a1] D (tyB B) (wX A B S) (wX A B S) sz (some (.int z)) := by
  refine MetW.mkI (cc := cX4_columns) (maxL := 2) (by decide) (Nat.le_of_ble_eq_true rfl) ?_
  intro p e s m args below meth c Ad Q hx hb hts hown hml hN hK hA hR H locs ls hP hD hS hl
  have hl : lv_has ls 2 [(0, .ref (A 13)), (1, .int a1)] := hl
  rw [fX4_columns_13] at hf
  refine lv_iload_n (pc := 0) hx hb dX4_columns_0 rfl (lv_at hl 1 rfl) ?_
  refine lv_if_ne (pc := 1) hx hb (tgt := 11) dX4_columns_1 (by decide) (fun c_1 => ?_) (fun c_1 => ?_)
  · have hf := hf_f c_1 hf
    refine lv_aload_n (pc := 11) hx hb dX4_columns_11 rfl (lv_at hl 0 rfl) ?_
    refine vXgRX4_15_13 (pc := 12) hx hb hts mU_44 inU4 hown hK hP (x := (gI S 9)) rfl dX4_columns_12 ?_
    obtain rfl := Option.some.inj hf
    exact hR H locs 15 ls hP hD hS dX4_columns_15
  · have hf := hf_t c_1 hf
    refine lv_aload_n (pc := 4) hx hb dX4_columns_4 rfl (lv_at hl 0 rfl) ?_
    refine vXgRX4_9_13 (pc := 5) hx hb hts mU_43 inU4 hown hK hP (x := (gI S 8)) rfl dX4_columns_5 ?_
    refine lv_goto (pc := 8) hx hb (tgt := 15) dX4_columns_8 (by decide) ?_
    obtain rfl := Option.some.inj hf
    exact hR H locs 15 ls hP hD hS dX4_columns_15
set_option maxHeartbeats 4000000 in
set_option maxRecDepth 100000 in
theorem kX4_rows_13 (l : Launch) (D : va_G) (A : Nat → Nat) (B : Nat → ClassId) (sz : Nat) (S : w_S) (a1 : Int32) (z : Int32) (hf : fX4_rows_13 S a1 = some z) : MetW l yX4_rows (wsO yX4_rows cX4_rows 2 (some .int)) rm_X4_rows [.ref (A 13), .int a1] D (tyB B) (wX A B S) (wX A B S) sz (some (.int z)) := by
  refine MetW.mkI (cc := cX4_rows) (maxL := 2) (by decide) (Nat.le_of_ble_eq_true rfl) ?_
  intro p e s m args below meth c Ad Q hx hb hts hown hml hN hK hA hR H locs ls hP hD hS hl
  have hl : lv_has ls 2 [(0, .ref (A 13)), (1, .int a1)] := hl
  rw [fX4_rows_13] at hf
  refine lv_iload_n (pc := 0) hx hb dX4_rows_0 rfl (lv_at hl 1 rfl) ?_
  refine lv_iconst (pc := 1) hx hb (v := 1) dX4_rows_1 (by decide) ?_
  refine lv_icmp_ne (pc := 2) hx hb (tgt := 12) dX4_rows_2 (by decide) (fun c_2 => ?_) (fun c_2 => ?_)
  · have hf := hf_f c_2 hf
    refine lv_aload_n (pc := 12) hx hb dX4_rows_12 rfl (lv_at hl 0 rfl) ?_
    refine vXgRX4_9_13 (pc := 13) hx hb hts mU_43 inU4 hown hK hP (x := (gI S 8)) rfl dX4_rows_13 ?_
    obtain rfl := Option.some.inj hf
    exact hR H locs 16 ls hP hD hS dX4_rows_16
  · have hf := hf_t c_2 hf
    refine lv_aload_n (pc := 5) hx hb dX4_rows_5 rfl (lv_at hl 0 rfl) ?_
    refine vXgRX4_15_13 (pc := 6) hx hb hts mU_44 inU4 hown hK hP (x := (gI S 9)) rfl dX4_rows_6 ?_
    refine lv_goto (pc := 9) hx hb (tgt := 16) dX4_rows_9 (by decide) ?_
    obtain rfl := Option.some.inj hf
    exact hR H locs 16 ls hP hD hS dX4_rows_16
set_option maxHeartbeats 4000000 in
set_option maxRecDepth 100000 in
theorem kX4_store_13 (l : Launch) (D : va_G) (A : Nat → Nat) (B : Nat → ClassId) (sz : Nat) (S : w_S) (a1 : Int32) (a2 : Int32) (a3 : Int32) (a4 : Int32) (z : w_S) (hf : fX4_store_13 S a1 a2 a3 a4 = some z) : MetW l yX4_store (wsO yX4_store cX4_store 6 none) rm_X4_store [.ref (A 13), .int a1, .int a2, .int a3, .int a4] D (tyB B) (wX A B S) (wX A B z) sz (none) := by
  refine MetW.mkV (cc := cX4_store) (maxL := 6) (by decide) (Nat.le_of_ble_eq_true rfl) ?_
  intro p e s m args below meth c Ad Q hx hb hts hown hml hN hK hA hR H locs ls hP hD hS hl
  have hl : lv_has ls 6 [(0, .ref (A 13)), (1, .int a1), (2, .int a2), (3, .int a3), (4, .int a4)] := hl
  rw [fX4_store_13] at hf
  refine lv_iload_n (pc := 0) hx hb dX4_store_0 rfl (lv_at hl 1 rfl) ?_
  refine lv_if_ne (pc := 1) hx hb (tgt := 11) dX4_store_1 (by decide) (fun c_1 => ?_) (fun c_1 => ?_)
  · have hf := hf_f c_1 hf
    refine lv_iload_n (pc := 11) hx hb dX4_store_11 rfl (lv_at hl 1 rfl) ?_
    refine lv_iconst (pc := 12) hx hb (v := 1) dX4_store_12 (by decide) ?_
    refine lv_icmp_ne (pc := 13) hx hb (tgt := 23) dX4_store_13 (by decide) (fun c_13 => ?_) (fun c_13 => ?_)
    · have hf := hf_f c_13 hf
      refine lv_aload_n (pc := 23) hx hb dX4_store_23 rfl (lv_at hl 0 rfl) ?_
      refine vXgRX4_28_13 (pc := 24) hx hb hts mU_49 inU4 hown hK hP dX4_store_24 ?_
      refine lv_astore (pc := 27) hx hb (lv' := [(5, .ref (A 16)), (0, .ref (A 13)), (1, .int a1), (2, .int a2), (3, .int a3), (4, .int a4)]) dX4_store_27 hl (by decide) rfl (fun ls hl => ?_)
      refine lv_iload_n (pc := 29) hx hb dX4_store_29 rfl (lv_at hl 3 rfl) ?_
      refine lv_iload_n (pc := 30) hx hb dX4_store_30 rfl (lv_at hl 4 rfl) ?_
      obtain ⟨r31, hc31, hf⟩ := hf_b hf
      refine cl_S (pc := 31) (As := [.int a2, .int a3]) (rest := []) hx hb hml hown hts (kX4_isRoom l D A B _ S a2 a3 r31 hc31) (va_cwS 2 hts gwRX4_59 rfl rfl rfl hdX4_isRoom ⟨Nat.le_of_ble_eq_true rfl, Nat.le_of_ble_eq_true rfl⟩) hN hK hP hD hS hA rfl hl.1 rfl (Nat.le_of_ble_eq_true rfl) dX4_store_31 (st1 := [.int r31]) rfl ⟨Nat.zero_le _, Nat.zero_le _⟩ (fun H locs hP hD hS => ?_)
      refine lv_if_eq (pc := 34) hx hb (tgt := 47) dX4_store_34 (by decide) (fun c_34 => ?_) (fun c_34 => ?_)
      · have hf := hf_t c_34 hf
        obtain rfl := Option.some.inj hf
        exact hR H locs 47 ls hP hD hS dX4_store_47
      · have hf := hf_f c_34 hf
        refine lv_aload (pc := 37) hx hb dX4_store_37 (lv_at hl 0 rfl) ?_
        refine lv_iload_n (pc := 39) hx hb dX4_store_39 rfl (lv_at hl 3 rfl) ?_
        refine lv_iconst (pc := 40) hx hb (v := 3) dX4_store_40 (by decide) ?_
        refine lv_imul (pc := 41) hx hb dX4_store_41 ?_
        refine lv_iload_n (pc := 42) hx hb dX4_store_42 rfl (lv_at hl 4 rfl) ?_
        refine lv_iadd (pc := 43) hx hb dX4_store_43 ?_
        refine lv_iload (pc := 44) hx hb dX4_store_44 (lv_at hl 5 rfl) ?_
        obtain ⟨hg46, hf⟩ := hf_g hf
        refine vXwa_16 (pc := 46) hx hb hK hP hD hS (f := (gA S 12)) rfl hg46 dX4_store_46 (fun H locs hP hD hS => ?_)
        obtain rfl := Option.some.inj hf
        exact hR H locs 47 ls hP hD hS dX4_store_47
    · have hf := hf_t c_13 hf
      refine lv_aload_n (pc := 16) hx hb dX4_store_16 rfl (lv_at hl 0 rfl) ?_
      refine vXgRX4_25_13 (pc := 17) hx hb hts mU_48 inU4 hown hK hP dX4_store_17 ?_
      refine lv_goto (pc := 20) hx hb (tgt := 27) dX4_store_20 (by decide) ?_
      refine lv_astore (pc := 27) hx hb (lv' := [(5, .ref (A 15)), (0, .ref (A 13)), (1, .int a1), (2, .int a2), (3, .int a3), (4, .int a4)]) dX4_store_27 hl (by decide) rfl (fun ls hl => ?_)
      refine lv_iload_n (pc := 29) hx hb dX4_store_29 rfl (lv_at hl 3 rfl) ?_
      refine lv_iload_n (pc := 30) hx hb dX4_store_30 rfl (lv_at hl 4 rfl) ?_
      obtain ⟨r31, hc31, hf⟩ := hf_b hf
      refine cl_S (pc := 31) (As := [.int a2, .int a3]) (rest := []) hx hb hml hown hts (kX4_isRoom l D A B _ S a2 a3 r31 hc31) (va_cwS 2 hts gwRX4_59 rfl rfl rfl hdX4_isRoom ⟨Nat.le_of_ble_eq_true rfl, Nat.le_of_ble_eq_true rfl⟩) hN hK hP hD hS hA rfl hl.1 rfl (Nat.le_of_ble_eq_true rfl) dX4_store_31 (st1 := [.int r31]) rfl ⟨Nat.zero_le _, Nat.zero_le _⟩ (fun H locs hP hD hS => ?_)
      refine lv_if_eq (pc := 34) hx hb (tgt := 47) dX4_store_34 (by decide) (fun c_34 => ?_) (fun c_34 => ?_)
      · have hf := hf_t c_34 hf
        obtain rfl := Option.some.inj hf
        exact hR H locs 47 ls hP hD hS dX4_store_47
      · have hf := hf_f c_34 hf
        refine lv_aload (pc := 37) hx hb dX4_store_37 (lv_at hl 0 rfl) ?_
        refine lv_iload_n (pc := 39) hx hb dX4_store_39 rfl (lv_at hl 3 rfl) ?_
        refine lv_iconst (pc := 40) hx hb (v := 3) dX4_store_40 (by decide) ?_
        refine lv_imul (pc := 41) hx hb dX4_store_41 ?_
        refine lv_iload_n (pc := 42) hx hb dX4_store_42 rfl (lv_at hl 4 rfl) ?_
        refine lv_iadd (pc := 43) hx hb dX4_store_43 ?_
        refine lv_iload (pc := 44) hx hb dX4_store_44 (lv_at hl 5 rfl) ?_
        obtain ⟨hg46, hf⟩ := hf_g hf
        refine vXwa_15 (pc := 46) hx hb hK hP hD hS (f := (gA S 11)) rfl hg46 dX4_store_46 (fun H locs hP hD hS => ?_)
        obtain rfl := Option.some.inj hf
        exact hR H locs 47 ls hP hD hS dX4_store_47
  · have hf := hf_t c_1 hf
    refine lv_aload_n (pc := 4) hx hb dX4_store_4 rfl (lv_at hl 0 rfl) ?_
    refine vXgRX4_21_13 (pc := 5) hx hb hts mU_47 inU4 hown hK hP dX4_store_5 ?_
    refine lv_goto (pc := 8) hx hb (tgt := 27) dX4_store_8 (by decide) ?_
    refine lv_astore (pc := 27) hx hb (lv' := [(5, .ref (A 14)), (0, .ref (A 13)), (1, .int a1), (2, .int a2), (3, .int a3), (4, .int a4)]) dX4_store_27 hl (by decide) rfl (fun ls hl => ?_)
    refine lv_iload_n (pc := 29) hx hb dX4_store_29 rfl (lv_at hl 3 rfl) ?_
    refine lv_iload_n (pc := 30) hx hb dX4_store_30 rfl (lv_at hl 4 rfl) ?_
    obtain ⟨r31, hc31, hf⟩ := hf_b hf
    refine cl_S (pc := 31) (As := [.int a2, .int a3]) (rest := []) hx hb hml hown hts (kX4_isRoom l D A B _ S a2 a3 r31 hc31) (va_cwS 2 hts gwRX4_59 rfl rfl rfl hdX4_isRoom ⟨Nat.le_of_ble_eq_true rfl, Nat.le_of_ble_eq_true rfl⟩) hN hK hP hD hS hA rfl hl.1 rfl (Nat.le_of_ble_eq_true rfl) dX4_store_31 (st1 := [.int r31]) rfl ⟨Nat.zero_le _, Nat.zero_le _⟩ (fun H locs hP hD hS => ?_)
    refine lv_if_eq (pc := 34) hx hb (tgt := 47) dX4_store_34 (by decide) (fun c_34 => ?_) (fun c_34 => ?_)
    · have hf := hf_t c_34 hf
      obtain rfl := Option.some.inj hf
      exact hR H locs 47 ls hP hD hS dX4_store_47
    · have hf := hf_f c_34 hf
      refine lv_aload (pc := 37) hx hb dX4_store_37 (lv_at hl 0 rfl) ?_
      refine lv_iload_n (pc := 39) hx hb dX4_store_39 rfl (lv_at hl 3 rfl) ?_
      refine lv_iconst (pc := 40) hx hb (v := 3) dX4_store_40 (by decide) ?_
      refine lv_imul (pc := 41) hx hb dX4_store_41 ?_
      refine lv_iload_n (pc := 42) hx hb dX4_store_42 rfl (lv_at hl 4 rfl) ?_
      refine lv_iadd (pc := 43) hx hb dX4_store_43 ?_
      refine lv_iload (pc := 44) hx hb dX4_store_44 (lv_at hl 5 rfl) ?_
      obtain ⟨hg46, hf⟩ := hf_g hf
      refine vXwa_14 (pc := 46) hx hb hK hP hD hS (f := (gA S 10)) rfl hg46 dX4_store_46 (fun H locs hP hD hS => ?_)
      obtain rfl := Option.some.inj hf
      exact hR H locs 47 ls hP hD hS dX4_store_47
set_option maxHeartbeats 4000000 in
set_option maxRecDepth 100000 in
theorem kX5_skipBlanks_25 (l : Launch) (D : va_G) (A : Nat → Nat) (B : Nat → ClassId) (sz : Nat) (S : w_S) (z : w_S) (hf : fX5_skipBlanks_25 S = some z) : MetW l yX5_skipBlanks (wsO yX5_skipBlanks cX5_skipBlanks 2 none) rm_X5_skipBlanks [.ref (A 25)] D (tyB B) (wX A B S) (wX A B z) sz (none) := by
  refine MetW.mkV (cc := cX5_skipBlanks) (maxL := 2) (by decide) (Nat.le_of_ble_eq_true rfl) ?_
  intro p e s m args below meth c Ad Q hx hb hts hown hml hN hK hA hR H locs ls hP hD hS hl
  have hl : lv_has ls 2 [(0, .ref (A 25))] := hl
  rw [fX5_skipBlanks_25] at hf
  refine lv_iconst (pc := 0) hx hb (v := 0) dX5_skipBlanks_0 (by decide) ?_
  refine lv_istore_n (pc := 1) hx hb (lv' := [(1, .int 0), (0, .ref (A 25))]) dX5_skipBlanks_1 rfl hl (by decide) rfl (fun ls hl => ?_)
  obtain ⟨q2, hq2, hf⟩ := hf_b hf
  have hk2 : ∀ (H : Heap) (locs : List Loc) (ls : Array Slot), va_P D vwCl (wX A B q2) H → va_D Ad (wX A B q2) → va_S Ad s.heap H locs → lv_has ls 2 [] → W p l e rm_X5_skipBlanks s m args below meth c H locs 0 0 Q (F0 m 35 ls []) := by
    intro H locs ls hP hD hS hl
    obtain rfl := Option.some.inj hf
    exact hR H locs 35 ls hP hD hS dX5_skipBlanks_35
  have lp2 : ∀ (n : Nat) (T2 : w_S) (u1_2 : Int32) (H : Heap) (locs : List Loc) (ls : Array Slot), fX5_skipBlanks_25_L2  n T2 u1_2 = some q2 → va_P D vwCl (wX A B T2) H → va_D Ad (wX A B T2) → va_S Ad s.heap H locs → lv_has ls 2 [(0, .ref (A 25)), (1, .int u1_2)] → W p l e rm_X5_skipBlanks s m args below meth c H locs 0 0 Q (F0 m 2 ls []) := by
    intro n2
    induction n2 with
    | zero => intro T2 u1_2 H locs ls hq2; exact hf_0 hq2
    | succ n2 ih2 =>
      intro T2 u1_2 H locs ls hq2 hP hD hS hl
      rw [fX5_skipBlanks_25_L2] at hq2
      refine lv_iload_n (pc := 2) hx hb dX5_skipBlanks_2 rfl (lv_at hl 1 rfl) ?_
      refine lv_sipush (pc := 3) hx hb (v := 200) dX5_skipBlanks_3 (by decide) ?_
      refine lv_icmp_ge (pc := 6) hx hb (tgt := 35) dX5_skipBlanks_6 (by decide) (fun c_6 => ?_) (fun c_6 => ?_)
      · have hq2 := hf_t c_6 hq2
        obtain rfl := Option.some.inj hq2
        exact hk2 H locs ls hP hD hS (lv_sub hl [] rfl)
      · have hq2 := hf_f c_6 hq2
        refine lv_aload_n (pc := 9) hx hb dX5_skipBlanks_9 rfl (lv_at hl 0 rfl) ?_
        refine lv_iconst (pc := 10) hx hb (v := 0) dX5_skipBlanks_10 (by decide) ?_
        obtain ⟨r11, hc11, hq2⟩ := hf_b hq2
        refine cl_V (pc := 11) (As := [.int 0]) (rest := []) hx hb hml hown hts (kX5_here_25 l D A B _ T2 0 r11 hc11) (cwV 1 hts gwRX5_33 rfl rfl rfl hdX5_here ⟨Nat.le_of_ble_eq_true rfl, Nat.le_of_ble_eq_true rfl⟩) hN hK hP hD hS hA (va_recv hK hP (ci := 5) (q0 := 25) rfl (eX_25 A B _)) rfl hl.1 rfl (Nat.le_of_ble_eq_true rfl) dX5_skipBlanks_11 (st1 := [.int r11]) rfl ⟨Nat.zero_le _, Nat.zero_le _⟩ (fun H locs hP hD hS => ?_)
        refine lv_bipush (pc := 14) hx hb (v := 32) dX5_skipBlanks_14 (by decide) ?_
        refine lv_icmp_ne (pc := 16) hx hb (tgt := 35) dX5_skipBlanks_16 (by decide) (fun c_16 => ?_) (fun c_16 => ?_)
        · have hq2 := hf_f c_16 hq2
          obtain rfl := Option.some.inj hq2
          exact hk2 H locs ls hP hD hS (lv_sub hl [] rfl)
        · have hq2 := hf_t c_16 hq2
          refine lv_aload_n (pc := 19) hx hb dX5_skipBlanks_19 rfl (lv_at hl 0 rfl) ?_
          refine lv_dup (pc := 20) hx hb dX5_skipBlanks_20 rfl ?_
          refine vXgRX5_19_25 (pc := 21) hx hb hts mU_290 inU5 hown hK hP (x := (gI T2 22)) rfl dX5_skipBlanks_21 ?_
          refine lv_iconst (pc := 24) hx hb (v := 1) dX5_skipBlanks_24 (by decide) ?_
          refine lv_iadd (pc := 25) hx hb dX5_skipBlanks_25 ?_
          refine vXpRX5_19_25 (pc := 26) hx hb hts mU_290 inU5 hown hK hP hD hS dX5_skipBlanks_26 (fun H locs hP hD hS => ?_)
          refine lv_iinc (pc := 29) hx hb (v := u1_2 + 1) (lv' := [(1, .int (u1_2 + 1)), (0, .ref (A 25))]) dX5_skipBlanks_29 hl (k := 1) rfl rfl (by decide) rfl (fun ls hl => ?_)
          refine lv_goto (pc := 32) hx hb (tgt := 2) dX5_skipBlanks_32 (by decide) ?_
          exact ih2 (sI T2 22 ((gI T2 22) + 1)) (u1_2 + 1) H locs ls hq2 hP hD hS (lv_sub hl [1, 0] rfl)
  exact lp2 256 S 0 H locs ls hq2 hP hD hS (lv_sub hl [1, 0] rfl)
set_option maxHeartbeats 4000000 in
set_option maxRecDepth 100000 in
theorem kX5_readMark_25 (l : Launch) (D : va_G) (A : Nat → Nat) (B : Nat → ClassId) (sz : Nat) (S : w_S) (a1 : Int32) (z : Int32 × w_S) (hf : fX5_readMark_25 S a1 = some z) : MetW l yX5_readMark (wsO yX5_readMark cX5_readMark 2 (some .boolean)) rm_X5_readMark [.ref (A 25), .int a1] D (tyB B) (wX A B S) (wX A B z.2) sz (some (.int z.1)) := by
  refine MetW.mkZ (cc := cX5_readMark) (maxL := 2) (by decide) (Nat.le_of_ble_eq_true rfl) ?_
  intro p e s m args below meth c Ad Q hx hb hts hown hml hN hK hA hR H locs ls hP hD hS hl
  have hl : lv_has ls 2 [(0, .ref (A 25)), (1, .int a1)] := hl
  rw [fX5_readMark_25] at hf
  refine lv_aload_n (pc := 0) hx hb dX5_readMark_0 rfl (lv_at hl 0 rfl) ?_
  obtain ⟨r1, hc1, hf⟩ := hf_b hf
  refine cl_V (pc := 1) (As := []) (rest := []) hx hb hml hown hts (kX5_skipBlanks_25 l D A B _ S r1 hc1) (cwV 0 hts gwRX5_22 rfl rfl rfl hdX5_skipBlanks ⟨Nat.le_of_ble_eq_true rfl, Nat.le_of_ble_eq_true rfl⟩) hN hK hP hD hS hA (va_recv hK hP (ci := 5) (q0 := 25) rfl (eX_25 A B _)) rfl hl.1 rfl (Nat.le_of_ble_eq_true rfl) dX5_readMark_1 (st1 := []) rfl ⟨Nat.zero_le _, Nat.zero_le _⟩ (fun H locs hP hD hS => ?_)
  refine lv_aload_n (pc := 4) hx hb dX5_readMark_4 rfl (lv_at hl 0 rfl) ?_
  refine lv_iconst (pc := 5) hx hb (v := 0) dX5_readMark_5 (by decide) ?_
  obtain ⟨r6, hc6, hf⟩ := hf_b hf
  refine cl_V (pc := 6) (As := [.int 0]) (rest := []) hx hb hml hown hts (kX5_here_25 l D A B _ r1 0 r6 hc6) (cwV 1 hts gwRX5_33 rfl rfl rfl hdX5_here ⟨Nat.le_of_ble_eq_true rfl, Nat.le_of_ble_eq_true rfl⟩) hN hK hP hD hS hA (va_recv hK hP (ci := 5) (q0 := 25) rfl (eX_25 A B _)) rfl hl.1 rfl (Nat.le_of_ble_eq_true rfl) dX5_readMark_6 (st1 := [.int r6]) rfl ⟨Nat.zero_le _, Nat.zero_le _⟩ (fun H locs hP hD hS => ?_)
  refine lv_iload_n (pc := 9) hx hb dX5_readMark_9 rfl (lv_at hl 1 rfl) ?_
  refine lv_icmp_eq (pc := 10) hx hb (tgt := 15) dX5_readMark_10 (by decide) (fun c_10 => ?_) (fun c_10 => ?_)
  · have hf := hf_t c_10 hf
    refine lv_aload_n (pc := 15) hx hb dX5_readMark_15 rfl (lv_at hl 0 rfl) ?_
    refine lv_dup (pc := 16) hx hb dX5_readMark_16 rfl ?_
    refine vXgRX5_19_25 (pc := 17) hx hb hts mU_290 inU5 hown hK hP (x := (gI r1 22)) rfl dX5_readMark_17 ?_
    refine lv_iconst (pc := 20) hx hb (v := 1) dX5_readMark_20 (by decide) ?_
    refine lv_iadd (pc := 21) hx hb dX5_readMark_21 ?_
    refine vXpRX5_19_25 (pc := 22) hx hb hts mU_290 inU5 hown hK hP hD hS dX5_readMark_22 (fun H locs hP hD hS => ?_)
    refine lv_iconst (pc := 25) hx hb (v := 1) dX5_readMark_25 (by decide) ?_
    obtain rfl := Option.some.inj hf
    exact hR H locs 26 ls hP hD hS (nz_of (.inr rfl)) dX5_readMark_26
  · have hf := hf_f c_10 hf
    refine lv_iconst (pc := 13) hx hb (v := 0) dX5_readMark_13 (by decide) ?_
    obtain rfl := Option.some.inj hf
    exact hR H locs 14 ls hP hD hS (nz_of (.inl rfl)) dX5_readMark_14
set_option maxHeartbeats 4000000 in
set_option maxRecDepth 100000 in
theorem kX5_readEntry_25_13 (l : Launch) (D : va_G) (A : Nat → Nat) (B : Nat → ClassId) (sz : Nat) (S : w_S) (a2 : Int32) (a3 : Int32) (a4 : Int32) (z : Int32 × w_S) (hf : fX5_readEntry_25_13 S a2 a3 a4 = some z) : MetW l yX5_readEntry (wsO yX5_readEntry cX5_readEntry 8 (some .boolean)) rm_X5_readEntry [.ref (A 25), .ref (A 13), .int a2, .int a3, .int a4] D (tyB B) (wX A B S) (wX A B z.2) sz (some (.int z.1)) := by
  refine MetW.mkZ (cc := cX5_readEntry) (maxL := 8) (by decide) (Nat.le_of_ble_eq_true rfl) ?_
  intro p e s m args below meth c Ad Q hx hb hts hown hml hN hK hA hR H locs ls hP hD hS hl
  have hl : lv_has ls 8 [(0, .ref (A 25)), (1, .ref (A 13)), (2, .int a2), (3, .int a3), (4, .int a4)] := hl
  rw [fX5_readEntry_25_13] at hf
  refine lv_aload_n (pc := 0) hx hb dX5_readEntry_0 rfl (lv_at hl 0 rfl) ?_
  refine lv_bipush (pc := 1) hx hb (v := 45) dX5_readEntry_1 (by decide) ?_
  obtain ⟨r3, hc3, hf⟩ := hf_b hf
  refine cl_V (pc := 3) (As := [.int 45]) (rest := []) hx hb hml hown hts (kX5_readMark_25 l D A B _ S 45 r3 hc3) (cwV 1 hts gwRX5_53 rfl rfl rfl hdX5_readMark ⟨Nat.le_of_ble_eq_true rfl, Nat.le_of_ble_eq_true rfl⟩) hN hK hP hD hS hA (va_recv hK hP (ci := 5) (q0 := 25) rfl (eX_25 A B _)) rfl hl.1 rfl (Nat.le_of_ble_eq_true rfl) dX5_readEntry_3 (st1 := [.int r3.1]) rfl ⟨Nat.zero_le _, Nat.zero_le _⟩ (fun H locs hP hD hS => ?_)
  refine lv_istore (pc := 6) hx hb (lv' := [(5, .int r3.1), (0, .ref (A 25)), (1, .ref (A 13)), (2, .int a2), (3, .int a3), (4, .int a4)]) dX5_readEntry_6 hl (by decide) rfl (fun ls hl => ?_)
  refine lv_aload_n (pc := 8) hx hb dX5_readEntry_8 rfl (lv_at hl 1 rfl) ?_
  obtain ⟨r9, hc9, hf⟩ := hf_b hf
  refine cl_V (pc := 9) (As := []) (rest := []) hx hb hml hown hts (kX5_skipBlanks_25 l D A B _ r3.2 r9 hc9) (cwV 0 hts gwRX5_22 rfl rfl rfl hdX5_skipBlanks ⟨Nat.le_of_ble_eq_true rfl, Nat.le_of_ble_eq_true rfl⟩) hN hK hP hD hS hA (va_recv hK hP (ci := 5) (q0 := 25) rfl (eX_25 A B _)) rfl hl.1 rfl (Nat.le_of_ble_eq_true rfl) dX5_readEntry_9 (st1 := []) rfl ⟨Nat.zero_le _, Nat.zero_le _⟩ (fun H locs hP hD hS => ?_)
  refine lv_aload_n (pc := 12) hx hb dX5_readEntry_12 rfl (lv_at hl 1 rfl) ?_
  refine lv_bipush (pc := 13) hx hb (v := 48) dX5_readEntry_13 (by decide) ?_
  refine lv_bipush (pc := 15) hx hb (v := 57) dX5_readEntry_15 (by decide) ?_
  obtain ⟨r17, hc17, hf⟩ := hf_b hf
  refine cl_V (pc := 17) (As := [.int 48, .int 57]) (rest := []) hx hb hml hown hts (kX5_stretch_25 l D A B _ r9 48 57 r17 hc17) (cwV 2 hts gwRX5_37 rfl rfl rfl hdX5_stretch ⟨Nat.le_of_ble_eq_true rfl, Nat.le_of_ble_eq_true rfl⟩) hN hK hP hD hS hA (va_recv hK hP (ci := 5) (q0 := 25) rfl (eX_25 A B _)) rfl hl.1 rfl (Nat.le_of_ble_eq_true rfl) dX5_readEntry_17 (st1 := [.int r17]) rfl ⟨Nat.zero_le _, Nat.zero_le _⟩ (fun H locs hP hD hS => ?_)
  refine lv_istore (pc := 20) hx hb (lv' := [(6, .int r17), (5, .int r3.1), (0, .ref (A 25)), (1, .ref (A 13)), (2, .int a2), (3, .int a3), (4, .int a4)]) dX5_readEntry_20 hl (by decide) rfl (fun ls hl => ?_)
  refine lv_iload (pc := 22) hx hb dX5_readEntry_22 (lv_at hl 0 rfl) ?_
  refine lv_iconst (pc := 24) hx hb (v := 1) dX5_readEntry_24 (by decide) ?_
  refine lv_icmp_lt (pc := 25) hx hb (tgt := 34) dX5_readEntry_25 (by decide) (fun c_25 => ?_) (fun c_25 => ?_)
  · have hf := hf_t c_25 hf
    refine lv_iconst (pc := 34) hx hb (v := 0) dX5_readEntry_34 (by decide) ?_
    obtain rfl := Option.some.inj hf
    exact hR H locs 35 ls hP hD hS (nz_of (.inl rfl)) dX5_readEntry_35
  · have hf := hf_f c_25 hf
    refine lv_iload (pc := 28) hx hb dX5_readEntry_28 (lv_at hl 0 rfl) ?_
    refine lv_iconst (pc := 30) hx hb (v := 2) dX5_readEntry_30 (by decide) ?_
    refine lv_icmp_le (pc := 31) hx hb (tgt := 36) dX5_readEntry_31 (by decide) (fun c_31 => ?_) (fun c_31 => ?_)
    · have hf := hf_t c_31 hf
      refine lv_aload_n (pc := 36) hx hb dX5_readEntry_36 rfl (lv_at hl 2 rfl) ?_
      refine lv_iconst (pc := 37) hx hb (v := 0) dX5_readEntry_37 (by decide) ?_
      obtain ⟨r38, hc38, hf⟩ := hf_b hf
      refine cl_V (pc := 38) (As := [.int 0]) (rest := []) hx hb hml hown hts (kX5_here_25 l D A B _ r9 0 r38 hc38) (cwV 1 hts gwRX5_33 rfl rfl rfl hdX5_here ⟨Nat.le_of_ble_eq_true rfl, Nat.le_of_ble_eq_true rfl⟩) hN hK hP hD hS hA (va_recv hK hP (ci := 5) (q0 := 25) rfl (eX_25 A B _)) rfl hl.1 rfl (Nat.le_of_ble_eq_true rfl) dX5_readEntry_38 (st1 := [.int r38]) rfl ⟨Nat.zero_le _, Nat.zero_le _⟩ (fun H locs hP hD hS => ?_)
      refine lv_bipush (pc := 41) hx hb (v := 48) dX5_readEntry_41 (by decide) ?_
      refine lv_isub (pc := 43) hx hb dX5_readEntry_43 ?_
      refine lv_istore (pc := 44) hx hb (lv' := [(7, .int (r38 - 48)), (6, .int r17), (5, .int r3.1), (0, .ref (A 25)), (1, .ref (A 13)), (2, .int a2), (3, .int a3), (4, .int a4)]) dX5_readEntry_44 hl (by decide) rfl (fun ls hl => ?_)
      refine lv_iload (pc := 46) hx hb dX5_readEntry_46 (lv_at hl 1 rfl) ?_
      refine lv_iconst (pc := 48) hx hb (v := 2) dX5_readEntry_48 (by decide) ?_
      obtain ⟨q68, hv68, hf⟩ := hf_b hf
      have hj68 : ∀ (H : Heap) (locs : List Loc) (ls : Array Slot), va_P D vwCl (wX A B r9) H → va_D Ad (wX A B r9) → va_S Ad s.heap H locs → lv_has ls 8 [(0, .ref (A 25)), (1, .ref (A 13)), (2, .int a2), (3, .int a3), (4, .int a4), (5, .int r3.1), (6, .int r17), (7, .int q68)] → W p l e rm_X5_readEntry s m args below meth c H locs 0 0 Q (F0 m 68 ls []) := by
        intro H locs ls hP hD hS hl
        refine lv_iload (pc := 68) hx hb dX5_readEntry_68 (lv_at hl 7 rfl) ?_
        refine lv_iload_n (pc := 70) hx hb dX5_readEntry_70 rfl (lv_at hl 2 rfl) ?_
        obtain ⟨r71, hc71, hf⟩ := hf_b hf
        refine cl_SN (pc := 71) (As := [.int a2]) (rest := [.int q68]) hx hb hml hown hts (kX6_reach l D A B _ r9 a2 r71 hc71) ⟨va_cnB 1 hts gwRX5_57 rfl rfl rfl hN (hts _ mU_2) hdX6_reach ⟨Nat.le_of_ble_eq_true rfl, Nat.le_of_ble_eq_true rfl⟩, (hts _ mU_146), trivial⟩ hN hK hP hD hS hA rfl hl.1 rfl (Nat.le_of_ble_eq_true rfl) dX5_readEntry_71 (st1 := [.int r71, .int q68]) rfl ⟨Nat.zero_le _, Nat.zero_le _⟩ (fun H locs hP hD hS => ?_)
        refine lv_icmp_le (pc := 74) hx hb (tgt := 79) dX5_readEntry_74 (by decide) (fun c_74 => ?_) (fun c_74 => ?_)
        · have hf := hf_t c_74 hf
          refine lv_aload_n (pc := 79) hx hb dX5_readEntry_79 rfl (lv_at hl 0 rfl) ?_
          refine lv_dup (pc := 80) hx hb dX5_readEntry_80 rfl ?_
          refine vXgRX5_19_25 (pc := 81) hx hb hts mU_290 inU5 hown hK hP (x := (gI r9 22)) rfl dX5_readEntry_81 ?_
          refine lv_iload (pc := 84) hx hb dX5_readEntry_84 (lv_at hl 6 rfl) ?_
          refine lv_iadd (pc := 86) hx hb dX5_readEntry_86 ?_
          refine vXpRX5_19_25 (pc := 87) hx hb hts mU_290 inU5 hown hK hP hD hS dX5_readEntry_87 (fun H locs hP hD hS => ?_)
          refine lv_aload_n (pc := 90) hx hb dX5_readEntry_90 rfl (lv_at hl 1 rfl) ?_
          refine lv_iload_n (pc := 91) hx hb dX5_readEntry_91 rfl (lv_at hl 2 rfl) ?_
          refine lv_iload_n (pc := 92) hx hb dX5_readEntry_92 rfl (lv_at hl 3 rfl) ?_
          refine lv_iload (pc := 93) hx hb dX5_readEntry_93 (lv_at hl 4 rfl) ?_
          refine lv_iload (pc := 95) hx hb dX5_readEntry_95 (lv_at hl 5 rfl) ?_
          refine lv_if_eq (pc := 97) hx hb (tgt := 106) dX5_readEntry_97 (by decide) (fun c_97 => ?_) (fun c_97 => ?_)
          · have hf := hf_t c_97 hf
            refine lv_iload (pc := 106) hx hb dX5_readEntry_106 (lv_at hl 7 rfl) ?_
            obtain ⟨r108, hc108, hf⟩ := hf_b hf
            refine cl_V (pc := 108) (As := [.int a2, .int a3, .int a4, .int q68]) (rest := []) hx hb hml hown hts (kX4_store_13 l D A B _ (sI r9 22 ((gI r9 22) + r17)) a2 a3 a4 q68 r108 hc108) (cwV 4 hts gwRX5_60 rfl rfl rfl hdX4_store ⟨Nat.le_of_ble_eq_true rfl, Nat.le_of_ble_eq_true rfl⟩) hN hK hP hD hS hA (va_recv hK hP (ci := 4) (q0 := 13) rfl (eX_13 A B _)) rfl hl.1 rfl (Nat.le_of_ble_eq_true rfl) dX5_readEntry_108 (st1 := []) rfl ⟨Nat.zero_le _, Nat.zero_le _⟩ (fun H locs hP hD hS => ?_)
            refine lv_iconst (pc := 111) hx hb (v := 1) dX5_readEntry_111 (by decide) ?_
            obtain rfl := Option.some.inj hf
            exact hR H locs 112 ls hP hD hS (nz_of (.inr rfl)) dX5_readEntry_112
          · have hf := hf_f c_97 hf
            refine lv_iload (pc := 100) hx hb dX5_readEntry_100 (lv_at hl 7 rfl) ?_
            refine lv_ineg (pc := 102) hx hb dX5_readEntry_102 ?_
            refine lv_goto (pc := 103) hx hb (tgt := 108) dX5_readEntry_103 (by decide) ?_
            obtain ⟨r108, hc108, hf⟩ := hf_b hf
            refine cl_V (pc := 108) (As := [.int a2, .int a3, .int a4, .int (-q68)]) (rest := []) hx hb hml hown hts (kX4_store_13 l D A B _ (sI r9 22 ((gI r9 22) + r17)) a2 a3 a4 (-q68) r108 hc108) (cwV 4 hts gwRX5_60 rfl rfl rfl hdX4_store ⟨Nat.le_of_ble_eq_true rfl, Nat.le_of_ble_eq_true rfl⟩) hN hK hP hD hS hA (va_recv hK hP (ci := 4) (q0 := 13) rfl (eX_13 A B _)) rfl hl.1 rfl (Nat.le_of_ble_eq_true rfl) dX5_readEntry_108 (st1 := []) rfl ⟨Nat.zero_le _, Nat.zero_le _⟩ (fun H locs hP hD hS => ?_)
            refine lv_iconst (pc := 111) hx hb (v := 1) dX5_readEntry_111 (by decide) ?_
            obtain rfl := Option.some.inj hf
            exact hR H locs 112 ls hP hD hS (nz_of (.inr rfl)) dX5_readEntry_112
        · have hf := hf_f c_74 hf
          refine lv_iconst (pc := 77) hx hb (v := 0) dX5_readEntry_77 (by decide) ?_
          obtain rfl := Option.some.inj hf
          exact hR H locs 78 ls hP hD hS (nz_of (.inl rfl)) dX5_readEntry_78
      refine lv_icmp_ne (pc := 49) hx hb (tgt := 68) dX5_readEntry_49 (by decide) (fun c_49 => ?_) (fun c_49 => ?_)
      · have hv68 := hf_f c_49 hv68
        obtain rfl := Option.some.inj hv68
        exact hj68 H locs ls hP hD hS (lv_sub hl [3, 4, 5, 6, 7, 2, 1, 0] rfl)
      · have hv68 := hf_t c_49 hv68
        refine lv_bipush (pc := 52) hx hb (v := 10) dX5_readEntry_52 (by decide) ?_
        refine lv_iload (pc := 54) hx hb dX5_readEntry_54 (lv_at hl 0 rfl) ?_
        refine lv_imul (pc := 56) hx hb dX5_readEntry_56 ?_
        refine lv_aload_n (pc := 57) hx hb dX5_readEntry_57 rfl (lv_at hl 3 rfl) ?_
        refine lv_iconst (pc := 58) hx hb (v := 1) dX5_readEntry_58 (by decide) ?_
        obtain ⟨r59, hc59, hv68⟩ := hf_b hv68
        refine cl_V (pc := 59) (As := [.int 1]) (rest := [.int (10 * (r38 - 48))]) hx hb hml hown hts (kX5_here_25 l D A B _ r9 1 r59 hc59) (cwV 1 hts gwRX5_33 rfl rfl rfl hdX5_here ⟨Nat.le_of_ble_eq_true rfl, Nat.le_of_ble_eq_true rfl⟩) hN hK hP hD hS hA (va_recv hK hP (ci := 5) (q0 := 25) rfl (eX_25 A B _)) rfl hl.1 rfl (Nat.le_of_ble_eq_true rfl) dX5_readEntry_59 (st1 := [.int r59, .int (10 * (r38 - 48))]) rfl ⟨Nat.zero_le _, Nat.zero_le _⟩ (fun H locs hP hD hS => ?_)
        refine lv_iadd (pc := 62) hx hb dX5_readEntry_62 ?_
        refine lv_bipush (pc := 63) hx hb (v := 48) dX5_readEntry_63 (by decide) ?_
        refine lv_isub (pc := 65) hx hb dX5_readEntry_65 ?_
        refine lv_istore (pc := 66) hx hb (lv' := [(7, .int (((10 * (r38 - 48)) + r59) - 48)), (6, .int r17), (5, .int r3.1), (0, .ref (A 25)), (1, .ref (A 13)), (2, .int a2), (3, .int a3), (4, .int a4)]) dX5_readEntry_66 hl (by decide) rfl (fun ls hl => ?_)
        obtain rfl := Option.some.inj hv68
        exact hj68 H locs ls hP hD hS (lv_sub hl [3, 4, 5, 6, 7, 2, 1, 0] rfl)
    · have hf := hf_f c_31 hf
      refine lv_iconst (pc := 34) hx hb (v := 0) dX5_readEntry_34 (by decide) ?_
      obtain rfl := Option.some.inj hf
      exact hR H locs 35 ls hP hD hS (nz_of (.inl rfl)) dX5_readEntry_35
set_option maxHeartbeats 4000000 in
set_option maxRecDepth 100000 in
theorem kX5_readTable_25_13 (l : Launch) (D : va_G) (A : Nat → Nat) (B : Nat → ClassId) (sz : Nat) (S : w_S) (a2 : Int32) (z : Int32 × w_S) (hf : fX5_readTable_25_13 S a2 = some z) : MetW l yX5_readTable (wsO yX5_readTable cX5_readTable 6 (some .boolean)) rm_X5_readTable [.ref (A 25), .ref (A 13), .int a2] D (tyB B) (wX A B S) (wX A B z.2) sz (some (.int z.1)) := by
  refine MetW.mkZ (cc := cX5_readTable) (maxL := 6) (by decide) (Nat.le_of_ble_eq_true rfl) ?_
  intro p e s m args below meth c Ad Q hx hb hts hown hml hN hK hA hR H locs ls hP hD hS hl
  have hl : lv_has ls 6 [(0, .ref (A 25)), (1, .ref (A 13)), (2, .int a2)] := hl
  rw [fX5_readTable_25_13] at hf
  refine lv_aload_n (pc := 0) hx hb dX5_readTable_0 rfl (lv_at hl 1 rfl) ?_
  refine lv_iload_n (pc := 1) hx hb dX5_readTable_1 rfl (lv_at hl 2 rfl) ?_
  obtain ⟨r2, hc2, hf⟩ := hf_b hf
  refine cl_V (pc := 2) (As := [.int a2]) (rest := []) hx hb hml hown hts (kX4_rows_13 l D A B _ S a2 r2 hc2) (cwV 1 hts gwRX5_41 rfl rfl rfl hdX4_rows ⟨Nat.le_of_ble_eq_true rfl, Nat.le_of_ble_eq_true rfl⟩) hN hK hP hD hS hA (va_recv hK hP (ci := 4) (q0 := 13) rfl (eX_13 A B _)) rfl hl.1 rfl (Nat.le_of_ble_eq_true rfl) dX5_readTable_2 (st1 := [.int r2]) rfl ⟨Nat.zero_le _, Nat.zero_le _⟩ (fun H locs hP hD hS => ?_)
  refine lv_istore_n (pc := 5) hx hb (lv' := [(3, .int r2), (0, .ref (A 25)), (1, .ref (A 13)), (2, .int a2)]) dX5_readTable_5 rfl hl (by decide) rfl (fun ls hl => ?_)
  refine lv_iconst (pc := 6) hx hb (v := 0) dX5_readTable_6 (by decide) ?_
  refine lv_istore (pc := 7) hx hb (lv' := [(4, .int 0), (3, .int r2), (0, .ref (A 25)), (1, .ref (A 13)), (2, .int a2)]) dX5_readTable_7 hl (by decide) rfl (fun ls hl => ?_)
  have hk9 : ∀ (S9 : w_S) (H : Heap) (locs : List Loc) (ls : Array Slot), some (1, S9) = some z → va_P D vwCl (wX A B S9) H → va_D Ad (wX A B S9) → va_S Ad s.heap H locs → lv_has ls 6 [] → W p l e rm_X5_readTable s m args below meth c H locs 0 0 Q (F0 m 79 ls []) := by
    intro S9 H locs ls hf hP hD hS hl
    refine lv_iconst (pc := 79) hx hb (v := 1) dX5_readTable_79 (by decide) ?_
    obtain rfl := Option.some.inj hf
    exact hR H locs 80 ls hP hD hS (nz_of (.inr rfl)) dX5_readTable_80
  have lp9 : ∀ (n : Nat) (T9 : w_S) (u4_9 : Int32) (H : Heap) (locs : List Loc) (ls : Array Slot), fX5_readTable_25_13_L9 (fun (S9 : w_S) => some (1, S9)) a2 r2 n T9 u4_9 = some z → va_P D vwCl (wX A B T9) H → va_D Ad (wX A B T9) → va_S Ad s.heap H locs → lv_has ls 6 [(0, .ref (A 25)), (1, .ref (A 13)), (2, .int a2), (3, .int r2), (4, .int u4_9)] → W p l e rm_X5_readTable s m args below meth c H locs 0 0 Q (F0 m 9 ls []) := by
    intro n9
    induction n9 with
    | zero => intro T9 u4_9 H locs ls hf; exact hf_0 hf
    | succ n9 ih9 =>
      intro T9 u4_9 H locs ls hf hP hD hS hl
      rw [fX5_readTable_25_13_L9] at hf
      refine lv_iload (pc := 9) hx hb dX5_readTable_9 (lv_at hl 4 rfl) ?_
      refine lv_iload_n (pc := 11) hx hb dX5_readTable_11 rfl (lv_at hl 3 rfl) ?_
      refine lv_icmp_ge (pc := 12) hx hb (tgt := 79) dX5_readTable_12 (by decide) (fun c_12 => ?_) (fun c_12 => ?_)
      · have hf := hf_t c_12 hf
        exact hk9 T9 H locs ls hf hP hD hS (lv_sub hl [] rfl)
      · have hf := hf_f c_12 hf
        refine lv_iconst (pc := 15) hx hb (v := 0) dX5_readTable_15 (by decide) ?_
        refine lv_istore (pc := 16) hx hb (lv' := [(5, .int 0), (0, .ref (A 25)), (1, .ref (A 13)), (2, .int a2), (3, .int r2), (4, .int u4_9)]) dX5_readTable_16 hl (by decide) rfl (fun ls hl => ?_)
        have hk18 : ∀ (S18 : w_S) (H : Heap) (locs : List Loc) (ls : Array Slot), ((if (r2 - 1) ≤ u4_9 then some 59 else some 44)).bind (fun (q65 : Int32) => (fX5_readMark_25 S18 q65).bind (fun r65 => (if r65.1 = 0 then some (0, r65.2) else fX5_readTable_25_13_L9 (fun (S9 : w_S) => some (1, S9)) a2 r2 n9 r65.2 (u4_9 + 1)))) = some z → va_P D vwCl (wX A B S18) H → va_D Ad (wX A B S18) → va_S Ad s.heap H locs → lv_has ls 6 [(0, .ref (A 25)), (1, .ref (A 13)), (2, .int a2), (3, .int r2), (4, .int u4_9)] → W p l e rm_X5_readTable s m args below meth c H locs 0 0 Q (F0 m 49 ls []) := by
          intro S18 H locs ls hf hP hD hS hl
          refine lv_aload_n (pc := 49) hx hb dX5_readTable_49 rfl (lv_at hl 0 rfl) ?_
          refine lv_iload (pc := 50) hx hb dX5_readTable_50 (lv_at hl 4 rfl) ?_
          refine lv_iload_n (pc := 52) hx hb dX5_readTable_52 rfl (lv_at hl 3 rfl) ?_
          refine lv_iconst (pc := 53) hx hb (v := 1) dX5_readTable_53 (by decide) ?_
          refine lv_isub (pc := 54) hx hb dX5_readTable_54 ?_
          obtain ⟨q65, hv65, hf⟩ := hf_b hf
          have hj65 : ∀ (H : Heap) (locs : List Loc) (ls : Array Slot), va_P D vwCl (wX A B S18) H → va_D Ad (wX A B S18) → va_S Ad s.heap H locs → lv_has ls 6 [(0, .ref (A 25)), (1, .ref (A 13)), (2, .int a2), (3, .int r2), (4, .int u4_9)] → W p l e rm_X5_readTable s m args below meth c H locs 0 0 Q (F0 m 65 ls [.int q65, .ref (A 25)]) := by
            intro H locs ls hP hD hS hl
            obtain ⟨r65, hc65, hf⟩ := hf_b hf
            refine cl_V (pc := 65) (As := [.int q65]) (rest := []) hx hb hml hown hts (kX5_readMark_25 l D A B _ S18 q65 r65 hc65) (cwV 1 hts gwRX5_53 rfl rfl rfl hdX5_readMark ⟨Nat.le_of_ble_eq_true rfl, Nat.le_of_ble_eq_true rfl⟩) hN hK hP hD hS hA (va_recv hK hP (ci := 5) (q0 := 25) rfl (eX_25 A B _)) rfl hl.1 rfl (Nat.le_of_ble_eq_true rfl) dX5_readTable_65 (st1 := [.int r65.1]) rfl ⟨Nat.zero_le _, Nat.zero_le _⟩ (fun H locs hP hD hS => ?_)
            refine lv_if_ne (pc := 68) hx hb (tgt := 73) dX5_readTable_68 (by decide) (fun c_68 => ?_) (fun c_68 => ?_)
            · have hf := hf_f c_68 hf
              refine lv_iinc (pc := 73) hx hb (v := u4_9 + 1) (lv' := [(4, .int (u4_9 + 1)), (0, .ref (A 25)), (1, .ref (A 13)), (2, .int a2), (3, .int r2)]) dX5_readTable_73 hl (k := 4) rfl rfl (by decide) rfl (fun ls hl => ?_)
              refine lv_goto (pc := 76) hx hb (tgt := 9) dX5_readTable_76 (by decide) ?_
              exact ih9 r65.2 (u4_9 + 1) H locs ls hf hP hD hS (lv_sub hl [1, 2, 3, 4, 0] rfl)
            · have hf := hf_t c_68 hf
              refine lv_iconst (pc := 71) hx hb (v := 0) dX5_readTable_71 (by decide) ?_
              obtain rfl := Option.some.inj hf
              exact hR H locs 72 ls hP hD hS (nz_of (.inl rfl)) dX5_readTable_72
          refine lv_icmp_ge (pc := 55) hx hb (tgt := 63) dX5_readTable_55 (by decide) (fun c_55 => ?_) (fun c_55 => ?_)
          · have hv65 := hf_t c_55 hv65
            refine lv_bipush (pc := 63) hx hb (v := 59) dX5_readTable_63 (by decide) ?_
            obtain rfl := Option.some.inj hv65
            exact hj65 H locs ls hP hD hS (lv_sub hl [0, 1, 2, 3, 4] rfl)
          · have hv65 := hf_f c_55 hv65
            refine lv_bipush (pc := 58) hx hb (v := 44) dX5_readTable_58 (by decide) ?_
            refine lv_goto (pc := 60) hx hb (tgt := 65) dX5_readTable_60 (by decide) ?_
            obtain rfl := Option.some.inj hv65
            exact hj65 H locs ls hP hD hS (lv_sub hl [0, 1, 2, 3, 4] rfl)
        have lp18 : ∀ (n : Nat) (T18 : w_S) (u5_18 : Int32) (H : Heap) (locs : List Loc) (ls : Array Slot), fX5_readTable_25_13_L18 (fun (S18 : w_S) => ((if (r2 - 1) ≤ u4_9 then some 59 else some 44)).bind (fun (q65 : Int32) => (fX5_readMark_25 S18 q65).bind (fun r65 => (if r65.1 = 0 then some (0, r65.2) else fX5_readTable_25_13_L9 (fun (S9 : w_S) => some (1, S9)) a2 r2 n9 r65.2 (u4_9 + 1))))) a2 r2 u4_9 n T18 u5_18 = some z → va_P D vwCl (wX A B T18) H → va_D Ad (wX A B T18) → va_S Ad s.heap H locs → lv_has ls 6 [(0, .ref (A 25)), (1, .ref (A 13)), (2, .int a2), (3, .int r2), (4, .int u4_9), (5, .int u5_18)] → W p l e rm_X5_readTable s m args below meth c H locs 0 0 Q (F0 m 18 ls []) := by
          intro n18
          induction n18 with
          | zero => intro T18 u5_18 H locs ls hf; exact hf_0 hf
          | succ n18 ih18 =>
            intro T18 u5_18 H locs ls hf hP hD hS hl
            rw [fX5_readTable_25_13_L18] at hf
            refine lv_iload (pc := 18) hx hb dX5_readTable_18 (lv_at hl 5 rfl) ?_
            refine lv_aload_n (pc := 20) hx hb dX5_readTable_20 rfl (lv_at hl 1 rfl) ?_
            refine lv_iload_n (pc := 21) hx hb dX5_readTable_21 rfl (lv_at hl 2 rfl) ?_
            obtain ⟨r22, hc22, hf⟩ := hf_b hf
            refine cl_V (pc := 22) (As := [.int a2]) (rest := [.int u5_18]) hx hb hml hown hts (kX4_columns_13 l D A B _ T18 a2 r22 hc22) (cwV 1 hts gwRX5_46 rfl rfl rfl hdX4_columns ⟨Nat.le_of_ble_eq_true rfl, Nat.le_of_ble_eq_true rfl⟩) hN hK hP hD hS hA (va_recv hK hP (ci := 4) (q0 := 13) rfl (eX_13 A B _)) rfl hl.1 rfl (Nat.le_of_ble_eq_true rfl) dX5_readTable_22 (st1 := [.int r22, .int u5_18]) rfl ⟨Nat.zero_le _, Nat.zero_le _⟩ (fun H locs hP hD hS => ?_)
            refine lv_icmp_ge (pc := 25) hx hb (tgt := 49) dX5_readTable_25 (by decide) (fun c_25 => ?_) (fun c_25 => ?_)
            · have hf := hf_t c_25 hf
              exact hk18 T18 H locs ls hf hP hD hS (lv_sub hl [0, 1, 2, 3, 4] rfl)
            · have hf := hf_f c_25 hf
              refine lv_aload_n (pc := 28) hx hb dX5_readTable_28 rfl (lv_at hl 0 rfl) ?_
              refine lv_aload_n (pc := 29) hx hb dX5_readTable_29 rfl (lv_at hl 1 rfl) ?_
              refine lv_iload_n (pc := 30) hx hb dX5_readTable_30 rfl (lv_at hl 2 rfl) ?_
              refine lv_iload (pc := 31) hx hb dX5_readTable_31 (lv_at hl 4 rfl) ?_
              refine lv_iload (pc := 33) hx hb dX5_readTable_33 (lv_at hl 5 rfl) ?_
              obtain ⟨r35, hc35, hf⟩ := hf_b hf
              refine cl_V (pc := 35) (As := [.ref (A 13), .int a2, .int u4_9, .int u5_18]) (rest := []) hx hb hml hown hts (kX5_readEntry_25_13 l D A B _ T18 a2 u4_9 u5_18 r35 hc35) (cwV 4 hts gwRX5_49 rfl rfl rfl hdX5_readEntry ⟨Nat.le_of_ble_eq_true rfl, Nat.le_of_ble_eq_true rfl⟩) hN hK hP hD hS hA (va_recv hK hP (ci := 5) (q0 := 25) rfl (eX_25 A B _)) rfl hl.1 rfl (Nat.le_of_ble_eq_true rfl) dX5_readTable_35 (st1 := [.int r35.1]) rfl ⟨Nat.zero_le _, Nat.zero_le _⟩ (fun H locs hP hD hS => ?_)
              refine lv_if_ne (pc := 38) hx hb (tgt := 43) dX5_readTable_38 (by decide) (fun c_38 => ?_) (fun c_38 => ?_)
              · have hf := hf_f c_38 hf
                refine lv_iinc (pc := 43) hx hb (v := u5_18 + 1) (lv' := [(5, .int (u5_18 + 1)), (0, .ref (A 25)), (1, .ref (A 13)), (2, .int a2), (3, .int r2), (4, .int u4_9)]) dX5_readTable_43 hl (k := 5) rfl rfl (by decide) rfl (fun ls hl => ?_)
                refine lv_goto (pc := 46) hx hb (tgt := 18) dX5_readTable_46 (by decide) ?_
                exact ih18 r35.2 (u5_18 + 1) H locs ls hf hP hD hS (lv_sub hl [1, 2, 3, 4, 5, 0] rfl)
              · have hf := hf_t c_38 hf
                refine lv_iconst (pc := 41) hx hb (v := 0) dX5_readTable_41 (by decide) ?_
                obtain rfl := Option.some.inj hf
                exact hR H locs 42 ls hP hD hS (nz_of (.inl rfl)) dX5_readTable_42
        exact lp18 256 T9 0 H locs ls hf hP hD hS (lv_sub hl [1, 2, 3, 4, 5, 0] rfl)
  exact lp9 256 S 0 H locs ls hf hP hD hS (lv_sub hl [2, 3, 4, 1, 0] rfl)
set_option maxHeartbeats 4000000 in
set_option maxRecDepth 100000 in
theorem kX5_tell_25_13 (l : Launch) (D : va_G) (A : Nat → Nat) (B : Nat → ClassId) (sz : Nat) (S : w_S) (z : Int32 × w_S) (hf : fX5_tell_25_13 S = some z) : MetW l yX5_tell (wsO yX5_tell cX5_tell 5 (some .int)) rm_X5_tell [.ref (A 25), .ref (A 13)] D (tyB B) (wX A B S) (wX A B z.2) sz (some (.int z.1)) := by
  refine MetW.mkI (cc := cX5_tell) (maxL := 5) (by decide) (Nat.le_of_ble_eq_true rfl) ?_
  intro p e s m args below meth c Ad Q hx hb hts hown hml hN hK hA hR H locs ls hP hD hS hl
  have hl : lv_has ls 5 [(0, .ref (A 25)), (1, .ref (A 13))] := hl
  rw [fX5_tell_25_13] at hf
  refine lv_aload_n (pc := 0) hx hb dX5_tell_0 rfl (lv_at hl 0 rfl) ?_
  refine lv_iconst (pc := 1) hx hb (v := 0) dX5_tell_1 (by decide) ?_
  refine vXpRX5_19_25 (pc := 2) hx hb hts mU_290 inU5 hown hK hP hD hS dX5_tell_2 (fun H locs hP hD hS => ?_)
  refine lv_iconst (pc := 5) hx hb (v := 0) dX5_tell_5 (by decide) ?_
  refine lv_istore_n (pc := 6) hx hb (lv' := [(2, .int 0), (0, .ref (A 25)), (1, .ref (A 13))]) dX5_tell_6 rfl hl (by decide) rfl (fun ls hl => ?_)
  refine lv_iconst (pc := 7) hx hb (v := 0) dX5_tell_7 (by decide) ?_
  refine lv_istore_n (pc := 8) hx hb (lv' := [(3, .int 0), (2, .int 0), (0, .ref (A 25)), (1, .ref (A 13))]) dX5_tell_8 rfl hl (by decide) rfl (fun ls hl => ?_)
  have hk9 : ∀ (S9 : w_S) (v2_9 : Int32) (H : Heap) (locs : List Loc) (ls : Array Slot), some (v2_9, S9) = some z → va_P D vwCl (wX A B S9) H → va_D Ad (wX A B S9) → va_S Ad s.heap H locs → lv_has ls 5 [(2, .int v2_9)] → W p l e rm_X5_tell s m args below meth c H locs 0 0 Q (F0 m 71 ls []) := by
    intro S9 v2_9 H locs ls hf hP hD hS hl
    refine lv_iload_n (pc := 71) hx hb dX5_tell_71 rfl (lv_at hl 0 rfl) ?_
    obtain rfl := Option.some.inj hf
    exact hR H locs 72 ls hP hD hS dX5_tell_72
  have lp9 : ∀ (n : Nat) (T9 : w_S) (u2_9 : Int32) (u3_9 : Int32) (H : Heap) (locs : List Loc) (ls : Array Slot), fX5_tell_25_13_L9 (fun (S9 : w_S) (v2_9 : Int32) => some (v2_9, S9)) n T9 u2_9 u3_9 = some z → va_P D vwCl (wX A B T9) H → va_D Ad (wX A B T9) → va_S Ad s.heap H locs → lv_has ls 5 [(0, .ref (A 25)), (1, .ref (A 13)), (2, .int u2_9), (3, .int u3_9)] → W p l e rm_X5_tell s m args below meth c H locs 0 0 Q (F0 m 9 ls []) := by
    intro n9
    induction n9 with
    | zero => intro T9 u2_9 u3_9 H locs ls hf; exact hf_0 hf
    | succ n9 ih9 =>
      intro T9 u2_9 u3_9 H locs ls hf hP hD hS hl
      rw [fX5_tell_25_13_L9] at hf
      refine lv_iload_n (pc := 9) hx hb dX5_tell_9 rfl (lv_at hl 3 rfl) ?_
      refine lv_sipush (pc := 10) hx hb (v := 200) dX5_tell_10 (by decide) ?_
      refine lv_icmp_gt (pc := 13) hx hb (tgt := 71) dX5_tell_13 (by decide) (fun c_13 => ?_) (fun c_13 => ?_)
      · have hf := hf_t c_13 hf
        exact hk9 T9 u2_9 H locs ls hf hP hD hS (lv_sub hl [2] rfl)
      · have hf := hf_f c_13 hf
        refine lv_aload_n (pc := 16) hx hb dX5_tell_16 rfl (lv_at hl 0 rfl) ?_
        obtain ⟨r17, hc17, hf⟩ := hf_b hf
        refine cl_V (pc := 17) (As := []) (rest := []) hx hb hml hown hts (kX5_skipBlanks_25 l D A B _ T9 r17 hc17) (cwV 0 hts gwRX5_22 rfl rfl rfl hdX5_skipBlanks ⟨Nat.le_of_ble_eq_true rfl, Nat.le_of_ble_eq_true rfl⟩) hN hK hP hD hS hA (va_recv hK hP (ci := 5) (q0 := 25) rfl (eX_25 A B _)) rfl hl.1 rfl (Nat.le_of_ble_eq_true rfl) dX5_tell_17 (st1 := []) rfl ⟨Nat.zero_le _, Nat.zero_le _⟩ (fun H locs hP hD hS => ?_)
        refine lv_aload_n (pc := 20) hx hb dX5_tell_20 rfl (lv_at hl 0 rfl) ?_
        refine vXgRX5_19_25 (pc := 21) hx hb hts mU_290 inU5 hown hK hP (x := (gI r17 22)) rfl dX5_tell_21 ?_
        refine lv_aload_n (pc := 24) hx hb dX5_tell_24 rfl (lv_at hl 0 rfl) ?_
        refine vXgRX5_15_25 (pc := 25) hx hb hts mU_266 inU5 hown hK hP (x := (gI r17 21)) rfl dX5_tell_25 ?_
        refine lv_icmp_lt (pc := 28) hx hb (tgt := 33) dX5_tell_28 (by decide) (fun c_28 => ?_) (fun c_28 => ?_)
        · have hf := hf_t c_28 hf
          refine lv_aload_n (pc := 33) hx hb dX5_tell_33 rfl (lv_at hl 0 rfl) ?_
          obtain ⟨r34, hc34, hf⟩ := hf_b hf
          refine cl_V (pc := 34) (As := []) (rest := []) hx hb hml hown hts (kX5_readName_25 l D A B _ r17 r34 hc34) (cwV 0 hts gwRX5_25 rfl rfl rfl hdX5_readName ⟨Nat.le_of_ble_eq_true rfl, Nat.le_of_ble_eq_true rfl⟩) hN hK hP hD hS hA (va_recv hK hP (ci := 5) (q0 := 25) rfl (eX_25 A B _)) rfl hl.1 rfl (Nat.le_of_ble_eq_true rfl) dX5_tell_34 (st1 := [.int r34.1]) rfl ⟨Nat.zero_le _, Nat.zero_le _⟩ (fun H locs hP hD hS => ?_)
          refine lv_istore (pc := 37) hx hb (lv' := [(4, .int r34.1), (0, .ref (A 25)), (1, .ref (A 13)), (2, .int u2_9), (3, .int u3_9)]) dX5_tell_37 hl (by decide) rfl (fun ls hl => ?_)
          refine lv_iload (pc := 39) hx hb dX5_tell_39 (lv_at hl 0 rfl) ?_
          refine lv_if_lt (pc := 41) hx hb (tgt := 54) dX5_tell_41 (by decide) (fun c_41 => ?_) (fun c_41 => ?_)
          · have hf := hf_t c_41 hf
            refine lv_bipush (pc := 54) hx hb (v := (-100)) dX5_tell_54 (by decide) ?_
            refine lv_aload_n (pc := 56) hx hb dX5_tell_56 rfl (lv_at hl 1 rfl) ?_
            refine vXgRX5_19_25 (pc := 57) hx hb hts mU_290 inU5 hown hK hP (x := (gI r34.2 22)) rfl dX5_tell_57 ?_
            refine lv_isub (pc := 60) hx hb dX5_tell_60 ?_
            obtain rfl := Option.some.inj hf
            exact hR H locs 61 ls hP hD hS dX5_tell_61
          · have hf := hf_f c_41 hf
            refine lv_aload_n (pc := 44) hx hb dX5_tell_44 rfl (lv_at hl 1 rfl) ?_
            refine lv_aload_n (pc := 45) hx hb dX5_tell_45 rfl (lv_at hl 2 rfl) ?_
            refine lv_iload (pc := 46) hx hb dX5_tell_46 (lv_at hl 0 rfl) ?_
            obtain ⟨r48, hc48, hf⟩ := hf_b hf
            refine cl_V (pc := 48) (As := [.ref (A 13), .int r34.1]) (rest := []) hx hb hml hown hts (kX5_readTable_25_13 l D A B _ r34.2 r34.1 r48 hc48) (cwV 2 hts gwRX5_29 rfl rfl rfl hdX5_readTable ⟨Nat.le_of_ble_eq_true rfl, Nat.le_of_ble_eq_true rfl⟩) hN hK hP hD hS hA (va_recv hK hP (ci := 5) (q0 := 25) rfl (eX_25 A B _)) rfl hl.1 rfl (Nat.le_of_ble_eq_true rfl) dX5_tell_48 (st1 := [.int r48.1]) rfl ⟨Nat.zero_le _, Nat.zero_le _⟩ (fun H locs hP hD hS => ?_)
            refine lv_if_ne (pc := 51) hx hb (tgt := 62) dX5_tell_51 (by decide) (fun c_51 => ?_) (fun c_51 => ?_)
            · have hf := hf_f c_51 hf
              refine lv_iinc (pc := 62) hx hb (v := u2_9 + 1) (lv' := [(2, .int (u2_9 + 1)), (4, .int r34.1), (0, .ref (A 25)), (1, .ref (A 13)), (3, .int u3_9)]) dX5_tell_62 hl (k := 3) rfl rfl (by decide) rfl (fun ls hl => ?_)
              refine lv_iinc (pc := 65) hx hb (v := u3_9 + 1) (lv' := [(3, .int (u3_9 + 1)), (2, .int (u2_9 + 1)), (4, .int r34.1), (0, .ref (A 25)), (1, .ref (A 13))]) dX5_tell_65 hl (k := 4) rfl rfl (by decide) rfl (fun ls hl => ?_)
              refine lv_goto (pc := 68) hx hb (tgt := 9) dX5_tell_68 (by decide) ?_
              exact ih9 r48.2 (u2_9 + 1) (u3_9 + 1) H locs ls hf hP hD hS (lv_sub hl [3, 4, 1, 0] rfl)
            · have hf := hf_t c_51 hf
              refine lv_bipush (pc := 54) hx hb (v := (-100)) dX5_tell_54 (by decide) ?_
              refine lv_aload_n (pc := 56) hx hb dX5_tell_56 rfl (lv_at hl 1 rfl) ?_
              refine vXgRX5_19_25 (pc := 57) hx hb hts mU_290 inU5 hown hK hP (x := (gI r48.2 22)) rfl dX5_tell_57 ?_
              refine lv_isub (pc := 60) hx hb dX5_tell_60 ?_
              obtain rfl := Option.some.inj hf
              exact hR H locs 61 ls hP hD hS dX5_tell_61
        · have hf := hf_f c_28 hf
          refine lv_iload_n (pc := 31) hx hb dX5_tell_31 rfl (lv_at hl 2 rfl) ?_
          obtain rfl := Option.some.inj hf
          exact hR H locs 32 ls hP hD hS dX5_tell_32
  exact lp9 256 (sI S 22 0) 0 0 H locs ls hf hP hD hS (lv_sub hl [2, 3, 1, 0] rfl)
set_option maxHeartbeats 4000000 in
set_option maxRecDepth 100000 in
theorem kX6_text (l : Launch) (D : va_G) (A : Nat → Nat) (B : Nat → ClassId) (sz : Nat) (S : w_S) (z : Int32 × w_S) (hf : fX6_text S = some z) : MetW l yX6_text (wsO yX6_text cX6_text 2 (some .int)) rm_X6_text [.ref (A 0)] D (tyB B) (wX A B S) (wX A B z.2) sz (some (.int z.1)) := by
  refine MetW.mkI (cc := cX6_text) (maxL := 2) (by decide) (Nat.le_of_ble_eq_true rfl) ?_
  intro p e s m args below meth c Ad Q hx hb hts hown hml hN hK hA hR H locs ls hP hD hS hl
  have hl : lv_has ls 2 [(0, .ref (A 0))] := hl
  rw [fX6_text] at hf
  refine lv_aload_n (pc := 0) hx hb dX6_text_0 rfl (lv_at hl 0 rfl) ?_
  refine vXgRX6_19_0 (pc := 1) hx hb hts mU_18 inU6 hown hK hP dX6_text_1 ?_
  refine lv_aload_n (pc := 4) hx hb dX6_text_4 rfl (lv_at hl 0 rfl) ?_
  refine vXgRX6_10_0 (pc := 5) hx hb hts mU_16 inU6 hown hK hP dX6_text_5 ?_
  obtain ⟨r8, hc8, hf⟩ := hf_b hf
  refine cl_V (pc := 8) (As := [.ref (A 1)]) (rest := []) hx hb hml hown hts (kX4_copyFrom_13_1 l D A B _ S r8 hc8) (cwV 1 hts gwRX6_105 rfl rfl rfl hdX4_copyFrom ⟨Nat.le_of_ble_eq_true rfl, Nat.le_of_ble_eq_true rfl⟩) hN hK hP hD hS hA (va_recv hK hP (ci := 4) (q0 := 13) rfl (eX_13 A B _)) rfl hl.1 rfl (Nat.le_of_ble_eq_true rfl) dX6_text_8 (st1 := []) rfl ⟨Nat.zero_le _, Nat.zero_le _⟩ (fun H locs hP hD hS => ?_)
  refine lv_aload_n (pc := 11) hx hb dX6_text_11 rfl (lv_at hl 0 rfl) ?_
  refine vXgRX6_35_0 (pc := 12) hx hb hts mU_27 inU6 hown hK hP dX6_text_12 ?_
  refine lv_aload_n (pc := 15) hx hb dX6_text_15 rfl (lv_at hl 0 rfl) ?_
  refine vXgRX6_19_0 (pc := 16) hx hb hts mU_18 inU6 hown hK hP dX6_text_16 ?_
  obtain ⟨r19, hc19, hf⟩ := hf_b hf
  refine cl_V (pc := 19) (As := [.ref (A 13)]) (rest := []) hx hb hml hown hts (kX5_tell_25_13 l D A B _ r8 r19 hc19) (cwV 1 hts gwRX6_109 rfl rfl rfl hdX5_tell ⟨Nat.le_of_ble_eq_true rfl, Nat.le_of_ble_eq_true rfl⟩) hN hK hP hD hS hA (va_recv hK hP (ci := 5) (q0 := 25) rfl (eX_25 A B _)) rfl hl.1 rfl (Nat.le_of_ble_eq_true rfl) dX6_text_19 (st1 := [.int r19.1]) rfl ⟨Nat.zero_le _, Nat.zero_le _⟩ (fun H locs hP hD hS => ?_)
  refine lv_istore_n (pc := 22) hx hb (lv' := [(1, .int r19.1), (0, .ref (A 0))]) dX6_text_22 rfl hl (by decide) rfl (fun ls hl => ?_)
  refine lv_iload_n (pc := 23) hx hb dX6_text_23 rfl (lv_at hl 0 rfl) ?_
  refine lv_if_lt (pc := 24) hx hb (tgt := 38) dX6_text_24 (by decide) (fun c_24 => ?_) (fun c_24 => ?_)
  · have hf := hf_t c_24 hf
    refine lv_aload_n (pc := 38) hx hb dX6_text_38 rfl (lv_at hl 1 rfl) ?_
    refine vXgRX6_35_0 (pc := 39) hx hb hts mU_27 inU6 hown hK hP dX6_text_39 ?_
    refine lv_iconst (pc := 42) hx hb (v := 0) dX6_text_42 (by decide) ?_
    refine vXpRX6_98_25 (pc := 43) hx hb hts mU_261 inU5 hown hK hP hD hS dX6_text_43 (fun H locs hP hD hS => ?_)
    refine lv_iload_n (pc := 46) hx hb dX6_text_46 rfl (lv_at hl 0 rfl) ?_
    obtain rfl := Option.some.inj hf
    exact hR H locs 47 ls hP hD hS dX6_text_47
  · have hf := hf_f c_24 hf
    refine lv_aload_n (pc := 27) hx hb dX6_text_27 rfl (lv_at hl 1 rfl) ?_
    refine vXgRX6_10_0 (pc := 28) hx hb hts mU_16 inU6 hown hK hP dX6_text_28 ?_
    refine lv_aload_n (pc := 31) hx hb dX6_text_31 rfl (lv_at hl 1 rfl) ?_
    refine vXgRX6_19_0 (pc := 32) hx hb hts mU_18 inU6 hown hK hP dX6_text_32 ?_
    obtain ⟨r35, hc35, hf⟩ := hf_b hf
    refine cl_V (pc := 35) (As := [.ref (A 13)]) (rest := []) hx hb hml hown hts (kX4_copyFrom_1_13 l D A B _ r19.2 r35 hc35) (cwV 1 hts gwRX6_105 rfl rfl rfl hdX4_copyFrom ⟨Nat.le_of_ble_eq_true rfl, Nat.le_of_ble_eq_true rfl⟩) hN hK hP hD hS hA (va_recv hK hP (ci := 4) (q0 := 1) rfl (eX_1 A B _)) rfl hl.1 rfl (Nat.le_of_ble_eq_true rfl) dX6_text_35 (st1 := []) rfl ⟨Nat.zero_le _, Nat.zero_le _⟩ (fun H locs hP hD hS => ?_)
    refine lv_aload_n (pc := 38) hx hb dX6_text_38 rfl (lv_at hl 1 rfl) ?_
    refine vXgRX6_35_0 (pc := 39) hx hb hts mU_27 inU6 hown hK hP dX6_text_39 ?_
    refine lv_iconst (pc := 42) hx hb (v := 0) dX6_text_42 (by decide) ?_
    refine vXpRX6_98_25 (pc := 43) hx hb hts mU_261 inU5 hown hK hP hD hS dX6_text_43 (fun H locs hP hD hS => ?_)
    refine lv_iload_n (pc := 46) hx hb dX6_text_46 rfl (lv_at hl 0 rfl) ?_
    obtain rfl := Option.some.inj hf
    exact hR H locs 47 ls hP hD hS dX6_text_47
set_option maxHeartbeats 4000000 in
set_option maxRecDepth 100000 in
theorem kX4_hasEquation_1 (l : Launch) (D : va_G) (A : Nat → Nat) (B : Nat → ClassId) (sz : Nat) (S : w_S) (a1 : Int32) (z : Int32) (hf : fX4_hasEquation_1 S a1 = some z) : MetW l yX4_hasEquation (wsO yX4_hasEquation cX4_hasEquation 2 (some .boolean)) rm_X4_hasEquation [.ref (A 1), .int a1] D (tyB B) (wX A B S) (wX A B S) sz (some (.int z)) := by
  refine MetW.mkZ (cc := cX4_hasEquation) (maxL := 2) (by decide) (Nat.le_of_ble_eq_true rfl) ?_
  intro p e s m args below meth c Ad Q hx hb hts hown hml hN hK hA hR H locs ls hP hD hS hl
  have hl : lv_has ls 2 [(0, .ref (A 1)), (1, .int a1)] := hl
  rw [fX4_hasEquation_1] at hf
  refine lv_iload_n (pc := 0) hx hb dX4_hasEquation_0 rfl (lv_at hl 1 rfl) ?_
  refine lv_if_lt (pc := 1) hx hb (tgt := 22) dX4_hasEquation_1 (by decide) (fun c_1 => ?_) (fun c_1 => ?_)
  · have hf := hf_t c_1 hf
    refine lv_iconst (pc := 22) hx hb (v := 0) dX4_hasEquation_22 (by decide) ?_
    obtain rfl := Option.some.inj hf
    exact hR H locs 23 ls hP hD hS (nz_of (.inl rfl)) dX4_hasEquation_23
  · have hf := hf_f c_1 hf
    refine lv_iload_n (pc := 4) hx hb dX4_hasEquation_4 rfl (lv_at hl 1 rfl) ?_
    refine lv_aload_n (pc := 5) hx hb dX4_hasEquation_5 rfl (lv_at hl 0 rfl) ?_
    refine vXgRX4_37_1 (pc := 6) hx hb hts mU_281 inU4 hown hK hP (x := (gI S 3)) rfl dX4_hasEquation_6 ?_
    refine lv_icmp_ge (pc := 9) hx hb (tgt := 22) dX4_hasEquation_9 (by decide) (fun c_9 => ?_) (fun c_9 => ?_)
    · have hf := hf_t c_9 hf
      refine lv_iconst (pc := 22) hx hb (v := 0) dX4_hasEquation_22 (by decide) ?_
      obtain rfl := Option.some.inj hf
      exact hR H locs 23 ls hP hD hS (nz_of (.inl rfl)) dX4_hasEquation_23
    · have hf := hf_f c_9 hf
      refine lv_iload_n (pc := 12) hx hb dX4_hasEquation_12 rfl (lv_at hl 1 rfl) ?_
      refine lv_bipush (pc := 13) hx hb (v := 6) dX4_hasEquation_13 (by decide) ?_
      refine lv_icmp_ge (pc := 15) hx hb (tgt := 22) dX4_hasEquation_15 (by decide) (fun c_15 => ?_) (fun c_15 => ?_)
      · have hf := hf_t c_15 hf
        refine lv_iconst (pc := 22) hx hb (v := 0) dX4_hasEquation_22 (by decide) ?_
        obtain rfl := Option.some.inj hf
        exact hR H locs 23 ls hP hD hS (nz_of (.inl rfl)) dX4_hasEquation_23
      · have hf := hf_f c_15 hf
        refine lv_iconst (pc := 18) hx hb (v := 1) dX4_hasEquation_18 (by decide) ?_
        refine lv_goto (pc := 19) hx hb (tgt := 23) dX4_hasEquation_19 (by decide) ?_
        obtain rfl := Option.some.inj hf
        exact hR H locs 23 ls hP hD hS (nz_of (.inr rfl)) dX4_hasEquation_23
set_option maxHeartbeats 4000000 in
set_option maxRecDepth 100000 in
theorem kX4_become_1 (l : Launch) (D : va_G) (A : Nat → Nat) (B : Nat → ClassId) (sz : Nat) (S : w_S) (a1 : Int32) (a2 : Int32) (a3 : Int32) (z : w_S) (hf : fX4_become_1 S a1 a2 a3 = some z) : MetW l yX4_become (wsO yX4_become cX4_become 4 none) rm_X4_become [.ref (A 1), .int a1, .int a2, .int a3] D (tyB B) (wX A B S) (wX A B z) sz (none) := by
  refine MetW.mkV (cc := cX4_become) (maxL := 4) (by decide) (Nat.le_of_ble_eq_true rfl) ?_
  intro p e s m args below meth c Ad Q hx hb hts hown hml hN hK hA hR H locs ls hP hD hS hl
  have hl : lv_has ls 4 [(0, .ref (A 1)), (1, .int a1), (2, .int a2), (3, .int a3)] := hl
  rw [fX4_become_1] at hf
  refine lv_aload_n (pc := 0) hx hb dX4_become_0 rfl (lv_at hl 0 rfl) ?_
  refine lv_iload_n (pc := 1) hx hb dX4_become_1 rfl (lv_at hl 1 rfl) ?_
  obtain ⟨r2, hc2, hf⟩ := hf_b hf
  refine cl_V (pc := 2) (As := [.int a1]) (rest := []) hx hb hml hown hts (kX4_hasEquation_1 l D A B _ S a1 r2 hc2) (cwV 1 hts gwRX4_84 rfl rfl rfl hdX4_hasEquation ⟨Nat.le_of_ble_eq_true rfl, Nat.le_of_ble_eq_true rfl⟩) hN hK hP hD hS hA (va_recv hK hP (ci := 4) (q0 := 1) rfl (eX_1 A B _)) rfl hl.1 rfl (Nat.le_of_ble_eq_true rfl) dX4_become_2 (st1 := [.int r2]) rfl ⟨Nat.zero_le _, Nat.zero_le _⟩ (fun H locs hP hD hS => ?_)
  refine lv_if_eq (pc := 5) hx hb (tgt := 22) dX4_become_5 (by decide) (fun c_5 => ?_) (fun c_5 => ?_)
  · have hf := hf_t c_5 hf
    obtain rfl := Option.some.inj hf
    exact hR H locs 22 ls hP hD hS dX4_become_22
  · have hf := hf_f c_5 hf
    refine lv_aload_n (pc := 8) hx hb dX4_become_8 rfl (lv_at hl 0 rfl) ?_
    refine vXgRX4_31_1 (pc := 9) hx hb hts mU_50 inU4 hown hK hP dX4_become_9 ?_
    refine lv_iload_n (pc := 12) hx hb dX4_become_12 rfl (lv_at hl 1 rfl) ?_
    refine lv_iload_n (pc := 13) hx hb dX4_become_13 rfl (lv_at hl 2 rfl) ?_
    obtain ⟨hg14, hf⟩ := hf_g hf
    refine vXwa_5 (pc := 14) hx hb hK hP hD hS (f := (gA S 3)) rfl hg14 dX4_become_14 (fun H locs hP hD hS => ?_)
    refine lv_aload_n (pc := 15) hx hb dX4_become_15 rfl (lv_at hl 0 rfl) ?_
    refine vXgRX4_34_1 (pc := 16) hx hb hts mU_51 inU4 hown hK hP dX4_become_16 ?_
    refine lv_iload_n (pc := 19) hx hb dX4_become_19 rfl (lv_at hl 1 rfl) ?_
    refine lv_iload_n (pc := 20) hx hb dX4_become_20 rfl (lv_at hl 3 rfl) ?_
    obtain ⟨hg21, hf⟩ := hf_g hf
    refine vXwa_6 (pc := 21) hx hb hK hP hD hS (f := (gA S 4)) rfl hg21 dX4_become_21 (fun H locs hP hD hS => ?_)
    obtain rfl := Option.some.inj hf
    exact hR H locs 22 ls hP hD hS dX4_become_22
set_option maxHeartbeats 4000000 in
set_option maxRecDepth 100000 in
theorem kX6_isKind (l : Launch) (D : va_G) (A : Nat → Nat) (B : Nat → ClassId) (sz : Nat) (S : w_S) (a0 : Int32) (z : Int32) (hf : fX6_isKind a0 = some z) : MetW l yX6_isKind (wsO yX6_isKind cX6_isKind 1 (some .boolean)) rm_X6_isKind [.int a0] D (tyB B) (wX A B S) (wX A B S) sz (some (.int z)) := by
  refine MetW.mkZ (cc := cX6_isKind) (maxL := 1) (by decide) (Nat.le_of_ble_eq_true rfl) ?_
  intro p e s m args below meth c Ad Q hx hb hts hown hml hN hK hA hR H locs ls hP hD hS hl
  have hl : lv_has ls 1 [(0, .int a0)] := hl
  rw [fX6_isKind] at hf
  refine lv_iload_n (pc := 0) hx hb dX6_isKind_0 rfl (lv_at hl 0 rfl) ?_
  refine lv_if_lt (pc := 1) hx hb (tgt := 14) dX6_isKind_1 (by decide) (fun c_1 => ?_) (fun c_1 => ?_)
  · have hf := hf_t c_1 hf
    refine lv_iconst (pc := 14) hx hb (v := 0) dX6_isKind_14 (by decide) ?_
    obtain rfl := Option.some.inj hf
    exact hR H locs 15 ls hP hD hS (nz_of (.inl rfl)) dX6_isKind_15
  · have hf := hf_f c_1 hf
    refine lv_iload_n (pc := 4) hx hb dX6_isKind_4 rfl (lv_at hl 0 rfl) ?_
    refine lv_bipush (pc := 5) hx hb (v := 7) dX6_isKind_5 (by decide) ?_
    refine lv_icmp_ge (pc := 7) hx hb (tgt := 14) dX6_isKind_7 (by decide) (fun c_7 => ?_) (fun c_7 => ?_)
    · have hf := hf_t c_7 hf
      refine lv_iconst (pc := 14) hx hb (v := 0) dX6_isKind_14 (by decide) ?_
      obtain rfl := Option.some.inj hf
      exact hR H locs 15 ls hP hD hS (nz_of (.inl rfl)) dX6_isKind_15
    · have hf := hf_f c_7 hf
      refine lv_iconst (pc := 10) hx hb (v := 1) dX6_isKind_10 (by decide) ?_
      refine lv_goto (pc := 11) hx hb (tgt := 15) dX6_isKind_11 (by decide) ?_
      obtain rfl := Option.some.inj hf
      exact hR H locs 15 ls hP hD hS (nz_of (.inr rfl)) dX6_isKind_15
set_option maxHeartbeats 4000000 in
set_option maxRecDepth 100000 in
theorem kX6_isShift (l : Launch) (D : va_G) (A : Nat → Nat) (B : Nat → ClassId) (sz : Nat) (S : w_S) (a0 : Int32) (z : Int32) (hf : fX6_isShift a0 = some z) : MetW l yX6_isShift (wsO yX6_isShift cX6_isShift 1 (some .boolean)) rm_X6_isShift [.int a0] D (tyB B) (wX A B S) (wX A B S) sz (some (.int z)) := by
  refine MetW.mkZ (cc := cX6_isShift) (maxL := 1) (by decide) (Nat.le_of_ble_eq_true rfl) ?_
  intro p e s m args below meth c Ad Q hx hb hts hown hml hN hK hA hR H locs ls hP hD hS hl
  have hl : lv_has ls 1 [(0, .int a0)] := hl
  rw [fX6_isShift] at hf
  refine lv_iload_n (pc := 0) hx hb dX6_isShift_0 rfl (lv_at hl 0 rfl) ?_
  refine lv_bipush (pc := 1) hx hb (v := (-2)) dX6_isShift_1 (by decide) ?_
  refine lv_icmp_lt (pc := 3) hx hb (tgt := 15) dX6_isShift_3 (by decide) (fun c_3 => ?_) (fun c_3 => ?_)
  · have hf := hf_t c_3 hf
    refine lv_iconst (pc := 15) hx hb (v := 0) dX6_isShift_15 (by decide) ?_
    obtain rfl := Option.some.inj hf
    exact hR H locs 16 ls hP hD hS (nz_of (.inl rfl)) dX6_isShift_16
  · have hf := hf_f c_3 hf
    refine lv_iload_n (pc := 6) hx hb dX6_isShift_6 rfl (lv_at hl 0 rfl) ?_
    refine lv_iconst (pc := 7) hx hb (v := 2) dX6_isShift_7 (by decide) ?_
    refine lv_icmp_gt (pc := 8) hx hb (tgt := 15) dX6_isShift_8 (by decide) (fun c_8 => ?_) (fun c_8 => ?_)
    · have hf := hf_t c_8 hf
      refine lv_iconst (pc := 15) hx hb (v := 0) dX6_isShift_15 (by decide) ?_
      obtain rfl := Option.some.inj hf
      exact hR H locs 16 ls hP hD hS (nz_of (.inl rfl)) dX6_isShift_16
    · have hf := hf_f c_8 hf
      refine lv_iconst (pc := 11) hx hb (v := 1) dX6_isShift_11 (by decide) ?_
      refine lv_goto (pc := 12) hx hb (tgt := 16) dX6_isShift_12 (by decide) ?_
      obtain rfl := Option.some.inj hf
      exact hR H locs 16 ls hP hD hS (nz_of (.inr rfl)) dX6_isShift_16
set_option maxHeartbeats 4000000 in
set_option maxRecDepth 100000 in
theorem kX6_equation (l : Launch) (D : va_G) (A : Nat → Nat) (B : Nat → ClassId) (sz : Nat) (S : w_S) (a1 : Int32) (a2 : Int32) (z : Int32 × w_S) (hf : fX6_equation S a1 a2 = some z) : MetW l yX6_equation (wsO yX6_equation cX6_equation 3 (some .int)) rm_X6_equation [.ref (A 0), .int a1, .int a2] D (tyB B) (wX A B S) (wX A B z.2) sz (some (.int z.1)) := by
  refine MetW.mkI (cc := cX6_equation) (maxL := 3) (by decide) (Nat.le_of_ble_eq_true rfl) ?_
  intro p e s m args below meth c Ad Q hx hb hts hown hml hN hK hA hR H locs ls hP hD hS hl
  have hl : lv_has ls 3 [(0, .ref (A 0)), (1, .int a1), (2, .int a2)] := hl
  rw [fX6_equation] at hf
  refine lv_iload_n (pc := 0) hx hb dX6_equation_0 rfl (lv_at hl 1 rfl) ?_
  obtain ⟨r1, hc1, hf⟩ := hf_b hf
  refine cl_S (pc := 1) (As := [.int a1]) (rest := []) hx hb hml hown hts (kX6_isKind l D A B _ S a1 r1 hc1) (va_cwS 1 hts gwRX6_113 rfl rfl rfl hdX6_isKind ⟨Nat.le_of_ble_eq_true rfl, Nat.le_of_ble_eq_true rfl⟩) hN hK hP hD hS hA rfl hl.1 rfl (Nat.le_of_ble_eq_true rfl) dX6_equation_1 (st1 := [.int r1]) rfl ⟨Nat.zero_le _, Nat.zero_le _⟩ (fun H locs hP hD hS => ?_)
  refine lv_if_eq (pc := 4) hx hb (tgt := 14) dX6_equation_4 (by decide) (fun c_4 => ?_) (fun c_4 => ?_)
  · have hf := hf_t c_4 hf
    refine lv_iconst (pc := 14) hx hb (v := (-1)) dX6_equation_14 (by decide) ?_
    obtain rfl := Option.some.inj hf
    exact hR H locs 15 ls hP hD hS dX6_equation_15
  · have hf := hf_f c_4 hf
    refine lv_iload_n (pc := 7) hx hb dX6_equation_7 rfl (lv_at hl 2 rfl) ?_
    obtain ⟨r8, hc8, hf⟩ := hf_b hf
    refine cl_S (pc := 8) (As := [.int a2]) (rest := []) hx hb hml hown hts (kX6_isShift l D A B _ S a2 r8 hc8) (va_cwS 1 hts gwRX6_117 rfl rfl rfl hdX6_isShift ⟨Nat.le_of_ble_eq_true rfl, Nat.le_of_ble_eq_true rfl⟩) hN hK hP hD hS hA rfl hl.1 rfl (Nat.le_of_ble_eq_true rfl) dX6_equation_8 (st1 := [.int r8]) rfl ⟨Nat.zero_le _, Nat.zero_le _⟩ (fun H locs hP hD hS => ?_)
    refine lv_if_ne (pc := 11) hx hb (tgt := 16) dX6_equation_11 (by decide) (fun c_11 => ?_) (fun c_11 => ?_)
    · have hf := hf_f c_11 hf
      refine lv_aload_n (pc := 16) hx hb dX6_equation_16 rfl (lv_at hl 0 rfl) ?_
      refine vXgRX6_10_0 (pc := 17) hx hb hts mU_16 inU6 hown hK hP dX6_equation_17 ?_
      refine vXgRX6_120_1 (pc := 20) hx hb hts mU_364 inU4 hown hK hP (x := (gI S 3)) rfl dX6_equation_20 ?_
      refine lv_bipush (pc := 23) hx hb (v := 6) dX6_equation_23 (by decide) ?_
      refine lv_icmp_lt (pc := 25) hx hb (tgt := 31) dX6_equation_25 (by decide) (fun c_25 => ?_) (fun c_25 => ?_)
      · have hf := hf_t c_25 hf
        refine lv_aload_n (pc := 31) hx hb dX6_equation_31 rfl (lv_at hl 0 rfl) ?_
        refine vXgRX6_10_0 (pc := 32) hx hb hts mU_16 inU6 hown hK hP dX6_equation_32 ?_
        refine lv_dup (pc := 35) hx hb dX6_equation_35 rfl ?_
        refine vXgRX6_120_1 (pc := 36) hx hb hts mU_364 inU4 hown hK hP (x := (gI S 3)) rfl dX6_equation_36 ?_
        refine lv_iconst (pc := 39) hx hb (v := 1) dX6_equation_39 (by decide) ?_
        refine lv_iadd (pc := 40) hx hb dX6_equation_40 ?_
        refine vXpRX6_120_1 (pc := 41) hx hb hts mU_364 inU4 hown hK hP hD hS dX6_equation_41 (fun H locs hP hD hS => ?_)
        refine lv_aload_n (pc := 44) hx hb dX6_equation_44 rfl (lv_at hl 0 rfl) ?_
        refine vXgRX6_10_0 (pc := 45) hx hb hts mU_16 inU6 hown hK hP dX6_equation_45 ?_
        refine lv_aload_n (pc := 48) hx hb dX6_equation_48 rfl (lv_at hl 0 rfl) ?_
        refine vXgRX6_10_0 (pc := 49) hx hb hts mU_16 inU6 hown hK hP dX6_equation_49 ?_
        refine vXgRX6_120_1 (pc := 52) hx hb hts mU_364 inU4 hown hK hP (x := (gI S 3) + 1) rfl dX6_equation_52 ?_
        refine lv_iconst (pc := 55) hx hb (v := 1) dX6_equation_55 (by decide) ?_
        refine lv_isub (pc := 56) hx hb dX6_equation_56 ?_
        refine lv_iload_n (pc := 57) hx hb dX6_equation_57 rfl (lv_at hl 1 rfl) ?_
        refine lv_iload_n (pc := 58) hx hb dX6_equation_58 rfl (lv_at hl 2 rfl) ?_
        obtain ⟨r59, hc59, hf⟩ := hf_b hf
        refine cl_V (pc := 59) (As := [.int (((gI S 3) + 1) - 1), .int a1, .int a2]) (rest := []) hx hb hml hown hts (kX4_become_1 l D A B _ (sI S 3 ((gI S 3) + 1)) (((gI S 3) + 1) - 1) a1 a2 r59 hc59) (cwV 3 hts gwRX6_121 rfl rfl rfl hdX4_become ⟨Nat.le_of_ble_eq_true rfl, Nat.le_of_ble_eq_true rfl⟩) hN hK hP hD hS hA (va_recv hK hP (ci := 4) (q0 := 1) rfl (eX_1 A B _)) rfl hl.1 rfl (Nat.le_of_ble_eq_true rfl) dX6_equation_59 (st1 := []) rfl ⟨Nat.zero_le _, Nat.zero_le _⟩ (fun H locs hP hD hS => ?_)
        refine lv_aload_n (pc := 62) hx hb dX6_equation_62 rfl (lv_at hl 0 rfl) ?_
        refine vXgRX6_10_0 (pc := 63) hx hb hts mU_16 inU6 hown hK hP dX6_equation_63 ?_
        refine vXgRX6_120_1 (pc := 66) hx hb hts mU_364 inU4 hown hK hP (x := (gI r59 3)) rfl dX6_equation_66 ?_
        refine lv_iconst (pc := 69) hx hb (v := 1) dX6_equation_69 (by decide) ?_
        refine lv_isub (pc := 70) hx hb dX6_equation_70 ?_
        obtain rfl := Option.some.inj hf
        exact hR H locs 71 ls hP hD hS dX6_equation_71
      · have hf := hf_f c_25 hf
        refine lv_bipush (pc := 28) hx hb (v := (-2)) dX6_equation_28 (by decide) ?_
        obtain rfl := Option.some.inj hf
        exact hR H locs 30 ls hP hD hS dX6_equation_30
    · have hf := hf_t c_11 hf
      refine lv_iconst (pc := 14) hx hb (v := (-1)) dX6_equation_14 (by decide) ?_
      obtain rfl := Option.some.inj hf
      exact hR H locs 15 ls hP hD hS dX6_equation_15
set_option maxHeartbeats 4000000 in
set_option maxRecDepth 100000 in
theorem kX1_isFree_19 (l : Launch) (D : va_G) (A : Nat → Nat) (B : Nat → ClassId) (sz : Nat) (S : w_S) (a1 : Int32) (z : Int32) (hf : fX1_isFree_19 S a1 = some z) : MetW l yX1_isFree (wsO yX1_isFree cX1_isFree 2 (some .boolean)) rm_X1_isFree [.ref (A 19), .int a1] D (tyB B) (wX A B S) (wX A B S) sz (some (.int z)) := by
  refine MetW.mkZ (cc := cX1_isFree) (maxL := 2) (by decide) (Nat.le_of_ble_eq_true rfl) ?_
  intro p e s m args below meth c Ad Q hx hb hts hown hml hN hK hA hR H locs ls hP hD hS hl
  have hl : lv_has ls 2 [(0, .ref (A 19)), (1, .int a1)] := hl
  rw [fX1_isFree_19] at hf
  refine lv_iload_n (pc := 0) hx hb dX1_isFree_0 rfl (lv_at hl 1 rfl) ?_
  refine lv_if_lt (pc := 1) hx hb (tgt := 31) dX1_isFree_1 (by decide) (fun c_1 => ?_) (fun c_1 => ?_)
  · have hf := hf_t c_1 hf
    refine lv_iconst (pc := 31) hx hb (v := 0) dX1_isFree_31 (by decide) ?_
    obtain rfl := Option.some.inj hf
    exact hR H locs 32 ls hP hD hS (nz_of (.inl rfl)) dX1_isFree_32
  · have hf := hf_f c_1 hf
    refine lv_iload_n (pc := 4) hx hb dX1_isFree_4 rfl (lv_at hl 1 rfl) ?_
    refine lv_aload_n (pc := 5) hx hb dX1_isFree_5 rfl (lv_at hl 0 rfl) ?_
    refine vXgRX1_36_19 (pc := 6) hx hb hts mU_437 inU1 hown hK hP (x := (gI S 14)) rfl dX1_isFree_6 ?_
    refine lv_icmp_ge (pc := 9) hx hb (tgt := 31) dX1_isFree_9 (by decide) (fun c_9 => ?_) (fun c_9 => ?_)
    · have hf := hf_t c_9 hf
      refine lv_iconst (pc := 31) hx hb (v := 0) dX1_isFree_31 (by decide) ?_
      obtain rfl := Option.some.inj hf
      exact hR H locs 32 ls hP hD hS (nz_of (.inl rfl)) dX1_isFree_32
    · have hf := hf_f c_9 hf
      refine lv_iload_n (pc := 12) hx hb dX1_isFree_12 rfl (lv_at hl 1 rfl) ?_
      refine lv_bipush (pc := 13) hx hb (v := 10) dX1_isFree_13 (by decide) ?_
      refine lv_icmp_ge (pc := 15) hx hb (tgt := 31) dX1_isFree_15 (by decide) (fun c_15 => ?_) (fun c_15 => ?_)
      · have hf := hf_t c_15 hf
        refine lv_iconst (pc := 31) hx hb (v := 0) dX1_isFree_31 (by decide) ?_
        obtain rfl := Option.some.inj hf
        exact hR H locs 32 ls hP hD hS (nz_of (.inl rfl)) dX1_isFree_32
      · have hf := hf_f c_15 hf
        refine lv_aload_n (pc := 18) hx hb dX1_isFree_18 rfl (lv_at hl 0 rfl) ?_
        refine vXgRX1_19_19 (pc := 19) hx hb hts mU_58 inU1 hown hK hP dX1_isFree_19 ?_
        refine lv_iload_n (pc := 22) hx hb dX1_isFree_22 rfl (lv_at hl 1 rfl) ?_
        obtain ⟨hg23, hf⟩ := hf_g hf
        refine vXra_21 (pc := 23) hx hb hK hP (f := (gA S 15)) rfl hg23 dX1_isFree_23 ?_
        refine lv_if_ge (pc := 24) hx hb (tgt := 31) dX1_isFree_24 (by decide) (fun c_24 => ?_) (fun c_24 => ?_)
        · have hf := hf_t c_24 hf
          refine lv_iconst (pc := 31) hx hb (v := 0) dX1_isFree_31 (by decide) ?_
          obtain rfl := Option.some.inj hf
          exact hR H locs 32 ls hP hD hS (nz_of (.inl rfl)) dX1_isFree_32
        · have hf := hf_f c_24 hf
          refine lv_iconst (pc := 27) hx hb (v := 1) dX1_isFree_27 (by decide) ?_
          refine lv_goto (pc := 28) hx hb (tgt := 32) dX1_isFree_28 (by decide) ?_
          obtain rfl := Option.some.inj hf
          exact hR H locs 32 ls hP hD hS (nz_of (.inr rfl)) dX1_isFree_32
set_option maxHeartbeats 4000000 in
set_option maxRecDepth 100000 in
theorem kX1_freeSet_19 (l : Launch) (D : va_G) (A : Nat → Nat) (B : Nat → ClassId) (sz : Nat) (S : w_S) (z : Int32) (hf : fX1_freeSet_19 S = some z) : MetW l yX1_freeSet (wsO yX1_freeSet cX1_freeSet 3 (some .int)) rm_X1_freeSet [.ref (A 19)] D (tyB B) (wX A B S) (wX A B S) sz (some (.int z)) := by
  refine MetW.mkI (cc := cX1_freeSet) (maxL := 3) (by decide) (Nat.le_of_ble_eq_true rfl) ?_
  intro p e s m args below meth c Ad Q hx hb hts hown hml hN hK hA hR H locs ls hP hD hS hl
  have hl : lv_has ls 3 [(0, .ref (A 19))] := hl
  rw [fX1_freeSet_19] at hf
  refine lv_iconst (pc := 0) hx hb (v := 0) dX1_freeSet_0 (by decide) ?_
  refine lv_istore_n (pc := 1) hx hb (lv' := [(1, .int 0), (0, .ref (A 19))]) dX1_freeSet_1 rfl hl (by decide) rfl (fun ls hl => ?_)
  refine lv_iconst (pc := 2) hx hb (v := 0) dX1_freeSet_2 (by decide) ?_
  refine lv_istore_n (pc := 3) hx hb (lv' := [(2, .int 0), (1, .int 0), (0, .ref (A 19))]) dX1_freeSet_3 rfl hl (by decide) rfl (fun ls hl => ?_)
  obtain ⟨q4, hq4, hf⟩ := hf_b hf
  have hk4 : ∀ (H : Heap) (locs : List Loc) (ls : Array Slot), va_P D vwCl (wX A B S) H → va_D Ad (wX A B S) → va_S Ad s.heap H locs → lv_has ls 3 [(1, .int q4)] → W p l e rm_X1_freeSet s m args below meth c H locs 0 0 Q (F0 m 36 ls []) := by
    intro H locs ls hP hD hS hl
    refine lv_iload_n (pc := 36) hx hb dX1_freeSet_36 rfl (lv_at hl 0 rfl) ?_
    obtain rfl := Option.some.inj hf
    exact hR H locs 37 ls hP hD hS dX1_freeSet_37
  have lp4 : ∀ (n : Nat) (u1_4 : Int32) (u2_4 : Int32) (H : Heap) (locs : List Loc) (ls : Array Slot), fX1_freeSet_19_L4 S n u1_4 u2_4 = some q4 → va_P D vwCl (wX A B S) H → va_D Ad (wX A B S) → va_S Ad s.heap H locs → lv_has ls 3 [(0, .ref (A 19)), (1, .int u1_4), (2, .int u2_4)] → W p l e rm_X1_freeSet s m args below meth c H locs 0 0 Q (F0 m 4 ls []) := by
    intro n4
    induction n4 with
    | zero => intro u1_4 u2_4 H locs ls hq4; exact hf_0 hq4
    | succ n4 ih4 =>
      intro u1_4 u2_4 H locs ls hq4 hP hD hS hl
      rw [fX1_freeSet_19_L4] at hq4
      refine lv_iload_n (pc := 4) hx hb dX1_freeSet_4 rfl (lv_at hl 2 rfl) ?_
      refine lv_aload_n (pc := 5) hx hb dX1_freeSet_5 rfl (lv_at hl 0 rfl) ?_
      refine vXgRX1_36_19 (pc := 6) hx hb hts mU_437 inU1 hown hK hP (x := (gI S 14)) rfl dX1_freeSet_6 ?_
      refine lv_icmp_ge (pc := 9) hx hb (tgt := 36) dX1_freeSet_9 (by decide) (fun c_9 => ?_) (fun c_9 => ?_)
      · have hq4 := hf_t c_9 hq4
        obtain rfl := Option.some.inj hq4
        exact hk4 H locs ls hP hD hS (lv_sub hl [1] rfl)
      · have hq4 := hf_f c_9 hq4
        refine lv_iload_n (pc := 12) hx hb dX1_freeSet_12 rfl (lv_at hl 1 rfl) ?_
        refine lv_aload_n (pc := 13) hx hb dX1_freeSet_13 rfl (lv_at hl 0 rfl) ?_
        refine lv_iload_n (pc := 14) hx hb dX1_freeSet_14 rfl (lv_at hl 2 rfl) ?_
        obtain ⟨r15, hc15, hq4⟩ := hf_b hq4
        refine cl_V (pc := 15) (As := [.int u2_4]) (rest := [.int u1_4]) hx hb hml hown hts (kX1_isFree_19 l D A B _ S u2_4 r15 hc15) (cwV 1 hts gwRX1_78 rfl rfl rfl hdX1_isFree ⟨Nat.le_of_ble_eq_true rfl, Nat.le_of_ble_eq_true rfl⟩) hN hK hP hD hS hA (va_recv hK hP (ci := 1) (q0 := 19) rfl (eX_19 A B _)) rfl hl.1 rfl (Nat.le_of_ble_eq_true rfl) dX1_freeSet_15 (st1 := [.int r15, .int u1_4]) rfl ⟨Nat.zero_le _, Nat.zero_le _⟩ (fun H locs hP hD hS => ?_)
        refine lv_if_eq (pc := 18) hx hb (tgt := 27) dX1_freeSet_18 (by decide) (fun c_18 => ?_) (fun c_18 => ?_)
        · have hq4 := hf_t c_18 hq4
          refine lv_iconst (pc := 27) hx hb (v := 0) dX1_freeSet_27 (by decide) ?_
          refine lv_ior (pc := 28) hx hb dX1_freeSet_28 ?_
          refine lv_istore_n (pc := 29) hx hb (lv' := [(1, .int (u1_4 ||| 0)), (0, .ref (A 19)), (2, .int u2_4)]) dX1_freeSet_29 rfl hl (by decide) rfl (fun ls hl => ?_)
          refine lv_iinc (pc := 30) hx hb (v := u2_4 + 1) (lv' := [(2, .int (u2_4 + 1)), (1, .int (u1_4 ||| 0)), (0, .ref (A 19))]) dX1_freeSet_30 hl (k := 2) rfl rfl (by decide) rfl (fun ls hl => ?_)
          refine lv_goto (pc := 33) hx hb (tgt := 4) dX1_freeSet_33 (by decide) ?_
          exact ih4 (u1_4 ||| 0) (u2_4 + 1) H locs ls hq4 hP hD hS (lv_sub hl [2, 1, 0] rfl)
        · have hq4 := hf_f c_18 hq4
          refine lv_iconst (pc := 21) hx hb (v := 1) dX1_freeSet_21 (by decide) ?_
          refine lv_iload_n (pc := 22) hx hb dX1_freeSet_22 rfl (lv_at hl 2 rfl) ?_
          refine lv_ishl (pc := 23) hx hb dX1_freeSet_23 ?_
          refine lv_goto (pc := 24) hx hb (tgt := 28) dX1_freeSet_24 (by decide) ?_
          refine lv_ior (pc := 28) hx hb dX1_freeSet_28 ?_
          refine lv_istore_n (pc := 29) hx hb (lv' := [(1, .int (u1_4 ||| (1 <<< (u2_4 &&& 31)))), (0, .ref (A 19)), (2, .int u2_4)]) dX1_freeSet_29 rfl hl (by decide) rfl (fun ls hl => ?_)
          refine lv_iinc (pc := 30) hx hb (v := u2_4 + 1) (lv' := [(2, .int (u2_4 + 1)), (1, .int (u1_4 ||| (1 <<< (u2_4 &&& 31)))), (0, .ref (A 19))]) dX1_freeSet_30 hl (k := 2) rfl rfl (by decide) rfl (fun ls hl => ?_)
          refine lv_goto (pc := 33) hx hb (tgt := 4) dX1_freeSet_33 (by decide) ?_
          exact ih4 (u1_4 ||| (1 <<< (u2_4 &&& 31))) (u2_4 + 1) H locs ls hq4 hP hD hS (lv_sub hl [2, 1, 0] rfl)
  exact lp4 256 0 0 H locs ls hq4 hP hD hS (lv_sub hl [2, 1, 0] rfl)
set_option maxHeartbeats 4000000 in
set_option maxRecDepth 100000 in
theorem kX1_hasCell_19 (l : Launch) (D : va_G) (A : Nat → Nat) (B : Nat → ClassId) (sz : Nat) (S : w_S) (a1 : Int32) (a2 : Int32) (z : Int32) (hf : fX1_hasCell_19 a1 a2 = some z) : MetW l yX1_hasCell (wsO yX1_hasCell cX1_hasCell 3 (some .boolean)) rm_X1_hasCell [.ref (A 19), .int a1, .int a2] D (tyB B) (wX A B S) (wX A B S) sz (some (.int z)) := by
  refine MetW.mkZ (cc := cX1_hasCell) (maxL := 3) (by decide) (Nat.le_of_ble_eq_true rfl) ?_
  intro p e s m args below meth c Ad Q hx hb hts hown hml hN hK hA hR H locs ls hP hD hS hl
  have hl : lv_has ls 3 [(0, .ref (A 19)), (1, .int a1), (2, .int a2)] := hl
  rw [fX1_hasCell_19] at hf
  refine lv_iload_n (pc := 0) hx hb dX1_hasCell_0 rfl (lv_at hl 1 rfl) ?_
  refine lv_if_lt (pc := 1) hx hb (tgt := 24) dX1_hasCell_1 (by decide) (fun c_1 => ?_) (fun c_1 => ?_)
  · have hf := hf_t c_1 hf
    refine lv_iconst (pc := 24) hx hb (v := 0) dX1_hasCell_24 (by decide) ?_
    obtain rfl := Option.some.inj hf
    exact hR H locs 25 ls hP hD hS (nz_of (.inl rfl)) dX1_hasCell_25
  · have hf := hf_f c_1 hf
    refine lv_iload_n (pc := 4) hx hb dX1_hasCell_4 rfl (lv_at hl 1 rfl) ?_
    refine lv_bipush (pc := 5) hx hb (v := 9) dX1_hasCell_5 (by decide) ?_
    refine lv_icmp_ge (pc := 7) hx hb (tgt := 24) dX1_hasCell_7 (by decide) (fun c_7 => ?_) (fun c_7 => ?_)
    · have hf := hf_t c_7 hf
      refine lv_iconst (pc := 24) hx hb (v := 0) dX1_hasCell_24 (by decide) ?_
      obtain rfl := Option.some.inj hf
      exact hR H locs 25 ls hP hD hS (nz_of (.inl rfl)) dX1_hasCell_25
    · have hf := hf_f c_7 hf
      refine lv_iload_n (pc := 10) hx hb dX1_hasCell_10 rfl (lv_at hl 2 rfl) ?_
      refine lv_if_lt (pc := 11) hx hb (tgt := 24) dX1_hasCell_11 (by decide) (fun c_11 => ?_) (fun c_11 => ?_)
      · have hf := hf_t c_11 hf
        refine lv_iconst (pc := 24) hx hb (v := 0) dX1_hasCell_24 (by decide) ?_
        obtain rfl := Option.some.inj hf
        exact hR H locs 25 ls hP hD hS (nz_of (.inl rfl)) dX1_hasCell_25
      · have hf := hf_f c_11 hf
        refine lv_iload_n (pc := 14) hx hb dX1_hasCell_14 rfl (lv_at hl 2 rfl) ?_
        refine lv_bipush (pc := 15) hx hb (v := 10) dX1_hasCell_15 (by decide) ?_
        refine lv_icmp_ge (pc := 17) hx hb (tgt := 24) dX1_hasCell_17 (by decide) (fun c_17 => ?_) (fun c_17 => ?_)
        · have hf := hf_t c_17 hf
          refine lv_iconst (pc := 24) hx hb (v := 0) dX1_hasCell_24 (by decide) ?_
          obtain rfl := Option.some.inj hf
          exact hR H locs 25 ls hP hD hS (nz_of (.inl rfl)) dX1_hasCell_25
        · have hf := hf_f c_17 hf
          refine lv_iconst (pc := 20) hx hb (v := 1) dX1_hasCell_20 (by decide) ?_
          refine lv_goto (pc := 21) hx hb (tgt := 25) dX1_hasCell_21 (by decide) ?_
          obtain rfl := Option.some.inj hf
          exact hR H locs 25 ls hP hD hS (nz_of (.inr rfl)) dX1_hasCell_25
set_option maxHeartbeats 4000000 in
set_option maxRecDepth 100000 in
theorem kX1_cell_19 (l : Launch) (D : va_G) (A : Nat → Nat) (B : Nat → ClassId) (sz : Nat) (S : w_S) (a1 : Int32) (a2 : Int32) (z : Int64) (hf : fX1_cell_19 S a1 a2 = some z) : MetW l yX1_cell (wsO yX1_cell cX1_cell 3 (some .long)) rm_X1_cell [.ref (A 19), .int a1, .int a2] D (tyB B) (wX A B S) (wX A B S) sz (some (.long z)) := by
  refine MetW.mkL (cc := cX1_cell) (maxL := 3) (by decide) (Nat.le_of_ble_eq_true rfl) ?_
  intro p e s m args below meth c Ad Q hx hb hts hown hml hN hK hA hR H locs ls hP hD hS hl
  have hl : lv_has ls 3 [(0, .ref (A 19)), (1, .int a1), (2, .int a2)] := hl
  rw [fX1_cell_19] at hf
  refine lv_aload_n (pc := 0) hx hb dX1_cell_0 rfl (lv_at hl 0 rfl) ?_
  refine lv_iload_n (pc := 1) hx hb dX1_cell_1 rfl (lv_at hl 1 rfl) ?_
  refine lv_iload_n (pc := 2) hx hb dX1_cell_2 rfl (lv_at hl 2 rfl) ?_
  obtain ⟨r3, hc3, hf⟩ := hf_b hf
  refine cl_V (pc := 3) (As := [.int a1, .int a2]) (rest := []) hx hb hml hown hts (kX1_hasCell_19 l D A B _ S a1 a2 r3 hc3) (cwV 2 hts gwRX1_45 rfl rfl rfl hdX1_hasCell ⟨Nat.le_of_ble_eq_true rfl, Nat.le_of_ble_eq_true rfl⟩) hN hK hP hD hS hA (va_recv hK hP (ci := 1) (q0 := 19) rfl (eX_19 A B _)) rfl hl.1 rfl (Nat.le_of_ble_eq_true rfl) dX1_cell_3 (st1 := [.int r3]) rfl ⟨Nat.zero_le _, Nat.zero_le _⟩ (fun H locs hP hD hS => ?_)
  refine lv_if_eq (pc := 6) hx hb (tgt := 23) dX1_cell_6 (by decide) (fun c_6 => ?_) (fun c_6 => ?_)
  · have hf := hf_t c_6 hf
    refine lv_lconst (pc := 23) hx hb (v := 0) dX1_cell_23 (by decide) ?_
    obtain rfl := Option.some.inj hf
    exact hR H locs 24 ls hP hD hS dX1_cell_24
  · have hf := hf_f c_6 hf
    refine lv_aload_n (pc := 9) hx hb dX1_cell_9 rfl (lv_at hl 0 rfl) ?_
    refine vXgRX1_15_19 (pc := 10) hx hb hts mU_57 inU1 hown hK hP dX1_cell_10 ?_
    refine lv_iload_n (pc := 13) hx hb dX1_cell_13 rfl (lv_at hl 1 rfl) ?_
    refine lv_bipush (pc := 14) hx hb (v := 10) dX1_cell_14 (by decide) ?_
    refine lv_imul (pc := 16) hx hb dX1_cell_16 ?_
    refine lv_iload_n (pc := 17) hx hb dX1_cell_17 rfl (lv_at hl 2 rfl) ?_
    refine lv_iadd (pc := 18) hx hb dX1_cell_18 ?_
    obtain ⟨hg19, hf⟩ := hf_g hf
    refine vXra_20 (pc := 19) hx hb hK hP (f := (gB S 0)) rfl hg19 dX1_cell_19 ?_
    refine lv_goto (pc := 20) hx hb (tgt := 24) dX1_cell_20 (by decide) ?_
    obtain rfl := Option.some.inj hf
    exact hR H locs 24 ls hP hD hS dX1_cell_24
set_option maxHeartbeats 4000000 in
set_option maxRecDepth 100000 in
theorem kX1_isSolvable_19 (l : Launch) (D : va_G) (A : Nat → Nat) (B : Nat → ClassId) (sz : Nat) (S : w_S) (z : Int32) (hf : fX1_isSolvable_19 S = some z) : MetW l yX1_isSolvable (wsO yX1_isSolvable cX1_isSolvable 2 (some .boolean)) rm_X1_isSolvable [.ref (A 19)] D (tyB B) (wX A B S) (wX A B S) sz (some (.int z)) := by
  refine MetW.mkZ (cc := cX1_isSolvable) (maxL := 2) (by decide) (Nat.le_of_ble_eq_true rfl) ?_
  intro p e s m args below meth c Ad Q hx hb hts hown hml hN hK hA hR H locs ls hP hD hS hl
  have hl : lv_has ls 2 [(0, .ref (A 19))] := hl
  rw [fX1_isSolvable_19] at hf
  refine lv_aload_n (pc := 0) hx hb dX1_isSolvable_0 rfl (lv_at hl 0 rfl) ?_
  refine vXgRX1_61_19 (pc := 1) hx hb hts mU_483 inU1 hown hK hP (x := (gI S 15)) rfl dX1_isSolvable_1 ?_
  refine lv_istore_n (pc := 4) hx hb (lv' := [(1, .int (gI S 15)), (0, .ref (A 19))]) dX1_isSolvable_4 rfl hl (by decide) rfl (fun ls hl => ?_)
  have hk5 : ∀  (H : Heap) (locs : List Loc) (ls : Array Slot), some 1 = some z → va_P D vwCl (wX A B S) H → va_D Ad (wX A B S) → va_S Ad s.heap H locs → lv_has ls 2 [] → W p l e rm_X1_isSolvable s m args below meth c H locs 0 0 Q (F0 m 35 ls []) := by
    intro  H locs ls hf hP hD hS hl
    refine lv_iconst (pc := 35) hx hb (v := 1) dX1_isSolvable_35 (by decide) ?_
    obtain rfl := Option.some.inj hf
    exact hR H locs 36 ls hP hD hS (nz_of (.inr rfl)) dX1_isSolvable_36
  have lp5 : ∀ (n : Nat) (u1_5 : Int32) (H : Heap) (locs : List Loc) (ls : Array Slot), fX1_isSolvable_19_L5 (some 1) S n u1_5 = some z → va_P D vwCl (wX A B S) H → va_D Ad (wX A B S) → va_S Ad s.heap H locs → lv_has ls 2 [(0, .ref (A 19)), (1, .int u1_5)] → W p l e rm_X1_isSolvable s m args below meth c H locs 0 0 Q (F0 m 5 ls []) := by
    intro n5
    induction n5 with
    | zero => intro u1_5 H locs ls hf; exact hf_0 hf
    | succ n5 ih5 =>
      intro u1_5 H locs ls hf hP hD hS hl
      rw [fX1_isSolvable_19_L5] at hf
      refine lv_iload_n (pc := 5) hx hb dX1_isSolvable_5 rfl (lv_at hl 1 rfl) ?_
      refine lv_aload_n (pc := 6) hx hb dX1_isSolvable_6 rfl (lv_at hl 0 rfl) ?_
      refine vXgRX1_32_19 (pc := 7) hx hb hts mU_436 inU1 hown hK hP (x := (gI S 13)) rfl dX1_isSolvable_7 ?_
      refine lv_icmp_ge (pc := 10) hx hb (tgt := 35) dX1_isSolvable_10 (by decide) (fun c_10 => ?_) (fun c_10 => ?_)
      · have hf := hf_t c_10 hf
        exact hk5  H locs ls hf hP hD hS (lv_sub hl [] rfl)
      · have hf := hf_f c_10 hf
        refine lv_aload_n (pc := 13) hx hb dX1_isSolvable_13 rfl (lv_at hl 0 rfl) ?_
        refine lv_iload_n (pc := 14) hx hb dX1_isSolvable_14 rfl (lv_at hl 1 rfl) ?_
        refine lv_aload_n (pc := 15) hx hb dX1_isSolvable_15 rfl (lv_at hl 0 rfl) ?_
        refine vXgRX1_36_19 (pc := 16) hx hb hts mU_437 inU1 hown hK hP (x := (gI S 14)) rfl dX1_isSolvable_16 ?_
        obtain ⟨r19, hc19, hf⟩ := hf_b hf
        refine cl_V (pc := 19) (As := [.int u1_5, .int (gI S 14)]) (rest := []) hx hb hml hown hts (kX1_cell_19 l D A B _ S u1_5 (gI S 14) r19 hc19) (cwV 2 hts gwRX1_49 rfl rfl rfl hdX1_cell ⟨Nat.le_of_ble_eq_true rfl, Nat.le_of_ble_eq_true rfl⟩) hN hK hP hD hS hA (va_recv hK hP (ci := 1) (q0 := 19) rfl (eX_19 A B _)) rfl hl.1 rfl (Nat.le_of_ble_eq_true rfl) dX1_isSolvable_19 (st1 := [.long r19]) rfl ⟨Nat.zero_le _, Nat.zero_le _⟩ (fun H locs hP hD hS => ?_)
        refine lv_lconst (pc := 22) hx hb (v := 0) dX1_isSolvable_22 (by decide) ?_
        refine W.lcmp (pc := 23) hx hb dX1_isSolvable_23 ?_
        refine lv_if_eq (pc := 24) hx hb (tgt := 29) dX1_isSolvable_24 (by decide) (fun c_24 => ?_) (fun c_24 => ?_)
        · have c_24 := lg_eq0.mp c_24
          have hf := hf_t c_24 hf
          refine lv_iinc (pc := 29) hx hb (v := u1_5 + 1) (lv' := [(1, .int (u1_5 + 1)), (0, .ref (A 19))]) dX1_isSolvable_29 hl (k := 1) rfl rfl (by decide) rfl (fun ls hl => ?_)
          refine lv_goto (pc := 32) hx hb (tgt := 5) dX1_isSolvable_32 (by decide) ?_
          exact ih5 (u1_5 + 1) H locs ls hf hP hD hS (lv_sub hl [1, 0] rfl)
        · have c_24 := fun h9 => c_24 (lg_eq0.mpr h9)
          have hf := hf_f c_24 hf
          refine lv_iconst (pc := 27) hx hb (v := 0) dX1_isSolvable_27 (by decide) ?_
          obtain rfl := Option.some.inj hf
          exact hR H locs 28 ls hP hD hS (nz_of (.inl rfl)) dX1_isSolvable_28
  exact lp5 256 (gI S 15) H locs ls hf hP hD hS (lv_sub hl [1, 0] rfl)
set_option maxHeartbeats 4000000 in
set_option maxRecDepth 100000 in
theorem kX4_hasRight_1 (l : Launch) (D : va_G) (A : Nat → Nat) (B : Nat → ClassId) (sz : Nat) (S : w_S) (a1 : Int32) (z : Int32) (hf : fX4_hasRight_1 S a1 = some z) : MetW l yX4_hasRight (wsO yX4_hasRight cX4_hasRight 2 (some .boolean)) rm_X4_hasRight [.ref (A 1), .int a1] D (tyB B) (wX A B S) (wX A B S) sz (some (.int z)) := by
  refine MetW.mkZ (cc := cX4_hasRight) (maxL := 2) (by decide) (Nat.le_of_ble_eq_true rfl) ?_
  intro p e s m args below meth c Ad Q hx hb hts hown hml hN hK hA hR H locs ls hP hD hS hl
  have hl : lv_has ls 2 [(0, .ref (A 1)), (1, .int a1)] := hl
  rw [fX4_hasRight_1] at hf
  refine lv_iload_n (pc := 0) hx hb dX4_hasRight_0 rfl (lv_at hl 1 rfl) ?_
  refine lv_if_eq (pc := 1) hx hb (tgt := 20) dX4_hasRight_1 (by decide) (fun c_1 => ?_) (fun c_1 => ?_)
  · have hf := hf_t c_1 hf
    refine lv_iconst (pc := 20) hx hb (v := 1) dX4_hasRight_20 (by decide) ?_
    refine lv_goto (pc := 21) hx hb (tgt := 25) dX4_hasRight_21 (by decide) ?_
    obtain rfl := Option.some.inj hf
    exact hR H locs 25 ls hP hD hS (nz_of (.inr rfl)) dX4_hasRight_25
  · have hf := hf_f c_1 hf
    refine lv_iload_n (pc := 4) hx hb dX4_hasRight_4 rfl (lv_at hl 1 rfl) ?_
    refine lv_iconst (pc := 5) hx hb (v := 1) dX4_hasRight_5 (by decide) ?_
    refine lv_icmp_eq (pc := 6) hx hb (tgt := 20) dX4_hasRight_6 (by decide) (fun c_6 => ?_) (fun c_6 => ?_)
    · have hf := hf_t c_6 hf
      refine lv_iconst (pc := 20) hx hb (v := 1) dX4_hasRight_20 (by decide) ?_
      refine lv_goto (pc := 21) hx hb (tgt := 25) dX4_hasRight_21 (by decide) ?_
      obtain rfl := Option.some.inj hf
      exact hR H locs 25 ls hP hD hS (nz_of (.inr rfl)) dX4_hasRight_25
    · have hf := hf_f c_6 hf
      refine lv_aload_n (pc := 9) hx hb dX4_hasRight_9 rfl (lv_at hl 0 rfl) ?_
      refine vXgRX4_9_1 (pc := 10) hx hb hts mU_43 inU4 hown hK hP (x := (gI S 0)) rfl dX4_hasRight_10 ?_
      refine lv_aload_n (pc := 13) hx hb dX4_hasRight_13 rfl (lv_at hl 0 rfl) ?_
      refine vXgRX4_15_1 (pc := 14) hx hb hts mU_44 inU4 hown hK hP (x := (gI S 1)) rfl dX4_hasRight_14 ?_
      refine lv_icmp_ne (pc := 17) hx hb (tgt := 24) dX4_hasRight_17 (by decide) (fun c_17 => ?_) (fun c_17 => ?_)
      · have hf := hf_f c_17 hf
        refine lv_iconst (pc := 24) hx hb (v := 0) dX4_hasRight_24 (by decide) ?_
        obtain rfl := Option.some.inj hf
        exact hR H locs 25 ls hP hD hS (nz_of (.inl rfl)) dX4_hasRight_25
      · have hf := hf_t c_17 hf
        refine lv_iconst (pc := 20) hx hb (v := 1) dX4_hasRight_20 (by decide) ?_
        refine lv_goto (pc := 21) hx hb (tgt := 25) dX4_hasRight_21 (by decide) ?_
        obtain rfl := Option.some.inj hf
        exact hR H locs 25 ls hP hD hS (nz_of (.inr rfl)) dX4_hasRight_25
set_option maxHeartbeats 4000000 in
set_option maxRecDepth 100000 in
theorem kX4_unknowns_1 (l : Launch) (D : va_G) (A : Nat → Nat) (B : Nat → ClassId) (sz : Nat) (S : w_S) (a1 : Int32) (z : Int32) (hf : fX4_unknowns_1 S a1 = some z) : MetW l yX4_unknowns (wsO yX4_unknowns cX4_unknowns 2 (some .int)) rm_X4_unknowns [.ref (A 1), .int a1] D (tyB B) (wX A B S) (wX A B S) sz (some (.int z)) := by
  refine MetW.mkI (cc := cX4_unknowns) (maxL := 2) (by decide) (Nat.le_of_ble_eq_true rfl) ?_
  intro p e s m args below meth c Ad Q hx hb hts hown hml hN hK hA hR H locs ls hP hD hS hl
  have hl : lv_has ls 2 [(0, .ref (A 1)), (1, .int a1)] := hl
  rw [fX4_unknowns_1] at hf
  refine lv_iload_n (pc := 0) hx hb dX4_unknowns_0 rfl (lv_at hl 1 rfl) ?_
  by_cases e1_4 : a1 = (4 : Int32)
  · have hf := hf_t e1_4 hf
    refine lv_tableIn (pc := 1) hx hb (off := 27) (tgt := 28) dX4_unknowns_1 (by rw [e1_4]; decide) (by rw [e1_4]; decide) (by rw [e1_4]; rfl) (by decide) ?_
    refine lv_aload_n (pc := 28) hx hb dX4_unknowns_28 rfl (lv_at hl 0 rfl) ?_
    refine vXgRX4_9_1 (pc := 29) hx hb hts mU_43 inU4 hown hK hP (x := (gI S 0)) rfl dX4_unknowns_29 ?_
    obtain rfl := Option.some.inj hf
    exact hR H locs 32 ls hP hD hS dX4_unknowns_32
  · have hf := hf_f e1_4 hf
    by_cases e1_5 : a1 = (5 : Int32)
    · have hf := hf_t e1_5 hf
      refine lv_tableIn (pc := 1) hx hb (off := 32) (tgt := 33) dX4_unknowns_1 (by rw [e1_5]; decide) (by rw [e1_5]; decide) (by rw [e1_5]; rfl) (by decide) ?_
      refine lv_aload_n (pc := 33) hx hb dX4_unknowns_33 rfl (lv_at hl 0 rfl) ?_
      refine vXgRX4_9_1 (pc := 34) hx hb hts mU_43 inU4 hown hK hP (x := (gI S 0)) rfl dX4_unknowns_34 ?_
      refine lv_aload_n (pc := 37) hx hb dX4_unknowns_37 rfl (lv_at hl 0 rfl) ?_
      refine vXgRX4_9_1 (pc := 38) hx hb hts mU_43 inU4 hown hK hP (x := (gI S 0)) rfl dX4_unknowns_38 ?_
      refine lv_iconst (pc := 41) hx hb (v := 1) dX4_unknowns_41 (by decide) ?_
      refine lv_iadd (pc := 42) hx hb dX4_unknowns_42 ?_
      refine lv_imul (pc := 43) hx hb dX4_unknowns_43 ?_
      refine lv_iconst (pc := 44) hx hb (v := 2) dX4_unknowns_44 (by decide) ?_
      refine lv_idiv (pc := 45) hx hb dX4_unknowns_45 (by decide) ?_
      obtain rfl := Option.some.inj hf
      exact hR H locs 46 ls hP hD hS dX4_unknowns_46
    · have hf := hf_f e1_5 hf
      by_cases e1_6 : a1 = (6 : Int32)
      · have hf := hf_t e1_6 hf
        refine lv_tableIn (pc := 1) hx hb (off := 46) (tgt := 47) dX4_unknowns_1 (by rw [e1_6]; decide) (by rw [e1_6]; decide) (by rw [e1_6]; rfl) (by decide) ?_
        refine lv_aload_n (pc := 47) hx hb dX4_unknowns_47 rfl (lv_at hl 0 rfl) ?_
        refine vXgRX4_9_1 (pc := 48) hx hb hts mU_43 inU4 hown hK hP (x := (gI S 0)) rfl dX4_unknowns_48 ?_
        refine lv_aload_n (pc := 51) hx hb dX4_unknowns_51 rfl (lv_at hl 0 rfl) ?_
        refine vXgRX4_9_1 (pc := 52) hx hb hts mU_43 inU4 hown hK hP (x := (gI S 0)) rfl dX4_unknowns_52 ?_
        refine lv_iconst (pc := 55) hx hb (v := 1) dX4_unknowns_55 (by decide) ?_
        refine lv_isub (pc := 56) hx hb dX4_unknowns_56 ?_
        refine lv_imul (pc := 57) hx hb dX4_unknowns_57 ?_
        refine lv_iconst (pc := 58) hx hb (v := 2) dX4_unknowns_58 (by decide) ?_
        refine lv_idiv (pc := 59) hx hb dX4_unknowns_59 (by decide) ?_
        obtain rfl := Option.some.inj hf
        exact hR H locs 60 ls hP hD hS dX4_unknowns_60
      · have hf := hf_f e1_6 hf
        have n1_4 := lv_neT (a := 4) e1_4 rfl
        have n1_5 := lv_neT (a := 5) e1_5 rfl
        have n1_6 := lv_neT (a := 6) e1_6 rfl
        refine lv_tableOut (pc := 1) hx hb (tgt := 61) dX4_unknowns_1 (by omega) (by decide) ?_
        refine lv_aload_n (pc := 61) hx hb dX4_unknowns_61 rfl (lv_at hl 0 rfl) ?_
        refine vXgRX4_9_1 (pc := 62) hx hb hts mU_43 inU4 hown hK hP (x := (gI S 0)) rfl dX4_unknowns_62 ?_
        refine lv_aload_n (pc := 65) hx hb dX4_unknowns_65 rfl (lv_at hl 0 rfl) ?_
        refine vXgRX4_15_1 (pc := 66) hx hb hts mU_44 inU4 hown hK hP (x := (gI S 1)) rfl dX4_unknowns_66 ?_
        refine lv_imul (pc := 69) hx hb dX4_unknowns_69 ?_
        obtain rfl := Option.some.inj hf
        exact hR H locs 70 ls hP hD hS dX4_unknowns_70
set_option maxHeartbeats 4000000 in
set_option maxRecDepth 100000 in
theorem kX4_fits_1 (l : Launch) (D : va_G) (A : Nat → Nat) (B : Nat → ClassId) (sz : Nat) (S : w_S) (a1 : Int32) (z : Int32) (hf : fX4_fits_1 S a1 = some z) : MetW l yX4_fits (wsO yX4_fits cX4_fits 2 (some .boolean)) rm_X4_fits [.ref (A 1), .int a1] D (tyB B) (wX A B S) (wX A B S) sz (some (.int z)) := by
  refine MetW.mkZ (cc := cX4_fits) (maxL := 2) (by decide) (Nat.le_of_ble_eq_true rfl) ?_
  intro p e s m args below meth c Ad Q hx hb hts hown hml hN hK hA hR H locs ls hP hD hS hl
  have hl : lv_has ls 2 [(0, .ref (A 1)), (1, .int a1)] := hl
  rw [fX4_fits_1] at hf
  refine lv_aload_n (pc := 0) hx hb dX4_fits_0 rfl (lv_at hl 0 rfl) ?_
  refine lv_iload_n (pc := 1) hx hb dX4_fits_1 rfl (lv_at hl 1 rfl) ?_
  obtain ⟨r2, hc2, hf⟩ := hf_b hf
  refine cl_V (pc := 2) (As := [.int a1]) (rest := []) hx hb hml hown hts (kX4_hasRight_1 l D A B _ S a1 r2 hc2) (cwV 1 hts gwRX4_88 rfl rfl rfl hdX4_hasRight ⟨Nat.le_of_ble_eq_true rfl, Nat.le_of_ble_eq_true rfl⟩) hN hK hP hD hS hA (va_recv hK hP (ci := 4) (q0 := 1) rfl (eX_1 A B _)) rfl hl.1 rfl (Nat.le_of_ble_eq_true rfl) dX4_fits_2 (st1 := [.int r2]) rfl ⟨Nat.zero_le _, Nat.zero_le _⟩ (fun H locs hP hD hS => ?_)
  refine lv_if_eq (pc := 5) hx hb (tgt := 22) dX4_fits_5 (by decide) (fun c_5 => ?_) (fun c_5 => ?_)
  · have hf := hf_t c_5 hf
    refine lv_iconst (pc := 22) hx hb (v := 0) dX4_fits_22 (by decide) ?_
    obtain rfl := Option.some.inj hf
    exact hR H locs 23 ls hP hD hS (nz_of (.inl rfl)) dX4_fits_23
  · have hf := hf_f c_5 hf
    refine lv_aload_n (pc := 8) hx hb dX4_fits_8 rfl (lv_at hl 0 rfl) ?_
    refine lv_iload_n (pc := 9) hx hb dX4_fits_9 rfl (lv_at hl 1 rfl) ?_
    obtain ⟨r10, hc10, hf⟩ := hf_b hf
    refine cl_V (pc := 10) (As := [.int a1]) (rest := []) hx hb hml hown hts (kX4_unknowns_1 l D A B _ S a1 r10 hc10) (cwV 1 hts gwRX4_91 rfl rfl rfl hdX4_unknowns ⟨Nat.le_of_ble_eq_true rfl, Nat.le_of_ble_eq_true rfl⟩) hN hK hP hD hS hA (va_recv hK hP (ci := 4) (q0 := 1) rfl (eX_1 A B _)) rfl hl.1 rfl (Nat.le_of_ble_eq_true rfl) dX4_fits_10 (st1 := [.int r10]) rfl ⟨Nat.zero_le _, Nat.zero_le _⟩ (fun H locs hP hD hS => ?_)
    refine lv_bipush (pc := 13) hx hb (v := 6) dX4_fits_13 (by decide) ?_
    refine lv_icmp_gt (pc := 15) hx hb (tgt := 22) dX4_fits_15 (by decide) (fun c_15 => ?_) (fun c_15 => ?_)
    · have hf := hf_t c_15 hf
      refine lv_iconst (pc := 22) hx hb (v := 0) dX4_fits_22 (by decide) ?_
      obtain rfl := Option.some.inj hf
      exact hR H locs 23 ls hP hD hS (nz_of (.inl rfl)) dX4_fits_23
    · have hf := hf_f c_15 hf
      refine lv_iconst (pc := 18) hx hb (v := 1) dX4_fits_18 (by decide) ?_
      refine lv_goto (pc := 19) hx hb (tgt := 23) dX4_fits_19 (by decide) ?_
      obtain rfl := Option.some.inj hf
      exact hR H locs 23 ls hP hD hS (nz_of (.inr rfl)) dX4_fits_23
set_option maxHeartbeats 4000000 in
set_option maxRecDepth 100000 in
theorem kX4_kindOf_1 (l : Launch) (D : va_G) (A : Nat → Nat) (B : Nat → ClassId) (sz : Nat) (S : w_S) (a1 : Int32) (z : Int32) (hf : fX4_kindOf_1 S a1 = some z) : MetW l yX4_kindOf (wsO yX4_kindOf cX4_kindOf 2 (some .int)) rm_X4_kindOf [.ref (A 1), .int a1] D (tyB B) (wX A B S) (wX A B S) sz (some (.int z)) := by
  refine MetW.mkI (cc := cX4_kindOf) (maxL := 2) (by decide) (Nat.le_of_ble_eq_true rfl) ?_
  intro p e s m args below meth c Ad Q hx hb hts hown hml hN hK hA hR H locs ls hP hD hS hl
  have hl : lv_has ls 2 [(0, .ref (A 1)), (1, .int a1)] := hl
  rw [fX4_kindOf_1] at hf
  refine lv_aload_n (pc := 0) hx hb dX4_kindOf_0 rfl (lv_at hl 0 rfl) ?_
  refine lv_iload_n (pc := 1) hx hb dX4_kindOf_1 rfl (lv_at hl 1 rfl) ?_
  obtain ⟨r2, hc2, hf⟩ := hf_b hf
  refine cl_V (pc := 2) (As := [.int a1]) (rest := []) hx hb hml hown hts (kX4_hasEquation_1 l D A B _ S a1 r2 hc2) (cwV 1 hts gwRX4_84 rfl rfl rfl hdX4_hasEquation ⟨Nat.le_of_ble_eq_true rfl, Nat.le_of_ble_eq_true rfl⟩) hN hK hP hD hS hA (va_recv hK hP (ci := 4) (q0 := 1) rfl (eX_1 A B _)) rfl hl.1 rfl (Nat.le_of_ble_eq_true rfl) dX4_kindOf_2 (st1 := [.int r2]) rfl ⟨Nat.zero_le _, Nat.zero_le _⟩ (fun H locs hP hD hS => ?_)
  refine lv_if_eq (pc := 5) hx hb (tgt := 17) dX4_kindOf_5 (by decide) (fun c_5 => ?_) (fun c_5 => ?_)
  · have hf := hf_t c_5 hf
    refine lv_iconst (pc := 17) hx hb (v := 0) dX4_kindOf_17 (by decide) ?_
    obtain rfl := Option.some.inj hf
    exact hR H locs 18 ls hP hD hS dX4_kindOf_18
  · have hf := hf_f c_5 hf
    refine lv_aload_n (pc := 8) hx hb dX4_kindOf_8 rfl (lv_at hl 0 rfl) ?_
    refine vXgRX4_31_1 (pc := 9) hx hb hts mU_50 inU4 hown hK hP dX4_kindOf_9 ?_
    refine lv_iload_n (pc := 12) hx hb dX4_kindOf_12 rfl (lv_at hl 1 rfl) ?_
    obtain ⟨hg13, hf⟩ := hf_g hf
    refine vXra_5 (pc := 13) hx hb hK hP (f := (gA S 3)) rfl hg13 dX4_kindOf_13 ?_
    refine lv_goto (pc := 14) hx hb (tgt := 18) dX4_kindOf_14 (by decide) ?_
    obtain rfl := Option.some.inj hf
    exact hR H locs 18 ls hP hD hS dX4_kindOf_18
set_option maxHeartbeats 4000000 in
set_option maxRecDepth 100000 in
theorem kX4_shiftOf_1 (l : Launch) (D : va_G) (A : Nat → Nat) (B : Nat → ClassId) (sz : Nat) (S : w_S) (a1 : Int32) (z : Int32) (hf : fX4_shiftOf_1 S a1 = some z) : MetW l yX4_shiftOf (wsO yX4_shiftOf cX4_shiftOf 2 (some .int)) rm_X4_shiftOf [.ref (A 1), .int a1] D (tyB B) (wX A B S) (wX A B S) sz (some (.int z)) := by
  refine MetW.mkI (cc := cX4_shiftOf) (maxL := 2) (by decide) (Nat.le_of_ble_eq_true rfl) ?_
  intro p e s m args below meth c Ad Q hx hb hts hown hml hN hK hA hR H locs ls hP hD hS hl
  have hl : lv_has ls 2 [(0, .ref (A 1)), (1, .int a1)] := hl
  rw [fX4_shiftOf_1] at hf
  refine lv_aload_n (pc := 0) hx hb dX4_shiftOf_0 rfl (lv_at hl 0 rfl) ?_
  refine lv_iload_n (pc := 1) hx hb dX4_shiftOf_1 rfl (lv_at hl 1 rfl) ?_
  obtain ⟨r2, hc2, hf⟩ := hf_b hf
  refine cl_V (pc := 2) (As := [.int a1]) (rest := []) hx hb hml hown hts (kX4_hasEquation_1 l D A B _ S a1 r2 hc2) (cwV 1 hts gwRX4_84 rfl rfl rfl hdX4_hasEquation ⟨Nat.le_of_ble_eq_true rfl, Nat.le_of_ble_eq_true rfl⟩) hN hK hP hD hS hA (va_recv hK hP (ci := 4) (q0 := 1) rfl (eX_1 A B _)) rfl hl.1 rfl (Nat.le_of_ble_eq_true rfl) dX4_shiftOf_2 (st1 := [.int r2]) rfl ⟨Nat.zero_le _, Nat.zero_le _⟩ (fun H locs hP hD hS => ?_)
  refine lv_if_eq (pc := 5) hx hb (tgt := 17) dX4_shiftOf_5 (by decide) (fun c_5 => ?_) (fun c_5 => ?_)
  · have hf := hf_t c_5 hf
    refine lv_iconst (pc := 17) hx hb (v := 0) dX4_shiftOf_17 (by decide) ?_
    obtain rfl := Option.some.inj hf
    exact hR H locs 18 ls hP hD hS dX4_shiftOf_18
  · have hf := hf_f c_5 hf
    refine lv_aload_n (pc := 8) hx hb dX4_shiftOf_8 rfl (lv_at hl 0 rfl) ?_
    refine vXgRX4_34_1 (pc := 9) hx hb hts mU_51 inU4 hown hK hP dX4_shiftOf_9 ?_
    refine lv_iload_n (pc := 12) hx hb dX4_shiftOf_12 rfl (lv_at hl 1 rfl) ?_
    obtain ⟨hg13, hf⟩ := hf_g hf
    refine vXra_6 (pc := 13) hx hb hK hP (f := (gA S 4)) rfl hg13 dX4_shiftOf_13 ?_
    refine lv_goto (pc := 14) hx hb (tgt := 18) dX4_shiftOf_14 (by decide) ?_
    obtain rfl := Option.some.inj hf
    exact hR H locs 18 ls hP hD hS dX4_shiftOf_18
set_option maxHeartbeats 4000000 in
set_option maxRecDepth 100000 in
theorem kX6_oneIf (l : Launch) (D : va_G) (A : Nat → Nat) (B : Nat → ClassId) (sz : Nat) (S : w_S) (a0 : Int32) (z : Int32) (hf : fX6_oneIf a0 = some z) : MetW l yX6_oneIf (wsO yX6_oneIf cX6_oneIf 1 (some .int)) rm_X6_oneIf [.int a0] D (tyB B) (wX A B S) (wX A B S) sz (some (.int z)) := by
  refine MetW.mkI (cc := cX6_oneIf) (maxL := 1) (by decide) (Nat.le_of_ble_eq_true rfl) ?_
  intro p e s m args below meth c Ad Q hx hb hts hown hml hN hK hA hR H locs ls hP hD hS hl
  have hl : lv_has ls 1 [(0, .int a0)] := hl
  rw [fX6_oneIf] at hf
  refine lv_iload_n (pc := 0) hx hb dX6_oneIf_0 rfl (lv_at hl 0 rfl) ?_
  refine lv_if_eq (pc := 1) hx hb (tgt := 8) dX6_oneIf_1 (by decide) (fun c_1 => ?_) (fun c_1 => ?_)
  · have hf := hf_t c_1 hf
    refine lv_iconst (pc := 8) hx hb (v := 0) dX6_oneIf_8 (by decide) ?_
    obtain rfl := Option.some.inj hf
    exact hR H locs 9 ls hP hD hS dX6_oneIf_9
  · have hf := hf_f c_1 hf
    refine lv_iconst (pc := 4) hx hb (v := 1) dX6_oneIf_4 (by decide) ?_
    refine lv_goto (pc := 5) hx hb (tgt := 9) dX6_oneIf_5 (by decide) ?_
    obtain rfl := Option.some.inj hf
    exact hR H locs 9 ls hP hD hS dX6_oneIf_9
set_option maxHeartbeats 4000000 in
set_option maxRecDepth 100000 in
theorem kX1_firstFilled_19 (l : Launch) (D : va_G) (A : Nat → Nat) (B : Nat → ClassId) (sz : Nat) (S : w_S) (a1 : Int32) (z : Int32) (hf : fX1_firstFilled_19 S a1 = some z) : MetW l yX1_firstFilled (wsO yX1_firstFilled cX1_firstFilled 3 (some .int)) rm_X1_firstFilled [.ref (A 19), .int a1] D (tyB B) (wX A B S) (wX A B S) sz (some (.int z)) := by
  refine MetW.mkI (cc := cX1_firstFilled) (maxL := 3) (by decide) (Nat.le_of_ble_eq_true rfl) ?_
  intro p e s m args below meth c Ad Q hx hb hts hown hml hN hK hA hR H locs ls hP hD hS hl
  have hl : lv_has ls 3 [(0, .ref (A 19)), (1, .int a1)] := hl
  rw [fX1_firstFilled_19] at hf
  refine lv_aload_n (pc := 0) hx hb dX1_firstFilled_0 rfl (lv_at hl 0 rfl) ?_
  refine vXgRX1_61_19 (pc := 1) hx hb hts mU_483 inU1 hown hK hP (x := (gI S 15)) rfl dX1_firstFilled_1 ?_
  refine lv_istore_n (pc := 4) hx hb (lv' := [(2, .int (gI S 15)), (0, .ref (A 19)), (1, .int a1)]) dX1_firstFilled_4 rfl hl (by decide) rfl (fun ls hl => ?_)
  have hk5 : ∀  (H : Heap) (locs : List Loc) (ls : Array Slot), some (-1) = some z → va_P D vwCl (wX A B S) H → va_D Ad (wX A B S) → va_S Ad s.heap H locs → lv_has ls 3 [] → W p l e rm_X1_firstFilled s m args below meth c H locs 0 0 Q (F0 m 32 ls []) := by
    intro  H locs ls hf hP hD hS hl
    refine lv_iconst (pc := 32) hx hb (v := (-1)) dX1_firstFilled_32 (by decide) ?_
    obtain rfl := Option.some.inj hf
    exact hR H locs 33 ls hP hD hS dX1_firstFilled_33
  have lp5 : ∀ (n : Nat) (u2_5 : Int32) (H : Heap) (locs : List Loc) (ls : Array Slot), fX1_firstFilled_19_L5 (some (-1)) S a1 n u2_5 = some z → va_P D vwCl (wX A B S) H → va_D Ad (wX A B S) → va_S Ad s.heap H locs → lv_has ls 3 [(0, .ref (A 19)), (1, .int a1), (2, .int u2_5)] → W p l e rm_X1_firstFilled s m args below meth c H locs 0 0 Q (F0 m 5 ls []) := by
    intro n5
    induction n5 with
    | zero => intro u2_5 H locs ls hf; exact hf_0 hf
    | succ n5 ih5 =>
      intro u2_5 H locs ls hf hP hD hS hl
      rw [fX1_firstFilled_19_L5] at hf
      refine lv_iload_n (pc := 5) hx hb dX1_firstFilled_5 rfl (lv_at hl 2 rfl) ?_
      refine lv_aload_n (pc := 6) hx hb dX1_firstFilled_6 rfl (lv_at hl 0 rfl) ?_
      refine vXgRX1_32_19 (pc := 7) hx hb hts mU_436 inU1 hown hK hP (x := (gI S 13)) rfl dX1_firstFilled_7 ?_
      refine lv_icmp_ge (pc := 10) hx hb (tgt := 32) dX1_firstFilled_10 (by decide) (fun c_10 => ?_) (fun c_10 => ?_)
      · have hf := hf_t c_10 hf
        exact hk5  H locs ls hf hP hD hS (lv_sub hl [] rfl)
      · have hf := hf_f c_10 hf
        refine lv_aload_n (pc := 13) hx hb dX1_firstFilled_13 rfl (lv_at hl 0 rfl) ?_
        refine lv_iload_n (pc := 14) hx hb dX1_firstFilled_14 rfl (lv_at hl 2 rfl) ?_
        refine lv_iload_n (pc := 15) hx hb dX1_firstFilled_15 rfl (lv_at hl 1 rfl) ?_
        obtain ⟨r16, hc16, hf⟩ := hf_b hf
        refine cl_V (pc := 16) (As := [.int u2_5, .int a1]) (rest := []) hx hb hml hown hts (kX1_cell_19 l D A B _ S u2_5 a1 r16 hc16) (cwV 2 hts gwRX1_49 rfl rfl rfl hdX1_cell ⟨Nat.le_of_ble_eq_true rfl, Nat.le_of_ble_eq_true rfl⟩) hN hK hP hD hS hA (va_recv hK hP (ci := 1) (q0 := 19) rfl (eX_19 A B _)) rfl hl.1 rfl (Nat.le_of_ble_eq_true rfl) dX1_firstFilled_16 (st1 := [.long r16]) rfl ⟨Nat.zero_le _, Nat.zero_le _⟩ (fun H locs hP hD hS => ?_)
        refine lv_lconst (pc := 19) hx hb (v := 0) dX1_firstFilled_19 (by decide) ?_
        refine W.lcmp (pc := 20) hx hb dX1_firstFilled_20 ?_
        refine lv_if_eq (pc := 21) hx hb (tgt := 26) dX1_firstFilled_21 (by decide) (fun c_21 => ?_) (fun c_21 => ?_)
        · have c_21 := lg_eq0.mp c_21
          have hf := hf_t c_21 hf
          refine lv_iinc (pc := 26) hx hb (v := u2_5 + 1) (lv' := [(2, .int (u2_5 + 1)), (0, .ref (A 19)), (1, .int a1)]) dX1_firstFilled_26 hl (k := 2) rfl rfl (by decide) rfl (fun ls hl => ?_)
          refine lv_goto (pc := 29) hx hb (tgt := 5) dX1_firstFilled_29 (by decide) ?_
          exact ih5 (u2_5 + 1) H locs ls hf hP hD hS (lv_sub hl [1, 2, 0] rfl)
        · have c_21 := fun h9 => c_21 (lg_eq0.mpr h9)
          have hf := hf_f c_21 hf
          refine lv_iload_n (pc := 24) hx hb dX1_firstFilled_24 rfl (lv_at hl 2 rfl) ?_
          obtain rfl := Option.some.inj hf
          exact hR H locs 25 ls hP hD hS dX1_firstFilled_25
  exact lp5 256 (gI S 15) H locs ls hf hP hD hS (lv_sub hl [1, 2, 0] rfl)
set_option maxHeartbeats 4000000 in
set_option maxRecDepth 100000 in
theorem kX1_write_19 (l : Launch) (D : va_G) (A : Nat → Nat) (B : Nat → ClassId) (sz : Nat) (S : w_S) (a1 : Int32) (a2 : Int32) (a3 : Int64) (z : w_S) (hf : fX1_write_19 S a1 a2 a3 = some z) : MetW l yX1_write (wsO yX1_write cX1_write 5 none) rm_X1_write [.ref (A 19), .int a1, .int a2, .long a3] D (tyB B) (wX A B S) (wX A B z) sz (none) := by
  refine MetW.mkV (cc := cX1_write) (maxL := 5) (by decide) (Nat.le_of_ble_eq_true rfl) ?_
  intro p e s m args below meth c Ad Q hx hb hts hown hml hN hK hA hR H locs ls hP hD hS hl
  have hl : lv_has ls 5 [(0, .ref (A 19)), (1, .int a1), (2, .int a2), (3, .long a3)] := hl
  rw [fX1_write_19] at hf
  refine lv_aload_n (pc := 0) hx hb dX1_write_0 rfl (lv_at hl 0 rfl) ?_
  refine lv_iload_n (pc := 1) hx hb dX1_write_1 rfl (lv_at hl 1 rfl) ?_
  refine lv_iload_n (pc := 2) hx hb dX1_write_2 rfl (lv_at hl 2 rfl) ?_
  obtain ⟨r3, hc3, hf⟩ := hf_b hf
  refine cl_V (pc := 3) (As := [.int a1, .int a2]) (rest := []) hx hb hml hown hts (kX1_hasCell_19 l D A B _ S a1 a2 r3 hc3) (cwV 2 hts gwRX1_45 rfl rfl rfl hdX1_hasCell ⟨Nat.le_of_ble_eq_true rfl, Nat.le_of_ble_eq_true rfl⟩) hN hK hP hD hS hA (va_recv hK hP (ci := 1) (q0 := 19) rfl (eX_19 A B _)) rfl hl.1 rfl (Nat.le_of_ble_eq_true rfl) dX1_write_3 (st1 := [.int r3]) rfl ⟨Nat.zero_le _, Nat.zero_le _⟩ (fun H locs hP hD hS => ?_)
  refine lv_if_eq (pc := 6) hx hb (tgt := 21) dX1_write_6 (by decide) (fun c_6 => ?_) (fun c_6 => ?_)
  · have hf := hf_t c_6 hf
    obtain rfl := Option.some.inj hf
    exact hR H locs 21 ls hP hD hS dX1_write_21
  · have hf := hf_f c_6 hf
    refine lv_aload_n (pc := 9) hx hb dX1_write_9 rfl (lv_at hl 0 rfl) ?_
    refine vXgRX1_15_19 (pc := 10) hx hb hts mU_57 inU1 hown hK hP dX1_write_10 ?_
    refine lv_iload_n (pc := 13) hx hb dX1_write_13 rfl (lv_at hl 1 rfl) ?_
    refine lv_bipush (pc := 14) hx hb (v := 10) dX1_write_14 (by decide) ?_
    refine lv_imul (pc := 16) hx hb dX1_write_16 ?_
    refine lv_iload_n (pc := 17) hx hb dX1_write_17 rfl (lv_at hl 2 rfl) ?_
    refine lv_iadd (pc := 18) hx hb dX1_write_18 ?_
    refine lv_lload_n (pc := 19) hx hb dX1_write_19 rfl (lv_at hl 3 rfl) ?_
    obtain ⟨hg20, hf⟩ := hf_g hf
    refine vXwa_20 (pc := 20) hx hb hK hP hD hS (f := (gB S 0)) rfl hg20 dX1_write_20 (fun H locs hP hD hS => ?_)
    obtain rfl := Option.some.inj hf
    exact hR H locs 21 ls hP hD hS dX1_write_21
set_option maxHeartbeats 4000000 in
set_option maxRecDepth 100000 in
theorem kX1_swapRows_19 (l : Launch) (D : va_G) (A : Nat → Nat) (B : Nat → ClassId) (sz : Nat) (S : w_S) (a1 : Int32) (a2 : Int32) (z : w_S) (hf : fX1_swapRows_19 S a1 a2 = some z) : MetW l yX1_swapRows (wsO yX1_swapRows cX1_swapRows 6 none) rm_X1_swapRows [.ref (A 19), .int a1, .int a2] D (tyB B) (wX A B S) (wX A B z) sz (none) := by
  refine MetW.mkV (cc := cX1_swapRows) (maxL := 6) (by decide) (Nat.le_of_ble_eq_true rfl) ?_
  intro p e s m args below meth c Ad Q hx hb hts hown hml hN hK hA hR H locs ls hP hD hS hl
  have hl : lv_has ls 6 [(0, .ref (A 19)), (1, .int a1), (2, .int a2)] := hl
  rw [fX1_swapRows_19] at hf
  refine lv_iload_n (pc := 0) hx hb dX1_swapRows_0 rfl (lv_at hl 1 rfl) ?_
  refine lv_iload_n (pc := 1) hx hb dX1_swapRows_1 rfl (lv_at hl 2 rfl) ?_
  refine lv_icmp_ne (pc := 2) hx hb (tgt := 6) dX1_swapRows_2 (by decide) (fun c_2 => ?_) (fun c_2 => ?_)
  · have hf := hf_f c_2 hf
    refine lv_aload_n (pc := 6) hx hb dX1_swapRows_6 rfl (lv_at hl 0 rfl) ?_
    refine lv_aload_n (pc := 7) hx hb dX1_swapRows_7 rfl (lv_at hl 0 rfl) ?_
    refine vXgRX1_64_19 (pc := 8) hx hb hts mU_484 inU1 hown hK hP (x := (gI S 16)) rfl dX1_swapRows_8 ?_
    obtain ⟨q19, hv19, hf⟩ := hf_b hf
    have hj19 : ∀ (H : Heap) (locs : List Loc) (ls : Array Slot), va_P D vwCl (wX A B S) H → va_D Ad (wX A B S) → va_S Ad s.heap H locs → lv_has ls 6 [(0, .ref (A 19)), (1, .int a1), (2, .int a2)] → W p l e rm_X1_swapRows s m args below meth c H locs 0 0 Q (F0 m 19 ls [.int q19, .ref (A 19)]) := by
      intro H locs ls hP hD hS hl
      obtain ⟨hg19, hf⟩ := hf_g hf
      refine vXpRX1_64_19 (pc := 19) hx hb hts mU_484 inU1 hown hK hP hD hS hg19 dX1_swapRows_19 (fun H locs hP hD hS => ?_)
      refine lv_iconst (pc := 22) hx hb (v := 0) dX1_swapRows_22 (by decide) ?_
      refine lv_istore_n (pc := 23) hx hb (lv' := [(3, .int 0), (0, .ref (A 19)), (1, .int a1), (2, .int a2)]) dX1_swapRows_23 rfl hl (by decide) rfl (fun ls hl => ?_)
      obtain ⟨q24, hq24, hf⟩ := hf_b hf
      have hk24 : ∀ (H : Heap) (locs : List Loc) (ls : Array Slot), va_P D vwCl (wX A B q24) H → va_D Ad (wX A B q24) → va_S Ad s.heap H locs → lv_has ls 6 [] → W p l e rm_X1_swapRows s m args below meth c H locs 0 0 Q (F0 m 66 ls []) := by
        intro H locs ls hP hD hS hl
        obtain rfl := Option.some.inj hf
        exact hR H locs 66 ls hP hD hS dX1_swapRows_66
      have lp24 : ∀ (n : Nat) (T24 : w_S) (u3_24 : Int32) (H : Heap) (locs : List Loc) (ls : Array Slot), fX1_swapRows_19_L24 a1 a2 n T24 u3_24 = some q24 → va_P D vwCl (wX A B T24) H → va_D Ad (wX A B T24) → va_S Ad s.heap H locs → lv_has ls 6 [(0, .ref (A 19)), (1, .int a1), (2, .int a2), (3, .int u3_24)] → W p l e rm_X1_swapRows s m args below meth c H locs 0 0 Q (F0 m 24 ls []) := by
        intro n24
        induction n24 with
        | zero => intro T24 u3_24 H locs ls hq24; exact hf_0 hq24
        | succ n24 ih24 =>
          intro T24 u3_24 H locs ls hq24 hP hD hS hl
          rw [fX1_swapRows_19_L24] at hq24
          refine lv_iload_n (pc := 24) hx hb dX1_swapRows_24 rfl (lv_at hl 3 rfl) ?_
          refine lv_aload_n (pc := 25) hx hb dX1_swapRows_25 rfl (lv_at hl 0 rfl) ?_
          refine vXgRX1_36_19 (pc := 26) hx hb hts mU_437 inU1 hown hK hP (x := (gI T24 14)) rfl dX1_swapRows_26 ?_
          refine lv_icmp_gt (pc := 29) hx hb (tgt := 66) dX1_swapRows_29 (by decide) (fun c_29 => ?_) (fun c_29 => ?_)
          · have hq24 := hf_t c_29 hq24
            obtain rfl := Option.some.inj hq24
            exact hk24 H locs ls hP hD hS (lv_sub hl [] rfl)
          · have hq24 := hf_f c_29 hq24
            refine lv_aload_n (pc := 32) hx hb dX1_swapRows_32 rfl (lv_at hl 0 rfl) ?_
            refine lv_iload_n (pc := 33) hx hb dX1_swapRows_33 rfl (lv_at hl 1 rfl) ?_
            refine lv_iload_n (pc := 34) hx hb dX1_swapRows_34 rfl (lv_at hl 3 rfl) ?_
            obtain ⟨r35, hc35, hq24⟩ := hf_b hq24
            refine cl_V (pc := 35) (As := [.int a1, .int u3_24]) (rest := []) hx hb hml hown hts (kX1_cell_19 l D A B _ T24 a1 u3_24 r35 hc35) (cwV 2 hts gwRX1_49 rfl rfl rfl hdX1_cell ⟨Nat.le_of_ble_eq_true rfl, Nat.le_of_ble_eq_true rfl⟩) hN hK hP hD hS hA (va_recv hK hP (ci := 1) (q0 := 19) rfl (eX_19 A B _)) rfl hl.1 rfl (Nat.le_of_ble_eq_true rfl) dX1_swapRows_35 (st1 := [.long r35]) rfl ⟨Nat.zero_le _, Nat.zero_le _⟩ (fun H locs hP hD hS => ?_)
            refine lv_lstore (pc := 38) hx hb (lv' := [(4, .long r35), (0, .ref (A 19)), (1, .int a1), (2, .int a2), (3, .int u3_24)]) dX1_swapRows_38 hl (by decide) rfl (fun ls hl => ?_)
            refine lv_aload_n (pc := 40) hx hb dX1_swapRows_40 rfl (lv_at hl 1 rfl) ?_
            refine lv_iload_n (pc := 41) hx hb dX1_swapRows_41 rfl (lv_at hl 2 rfl) ?_
            refine lv_iload_n (pc := 42) hx hb dX1_swapRows_42 rfl (lv_at hl 4 rfl) ?_
            refine lv_aload_n (pc := 43) hx hb dX1_swapRows_43 rfl (lv_at hl 1 rfl) ?_
            refine lv_iload_n (pc := 44) hx hb dX1_swapRows_44 rfl (lv_at hl 3 rfl) ?_
            refine lv_iload_n (pc := 45) hx hb dX1_swapRows_45 rfl (lv_at hl 4 rfl) ?_
            obtain ⟨r46, hc46, hq24⟩ := hf_b hq24
            refine cl_V (pc := 46) (As := [.int a2, .int u3_24]) (rest := [.int u3_24, .int a1, .ref (A 19)]) hx hb hml hown hts (kX1_cell_19 l D A B _ T24 a2 u3_24 r46 hc46) (cwV 2 hts gwRX1_49 rfl rfl rfl hdX1_cell ⟨Nat.le_of_ble_eq_true rfl, Nat.le_of_ble_eq_true rfl⟩) hN hK hP hD hS hA (va_recv hK hP (ci := 1) (q0 := 19) rfl (eX_19 A B _)) rfl hl.1 rfl (Nat.le_of_ble_eq_true rfl) dX1_swapRows_46 (st1 := [.long r46, .int u3_24, .int a1, .ref (A 19)]) rfl ⟨Nat.zero_le _, Nat.zero_le _⟩ (fun H locs hP hD hS => ?_)
            obtain ⟨r49, hc49, hq24⟩ := hf_b hq24
            refine cl_V (pc := 49) (As := [.int a1, .int u3_24, .long r46]) (rest := []) hx hb hml hown hts (kX1_write_19 l D A B _ T24 a1 u3_24 r46 r49 hc49) (cwV 3 hts gwRX1_53 rfl rfl rfl hdX1_write ⟨Nat.le_of_ble_eq_true rfl, Nat.le_of_ble_eq_true rfl⟩) hN hK hP hD hS hA (va_recv hK hP (ci := 1) (q0 := 19) rfl (eX_19 A B _)) rfl hl.1 rfl (Nat.le_of_ble_eq_true rfl) dX1_swapRows_49 (st1 := []) rfl ⟨Nat.zero_le _, Nat.zero_le _⟩ (fun H locs hP hD hS => ?_)
            refine lv_aload_n (pc := 52) hx hb dX1_swapRows_52 rfl (lv_at hl 1 rfl) ?_
            refine lv_iload_n (pc := 53) hx hb dX1_swapRows_53 rfl (lv_at hl 3 rfl) ?_
            refine lv_iload_n (pc := 54) hx hb dX1_swapRows_54 rfl (lv_at hl 4 rfl) ?_
            refine lv_lload (pc := 55) hx hb dX1_swapRows_55 (lv_at hl 0 rfl) ?_
            obtain ⟨r57, hc57, hq24⟩ := hf_b hq24
            refine cl_V (pc := 57) (As := [.int a2, .int u3_24, .long r35]) (rest := []) hx hb hml hown hts (kX1_write_19 l D A B _ r49 a2 u3_24 r35 r57 hc57) (cwV 3 hts gwRX1_53 rfl rfl rfl hdX1_write ⟨Nat.le_of_ble_eq_true rfl, Nat.le_of_ble_eq_true rfl⟩) hN hK hP hD hS hA (va_recv hK hP (ci := 1) (q0 := 19) rfl (eX_19 A B _)) rfl hl.1 rfl (Nat.le_of_ble_eq_true rfl) dX1_swapRows_57 (st1 := []) rfl ⟨Nat.zero_le _, Nat.zero_le _⟩ (fun H locs hP hD hS => ?_)
            refine lv_iinc (pc := 60) hx hb (v := u3_24 + 1) (lv' := [(3, .int (u3_24 + 1)), (4, .long r35), (0, .ref (A 19)), (1, .int a1), (2, .int a2)]) dX1_swapRows_60 hl (k := 4) rfl rfl (by decide) rfl (fun ls hl => ?_)
            refine lv_goto (pc := 63) hx hb (tgt := 24) dX1_swapRows_63 (by decide) ?_
            exact ih24 r57 (u3_24 + 1) H locs ls hq24 hP hD hS (lv_sub hl [2, 3, 4, 0] rfl)
      exact lp24 256 (sI S 16 q19) 0 H locs ls hq24 hP hD hS (lv_sub hl [1, 2, 3, 0] rfl)
    refine lv_if_ne (pc := 11) hx hb (tgt := 18) dX1_swapRows_11 (by decide) (fun c_11 => ?_) (fun c_11 => ?_)
    · have hv19 := hf_f c_11 hv19
      refine lv_iconst (pc := 18) hx hb (v := 0) dX1_swapRows_18 (by decide) ?_
      obtain rfl := Option.some.inj hv19
      exact hj19 H locs ls hP hD hS (lv_sub hl [0, 1, 2] rfl)
    · have hv19 := hf_t c_11 hv19
      refine lv_iconst (pc := 14) hx hb (v := 1) dX1_swapRows_14 (by decide) ?_
      refine lv_goto (pc := 15) hx hb (tgt := 19) dX1_swapRows_15 (by decide) ?_
      obtain rfl := Option.some.inj hv19
      exact hj19 H locs ls hP hD hS (lv_sub hl [0, 1, 2] rfl)
  · have hf := hf_t c_2 hf
    obtain rfl := Option.some.inj hf
    exact hR H locs 5 ls hP hD hS dX1_swapRows_5
set_option maxHeartbeats 4000000 in
set_option maxRecDepth 100000 in
theorem kX1_sweep_19 (l : Launch) (D : va_G) (A : Nat → Nat) (B : Nat → ClassId) (sz : Nat) (S : w_S) (a1 : Int32) (a2 : Int32) (z : w_S) (hf : fX1_sweep_19 S a1 a2 = some z) : MetW l yX1_sweep (wsO yX1_sweep cX1_sweep 11 none) rm_X1_sweep [.ref (A 19), .int a1, .int a2] D (tyB B) (wX A B S) (wX A B z) sz (none) := by
  refine MetW.mkV (cc := cX1_sweep) (maxL := 11) (by decide) (Nat.le_of_ble_eq_true rfl) ?_
  intro p e s m args below meth c Ad Q hx hb hts hown hml hN hK hA hR H locs ls hP hD hS hl
  have hl : lv_has ls 11 [(0, .ref (A 19)), (1, .int a1), (2, .int a2)] := hl
  rw [fX1_sweep_19] at hf
  refine lv_aload_n (pc := 0) hx hb dX1_sweep_0 rfl (lv_at hl 0 rfl) ?_
  refine vXgRX1_9_19 (pc := 1) hx hb hts mU_55 inU1 hown hK hP (x := (gL S 0)) rfl dX1_sweep_1 ?_
  refine lv_lconst (pc := 4) hx hb (v := 0) dX1_sweep_4 (by decide) ?_
  refine W.lcmp (pc := 5) hx hb dX1_sweep_5 ?_
  refine lv_if_ne (pc := 6) hx hb (tgt := 10) dX1_sweep_6 (by decide) (fun c_6 => ?_) (fun c_6 => ?_)
  · have c_6 := fun h9 => c_6 (lg_eq0.mpr h9)
    have hf := hf_f c_6 hf
    refine lv_aload_n (pc := 10) hx hb dX1_sweep_10 rfl (lv_at hl 0 rfl) ?_
    refine lv_iload_n (pc := 11) hx hb dX1_sweep_11 rfl (lv_at hl 1 rfl) ?_
    refine lv_iload_n (pc := 12) hx hb dX1_sweep_12 rfl (lv_at hl 2 rfl) ?_
    obtain ⟨r13, hc13, hf⟩ := hf_b hf
    refine cl_V (pc := 13) (As := [.int a1, .int a2]) (rest := []) hx hb hml hown hts (kX1_cell_19 l D A B _ S a1 a2 r13 hc13) (cwV 2 hts gwRX1_49 rfl rfl rfl hdX1_cell ⟨Nat.le_of_ble_eq_true rfl, Nat.le_of_ble_eq_true rfl⟩) hN hK hP hD hS hA (va_recv hK hP (ci := 1) (q0 := 19) rfl (eX_19 A B _)) rfl hl.1 rfl (Nat.le_of_ble_eq_true rfl) dX1_sweep_13 (st1 := [.long r13]) rfl ⟨Nat.zero_le _, Nat.zero_le _⟩ (fun H locs hP hD hS => ?_)
    refine lv_lstore_n (pc := 16) hx hb (lv' := [(3, .long r13), (0, .ref (A 19)), (1, .int a1), (2, .int a2)]) dX1_sweep_16 rfl hl (by decide) rfl (fun ls hl => ?_)
    refine lv_iconst (pc := 17) hx hb (v := 0) dX1_sweep_17 (by decide) ?_
    refine lv_istore (pc := 18) hx hb (lv' := [(5, .int 0), (3, .long r13), (0, .ref (A 19)), (1, .int a1), (2, .int a2)]) dX1_sweep_18 hl (by decide) rfl (fun ls hl => ?_)
    obtain ⟨q20, hq20, hf⟩ := hf_b hf
    have hk20 : ∀ (H : Heap) (locs : List Loc) (ls : Array Slot), va_P D vwCl (wX A B q20) H → va_D Ad (wX A B q20) → va_S Ad s.heap H locs → lv_has ls 11 [] → W p l e rm_X1_sweep s m args below meth c H locs 0 0 Q (F0 m 106 ls []) := by
      intro H locs ls hP hD hS hl
      obtain rfl := Option.some.inj hf
      exact hR H locs 106 ls hP hD hS dX1_sweep_106
    have lp20 : ∀ (n : Nat) (T20 : w_S) (u5_20 : Int32) (H : Heap) (locs : List Loc) (ls : Array Slot), fX1_sweep_19_L20 a1 a2 r13 n T20 u5_20 = some q20 → va_P D vwCl (wX A B T20) H → va_D Ad (wX A B T20) → va_S Ad s.heap H locs → lv_has ls 11 [(0, .ref (A 19)), (1, .int a1), (2, .int a2), (3, .long r13), (5, .int u5_20)] → W p l e rm_X1_sweep s m args below meth c H locs 0 0 Q (F0 m 20 ls []) := by
      intro n20
      induction n20 with
      | zero => intro T20 u5_20 H locs ls hq20; exact hf_0 hq20
      | succ n20 ih20 =>
        intro T20 u5_20 H locs ls hq20 hP hD hS hl
        rw [fX1_sweep_19_L20] at hq20
        refine lv_iload (pc := 20) hx hb dX1_sweep_20 (lv_at hl 4 rfl) ?_
        refine lv_aload_n (pc := 22) hx hb dX1_sweep_22 rfl (lv_at hl 0 rfl) ?_
        refine vXgRX1_32_19 (pc := 23) hx hb hts mU_436 inU1 hown hK hP (x := (gI T20 13)) rfl dX1_sweep_23 ?_
        refine lv_icmp_ge (pc := 26) hx hb (tgt := 106) dX1_sweep_26 (by decide) (fun c_26 => ?_) (fun c_26 => ?_)
        · have hq20 := hf_t c_26 hq20
          obtain rfl := Option.some.inj hq20
          exact hk20 H locs ls hP hD hS (lv_sub hl [] rfl)
        · have hq20 := hf_f c_26 hq20
          refine lv_iload (pc := 29) hx hb dX1_sweep_29 (lv_at hl 4 rfl) ?_
          refine lv_iload_n (pc := 31) hx hb dX1_sweep_31 rfl (lv_at hl 1 rfl) ?_
          refine lv_icmp_eq (pc := 32) hx hb (tgt := 100) dX1_sweep_32 (by decide) (fun c_32 => ?_) (fun c_32 => ?_)
          · have hq20 := hf_t c_32 hq20
            refine lv_iinc (pc := 100) hx hb (v := u5_20 + 1) (lv' := [(5, .int (u5_20 + 1)), (0, .ref (A 19)), (1, .int a1), (2, .int a2), (3, .long r13)]) dX1_sweep_100 hl (k := 4) rfl rfl (by decide) rfl (fun ls hl => ?_)
            refine lv_goto (pc := 103) hx hb (tgt := 20) dX1_sweep_103 (by decide) ?_
            exact ih20 T20 (u5_20 + 1) H locs ls hq20 hP hD hS (lv_sub hl [1, 2, 3, 4, 0] rfl)
          · have hq20 := hf_f c_32 hq20
            refine lv_aload_n (pc := 35) hx hb dX1_sweep_35 rfl (lv_at hl 0 rfl) ?_
            refine lv_iload (pc := 36) hx hb dX1_sweep_36 (lv_at hl 4 rfl) ?_
            refine lv_iload_n (pc := 38) hx hb dX1_sweep_38 rfl (lv_at hl 2 rfl) ?_
            obtain ⟨r39, hc39, hq20⟩ := hf_b hq20
            refine cl_V (pc := 39) (As := [.int u5_20, .int a2]) (rest := []) hx hb hml hown hts (kX1_cell_19 l D A B _ T20 u5_20 a2 r39 hc39) (cwV 2 hts gwRX1_49 rfl rfl rfl hdX1_cell ⟨Nat.le_of_ble_eq_true rfl, Nat.le_of_ble_eq_true rfl⟩) hN hK hP hD hS hA (va_recv hK hP (ci := 1) (q0 := 19) rfl (eX_19 A B _)) rfl hl.1 rfl (Nat.le_of_ble_eq_true rfl) dX1_sweep_39 (st1 := [.long r39]) rfl ⟨Nat.zero_le _, Nat.zero_le _⟩ (fun H locs hP hD hS => ?_)
            refine lv_lstore (pc := 42) hx hb (lv' := [(6, .long r39), (0, .ref (A 19)), (1, .int a1), (2, .int a2), (3, .long r13), (5, .int u5_20)]) dX1_sweep_42 hl (by decide) rfl (fun ls hl => ?_)
            refine lv_iconst (pc := 44) hx hb (v := 0) dX1_sweep_44 (by decide) ?_
            refine lv_istore (pc := 45) hx hb (lv' := [(8, .int 0), (6, .long r39), (0, .ref (A 19)), (1, .int a1), (2, .int a2), (3, .long r13), (5, .int u5_20)]) dX1_sweep_45 hl (by decide) rfl (fun ls hl => ?_)
            obtain ⟨q47, hq47, hq20⟩ := hf_b hq20
            have hk47 : ∀ (H : Heap) (locs : List Loc) (ls : Array Slot), va_P D vwCl (wX A B q47) H → va_D Ad (wX A B q47) → va_S Ad s.heap H locs → lv_has ls 11 [(0, .ref (A 19)), (1, .int a1), (2, .int a2), (3, .long r13), (5, .int u5_20)] → W p l e rm_X1_sweep s m args below meth c H locs 0 0 Q (F0 m 100 ls []) := by
              intro H locs ls hP hD hS hl
              refine lv_iinc (pc := 100) hx hb (v := u5_20 + 1) (lv' := [(5, .int (u5_20 + 1)), (0, .ref (A 19)), (1, .int a1), (2, .int a2), (3, .long r13)]) dX1_sweep_100 hl (k := 4) rfl rfl (by decide) rfl (fun ls hl => ?_)
              refine lv_goto (pc := 103) hx hb (tgt := 20) dX1_sweep_103 (by decide) ?_
              exact ih20 q47 (u5_20 + 1) H locs ls hq20 hP hD hS (lv_sub hl [1, 2, 3, 4, 0] rfl)
            have lp47 : ∀ (n : Nat) (T47 : w_S) (u8_47 : Int32) (H : Heap) (locs : List Loc) (ls : Array Slot), fX1_sweep_19_L47 a1 a2 r13 u5_20 r39 n T47 u8_47 = some q47 → va_P D vwCl (wX A B T47) H → va_D Ad (wX A B T47) → va_S Ad s.heap H locs → lv_has ls 11 [(0, .ref (A 19)), (1, .int a1), (2, .int a2), (3, .long r13), (5, .int u5_20), (6, .long r39), (8, .int u8_47)] → W p l e rm_X1_sweep s m args below meth c H locs 0 0 Q (F0 m 47 ls []) := by
              intro n47
              induction n47 with
              | zero => intro T47 u8_47 H locs ls hq47; exact hf_0 hq47
              | succ n47 ih47 =>
                intro T47 u8_47 H locs ls hq47 hP hD hS hl
                rw [fX1_sweep_19_L47] at hq47
                refine lv_iload (pc := 47) hx hb dX1_sweep_47 (lv_at hl 6 rfl) ?_
                refine lv_aload_n (pc := 49) hx hb dX1_sweep_49 rfl (lv_at hl 0 rfl) ?_
                refine vXgRX1_36_19 (pc := 50) hx hb hts mU_437 inU1 hown hK hP (x := (gI T47 14)) rfl dX1_sweep_50 ?_
                refine lv_icmp_gt (pc := 53) hx hb (tgt := 100) dX1_sweep_53 (by decide) (fun c_53 => ?_) (fun c_53 => ?_)
                · have hq47 := hf_t c_53 hq47
                  obtain rfl := Option.some.inj hq47
                  exact hk47 H locs ls hP hD hS (lv_sub hl [0, 1, 2, 3, 4] rfl)
                · have hq47 := hf_f c_53 hq47
                  refine lv_aload_n (pc := 56) hx hb dX1_sweep_56 rfl (lv_at hl 0 rfl) ?_
                  refine lv_iload (pc := 57) hx hb dX1_sweep_57 (lv_at hl 4 rfl) ?_
                  refine lv_iload (pc := 59) hx hb dX1_sweep_59 (lv_at hl 6 rfl) ?_
                  obtain ⟨r61, hc61, hq47⟩ := hf_b hq47
                  refine cl_V (pc := 61) (As := [.int u5_20, .int u8_47]) (rest := []) hx hb hml hown hts (kX1_cell_19 l D A B _ T47 u5_20 u8_47 r61 hc61) (cwV 2 hts gwRX1_49 rfl rfl rfl hdX1_cell ⟨Nat.le_of_ble_eq_true rfl, Nat.le_of_ble_eq_true rfl⟩) hN hK hP hD hS hA (va_recv hK hP (ci := 1) (q0 := 19) rfl (eX_19 A B _)) rfl hl.1 rfl (Nat.le_of_ble_eq_true rfl) dX1_sweep_61 (st1 := [.long r61]) rfl ⟨Nat.zero_le _, Nat.zero_le _⟩ (fun H locs hP hD hS => ?_)
                  refine lv_lload_n (pc := 64) hx hb dX1_sweep_64 rfl (lv_at hl 3 rfl) ?_
                  refine lv_lmul (pc := 65) hx hb dX1_sweep_65 ?_
                  refine lv_lload (pc := 66) hx hb dX1_sweep_66 (lv_at hl 5 rfl) ?_
                  refine lv_aload_n (pc := 68) hx hb dX1_sweep_68 rfl (lv_at hl 0 rfl) ?_
                  refine lv_iload_n (pc := 69) hx hb dX1_sweep_69 rfl (lv_at hl 1 rfl) ?_
                  refine lv_iload (pc := 70) hx hb dX1_sweep_70 (lv_at hl 6 rfl) ?_
                  obtain ⟨r72, hc72, hq47⟩ := hf_b hq47
                  refine cl_V (pc := 72) (As := [.int a1, .int u8_47]) (rest := [.long r39, .long (r61 * r13)]) hx hb hml hown hts (kX1_cell_19 l D A B _ T47 a1 u8_47 r72 hc72) (cwV 2 hts gwRX1_49 rfl rfl rfl hdX1_cell ⟨Nat.le_of_ble_eq_true rfl, Nat.le_of_ble_eq_true rfl⟩) hN hK hP hD hS hA (va_recv hK hP (ci := 1) (q0 := 19) rfl (eX_19 A B _)) rfl hl.1 rfl (Nat.le_of_ble_eq_true rfl) dX1_sweep_72 (st1 := [.long r72, .long r39, .long (r61 * r13)]) rfl ⟨Nat.zero_le _, Nat.zero_le _⟩ (fun H locs hP hD hS => ?_)
                  refine lv_lmul (pc := 75) hx hb dX1_sweep_75 ?_
                  refine lv_lsub (pc := 76) hx hb dX1_sweep_76 ?_
                  refine lv_lstore (pc := 77) hx hb (lv' := [(9, .long ((r61 * r13) - (r39 * r72))), (0, .ref (A 19)), (1, .int a1), (2, .int a2), (3, .long r13), (5, .int u5_20), (6, .long r39), (8, .int u8_47)]) dX1_sweep_77 hl (by decide) rfl (fun ls hl => ?_)
                  refine lv_aload_n (pc := 79) hx hb dX1_sweep_79 rfl (lv_at hl 1 rfl) ?_
                  refine lv_iload (pc := 80) hx hb dX1_sweep_80 (lv_at hl 5 rfl) ?_
                  refine lv_iload (pc := 82) hx hb dX1_sweep_82 (lv_at hl 7 rfl) ?_
                  refine lv_lload (pc := 84) hx hb dX1_sweep_84 (lv_at hl 0 rfl) ?_
                  refine lv_aload_n (pc := 86) hx hb dX1_sweep_86 rfl (lv_at hl 1 rfl) ?_
                  refine vXgRX1_9_19 (pc := 87) hx hb hts mU_55 inU1 hown hK hP (x := (gL T47 0)) rfl dX1_sweep_87 ?_
                  obtain ⟨hg90, hq47⟩ := hf_g hq47
                  refine lv_ldiv (pc := 90) hx hb dX1_sweep_90 hg90 ?_
                  obtain ⟨r91, hc91, hq47⟩ := hf_b hq47
                  refine cl_V (pc := 91) (As := [.int u5_20, .int u8_47, .long (((r61 * r13) - (r39 * r72)) / (gL T47 0))]) (rest := []) hx hb hml hown hts (kX1_write_19 l D A B _ T47 u5_20 u8_47 (((r61 * r13) - (r39 * r72)) / (gL T47 0)) r91 hc91) (cwV 3 hts gwRX1_53 rfl rfl rfl hdX1_write ⟨Nat.le_of_ble_eq_true rfl, Nat.le_of_ble_eq_true rfl⟩) hN hK hP hD hS hA (va_recv hK hP (ci := 1) (q0 := 19) rfl (eX_19 A B _)) rfl hl.1 rfl (Nat.le_of_ble_eq_true rfl) dX1_sweep_91 (st1 := []) rfl ⟨Nat.zero_le _, Nat.zero_le _⟩ (fun H locs hP hD hS => ?_)
                  refine lv_iinc (pc := 94) hx hb (v := u8_47 + 1) (lv' := [(8, .int (u8_47 + 1)), (9, .long ((r61 * r13) - (r39 * r72))), (0, .ref (A 19)), (1, .int a1), (2, .int a2), (3, .long r13), (5, .int u5_20), (6, .long r39)]) dX1_sweep_94 hl (k := 7) rfl rfl (by decide) rfl (fun ls hl => ?_)
                  refine lv_goto (pc := 97) hx hb (tgt := 47) dX1_sweep_97 (by decide) ?_
                  exact ih47 r91 (u8_47 + 1) H locs ls hq47 hP hD hS (lv_sub hl [2, 3, 4, 5, 6, 7, 0] rfl)
            exact lp47 256 T20 0 H locs ls hq47 hP hD hS (lv_sub hl [2, 3, 4, 5, 6, 1, 0] rfl)
    exact lp20 256 S 0 H locs ls hq20 hP hD hS (lv_sub hl [2, 3, 4, 1, 0] rfl)
  · have c_6 := lg_eq0.mp c_6
    have hf := hf_t c_6 hf
    obtain rfl := Option.some.inj hf
    exact hR H locs 9 ls hP hD hS dX1_sweep_9
