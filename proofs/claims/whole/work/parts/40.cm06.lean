set_option maxHeartbeats 4000000 in
set_option maxRecDepth 100000 in
theorem kX7_alikeTurns (l : Launch) (D : va_G) (A : Nat → Nat) (B : Nat → ClassId) (sz : Nat) (S : w_S) (a1 : Int32) (z : Int32 × w_S) (hf : fX7_alikeTurns S a1 = some z) : MetW l yX7_alikeTurns (wsO yX7_alikeTurns cX7_alikeTurns 2 (some .int)) rm_X7_alikeTurns [.ref (A 0), .int a1] D (tyB B) (wM A B S) (wM A B z.2) sz (some (.int z.1)) := by
  refine MetW.mkI (cc := cX7_alikeTurns) (maxL := 2) (by decide) (Nat.le_of_ble_eq_true rfl) ?_
  intro p e s m args below meth c Ad Q hx hb hts hown hml hN hK hA hR H locs ls hP hD hS hl
  have hl : lv_has ls 2 [(0, .ref (A 0)), (1, .int a1)] := hl
  rw [fX7_alikeTurns] at hf
  refine lv_aload_n (pc := 0) hx hb dX7_alikeTurns_0 rfl (lv_at hl 0 rfl) ?_
  refine lv_bipush (pc := 1) hx hb (v := 30) dX7_alikeTurns_1 (by decide) ?_
  obtain ⟨r3, hc3, hf⟩ := hf_b hf
  refine cl_V (pc := 3) (As := [.int 30]) (rest := []) hx hb hml hown hts (kX7_ran l D A B _ S 30 r3 hc3) (cwV 1 hts gwRX7_351 rfl rfl rfl hdX7_ran ⟨Nat.le_of_ble_eq_true rfl, Nat.le_of_ble_eq_true rfl⟩) hN hK hP hD hS hA (va_recv hK hP (ci := 7) (q0 := 0) rfl (eM_0 A B _)) rfl hl.1 rfl (Nat.le_of_ble_eq_true rfl) dX7_alikeTurns_3 (st1 := []) rfl ⟨Nat.zero_le _, Nat.zero_le _⟩ (fun H locs hP hD hS => ?_)
  refine lv_iconst (pc := 6) hx hb (v := 0) dX7_alikeTurns_6 (by decide) ?_
  refine lv_aload_n (pc := 7) hx hb dX7_alikeTurns_7 rfl (lv_at hl 0 rfl) ?_
  refine lv_iload_n (pc := 8) hx hb dX7_alikeTurns_8 rfl (lv_at hl 1 rfl) ?_
  obtain ⟨r9, hc9, hf⟩ := hf_b hf
  refine cl_V (pc := 9) (As := [.int a1]) (rest := [.int 0]) hx hb hml hown hts (kX7_plainTurns l D A B _ r3 a1 r9 hc9) (cwV 1 hts gwRX7_372 rfl rfl rfl hdX7_plainTurns ⟨Nat.le_of_ble_eq_true rfl, Nat.le_of_ble_eq_true rfl⟩) hN hK hP hD hS hA (va_recv hK hP (ci := 7) (q0 := 0) rfl (eM_0 A B _)) rfl hl.1 rfl (Nat.le_of_ble_eq_true rfl) dX7_alikeTurns_9 (st1 := [.int r9.1, .int 0]) rfl ⟨Nat.zero_le _, Nat.zero_le _⟩ (fun H locs hP hD hS => ?_)
  refine lv_isub (pc := 12) hx hb dX7_alikeTurns_12 ?_
  obtain rfl := Option.some.inj hf
  exact hR H locs 13 ls hP hD hS dX7_alikeTurns_13
set_option maxHeartbeats 4000000 in
set_option maxRecDepth 100000 in
theorem kX7_turns (l : Launch) (D : va_G) (A : Nat → Nat) (B : Nat → ClassId) (sz : Nat) (S : w_S) (a1 : Int32) (z : Int32 × w_S) (hf : fX7_turns S a1 = some z) : MetW l yX7_turns (wsO yX7_turns cX7_turns 2 (some .int)) rm_X7_turns [.ref (A 0), .int a1] D (tyB B) (wM A B S) (wM A B z.2) sz (some (.int z.1)) := by
  refine MetW.mkI (cc := cX7_turns) (maxL := 2) (by decide) (Nat.le_of_ble_eq_true rfl) ?_
  intro p e s m args below meth c Ad Q hx hb hts hown hml hN hK hA hR H locs ls hP hD hS hl
  have hl : lv_has ls 2 [(0, .ref (A 0)), (1, .int a1)] := hl
  rw [fX7_turns] at hf
  refine lv_aload_n (pc := 0) hx hb dX7_turns_0 rfl (lv_at hl 0 rfl) ?_
  refine vMgRX7_360_0 (pc := 1) hx hb hts mU_1029 inU7 hown hK hP (x := (gI S 19)) rfl dX7_turns_1 ?_
  refine lv_iconst (pc := 4) hx hb (v := 4) dX7_turns_4 (by decide) ?_
  refine lv_icmp_ne (pc := 5) hx hb (tgt := 27) dX7_turns_5 (by decide) (fun c_5 => ?_) (fun c_5 => ?_)
  · have hf := hf_f c_5 hf
    refine lv_aload_n (pc := 27) hx hb dX7_turns_27 rfl (lv_at hl 0 rfl) ?_
    refine vMgRX7_360_0 (pc := 28) hx hb hts mU_1029 inU7 hown hK hP (x := (gI S 19)) rfl dX7_turns_28 ?_
    refine lv_iconst (pc := 31) hx hb (v := 2) dX7_turns_31 (by decide) ?_
    refine lv_icmp_ne (pc := 32) hx hb (tgt := 43) dX7_turns_32 (by decide) (fun c_32 => ?_) (fun c_32 => ?_)
    · have hf := hf_f c_32 hf
      refine lv_aload_n (pc := 43) hx hb dX7_turns_43 rfl (lv_at hl 0 rfl) ?_
      refine lv_iload_n (pc := 44) hx hb dX7_turns_44 rfl (lv_at hl 1 rfl) ?_
      obtain ⟨r45, hc45, hf⟩ := hf_b hf
      refine cl_V (pc := 45) (As := [.int a1]) (rest := []) hx hb hml hown hts (kX7_plainTurns l D A B _ S a1 r45 hc45) (cwV 1 hts gwRX7_372 rfl rfl rfl hdX7_plainTurns ⟨Nat.le_of_ble_eq_true rfl, Nat.le_of_ble_eq_true rfl⟩) hN hK hP hD hS hA (va_recv hK hP (ci := 7) (q0 := 0) rfl (eM_0 A B _)) rfl hl.1 rfl (Nat.le_of_ble_eq_true rfl) dX7_turns_45 (st1 := [.int r45.1]) rfl ⟨Nat.zero_le _, Nat.zero_le _⟩ (fun H locs hP hD hS => ?_)
      obtain rfl := Option.some.inj hf
      exact hR H locs 48 ls hP hD hS dX7_turns_48
    · have hf := hf_t c_32 hf
      refine lv_aload_n (pc := 35) hx hb dX7_turns_35 rfl (lv_at hl 0 rfl) ?_
      refine lv_iload_n (pc := 36) hx hb dX7_turns_36 rfl (lv_at hl 1 rfl) ?_
      obtain ⟨r37, hc37, hf⟩ := hf_b hf
      refine cl_V (pc := 37) (As := [.int a1]) (rest := []) hx hb hml hown hts (kX7_alikeTurns l D A B _ S a1 r37 hc37) (cwV 1 hts gwRX7_375 rfl rfl rfl hdX7_alikeTurns ⟨Nat.le_of_ble_eq_true rfl, Nat.le_of_ble_eq_true rfl⟩) hN hK hP hD hS hA (va_recv hK hP (ci := 7) (q0 := 0) rfl (eM_0 A B _)) rfl hl.1 rfl (Nat.le_of_ble_eq_true rfl) dX7_turns_37 (st1 := [.int r37.1]) rfl ⟨Nat.zero_le _, Nat.zero_le _⟩ (fun H locs hP hD hS => ?_)
      refine lv_goto (pc := 40) hx hb (tgt := 48) dX7_turns_40 (by decide) ?_
      obtain rfl := Option.some.inj hf
      exact hR H locs 48 ls hP hD hS dX7_turns_48
  · have hf := hf_t c_5 hf
    refine lv_aload_n (pc := 8) hx hb dX7_turns_8 rfl (lv_at hl 0 rfl) ?_
    refine lv_bipush (pc := 9) hx hb (v := 50) dX7_turns_9 (by decide) ?_
    obtain ⟨r11, hc11, hf⟩ := hf_b hf
    refine cl_V (pc := 11) (As := [.int 50]) (rest := []) hx hb hml hown hts (kX7_ran l D A B _ S 50 r11 hc11) (cwV 1 hts gwRX7_351 rfl rfl rfl hdX7_ran ⟨Nat.le_of_ble_eq_true rfl, Nat.le_of_ble_eq_true rfl⟩) hN hK hP hD hS hA (va_recv hK hP (ci := 7) (q0 := 0) rfl (eM_0 A B _)) rfl hl.1 rfl (Nat.le_of_ble_eq_true rfl) dX7_turns_11 (st1 := []) rfl ⟨Nat.zero_le _, Nat.zero_le _⟩ (fun H locs hP hD hS => ?_)
    refine lv_aload_n (pc := 14) hx hb dX7_turns_14 rfl (lv_at hl 0 rfl) ?_
    refine lv_iload_n (pc := 15) hx hb dX7_turns_15 rfl (lv_at hl 1 rfl) ?_
    refine lv_aload_n (pc := 16) hx hb dX7_turns_16 rfl (lv_at hl 0 rfl) ?_
    refine vMgRX7_366_0 (pc := 17) hx hb hts mU_1030 inU7 hown hK hP (x := (gI r11 21)) rfl dX7_turns_17 ?_
    refine lv_iadd (pc := 20) hx hb dX7_turns_20 ?_
    obtain ⟨r21, hc21, hf⟩ := hf_b hf
    refine cl_V (pc := 21) (As := [.int (a1 + (gI r11 21))]) (rest := []) hx hb hml hown hts (kX7_alikeTurns l D A B _ r11 (a1 + (gI r11 21)) r21 hc21) (cwV 1 hts gwRX7_375 rfl rfl rfl hdX7_alikeTurns ⟨Nat.le_of_ble_eq_true rfl, Nat.le_of_ble_eq_true rfl⟩) hN hK hP hD hS hA (va_recv hK hP (ci := 7) (q0 := 0) rfl (eM_0 A B _)) rfl hl.1 rfl (Nat.le_of_ble_eq_true rfl) dX7_turns_21 (st1 := [.int r21.1]) rfl ⟨Nat.zero_le _, Nat.zero_le _⟩ (fun H locs hP hD hS => ?_)
    refine lv_iconst (pc := 24) hx hb (v := 3) dX7_turns_24 (by decide) ?_
    refine lv_ixor (pc := 25) hx hb dX7_turns_25 ?_
    obtain rfl := Option.some.inj hf
    exact hR H locs 26 ls hP hD hS dX7_turns_26
set_option maxHeartbeats 4000000 in
set_option maxRecDepth 100000 in
theorem kX7_plainCloses (l : Launch) (D : va_G) (A : Nat → Nat) (B : Nat → ClassId) (sz : Nat) (S : w_S) (a1 : Int32) (z : Int32 × w_S) (hf : fX7_plainCloses S a1 = some z) : MetW l yX7_plainCloses (wsO yX7_plainCloses cX7_plainCloses 3 (some .int)) rm_X7_plainCloses [.ref (A 0), .int a1] D (tyB B) (wM A B S) (wM A B z.2) sz (some (.int z.1)) := by
  refine MetW.mkI (cc := cX7_plainCloses) (maxL := 3) (by decide) (Nat.le_of_ble_eq_true rfl) ?_
  intro p e s m args below meth c Ad Q hx hb hts hown hml hN hK hA hR H locs ls hP hD hS hl
  have hl : lv_has ls 3 [(0, .ref (A 0)), (1, .int a1)] := hl
  rw [fX7_plainCloses] at hf
  refine lv_aload_n (pc := 0) hx hb dX7_plainCloses_0 rfl (lv_at hl 0 rfl) ?_
  refine lv_bipush (pc := 1) hx hb (v := 13) dX7_plainCloses_1 (by decide) ?_
  obtain ⟨r3, hc3, hf⟩ := hf_b hf
  refine cl_V (pc := 3) (As := [.int 13]) (rest := []) hx hb hml hown hts (kX7_ran l D A B _ S 13 r3 hc3) (cwV 1 hts gwRX7_351 rfl rfl rfl hdX7_ran ⟨Nat.le_of_ble_eq_true rfl, Nat.le_of_ble_eq_true rfl⟩) hN hK hP hD hS hA (va_recv hK hP (ci := 7) (q0 := 0) rfl (eM_0 A B _)) rfl hl.1 rfl (Nat.le_of_ble_eq_true rfl) dX7_plainCloses_3 (st1 := []) rfl ⟨Nat.zero_le _, Nat.zero_le _⟩ (fun H locs hP hD hS => ?_)
  refine lv_aload_n (pc := 6) hx hb dX7_plainCloses_6 rfl (lv_at hl 0 rfl) ?_
  refine lv_iload_n (pc := 7) hx hb dX7_plainCloses_7 rfl (lv_at hl 1 rfl) ?_
  obtain ⟨r8, hc8, hf⟩ := hf_b hf
  refine cl_V (pc := 8) (As := [.int a1]) (rest := []) hx hb hml hown hts (kX7_turns l D A B _ r3 a1 r8 hc8) (cwV 1 hts gwRX7_382 rfl rfl rfl hdX7_turns ⟨Nat.le_of_ble_eq_true rfl, Nat.le_of_ble_eq_true rfl⟩) hN hK hP hD hS hA (va_recv hK hP (ci := 7) (q0 := 0) rfl (eM_0 A B _)) rfl hl.1 rfl (Nat.le_of_ble_eq_true rfl) dX7_plainCloses_8 (st1 := [.int r8.1]) rfl ⟨Nat.zero_le _, Nat.zero_le _⟩ (fun H locs hP hD hS => ?_)
  refine lv_istore_n (pc := 11) hx hb (lv' := [(2, .int r8.1), (0, .ref (A 0)), (1, .int a1)]) dX7_plainCloses_11 rfl hl (by decide) rfl (fun ls hl => ?_)
  refine lv_iload_n (pc := 12) hx hb dX7_plainCloses_12 rfl (lv_at hl 0 rfl) ?_
  refine lv_aload_n (pc := 13) hx hb dX7_plainCloses_13 rfl (lv_at hl 1 rfl) ?_
  refine lv_iload_n (pc := 14) hx hb dX7_plainCloses_14 rfl (lv_at hl 2 rfl) ?_
  refine lv_iconst (pc := 15) hx hb (v := 2) dX7_plainCloses_15 (by decide) ?_
  refine lv_iadd (pc := 16) hx hb dX7_plainCloses_16 ?_
  obtain ⟨r17, hc17, hf⟩ := hf_b hf
  refine cl_V (pc := 17) (As := [.int (a1 + 2)]) (rest := [.int r8.1]) hx hb hml hown hts (kX7_parts l D A B _ r8.2 (a1 + 2) r17 hc17) (cwV 1 hts gwRX7_385 rfl rfl rfl hdX7_parts ⟨Nat.le_of_ble_eq_true rfl, Nat.le_of_ble_eq_true rfl⟩) hN hK hP hD hS hA (va_recv hK hP (ci := 7) (q0 := 0) rfl (eM_0 A B _)) rfl hl.1 rfl (Nat.le_of_ble_eq_true rfl) dX7_plainCloses_17 (st1 := [.int r17.1, .int r8.1]) rfl ⟨Nat.zero_le _, Nat.zero_le _⟩ (fun H locs hP hD hS => ?_)
  refine lv_ixor (pc := 20) hx hb dX7_plainCloses_20 ?_
  obtain rfl := Option.some.inj hf
  exact hR H locs 21 ls hP hD hS dX7_plainCloses_21
set_option maxHeartbeats 4000000 in
set_option maxRecDepth 100000 in
theorem kX7_evenCloses (l : Launch) (D : va_G) (A : Nat → Nat) (B : Nat → ClassId) (sz : Nat) (S : w_S) (a1 : Int32) (z : Int32 × w_S) (hf : fX7_evenCloses S a1 = some z) : MetW l yX7_evenCloses (wsO yX7_evenCloses cX7_evenCloses 3 (some .int)) rm_X7_evenCloses [.ref (A 0), .int a1] D (tyB B) (wM A B S) (wM A B z.2) sz (some (.int z.1)) := by
  refine MetW.mkI (cc := cX7_evenCloses) (maxL := 3) (by decide) (Nat.le_of_ble_eq_true rfl) ?_
  intro p e s m args below meth c Ad Q hx hb hts hown hml hN hK hA hR H locs ls hP hD hS hl
  have hl : lv_has ls 3 [(0, .ref (A 0)), (1, .int a1)] := hl
  rw [fX7_evenCloses] at hf
  refine lv_aload_n (pc := 0) hx hb dX7_evenCloses_0 rfl (lv_at hl 0 rfl) ?_
  refine lv_bipush (pc := 1) hx hb (v := 60) dX7_evenCloses_1 (by decide) ?_
  obtain ⟨r3, hc3, hf⟩ := hf_b hf
  refine cl_V (pc := 3) (As := [.int 60]) (rest := []) hx hb hml hown hts (kX7_ran l D A B _ S 60 r3 hc3) (cwV 1 hts gwRX7_351 rfl rfl rfl hdX7_ran ⟨Nat.le_of_ble_eq_true rfl, Nat.le_of_ble_eq_true rfl⟩) hN hK hP hD hS hA (va_recv hK hP (ci := 7) (q0 := 0) rfl (eM_0 A B _)) rfl hl.1 rfl (Nat.le_of_ble_eq_true rfl) dX7_evenCloses_3 (st1 := []) rfl ⟨Nat.zero_le _, Nat.zero_le _⟩ (fun H locs hP hD hS => ?_)
  refine lv_aload_n (pc := 6) hx hb dX7_evenCloses_6 rfl (lv_at hl 0 rfl) ?_
  refine lv_iload_n (pc := 7) hx hb dX7_evenCloses_7 rfl (lv_at hl 1 rfl) ?_
  obtain ⟨r8, hc8, hf⟩ := hf_b hf
  refine cl_V (pc := 8) (As := [.int a1]) (rest := []) hx hb hml hown hts (kX7_plainCloses l D A B _ r3 a1 r8 hc8) (cwV 1 hts gwRX7_388 rfl rfl rfl hdX7_plainCloses ⟨Nat.le_of_ble_eq_true rfl, Nat.le_of_ble_eq_true rfl⟩) hN hK hP hD hS hA (va_recv hK hP (ci := 7) (q0 := 0) rfl (eM_0 A B _)) rfl hl.1 rfl (Nat.le_of_ble_eq_true rfl) dX7_evenCloses_8 (st1 := [.int r8.1]) rfl ⟨Nat.zero_le _, Nat.zero_le _⟩ (fun H locs hP hD hS => ?_)
  refine lv_istore_n (pc := 11) hx hb (lv' := [(2, .int r8.1), (0, .ref (A 0)), (1, .int a1)]) dX7_evenCloses_11 rfl hl (by decide) rfl (fun ls hl => ?_)
  refine lv_aload_n (pc := 12) hx hb dX7_evenCloses_12 rfl (lv_at hl 1 rfl) ?_
  refine vMgRX7_378_0 (pc := 13) hx hb hts mU_1031 inU7 hown hK hP (x := (gI r8.2 22)) rfl dX7_evenCloses_13 ?_
  refine lv_if_eq (pc := 16) hx hb (tgt := 23) dX7_evenCloses_16 (by decide) (fun c_16 => ?_) (fun c_16 => ?_)
  · have hf := hf_t c_16 hf
    refine lv_iload_n (pc := 23) hx hb dX7_evenCloses_23 rfl (lv_at hl 0 rfl) ?_
    refine lv_aload_n (pc := 24) hx hb dX7_evenCloses_24 rfl (lv_at hl 1 rfl) ?_
    refine lv_iconst (pc := 25) hx hb (v := 1) dX7_evenCloses_25 (by decide) ?_
    obtain ⟨r26, hc26, hf⟩ := hf_b hf
    refine cl_V (pc := 26) (As := [.int 1]) (rest := [.int r8.1]) hx hb hml hown hts (kX7_turns l D A B _ r8.2 1 r26 hc26) (cwV 1 hts gwRX7_382 rfl rfl rfl hdX7_turns ⟨Nat.le_of_ble_eq_true rfl, Nat.le_of_ble_eq_true rfl⟩) hN hK hP hD hS hA (va_recv hK hP (ci := 7) (q0 := 0) rfl (eM_0 A B _)) rfl hl.1 rfl (Nat.le_of_ble_eq_true rfl) dX7_evenCloses_26 (st1 := [.int r26.1, .int r8.1]) rfl ⟨Nat.zero_le _, Nat.zero_le _⟩ (fun H locs hP hD hS => ?_)
    refine lv_iadd (pc := 29) hx hb dX7_evenCloses_29 ?_
    obtain rfl := Option.some.inj hf
    exact hR H locs 30 ls hP hD hS dX7_evenCloses_30
  · have hf := hf_f c_16 hf
    refine lv_iconst (pc := 19) hx hb (v := 0) dX7_evenCloses_19 (by decide) ?_
    refine lv_goto (pc := 20) hx hb (tgt := 30) dX7_evenCloses_20 (by decide) ?_
    obtain rfl := Option.some.inj hf
    exact hR H locs 30 ls hP hD hS dX7_evenCloses_30
set_option maxHeartbeats 4000000 in
set_option maxRecDepth 100000 in
theorem kX7_closes (l : Launch) (D : va_G) (A : Nat → Nat) (B : Nat → ClassId) (sz : Nat) (S : w_S) (a1 : Int32) (z : Int32 × w_S) (hf : fX7_closes S a1 = some z) : MetW l yX7_closes (wsO yX7_closes cX7_closes 2 (some .int)) rm_X7_closes [.ref (A 0), .int a1] D (tyB B) (wM A B S) (wM A B z.2) sz (some (.int z.1)) := by
  refine MetW.mkI (cc := cX7_closes) (maxL := 2) (by decide) (Nat.le_of_ble_eq_true rfl) ?_
  intro p e s m args below meth c Ad Q hx hb hts hown hml hN hK hA hR H locs ls hP hD hS hl
  have hl : lv_has ls 2 [(0, .ref (A 0)), (1, .int a1)] := hl
  rw [fX7_closes] at hf
  refine lv_aload_n (pc := 0) hx hb dX7_closes_0 rfl (lv_at hl 0 rfl) ?_
  refine vMgRX7_360_0 (pc := 1) hx hb hts mU_1029 inU7 hown hK hP (x := (gI S 19)) rfl dX7_closes_1 ?_
  refine lv_bipush (pc := 4) hx hb (v := 6) dX7_closes_4 (by decide) ?_
  refine lv_icmp_ne (pc := 6) hx hb (tgt := 25) dX7_closes_6 (by decide) (fun c_6 => ?_) (fun c_6 => ?_)
  · have hf := hf_f c_6 hf
    refine lv_aload_n (pc := 25) hx hb dX7_closes_25 rfl (lv_at hl 0 rfl) ?_
    refine vMgRX7_360_0 (pc := 26) hx hb hts mU_1029 inU7 hown hK hP (x := (gI S 19)) rfl dX7_closes_26 ?_
    refine lv_iconst (pc := 29) hx hb (v := 5) dX7_closes_29 (by decide) ?_
    refine lv_icmp_ne (pc := 30) hx hb (tgt := 41) dX7_closes_30 (by decide) (fun c_30 => ?_) (fun c_30 => ?_)
    · have hf := hf_f c_30 hf
      refine lv_aload_n (pc := 41) hx hb dX7_closes_41 rfl (lv_at hl 0 rfl) ?_
      refine lv_iload_n (pc := 42) hx hb dX7_closes_42 rfl (lv_at hl 1 rfl) ?_
      obtain ⟨r43, hc43, hf⟩ := hf_b hf
      refine cl_V (pc := 43) (As := [.int a1]) (rest := []) hx hb hml hown hts (kX7_plainCloses l D A B _ S a1 r43 hc43) (cwV 1 hts gwRX7_388 rfl rfl rfl hdX7_plainCloses ⟨Nat.le_of_ble_eq_true rfl, Nat.le_of_ble_eq_true rfl⟩) hN hK hP hD hS hA (va_recv hK hP (ci := 7) (q0 := 0) rfl (eM_0 A B _)) rfl hl.1 rfl (Nat.le_of_ble_eq_true rfl) dX7_closes_43 (st1 := [.int r43.1]) rfl ⟨Nat.zero_le _, Nat.zero_le _⟩ (fun H locs hP hD hS => ?_)
      obtain rfl := Option.some.inj hf
      exact hR H locs 46 ls hP hD hS dX7_closes_46
    · have hf := hf_t c_30 hf
      refine lv_aload_n (pc := 33) hx hb dX7_closes_33 rfl (lv_at hl 0 rfl) ?_
      refine lv_iload_n (pc := 34) hx hb dX7_closes_34 rfl (lv_at hl 1 rfl) ?_
      obtain ⟨r35, hc35, hf⟩ := hf_b hf
      refine cl_V (pc := 35) (As := [.int a1]) (rest := []) hx hb hml hown hts (kX7_evenCloses l D A B _ S a1 r35 hc35) (cwV 1 hts gwRX7_391 rfl rfl rfl hdX7_evenCloses ⟨Nat.le_of_ble_eq_true rfl, Nat.le_of_ble_eq_true rfl⟩) hN hK hP hD hS hA (va_recv hK hP (ci := 7) (q0 := 0) rfl (eM_0 A B _)) rfl hl.1 rfl (Nat.le_of_ble_eq_true rfl) dX7_closes_35 (st1 := [.int r35.1]) rfl ⟨Nat.zero_le _, Nat.zero_le _⟩ (fun H locs hP hD hS => ?_)
      refine lv_goto (pc := 38) hx hb (tgt := 46) dX7_closes_38 (by decide) ?_
      obtain rfl := Option.some.inj hf
      exact hR H locs 46 ls hP hD hS dX7_closes_46
  · have hf := hf_t c_6 hf
    refine lv_aload_n (pc := 9) hx hb dX7_closes_9 rfl (lv_at hl 0 rfl) ?_
    refine lv_bipush (pc := 10) hx hb (v := 71) dX7_closes_10 (by decide) ?_
    obtain ⟨r12, hc12, hf⟩ := hf_b hf
    refine cl_V (pc := 12) (As := [.int 71]) (rest := []) hx hb hml hown hts (kX7_ran l D A B _ S 71 r12 hc12) (cwV 1 hts gwRX7_351 rfl rfl rfl hdX7_ran ⟨Nat.le_of_ble_eq_true rfl, Nat.le_of_ble_eq_true rfl⟩) hN hK hP hD hS hA (va_recv hK hP (ci := 7) (q0 := 0) rfl (eM_0 A B _)) rfl hl.1 rfl (Nat.le_of_ble_eq_true rfl) dX7_closes_12 (st1 := []) rfl ⟨Nat.zero_le _, Nat.zero_le _⟩ (fun H locs hP hD hS => ?_)
    refine lv_aload_n (pc := 15) hx hb dX7_closes_15 rfl (lv_at hl 0 rfl) ?_
    refine lv_iload_n (pc := 16) hx hb dX7_closes_16 rfl (lv_at hl 1 rfl) ?_
    refine lv_iconst (pc := 17) hx hb (v := 2) dX7_closes_17 (by decide) ?_
    refine lv_imul (pc := 18) hx hb dX7_closes_18 ?_
    obtain ⟨r19, hc19, hf⟩ := hf_b hf
    refine cl_V (pc := 19) (As := [.int (a1 * 2)]) (rest := []) hx hb hml hown hts (kX7_evenCloses l D A B _ r12 (a1 * 2) r19 hc19) (cwV 1 hts gwRX7_391 rfl rfl rfl hdX7_evenCloses ⟨Nat.le_of_ble_eq_true rfl, Nat.le_of_ble_eq_true rfl⟩) hN hK hP hD hS hA (va_recv hK hP (ci := 7) (q0 := 0) rfl (eM_0 A B _)) rfl hl.1 rfl (Nat.le_of_ble_eq_true rfl) dX7_closes_19 (st1 := [.int r19.1]) rfl ⟨Nat.zero_le _, Nat.zero_le _⟩ (fun H locs hP hD hS => ?_)
    refine lv_iconst (pc := 22) hx hb (v := 5) dX7_closes_22 (by decide) ?_
    refine lv_isub (pc := 23) hx hb dX7_closes_23 ?_
    obtain rfl := Option.some.inj hf
    exact hR H locs 24 ls hP hD hS dX7_closes_24
set_option maxHeartbeats 4000000 in
set_option maxRecDepth 100000 in
theorem kX7_act (l : Launch) (D : va_G) (A : Nat → Nat) (B : Nat → ClassId) (sz : Nat) (S : w_S) (a1 : Int32) (a2 : Int32) (a3 : Int32) (z : Int32 × w_S) (hf : fX7_act S a1 a2 a3 = some z) : MetW l yX7_act (wsO yX7_act cX7_act 5 (some .int)) rm_X7_act [.ref (A 0), .int a1, .int a2, .int a3] D (tyB B) (wM A B S) (wM A B z.2) sz (some (.int z.1)) := by
  refine MetW.mkI (cc := cX7_act) (maxL := 5) (by decide) (Nat.le_of_ble_eq_true rfl) ?_
  intro p e s m args below meth c Ad Q hx hb hts hown hml hN hK hA hR H locs ls hP hD hS hl
  have hl : lv_has ls 5 [(0, .ref (A 0)), (1, .int a1), (2, .int a2), (3, .int a3)] := hl
  rw [fX7_act] at hf
  refine lv_aload_n (pc := 0) hx hb dX7_act_0 rfl (lv_at hl 0 rfl) ?_
  refine lv_iconst (pc := 1) hx hb (v := 0) dX7_act_1 (by decide) ?_
  refine vMpRX7_348_0 (pc := 2) hx hb hts mU_1027 inU7 hown hK hP hD hS dX7_act_2 (fun H locs hP hD hS => ?_)
  refine lv_iload_n (pc := 5) hx hb dX7_act_5 rfl (lv_at hl 1 rfl) ?_
  obtain ⟨r6, hc6, hf⟩ := hf_b hf
  refine cl_S (pc := 6) (As := [.int a1]) (rest := []) hx hb hml hown hts (kX7_isShelf l D A B _ (sI S 18 0) a1 r6 hc6) (va_cwS 1 hts gwRX7_335 rfl rfl rfl hdX7_isShelf ⟨Nat.le_of_ble_eq_true rfl, Nat.le_of_ble_eq_true rfl⟩) hN hK hP hD hS hA rfl hl.1 rfl (Nat.le_of_ble_eq_true rfl) dX7_act_6 (st1 := [.int r6]) rfl ⟨Nat.zero_le _, Nat.zero_le _⟩ (fun H locs hP hD hS => ?_)
  refine lv_if_eq (pc := 9) hx hb (tgt := 32) dX7_act_9 (by decide) (fun c_9 => ?_) (fun c_9 => ?_)
  · have hf := hf_t c_9 hf
    refine lv_iconst (pc := 32) hx hb (v := 0) dX7_act_32 (by decide) ?_
    obtain rfl := Option.some.inj hf
    exact hR H locs 33 ls hP hD hS dX7_act_33
  · have hf := hf_f c_9 hf
    refine lv_iload_n (pc := 12) hx hb dX7_act_12 rfl (lv_at hl 2 rfl) ?_
    refine lv_i2l (pc := 13) hx hb (v := a2.toInt64) dX7_act_13 rfl ?_
    refine lv_lconst (pc := 14) hx hb (v := 0) dX7_act_14 (by decide) ?_
    refine lv_ldc2 (pc := 15) hx hb (v := 3) hown (hts (.constantLong RX7 118 (3)) mU_125) dX7_act_15 ?_
    obtain ⟨r18, hc18, hf⟩ := hf_b hf
    refine cl_S (pc := 18) (As := [.long a2.toInt64, .long 0, .long 3]) (rest := []) hx hb hml hown hts (kX7_in l D A B _ (sI S 18 0) a2.toInt64 0 3 r18 hc18) (va_cwS 3 hts gwRX7_99 rfl rfl rfl hdX7_in ⟨Nat.le_of_ble_eq_true rfl, Nat.le_of_ble_eq_true rfl⟩) hN hK hP hD hS hA rfl hl.1 rfl (Nat.le_of_ble_eq_true rfl) dX7_act_18 (st1 := [.int r18]) rfl ⟨Nat.zero_le _, Nat.zero_le _⟩ (fun H locs hP hD hS => ?_)
    refine lv_if_eq (pc := 21) hx hb (tgt := 32) dX7_act_21 (by decide) (fun c_21 => ?_) (fun c_21 => ?_)
    · have hf := hf_t c_21 hf
      refine lv_iconst (pc := 32) hx hb (v := 0) dX7_act_32 (by decide) ?_
      obtain rfl := Option.some.inj hf
      exact hR H locs 33 ls hP hD hS dX7_act_33
    · have hf := hf_f c_21 hf
      refine lv_aload_n (pc := 24) hx hb dX7_act_24 rfl (lv_at hl 0 rfl) ?_
      refine lv_iload_n (pc := 25) hx hb dX7_act_25 rfl (lv_at hl 1 rfl) ?_
      obtain ⟨r26, hc26, hf⟩ := hf_b hf
      refine cl_V (pc := 26) (As := [.int a1]) (rest := []) hx hb hml hown hts (kX7_heldBy l D A B _ (sI S 18 0) a1 r26 hc26) (cwV 1 hts gwRX7_342 rfl rfl rfl hdX7_heldBy ⟨Nat.le_of_ble_eq_true rfl, Nat.le_of_ble_eq_true rfl⟩) hN hK hP hD hS hA (va_recv hK hP (ci := 7) (q0 := 0) rfl (eM_0 A B _)) rfl hl.1 rfl (Nat.le_of_ble_eq_true rfl) dX7_act_26 (st1 := [.int r26]) rfl ⟨Nat.zero_le _, Nat.zero_le _⟩ (fun H locs hP hD hS => ?_)
      refine lv_if_eq (pc := 29) hx hb (tgt := 34) dX7_act_29 (by decide) (fun c_29 => ?_) (fun c_29 => ?_)
      · have hf := hf_t c_29 hf
        refine lv_aload_n (pc := 34) hx hb dX7_act_34 rfl (lv_at hl 0 rfl) ?_
        refine lv_aload_n (pc := 35) hx hb dX7_act_35 rfl (lv_at hl 0 rfl) ?_
        refine vMgRX7_82_0 (pc := 36) hx hb hts mU_104 inU7 hown hK hP dX7_act_36 ?_
        refine lv_iload_n (pc := 39) hx hb dX7_act_39 rfl (lv_at hl 1 rfl) ?_
        obtain ⟨hg40, hf⟩ := hf_g hf
        refine vMra_21 (pc := 40) hx hb hK hP (f := (gA S 15)) rfl hg40 dX7_act_40 ?_
        refine vMpRX7_354_0 (pc := 41) hx hb hts mU_1028 inU7 hown hK hP hD hS dX7_act_41 (fun H locs hP hD hS => ?_)
        refine lv_aload_n (pc := 44) hx hb dX7_act_44 rfl (lv_at hl 0 rfl) ?_
        refine lv_aload_n (pc := 45) hx hb dX7_act_45 rfl (lv_at hl 0 rfl) ?_
        refine vMgRX7_29_0 (pc := 46) hx hb hts mU_87 inU7 hown hK hP dX7_act_46 ?_
        refine lv_aload_n (pc := 49) hx hb dX7_act_49 rfl (lv_at hl 0 rfl) ?_
        refine vMgRX7_354_0 (pc := 50) hx hb hts mU_1028 inU7 hown hK hP (x := (gA S 15) a1.toNatClampNeg) rfl dX7_act_50 ?_
        obtain ⟨hg53, hf⟩ := hf_g hf
        refine vMra_4 (pc := 53) hx hb hK hP (f := (gA S 3)) rfl hg53 dX7_act_53 ?_
        refine vMpRX7_360_0 (pc := 54) hx hb hts mU_1029 inU7 hown hK hP hD hS dX7_act_54 (fun H locs hP hD hS => ?_)
        refine lv_aload_n (pc := 57) hx hb dX7_act_57 rfl (lv_at hl 0 rfl) ?_
        refine lv_aload_n (pc := 58) hx hb dX7_act_58 rfl (lv_at hl 0 rfl) ?_
        refine vMgRX7_32_0 (pc := 59) hx hb hts mU_88 inU7 hown hK hP dX7_act_59 ?_
        refine lv_aload_n (pc := 62) hx hb dX7_act_62 rfl (lv_at hl 0 rfl) ?_
        refine vMgRX7_354_0 (pc := 63) hx hb hts mU_1028 inU7 hown hK hP (x := (gA S 15) a1.toNatClampNeg) rfl dX7_act_63 ?_
        obtain ⟨hg66, hf⟩ := hf_g hf
        refine vMra_5 (pc := 66) hx hb hK hP (f := (gA S 4)) rfl hg66 dX7_act_66 ?_
        refine vMpRX7_366_0 (pc := 67) hx hb hts mU_1030 inU7 hown hK hP hD hS dX7_act_67 (fun H locs hP hD hS => ?_)
        refine lv_aload_n (pc := 70) hx hb dX7_act_70 rfl (lv_at hl 0 rfl) ?_
        refine lv_iconst (pc := 71) hx hb (v := 0) dX7_act_71 (by decide) ?_
        refine vMpRX7_378_0 (pc := 72) hx hb hts mU_1031 inU7 hown hK hP hD hS (by decide) dX7_act_72 (fun H locs hP hD hS => ?_)
        refine lv_iload_n (pc := 75) hx hb dX7_act_75 rfl (lv_at hl 2 rfl) ?_
        refine lv_if_ne (pc := 76) hx hb (tgt := 87) dX7_act_76 (by decide) (fun c_76 => ?_) (fun c_76 => ?_)
        · have hf := hf_f c_76 hf
          refine lv_iload_n (pc := 87) hx hb dX7_act_87 rfl (lv_at hl 2 rfl) ?_
          refine lv_iconst (pc := 88) hx hb (v := 1) dX7_act_88 (by decide) ?_
          refine lv_icmp_ne (pc := 89) hx hb (tgt := 100) dX7_act_89 (by decide) (fun c_89 => ?_) (fun c_89 => ?_)
          · have hf := hf_f c_89 hf
            refine lv_iload_n (pc := 100) hx hb dX7_act_100 rfl (lv_at hl 2 rfl) ?_
            refine lv_iconst (pc := 101) hx hb (v := 2) dX7_act_101 (by decide) ?_
            refine lv_icmp_ne (pc := 102) hx hb (tgt := 113) dX7_act_102 (by decide) (fun c_102 => ?_) (fun c_102 => ?_)
            · have hf := hf_f c_102 hf
              refine lv_aload_n (pc := 113) hx hb dX7_act_113 rfl (lv_at hl 0 rfl) ?_
              refine lv_iload_n (pc := 114) hx hb dX7_act_114 rfl (lv_at hl 3 rfl) ?_
              obtain ⟨r115, hc115, hf⟩ := hf_b hf
              refine cl_V (pc := 115) (As := [.int a3]) (rest := []) hx hb hml hown hts (kX7_closes l D A B _ (sI (sI (sI (sI (sI S 18 0) 20 ((gA S 15) a1.toNatClampNeg)) 19 ((gA S 3) ((gA S 15) a1.toNatClampNeg).toNatClampNeg)) 21 ((gA S 4) ((gA S 15) a1.toNatClampNeg).toNatClampNeg)) 22 0) a3 r115 hc115) (cwV 1 hts gwRX7_394 rfl rfl rfl hdX7_closes ⟨Nat.le_of_ble_eq_true rfl, Nat.le_of_ble_eq_true rfl⟩) hN hK hP hD hS hA (va_recv hK hP (ci := 7) (q0 := 0) rfl (eM_0 A B _)) rfl hl.1 rfl (Nat.le_of_ble_eq_true rfl) dX7_act_115 (st1 := [.int r115.1]) rfl ⟨Nat.zero_le _, Nat.zero_le _⟩ (fun H locs hP hD hS => ?_)
              refine lv_istore (pc := 118) hx hb (lv' := [(4, .int r115.1), (0, .ref (A 0)), (1, .int a1), (2, .int a2), (3, .int a3)]) dX7_act_118 hl (by decide) rfl (fun ls hl => ?_)
              refine lv_aload_n (pc := 120) hx hb dX7_act_120 rfl (lv_at hl 1 rfl) ?_
              refine vMgRX7_378_0 (pc := 121) hx hb hts mU_1031 inU7 hown hK hP (x := (gI r115.2 22)) rfl dX7_act_121 ?_
              refine lv_if_eq (pc := 124) hx hb (tgt := 132) dX7_act_124 (by decide) (fun c_124 => ?_) (fun c_124 => ?_)
              · have hf := hf_t c_124 hf
                refine lv_iload (pc := 132) hx hb dX7_act_132 (lv_at hl 0 rfl) ?_
                obtain rfl := Option.some.inj hf
                exact hR H locs 134 ls hP hD hS dX7_act_134
              · have hf := hf_f c_124 hf
                refine lv_bipush (pc := 127) hx hb (v := (-15)) dX7_act_127 (by decide) ?_
                refine lv_goto (pc := 129) hx hb (tgt := 134) dX7_act_129 (by decide) ?_
                obtain rfl := Option.some.inj hf
                exact hR H locs 134 ls hP hD hS dX7_act_134
            · have hf := hf_t c_102 hf
              refine lv_aload_n (pc := 105) hx hb dX7_act_105 rfl (lv_at hl 0 rfl) ?_
              refine lv_iload_n (pc := 106) hx hb dX7_act_106 rfl (lv_at hl 3 rfl) ?_
              obtain ⟨r107, hc107, hf⟩ := hf_b hf
              refine cl_V (pc := 107) (As := [.int a3]) (rest := []) hx hb hml hown hts (kX7_parts l D A B _ (sI (sI (sI (sI (sI S 18 0) 20 ((gA S 15) a1.toNatClampNeg)) 19 ((gA S 3) ((gA S 15) a1.toNatClampNeg).toNatClampNeg)) 21 ((gA S 4) ((gA S 15) a1.toNatClampNeg).toNatClampNeg)) 22 0) a3 r107 hc107) (cwV 1 hts gwRX7_385 rfl rfl rfl hdX7_parts ⟨Nat.le_of_ble_eq_true rfl, Nat.le_of_ble_eq_true rfl⟩) hN hK hP hD hS hA (va_recv hK hP (ci := 7) (q0 := 0) rfl (eM_0 A B _)) rfl hl.1 rfl (Nat.le_of_ble_eq_true rfl) dX7_act_107 (st1 := [.int r107.1]) rfl ⟨Nat.zero_le _, Nat.zero_le _⟩ (fun H locs hP hD hS => ?_)
              refine lv_goto (pc := 110) hx hb (tgt := 118) dX7_act_110 (by decide) ?_
              refine lv_istore (pc := 118) hx hb (lv' := [(4, .int r107.1), (0, .ref (A 0)), (1, .int a1), (2, .int a2), (3, .int a3)]) dX7_act_118 hl (by decide) rfl (fun ls hl => ?_)
              refine lv_aload_n (pc := 120) hx hb dX7_act_120 rfl (lv_at hl 1 rfl) ?_
              refine vMgRX7_378_0 (pc := 121) hx hb hts mU_1031 inU7 hown hK hP (x := (gI r107.2 22)) rfl dX7_act_121 ?_
              refine lv_if_eq (pc := 124) hx hb (tgt := 132) dX7_act_124 (by decide) (fun c_124 => ?_) (fun c_124 => ?_)
              · have hf := hf_t c_124 hf
                refine lv_iload (pc := 132) hx hb dX7_act_132 (lv_at hl 0 rfl) ?_
                obtain rfl := Option.some.inj hf
                exact hR H locs 134 ls hP hD hS dX7_act_134
              · have hf := hf_f c_124 hf
                refine lv_bipush (pc := 127) hx hb (v := (-15)) dX7_act_127 (by decide) ?_
                refine lv_goto (pc := 129) hx hb (tgt := 134) dX7_act_129 (by decide) ?_
                obtain rfl := Option.some.inj hf
                exact hR H locs 134 ls hP hD hS dX7_act_134
          · have hf := hf_t c_89 hf
            refine lv_aload_n (pc := 92) hx hb dX7_act_92 rfl (lv_at hl 0 rfl) ?_
            refine lv_iload_n (pc := 93) hx hb dX7_act_93 rfl (lv_at hl 3 rfl) ?_
            obtain ⟨r94, hc94, hf⟩ := hf_b hf
            refine cl_V (pc := 94) (As := [.int a3]) (rest := []) hx hb hml hown hts (kX7_turns l D A B _ (sI (sI (sI (sI (sI S 18 0) 20 ((gA S 15) a1.toNatClampNeg)) 19 ((gA S 3) ((gA S 15) a1.toNatClampNeg).toNatClampNeg)) 21 ((gA S 4) ((gA S 15) a1.toNatClampNeg).toNatClampNeg)) 22 0) a3 r94 hc94) (cwV 1 hts gwRX7_382 rfl rfl rfl hdX7_turns ⟨Nat.le_of_ble_eq_true rfl, Nat.le_of_ble_eq_true rfl⟩) hN hK hP hD hS hA (va_recv hK hP (ci := 7) (q0 := 0) rfl (eM_0 A B _)) rfl hl.1 rfl (Nat.le_of_ble_eq_true rfl) dX7_act_94 (st1 := [.int r94.1]) rfl ⟨Nat.zero_le _, Nat.zero_le _⟩ (fun H locs hP hD hS => ?_)
            refine lv_goto (pc := 97) hx hb (tgt := 118) dX7_act_97 (by decide) ?_
            refine lv_istore (pc := 118) hx hb (lv' := [(4, .int r94.1), (0, .ref (A 0)), (1, .int a1), (2, .int a2), (3, .int a3)]) dX7_act_118 hl (by decide) rfl (fun ls hl => ?_)
            refine lv_aload_n (pc := 120) hx hb dX7_act_120 rfl (lv_at hl 1 rfl) ?_
            refine vMgRX7_378_0 (pc := 121) hx hb hts mU_1031 inU7 hown hK hP (x := (gI r94.2 22)) rfl dX7_act_121 ?_
            refine lv_if_eq (pc := 124) hx hb (tgt := 132) dX7_act_124 (by decide) (fun c_124 => ?_) (fun c_124 => ?_)
            · have hf := hf_t c_124 hf
              refine lv_iload (pc := 132) hx hb dX7_act_132 (lv_at hl 0 rfl) ?_
              obtain rfl := Option.some.inj hf
              exact hR H locs 134 ls hP hD hS dX7_act_134
            · have hf := hf_f c_124 hf
              refine lv_bipush (pc := 127) hx hb (v := (-15)) dX7_act_127 (by decide) ?_
              refine lv_goto (pc := 129) hx hb (tgt := 134) dX7_act_129 (by decide) ?_
              obtain rfl := Option.some.inj hf
              exact hR H locs 134 ls hP hD hS dX7_act_134
        · have hf := hf_t c_76 hf
          refine lv_aload_n (pc := 79) hx hb dX7_act_79 rfl (lv_at hl 0 rfl) ?_
          refine lv_iload_n (pc := 80) hx hb dX7_act_80 rfl (lv_at hl 3 rfl) ?_
          obtain ⟨r81, hc81, hf⟩ := hf_b hf
          refine cl_V (pc := 81) (As := [.int a3]) (rest := []) hx hb hml hown hts (kX7_weighs l D A B _ (sI (sI (sI (sI (sI S 18 0) 20 ((gA S 15) a1.toNatClampNeg)) 19 ((gA S 3) ((gA S 15) a1.toNatClampNeg).toNatClampNeg)) 21 ((gA S 4) ((gA S 15) a1.toNatClampNeg).toNatClampNeg)) 22 0) a3 r81 hc81) (cwV 1 hts gwRX7_369 rfl rfl rfl hdX7_weighs ⟨Nat.le_of_ble_eq_true rfl, Nat.le_of_ble_eq_true rfl⟩) hN hK hP hD hS hA (va_recv hK hP (ci := 7) (q0 := 0) rfl (eM_0 A B _)) rfl hl.1 rfl (Nat.le_of_ble_eq_true rfl) dX7_act_81 (st1 := [.int r81.1]) rfl ⟨Nat.zero_le _, Nat.zero_le _⟩ (fun H locs hP hD hS => ?_)
          refine lv_goto (pc := 84) hx hb (tgt := 118) dX7_act_84 (by decide) ?_
          refine lv_istore (pc := 118) hx hb (lv' := [(4, .int r81.1), (0, .ref (A 0)), (1, .int a1), (2, .int a2), (3, .int a3)]) dX7_act_118 hl (by decide) rfl (fun ls hl => ?_)
          refine lv_aload_n (pc := 120) hx hb dX7_act_120 rfl (lv_at hl 1 rfl) ?_
          refine vMgRX7_378_0 (pc := 121) hx hb hts mU_1031 inU7 hown hK hP (x := (gI r81.2 22)) rfl dX7_act_121 ?_
          refine lv_if_eq (pc := 124) hx hb (tgt := 132) dX7_act_124 (by decide) (fun c_124 => ?_) (fun c_124 => ?_)
          · have hf := hf_t c_124 hf
            refine lv_iload (pc := 132) hx hb dX7_act_132 (lv_at hl 0 rfl) ?_
            obtain rfl := Option.some.inj hf
            exact hR H locs 134 ls hP hD hS dX7_act_134
          · have hf := hf_f c_124 hf
            refine lv_bipush (pc := 127) hx hb (v := (-15)) dX7_act_127 (by decide) ?_
            refine lv_goto (pc := 129) hx hb (tgt := 134) dX7_act_129 (by decide) ?_
            obtain rfl := Option.some.inj hf
            exact hR H locs 134 ls hP hD hS dX7_act_134
      · have hf := hf_f c_29 hf
        refine lv_iconst (pc := 32) hx hb (v := 0) dX7_act_32 (by decide) ?_
        obtain rfl := Option.some.inj hf
        exact hR H locs 33 ls hP hD hS dX7_act_33
set_option maxHeartbeats 4000000 in
set_option maxRecDepth 100000 in
theorem kX7_trace (l : Launch) (D : va_G) (A : Nat → Nat) (B : Nat → ClassId) (sz : Nat) (S : w_S) (a1 : Int32) (z : Int32) (hf : fX7_trace S a1 = some z) : MetW l yX7_trace (wsO yX7_trace cX7_trace 2 (some .int)) rm_X7_trace [.ref (A 0), .int a1] D (tyB B) (wM A B S) (wM A B S) sz (some (.int z)) := by
  refine MetW.mkI (cc := cX7_trace) (maxL := 2) (by decide) (Nat.le_of_ble_eq_true rfl) ?_
  intro p e s m args below meth c Ad Q hx hb hts hown hml hN hK hA hR H locs ls hP hD hS hl
  have hl : lv_has ls 2 [(0, .ref (A 0)), (1, .int a1)] := hl
  rw [fX7_trace] at hf
  refine lv_iload_n (pc := 0) hx hb dX7_trace_0 rfl (lv_at hl 1 rfl) ?_
  refine lv_i2l (pc := 1) hx hb (v := a1.toInt64) dX7_trace_1 rfl ?_
  refine lv_lconst (pc := 2) hx hb (v := 0) dX7_trace_2 (by decide) ?_
  refine lv_aload_n (pc := 3) hx hb dX7_trace_3 rfl (lv_at hl 0 rfl) ?_
  refine vMgRX7_348_0 (pc := 4) hx hb hts mU_1027 inU7 hown hK hP (x := (gI S 18)) rfl dX7_trace_4 ?_
  refine lv_iconst (pc := 7) hx hb (v := 1) dX7_trace_7 (by decide) ?_
  refine lv_isub (pc := 8) hx hb dX7_trace_8 ?_
  refine lv_i2l (pc := 9) hx hb (v := ((gI S 18) - 1).toInt64) dX7_trace_9 rfl ?_
  obtain ⟨r10, hc10, hf⟩ := hf_b hf
  refine cl_S (pc := 10) (As := [.long a1.toInt64, .long 0, .long (((gI S 18) - 1).toInt64)]) (rest := []) hx hb hml hown hts (kX7_in l D A B _ S a1.toInt64 0 (((gI S 18) - 1).toInt64) r10 hc10) (va_cwS 3 hts gwRX7_99 rfl rfl rfl hdX7_in ⟨Nat.le_of_ble_eq_true rfl, Nat.le_of_ble_eq_true rfl⟩) hN hK hP hD hS hA rfl hl.1 rfl (Nat.le_of_ble_eq_true rfl) dX7_trace_10 (st1 := [.int r10]) rfl ⟨Nat.zero_le _, Nat.zero_le _⟩ (fun H locs hP hD hS => ?_)
  refine lv_if_eq (pc := 13) hx hb (tgt := 25) dX7_trace_13 (by decide) (fun c_13 => ?_) (fun c_13 => ?_)
  · have hf := hf_t c_13 hf
    refine lv_bipush (pc := 25) hx hb (v := (-3)) dX7_trace_25 (by decide) ?_
    obtain rfl := Option.some.inj hf
    exact hR H locs 27 ls hP hD hS dX7_trace_27
  · have hf := hf_f c_13 hf
    refine lv_aload_n (pc := 16) hx hb dX7_trace_16 rfl (lv_at hl 0 rfl) ?_
    refine vMgRX7_88_0 (pc := 17) hx hb hts mU_106 inU7 hown hK hP dX7_trace_17 ?_
    refine lv_iload_n (pc := 20) hx hb dX7_trace_20 rfl (lv_at hl 1 rfl) ?_
    obtain ⟨hg21, hf⟩ := hf_g hf
    refine vMra_23 (pc := 21) hx hb hK hP (f := (gA S 17)) rfl hg21 dX7_trace_21 ?_
    refine lv_goto (pc := 22) hx hb (tgt := 27) dX7_trace_22 (by decide) ?_
    obtain rfl := Option.some.inj hf
    exact hR H locs 27 ls hP hD hS dX7_trace_27
set_option maxHeartbeats 4000000 in
set_option maxRecDepth 100000 in
theorem kX7_fitting (l : Launch) (D : va_G) (A : Nat → Nat) (B : Nat → ClassId) (sz : Nat) (S : w_S) (z : Int32 × w_S) (hf : fX7_fitting S = some z) : MetW l yX7_fitting (wsO yX7_fitting cX7_fitting 3 (some .int)) rm_X7_fitting [.ref (A 0)] D (tyB B) (wM A B S) (wM A B z.2) sz (some (.int z.1)) := by
  refine MetW.mkI (cc := cX7_fitting) (maxL := 3) (by decide) (Nat.le_of_ble_eq_true rfl) ?_
  intro p e s m args below meth c Ad Q hx hb hts hown hml hN hK hA hR H locs ls hP hD hS hl
  have hl : lv_has ls 3 [(0, .ref (A 0))] := hl
  rw [fX7_fitting] at hf
  refine lv_iconst (pc := 0) hx hb (v := 0) dX7_fitting_0 (by decide) ?_
  refine lv_istore_n (pc := 1) hx hb (lv' := [(1, .int 0), (0, .ref (A 0))]) dX7_fitting_1 rfl hl (by decide) rfl (fun ls hl => ?_)
  refine lv_iconst (pc := 2) hx hb (v := 0) dX7_fitting_2 (by decide) ?_
  refine lv_istore_n (pc := 3) hx hb (lv' := [(2, .int 0), (1, .int 0), (0, .ref (A 0))]) dX7_fitting_3 rfl hl (by decide) rfl (fun ls hl => ?_)
  obtain ⟨q4, hq4, hf⟩ := hf_b hf
  have hk4 : ∀ (H : Heap) (locs : List Loc) (ls : Array Slot), va_P D vwCl (wM A B q4.1) H → va_D Ad (wM A B q4.1) → va_S Ad s.heap H locs → lv_has ls 3 [(1, .int q4.2)] → W p l e rm_X7_fitting s m args below meth c H locs 0 0 Q (F0 m 41 ls []) := by
    intro H locs ls hP hD hS hl
    refine lv_iload_n (pc := 41) hx hb dX7_fitting_41 rfl (lv_at hl 0 rfl) ?_
    obtain rfl := Option.some.inj hf
    exact hR H locs 42 ls hP hD hS dX7_fitting_42
  have lp4 : ∀ (n : Nat) (T4 : w_S) (u1_4 : Int32) (u2_4 : Int32) (H : Heap) (locs : List Loc) (ls : Array Slot), fX7_fitting_L4  n T4 u1_4 u2_4 = some q4 → va_P D vwCl (wM A B T4) H → va_D Ad (wM A B T4) → va_S Ad s.heap H locs → lv_has ls 3 [(0, .ref (A 0)), (1, .int u1_4), (2, .int u2_4)] → W p l e rm_X7_fitting s m args below meth c H locs 0 0 Q (F0 m 4 ls []) := by
    intro n4
    induction n4 with
    | zero => intro T4 u1_4 u2_4 H locs ls hq4; exact hf_0 hq4
    | succ n4 ih4 =>
      intro T4 u1_4 u2_4 H locs ls hq4 hP hD hS hl
      rw [fX7_fitting_L4] at hq4
      refine lv_iload_n (pc := 4) hx hb dX7_fitting_4 rfl (lv_at hl 2 rfl) ?_
      refine lv_aload_n (pc := 5) hx hb dX7_fitting_5 rfl (lv_at hl 0 rfl) ?_
      refine vMgRX7_195_0 (pc := 6) hx hb hts mU_384 inU7 hown hK hP (x := (gI T4 2)) rfl dX7_fitting_6 ?_
      refine lv_icmp_ge (pc := 9) hx hb (tgt := 41) dX7_fitting_9 (by decide) (fun c_9 => ?_) (fun c_9 => ?_)
      · have hq4 := hf_t c_9 hq4
        obtain rfl := Option.some.inj hq4
        exact hk4 H locs ls hP hD hS (lv_sub hl [1] rfl)
      · have hq4 := hf_f c_9 hq4
        refine lv_iload_n (pc := 12) hx hb dX7_fitting_12 rfl (lv_at hl 1 rfl) ?_
        refine lv_aload_n (pc := 13) hx hb dX7_fitting_13 rfl (lv_at hl 0 rfl) ?_
        refine lv_aload_n (pc := 14) hx hb dX7_fitting_14 rfl (lv_at hl 0 rfl) ?_
        refine vMgRX7_29_0 (pc := 15) hx hb hts mU_87 inU7 hown hK hP dX7_fitting_15 ?_
        refine lv_iload_n (pc := 18) hx hb dX7_fitting_18 rfl (lv_at hl 2 rfl) ?_
        obtain ⟨hg19, hq4⟩ := hf_g hq4
        refine vMra_4 (pc := 19) hx hb hK hP (f := (gA T4 3)) rfl hg19 dX7_fitting_19 ?_
        obtain ⟨r20, hc20, hq4⟩ := hf_b hq4
        refine cl_V (pc := 20) (As := [.int ((gA T4 3) u2_4.toNatClampNeg)]) (rest := [.int u1_4]) hx hb hml hown hts (kX7_isFit l D A B _ T4 ((gA T4 3) u2_4.toNatClampNeg) r20 hc20) (cwV 1 hts gwRX7_259 rfl rfl rfl hdX7_isFit ⟨Nat.le_of_ble_eq_true rfl, Nat.le_of_ble_eq_true rfl⟩) hN hK hP hD hS hA (va_recv hK hP (ci := 7) (q0 := 0) rfl (eM_0 A B _)) rfl hl.1 rfl (Nat.le_of_ble_eq_true rfl) dX7_fitting_20 (st1 := [.int r20.1, .int u1_4]) rfl ⟨Nat.zero_le _, Nat.zero_le _⟩ (fun H locs hP hD hS => ?_)
        refine lv_if_eq (pc := 23) hx hb (tgt := 32) dX7_fitting_23 (by decide) (fun c_23 => ?_) (fun c_23 => ?_)
        · have hq4 := hf_t c_23 hq4
          refine lv_iconst (pc := 32) hx hb (v := 0) dX7_fitting_32 (by decide) ?_
          refine lv_ior (pc := 33) hx hb dX7_fitting_33 ?_
          refine lv_istore_n (pc := 34) hx hb (lv' := [(1, .int (u1_4 ||| 0)), (0, .ref (A 0)), (2, .int u2_4)]) dX7_fitting_34 rfl hl (by decide) rfl (fun ls hl => ?_)
          refine lv_iinc (pc := 35) hx hb (v := u2_4 + 1) (lv' := [(2, .int (u2_4 + 1)), (1, .int (u1_4 ||| 0)), (0, .ref (A 0))]) dX7_fitting_35 hl (k := 2) rfl rfl (by decide) rfl (fun ls hl => ?_)
          refine lv_goto (pc := 38) hx hb (tgt := 4) dX7_fitting_38 (by decide) ?_
          exact ih4 r20.2 (u1_4 ||| 0) (u2_4 + 1) H locs ls hq4 hP hD hS (lv_sub hl [2, 1, 0] rfl)
        · have hq4 := hf_f c_23 hq4
          refine lv_iconst (pc := 26) hx hb (v := 1) dX7_fitting_26 (by decide) ?_
          refine lv_iload_n (pc := 27) hx hb dX7_fitting_27 rfl (lv_at hl 2 rfl) ?_
          refine lv_ishl (pc := 28) hx hb dX7_fitting_28 ?_
          refine lv_goto (pc := 29) hx hb (tgt := 33) dX7_fitting_29 (by decide) ?_
          refine lv_ior (pc := 33) hx hb dX7_fitting_33 ?_
          refine lv_istore_n (pc := 34) hx hb (lv' := [(1, .int (u1_4 ||| (1 <<< (u2_4 &&& 31)))), (0, .ref (A 0)), (2, .int u2_4)]) dX7_fitting_34 rfl hl (by decide) rfl (fun ls hl => ?_)
          refine lv_iinc (pc := 35) hx hb (v := u2_4 + 1) (lv' := [(2, .int (u2_4 + 1)), (1, .int (u1_4 ||| (1 <<< (u2_4 &&& 31)))), (0, .ref (A 0))]) dX7_fitting_35 hl (k := 2) rfl rfl (by decide) rfl (fun ls hl => ?_)
          refine lv_goto (pc := 38) hx hb (tgt := 4) dX7_fitting_38 (by decide) ?_
          exact ih4 r20.2 (u1_4 ||| (1 <<< (u2_4 &&& 31))) (u2_4 + 1) H locs ls hq4 hP hD hS (lv_sub hl [2, 1, 0] rfl)
  exact lp4 256 S 0 0 H locs ls hq4 hP hD hS (lv_sub hl [2, 1, 0] rfl)
set_option maxHeartbeats 4000000 in
set_option maxRecDepth 100000 in
theorem kX7_splitting (l : Launch) (D : va_G) (A : Nat → Nat) (B : Nat → ClassId) (sz : Nat) (S : w_S) (z : Int32) (hf : fX7_splitting S = some z) : MetW l yX7_splitting (wsO yX7_splitting cX7_splitting 3 (some .int)) rm_X7_splitting [.ref (A 0)] D (tyB B) (wM A B S) (wM A B S) sz (some (.int z)) := by
  refine MetW.mkI (cc := cX7_splitting) (maxL := 3) (by decide) (Nat.le_of_ble_eq_true rfl) ?_
  intro p e s m args below meth c Ad Q hx hb hts hown hml hN hK hA hR H locs ls hP hD hS hl
  have hl : lv_has ls 3 [(0, .ref (A 0))] := hl
  rw [fX7_splitting] at hf
  refine lv_iconst (pc := 0) hx hb (v := 0) dX7_splitting_0 (by decide) ?_
  refine lv_istore_n (pc := 1) hx hb (lv' := [(1, .int 0), (0, .ref (A 0))]) dX7_splitting_1 rfl hl (by decide) rfl (fun ls hl => ?_)
  refine lv_iconst (pc := 2) hx hb (v := 1) dX7_splitting_2 (by decide) ?_
  refine lv_istore_n (pc := 3) hx hb (lv' := [(2, .int 1), (1, .int 0), (0, .ref (A 0))]) dX7_splitting_3 rfl hl (by decide) rfl (fun ls hl => ?_)
  obtain ⟨q4, hq4, hf⟩ := hf_b hf
  have hk4 : ∀ (H : Heap) (locs : List Loc) (ls : Array Slot), va_P D vwCl (wM A B S) H → va_D Ad (wM A B S) → va_S Ad s.heap H locs → lv_has ls 3 [(1, .int q4)] → W p l e rm_X7_splitting s m args below meth c H locs 0 0 Q (F0 m 36 ls []) := by
    intro H locs ls hP hD hS hl
    refine lv_iload_n (pc := 36) hx hb dX7_splitting_36 rfl (lv_at hl 0 rfl) ?_
    obtain rfl := Option.some.inj hf
    exact hR H locs 37 ls hP hD hS dX7_splitting_37
  have lp4 : ∀ (n : Nat) (u1_4 : Int32) (u2_4 : Int32) (H : Heap) (locs : List Loc) (ls : Array Slot), fX7_splitting_L4 S n u1_4 u2_4 = some q4 → va_P D vwCl (wM A B S) H → va_D Ad (wM A B S) → va_S Ad s.heap H locs → lv_has ls 3 [(0, .ref (A 0)), (1, .int u1_4), (2, .int u2_4)] → W p l e rm_X7_splitting s m args below meth c H locs 0 0 Q (F0 m 4 ls []) := by
    intro n4
    induction n4 with
    | zero => intro u1_4 u2_4 H locs ls hq4; exact hf_0 hq4
    | succ n4 ih4 =>
      intro u1_4 u2_4 H locs ls hq4 hP hD hS hl
      rw [fX7_splitting_L4] at hq4
      refine lv_iload_n (pc := 4) hx hb dX7_splitting_4 rfl (lv_at hl 2 rfl) ?_
      refine lv_aload_n (pc := 5) hx hb dX7_splitting_5 rfl (lv_at hl 0 rfl) ?_
      refine vMgRX7_19_0 (pc := 6) hx hb hts mU_84 inU7 hown hK hP (x := (gI S 0)) rfl dX7_splitting_6 ?_
      refine lv_icmp_ge (pc := 9) hx hb (tgt := 36) dX7_splitting_9 (by decide) (fun c_9 => ?_) (fun c_9 => ?_)
      · have hq4 := hf_t c_9 hq4
        obtain rfl := Option.some.inj hq4
        exact hk4 H locs ls hP hD hS (lv_sub hl [1] rfl)
      · have hq4 := hf_f c_9 hq4
        refine lv_iload_n (pc := 12) hx hb dX7_splitting_12 rfl (lv_at hl 1 rfl) ?_
        refine lv_aload_n (pc := 13) hx hb dX7_splitting_13 rfl (lv_at hl 0 rfl) ?_
        refine lv_iload_n (pc := 14) hx hb dX7_splitting_14 rfl (lv_at hl 2 rfl) ?_
        obtain ⟨r15, hc15, hq4⟩ := hf_b hq4
        refine cl_V (pc := 15) (As := [.int u2_4]) (rest := [.int u1_4]) hx hb hml hown hts (kX7_splits l D A B _ S u2_4 r15 hc15) (cwV 1 hts gwRX7_300 rfl rfl rfl hdX7_splits ⟨Nat.le_of_ble_eq_true rfl, Nat.le_of_ble_eq_true rfl⟩) hN hK hP hD hS hA (va_recv hK hP (ci := 7) (q0 := 0) rfl (eM_0 A B _)) rfl hl.1 rfl (Nat.le_of_ble_eq_true rfl) dX7_splitting_15 (st1 := [.int r15, .int u1_4]) rfl ⟨Nat.zero_le _, Nat.zero_le _⟩ (fun H locs hP hD hS => ?_)
        refine lv_if_eq (pc := 18) hx hb (tgt := 27) dX7_splitting_18 (by decide) (fun c_18 => ?_) (fun c_18 => ?_)
        · have hq4 := hf_t c_18 hq4
          refine lv_iconst (pc := 27) hx hb (v := 0) dX7_splitting_27 (by decide) ?_
          refine lv_ior (pc := 28) hx hb dX7_splitting_28 ?_
          refine lv_istore_n (pc := 29) hx hb (lv' := [(1, .int (u1_4 ||| 0)), (0, .ref (A 0)), (2, .int u2_4)]) dX7_splitting_29 rfl hl (by decide) rfl (fun ls hl => ?_)
          refine lv_iinc (pc := 30) hx hb (v := u2_4 + 1) (lv' := [(2, .int (u2_4 + 1)), (1, .int (u1_4 ||| 0)), (0, .ref (A 0))]) dX7_splitting_30 hl (k := 2) rfl rfl (by decide) rfl (fun ls hl => ?_)
          refine lv_goto (pc := 33) hx hb (tgt := 4) dX7_splitting_33 (by decide) ?_
          exact ih4 (u1_4 ||| 0) (u2_4 + 1) H locs ls hq4 hP hD hS (lv_sub hl [2, 1, 0] rfl)
        · have hq4 := hf_f c_18 hq4
          refine lv_iconst (pc := 21) hx hb (v := 1) dX7_splitting_21 (by decide) ?_
          refine lv_iload_n (pc := 22) hx hb dX7_splitting_22 rfl (lv_at hl 2 rfl) ?_
          refine lv_ishl (pc := 23) hx hb dX7_splitting_23 ?_
          refine lv_goto (pc := 24) hx hb (tgt := 28) dX7_splitting_24 (by decide) ?_
          refine lv_ior (pc := 28) hx hb dX7_splitting_28 ?_
          refine lv_istore_n (pc := 29) hx hb (lv' := [(1, .int (u1_4 ||| (1 <<< (u2_4 &&& 31)))), (0, .ref (A 0)), (2, .int u2_4)]) dX7_splitting_29 rfl hl (by decide) rfl (fun ls hl => ?_)
          refine lv_iinc (pc := 30) hx hb (v := u2_4 + 1) (lv' := [(2, .int (u2_4 + 1)), (1, .int (u1_4 ||| (1 <<< (u2_4 &&& 31)))), (0, .ref (A 0))]) dX7_splitting_30 hl (k := 2) rfl rfl (by decide) rfl (fun ls hl => ?_)
          refine lv_goto (pc := 33) hx hb (tgt := 4) dX7_splitting_33 (by decide) ?_
          exact ih4 (u1_4 ||| (1 <<< (u2_4 &&& 31))) (u2_4 + 1) H locs ls hq4 hP hD hS (lv_sub hl [2, 1, 0] rfl)
  exact lp4 256 0 1 H locs ls hq4 hP hD hS (lv_sub hl [2, 1, 0] rfl)
set_option maxHeartbeats 4000000 in
set_option maxRecDepth 100000 in
theorem kX7_many (l : Launch) (D : va_G) (A : Nat → Nat) (B : Nat → ClassId) (sz : Nat) (S : w_S) (a1 : Int32) (z : Int32 × w_S) (hf : fX7_many S a1 = some z) : MetW l yX7_many (wsO yX7_many cX7_many 2 (some .int)) rm_X7_many [.ref (A 0), .int a1] D (tyB B) (wM A B S) (wM A B z.2) sz (some (.int z.1)) := by
  refine MetW.mkI (cc := cX7_many) (maxL := 2) (by decide) (Nat.le_of_ble_eq_true rfl) ?_
  intro p e s m args below meth c Ad Q hx hb hts hown hml hN hK hA hR H locs ls hP hD hS hl
  have hl : lv_has ls 2 [(0, .ref (A 0)), (1, .int a1)] := hl
  rw [fX7_many] at hf
  refine lv_iload_n (pc := 0) hx hb dX7_many_0 rfl (lv_at hl 1 rfl) ?_
  by_cases e1_0 : a1 = (0 : Int32)
  · have hf := hf_t e1_0 hf
    refine lv_tableIn (pc := 1) hx hb (off := 43) (tgt := 44) dX7_many_1 (by rw [e1_0]; decide) (by rw [e1_0]; decide) (by rw [e1_0]; rfl) (by decide) ?_
    refine lv_aload_n (pc := 44) hx hb dX7_many_44 rfl (lv_at hl 0 rfl) ?_
    refine vMgRX7_19_0 (pc := 45) hx hb hts mU_84 inU7 hown hK hP (x := (gI S 0)) rfl dX7_many_45 ?_
    obtain rfl := Option.some.inj hf
    exact hR H locs 48 ls hP hD hS dX7_many_48
  · have hf := hf_f e1_0 hf
    by_cases e1_1 : a1 = (1 : Int32)
    · have hf := hf_t e1_1 hf
      refine lv_tableIn (pc := 1) hx hb (off := 48) (tgt := 49) dX7_many_1 (by rw [e1_1]; decide) (by rw [e1_1]; decide) (by rw [e1_1]; rfl) (by decide) ?_
      refine lv_aload_n (pc := 49) hx hb dX7_many_49 rfl (lv_at hl 0 rfl) ?_
      refine vMgRX7_23_0 (pc := 50) hx hb hts mU_85 inU7 hown hK hP (x := (gI S 1)) rfl dX7_many_50 ?_
      obtain rfl := Option.some.inj hf
      exact hR H locs 53 ls hP hD hS dX7_many_53
    · have hf := hf_f e1_1 hf
      by_cases e1_2 : a1 = (2 : Int32)
      · have hf := hf_t e1_2 hf
        refine lv_tableIn (pc := 1) hx hb (off := 53) (tgt := 54) dX7_many_1 (by rw [e1_2]; decide) (by rw [e1_2]; decide) (by rw [e1_2]; rfl) (by decide) ?_
        refine lv_aload_n (pc := 54) hx hb dX7_many_54 rfl (lv_at hl 0 rfl) ?_
        refine vMgRX7_195_0 (pc := 55) hx hb hts mU_384 inU7 hown hK hP (x := (gI S 2)) rfl dX7_many_55 ?_
        obtain rfl := Option.some.inj hf
        exact hR H locs 58 ls hP hD hS dX7_many_58
      · have hf := hf_f e1_2 hf
        by_cases e1_3 : a1 = (3 : Int32)
        · have hf := hf_t e1_3 hf
          refine lv_tableIn (pc := 1) hx hb (off := 58) (tgt := 59) dX7_many_1 (by rw [e1_3]; decide) (by rw [e1_3]; decide) (by rw [e1_3]; rfl) (by decide) ?_
          refine lv_aload_n (pc := 59) hx hb dX7_many_59 rfl (lv_at hl 0 rfl) ?_
          refine vMgRX7_151_0 (pc := 60) hx hb hts mU_272 inU7 hown hK hP (x := (gI S 9)) rfl dX7_many_60 ?_
          obtain rfl := Option.some.inj hf
          exact hR H locs 63 ls hP hD hS dX7_many_63
        · have hf := hf_f e1_3 hf
          by_cases e1_4 : a1 = (4 : Int32)
          · have hf := hf_t e1_4 hf
            refine lv_tableIn (pc := 1) hx hb (off := 63) (tgt := 64) dX7_many_1 (by rw [e1_4]; decide) (by rw [e1_4]; decide) (by rw [e1_4]; rfl) (by decide) ?_
            refine lv_aload_n (pc := 64) hx hb dX7_many_64 rfl (lv_at hl 0 rfl) ?_
            refine vMgRX7_348_0 (pc := 65) hx hb hts mU_1027 inU7 hown hK hP (x := (gI S 18)) rfl dX7_many_65 ?_
            obtain rfl := Option.some.inj hf
            exact hR H locs 68 ls hP hD hS dX7_many_68
          · have hf := hf_f e1_4 hf
            by_cases e1_5 : a1 = (5 : Int32)
            · have hf := hf_t e1_5 hf
              refine lv_tableIn (pc := 1) hx hb (off := 68) (tgt := 69) dX7_many_1 (by rw [e1_5]; decide) (by rw [e1_5]; decide) (by rw [e1_5]; rfl) (by decide) ?_
              refine lv_aload_n (pc := 69) hx hb dX7_many_69 rfl (lv_at hl 0 rfl) ?_
              obtain ⟨r70, hc70, hf⟩ := hf_b hf
              refine cl_V (pc := 70) (As := []) (rest := []) hx hb hml hown hts (kX7_fitting l D A B _ S r70 hc70) (cwV 0 hts gwRX7_397 rfl rfl rfl hdX7_fitting ⟨Nat.le_of_ble_eq_true rfl, Nat.le_of_ble_eq_true rfl⟩) hN hK hP hD hS hA (va_recv hK hP (ci := 7) (q0 := 0) rfl (eM_0 A B _)) rfl hl.1 rfl (Nat.le_of_ble_eq_true rfl) dX7_many_70 (st1 := [.int r70.1]) rfl ⟨Nat.zero_le _, Nat.zero_le _⟩ (fun H locs hP hD hS => ?_)
              obtain rfl := Option.some.inj hf
              exact hR H locs 73 ls hP hD hS dX7_many_73
            · have hf := hf_f e1_5 hf
              by_cases e1_6 : a1 = (6 : Int32)
              · have hf := hf_t e1_6 hf
                refine lv_tableIn (pc := 1) hx hb (off := 73) (tgt := 74) dX7_many_1 (by rw [e1_6]; decide) (by rw [e1_6]; decide) (by rw [e1_6]; rfl) (by decide) ?_
                refine lv_aload_n (pc := 74) hx hb dX7_many_74 rfl (lv_at hl 0 rfl) ?_
                obtain ⟨r75, hc75, hf⟩ := hf_b hf
                refine cl_V (pc := 75) (As := []) (rest := []) hx hb hml hown hts (kX7_splitting l D A B _ S r75 hc75) (cwV 0 hts gwRX7_400 rfl rfl rfl hdX7_splitting ⟨Nat.le_of_ble_eq_true rfl, Nat.le_of_ble_eq_true rfl⟩) hN hK hP hD hS hA (va_recv hK hP (ci := 7) (q0 := 0) rfl (eM_0 A B _)) rfl hl.1 rfl (Nat.le_of_ble_eq_true rfl) dX7_many_75 (st1 := [.int r75]) rfl ⟨Nat.zero_le _, Nat.zero_le _⟩ (fun H locs hP hD hS => ?_)
                obtain rfl := Option.some.inj hf
                exact hR H locs 78 ls hP hD hS dX7_many_78
              · have hf := hf_f e1_6 hf
                have n1_0 := lv_neT (a := 0) e1_0 rfl
                have n1_1 := lv_neT (a := 1) e1_1 rfl
                have n1_2 := lv_neT (a := 2) e1_2 rfl
                have n1_3 := lv_neT (a := 3) e1_3 rfl
                have n1_4 := lv_neT (a := 4) e1_4 rfl
                have n1_5 := lv_neT (a := 5) e1_5 rfl
                have n1_6 := lv_neT (a := 6) e1_6 rfl
                refine lv_tableOut (pc := 1) hx hb (tgt := 79) dX7_many_1 (by omega) (by decide) ?_
                refine lv_iconst (pc := 79) hx hb (v := (-1)) dX7_many_79 (by decide) ?_
                obtain rfl := Option.some.inj hf
                exact hR H locs 80 ls hP hD hS dX7_many_80
set_option maxHeartbeats 4000000 in
set_option maxRecDepth 100000 in
theorem kX7_saves_1_2 (l : Launch) (D : va_G) (A : Nat → Nat) (B : Nat → ClassId) (sz : Nat) (S : w_S) (z : w_S) (hf : fX7_saves_1_2 S = some z) : MetW l yX7_saves (wsO yX7_saves cX7_saves 4 none) rm_X7_saves [.ref (A 0), .ref (A 1), .ref (A 2)] D (tyB B) (wM A B S) (wM A B z) sz (none) := by
  refine MetW.mkV (cc := cX7_saves) (maxL := 4) (by decide) (Nat.le_of_ble_eq_true rfl) ?_
  intro p e s m args below meth c Ad Q hx hb hts hown hml hN hK hA hR H locs ls hP hD hS hl
  have hl : lv_has ls 4 [(0, .ref (A 0)), (1, .ref (A 1)), (2, .ref (A 2))] := hl
  rw [fX7_saves_1_2] at hf
  refine lv_iconst (pc := 0) hx hb (v := 0) dX7_saves_0 (by decide) ?_
  refine lv_istore_n (pc := 1) hx hb (lv' := [(3, .int 0), (0, .ref (A 0)), (1, .ref (A 1)), (2, .ref (A 2))]) dX7_saves_1 rfl hl (by decide) rfl (fun ls hl => ?_)
  obtain ⟨q2, hq2, hf⟩ := hf_b hf
  have hk2 : ∀ (H : Heap) (locs : List Loc) (ls : Array Slot), va_P D vwCl (wM A B q2) H → va_D Ad (wM A B q2) → va_S Ad s.heap H locs → lv_has ls 4 [] → W p l e rm_X7_saves s m args below meth c H locs 0 0 Q (F0 m 20 ls []) := by
    intro H locs ls hP hD hS hl
    obtain rfl := Option.some.inj hf
    exact hR H locs 20 ls hP hD hS dX7_saves_20
  have lp2 : ∀ (n : Nat) (T2 : w_S) (u3_2 : Int32) (H : Heap) (locs : List Loc) (ls : Array Slot), fX7_saves_1_2_L2  n T2 u3_2 = some q2 → va_P D vwCl (wM A B T2) H → va_D Ad (wM A B T2) → va_S Ad s.heap H locs → lv_has ls 4 [(1, .ref (A 1)), (2, .ref (A 2)), (3, .int u3_2)] → W p l e rm_X7_saves s m args below meth c H locs 0 0 Q (F0 m 2 ls []) := by
    intro n2
    induction n2 with
    | zero => intro T2 u3_2 H locs ls hq2; exact hf_0 hq2
    | succ n2 ih2 =>
      intro T2 u3_2 H locs ls hq2 hP hD hS hl
      rw [fX7_saves_1_2_L2] at hq2
      refine lv_iload_n (pc := 2) hx hb dX7_saves_2 rfl (lv_at hl 2 rfl) ?_
      refine lv_bipush (pc := 3) hx hb (v := 27) dX7_saves_3 (by decide) ?_
      refine lv_icmp_ge (pc := 5) hx hb (tgt := 20) dX7_saves_5 (by decide) (fun c_5 => ?_) (fun c_5 => ?_)
      · have hq2 := hf_t c_5 hq2
        obtain rfl := Option.some.inj hq2
        exact hk2 H locs ls hP hD hS (lv_sub hl [] rfl)
      · have hq2 := hf_f c_5 hq2
        refine lv_aload_n (pc := 8) hx hb dX7_saves_8 rfl (lv_at hl 1 rfl) ?_
        refine lv_iload_n (pc := 9) hx hb dX7_saves_9 rfl (lv_at hl 2 rfl) ?_
        refine lv_aload_n (pc := 10) hx hb dX7_saves_10 rfl (lv_at hl 0 rfl) ?_
        refine lv_iload_n (pc := 11) hx hb dX7_saves_11 rfl (lv_at hl 2 rfl) ?_
        obtain ⟨hg12, hq2⟩ := hf_g hq2
        refine vMra_1 (pc := 12) hx hb hK hP (f := (gA T2 0)) rfl hg12 dX7_saves_12 ?_
        obtain ⟨hg13, hq2⟩ := hf_g hq2
        refine vMwa_2 (pc := 13) hx hb hK hP hD hS (f := (gA T2 1)) rfl hg13 dX7_saves_13 (fun H locs hP hD hS => ?_)
        refine lv_iinc (pc := 14) hx hb (v := u3_2 + 1) (lv' := [(3, .int (u3_2 + 1)), (1, .ref (A 1)), (2, .ref (A 2))]) dX7_saves_14 hl (k := 2) rfl rfl (by decide) rfl (fun ls hl => ?_)
        refine lv_goto (pc := 17) hx hb (tgt := 2) dX7_saves_17 (by decide) ?_
        exact ih2 (sA T2 1 (upd (gA T2 1) u3_2.toNatClampNeg ((gA T2 0) u3_2.toNatClampNeg))) (u3_2 + 1) H locs ls hq2 hP hD hS (lv_sub hl [1, 2, 0] rfl)
  exact lp2 256 S 0 H locs ls hq2 hP hD hS (lv_sub hl [2, 3, 0] rfl)
set_option maxHeartbeats 4000000 in
set_option maxRecDepth 100000 in
theorem kX7_keep (l : Launch) (D : va_G) (A : Nat → Nat) (B : Nat → ClassId) (sz : Nat) (S : w_S) (z : Int32 × w_S) (hf : fX7_keep S = some z) : MetW l yX7_keep (wsO yX7_keep cX7_keep 2 (some .int)) rm_X7_keep [.ref (A 0)] D (tyB B) (wM A B S) (wM A B z.2) sz (some (.int z.1)) := by
  refine MetW.mkI (cc := cX7_keep) (maxL := 2) (by decide) (Nat.le_of_ble_eq_true rfl) ?_
  intro p e s m args below meth c Ad Q hx hb hts hown hml hN hK hA hR H locs ls hP hD hS hl
  have hl : lv_has ls 2 [(0, .ref (A 0))] := hl
  rw [fX7_keep] at hf
  refine lv_aload_n (pc := 0) hx hb dX7_keep_0 rfl (lv_at hl 0 rfl) ?_
  refine lv_aload_n (pc := 1) hx hb dX7_keep_1 rfl (lv_at hl 0 rfl) ?_
  refine vMgRX7_7_0 (pc := 2) hx hb hts mU_81 inU7 hown hK hP dX7_keep_2 ?_
  refine lv_aload_n (pc := 5) hx hb dX7_keep_5 rfl (lv_at hl 0 rfl) ?_
  refine vMgRX7_13_0 (pc := 6) hx hb hts mU_82 inU7 hown hK hP dX7_keep_6 ?_
  obtain ⟨r9, hc9, hf⟩ := hf_b hf
  refine cl_V (pc := 9) (As := [.ref (A 1), .ref (A 2)]) (rest := []) hx hb hml hown hts (kX7_saves_1_2 l D A B _ S r9 hc9) (cwV 2 hts gwRX7_186 rfl rfl rfl hdX7_saves ⟨Nat.le_of_ble_eq_true rfl, Nat.le_of_ble_eq_true rfl⟩) hN hK hP hD hS hA (va_recv hK hP (ci := 7) (q0 := 0) rfl (eM_0 A B _)) rfl hl.1 rfl (Nat.le_of_ble_eq_true rfl) dX7_keep_9 (st1 := []) rfl ⟨Nat.zero_le _, Nat.zero_le _⟩ (fun H locs hP hD hS => ?_)
  refine lv_aload_n (pc := 12) hx hb dX7_keep_12 rfl (lv_at hl 0 rfl) ?_
  refine lv_aload_n (pc := 13) hx hb dX7_keep_13 rfl (lv_at hl 0 rfl) ?_
  refine vMgRX7_19_0 (pc := 14) hx hb hts mU_84 inU7 hown hK hP (x := (gI r9 0)) rfl dX7_keep_14 ?_
  refine vMpRX7_403_0 (pc := 17) hx hb hts mU_1122 inU7 hown hK hP hD hS dX7_keep_17 (fun H locs hP hD hS => ?_)
  refine lv_aload_n (pc := 20) hx hb dX7_keep_20 rfl (lv_at hl 0 rfl) ?_
  refine lv_aload_n (pc := 21) hx hb dX7_keep_21 rfl (lv_at hl 0 rfl) ?_
  refine vMgRX7_23_0 (pc := 22) hx hb hts mU_85 inU7 hown hK hP (x := (gI r9 1)) rfl dX7_keep_22 ?_
  refine vMpRX7_406_0 (pc := 25) hx hb hts mU_1123 inU7 hown hK hP hD hS dX7_keep_25 (fun H locs hP hD hS => ?_)
  refine lv_aload_n (pc := 28) hx hb dX7_keep_28 rfl (lv_at hl 0 rfl) ?_
  refine lv_aload_n (pc := 29) hx hb dX7_keep_29 rfl (lv_at hl 0 rfl) ?_
  refine vMgRX7_26_0 (pc := 30) hx hb hts mU_86 inU7 hown hK hP (x := (gI r9 3)) rfl dX7_keep_30 ?_
  refine vMpRX7_409_0 (pc := 33) hx hb hts mU_1124 inU7 hown hK hP hD hS dX7_keep_33 (fun H locs hP hD hS => ?_)
  refine lv_aload_n (pc := 36) hx hb dX7_keep_36 rfl (lv_at hl 0 rfl) ?_
  refine lv_aload_n (pc := 37) hx hb dX7_keep_37 rfl (lv_at hl 0 rfl) ?_
  refine vMgRX7_195_0 (pc := 38) hx hb hts mU_384 inU7 hown hK hP (x := (gI r9 2)) rfl dX7_keep_38 ?_
  refine vMpRX7_412_0 (pc := 41) hx hb hts mU_1125 inU7 hown hK hP hD hS dX7_keep_41 (fun H locs hP hD hS => ?_)
  refine lv_iconst (pc := 44) hx hb (v := 0) dX7_keep_44 (by decide) ?_
  refine lv_istore_n (pc := 45) hx hb (lv' := [(1, .int 0), (0, .ref (A 0))]) dX7_keep_45 rfl hl (by decide) rfl (fun ls hl => ?_)
  obtain ⟨q46, hq46, hf⟩ := hf_b hf
  have hk46 : ∀ (H : Heap) (locs : List Loc) (ls : Array Slot), va_P D vwCl (wM A B q46) H → va_D Ad (wM A B q46) → va_S Ad s.heap H locs → lv_has ls 2 [(0, .ref (A 0))] → W p l e rm_X7_keep s m args below meth c H locs 0 0 Q (F0 m 82 ls []) := by
    intro H locs ls hP hD hS hl
    refine lv_aload_n (pc := 82) hx hb dX7_keep_82 rfl (lv_at hl 0 rfl) ?_
    refine lv_iconst (pc := 83) hx hb (v := 1) dX7_keep_83 (by decide) ?_
    refine vMpRX7_415_0 (pc := 84) hx hb hts mU_1126 inU7 hown hK hP hD hS (by decide) dX7_keep_84 (fun H locs hP hD hS => ?_)
    refine lv_iconst (pc := 87) hx hb (v := 1) dX7_keep_87 (by decide) ?_
    obtain rfl := Option.some.inj hf
    exact hR H locs 88 ls hP hD hS dX7_keep_88
  have lp46 : ∀ (n : Nat) (T46 : w_S) (u1_46 : Int32) (H : Heap) (locs : List Loc) (ls : Array Slot), fX7_keep_L46  n T46 u1_46 = some q46 → va_P D vwCl (wM A B T46) H → va_D Ad (wM A B T46) → va_S Ad s.heap H locs → lv_has ls 2 [(0, .ref (A 0)), (1, .int u1_46)] → W p l e rm_X7_keep s m args below meth c H locs 0 0 Q (F0 m 46 ls []) := by
    intro n46
    induction n46 with
    | zero => intro T46 u1_46 H locs ls hq46; exact hf_0 hq46
    | succ n46 ih46 =>
      intro T46 u1_46 H locs ls hq46 hP hD hS hl
      rw [fX7_keep_L46] at hq46
      refine lv_iload_n (pc := 46) hx hb dX7_keep_46 rfl (lv_at hl 1 rfl) ?_
      refine lv_bipush (pc := 47) hx hb (v := 6) dX7_keep_47 (by decide) ?_
      refine lv_icmp_ge (pc := 49) hx hb (tgt := 82) dX7_keep_49 (by decide) (fun c_49 => ?_) (fun c_49 => ?_)
      · have hq46 := hf_t c_49 hq46
        obtain rfl := Option.some.inj hq46
        exact hk46 H locs ls hP hD hS (lv_sub hl [0] rfl)
      · have hq46 := hf_f c_49 hq46
        refine lv_aload_n (pc := 52) hx hb dX7_keep_52 rfl (lv_at hl 0 rfl) ?_
        refine vMgRX7_35_0 (pc := 53) hx hb hts mU_89 inU7 hown hK hP dX7_keep_53 ?_
        refine lv_iload_n (pc := 56) hx hb dX7_keep_56 rfl (lv_at hl 1 rfl) ?_
        refine lv_aload_n (pc := 57) hx hb dX7_keep_57 rfl (lv_at hl 0 rfl) ?_
        refine vMgRX7_29_0 (pc := 58) hx hb hts mU_87 inU7 hown hK hP dX7_keep_58 ?_
        refine lv_iload_n (pc := 61) hx hb dX7_keep_61 rfl (lv_at hl 1 rfl) ?_
        obtain ⟨hg62, hq46⟩ := hf_g hq46
        refine vMra_4 (pc := 62) hx hb hK hP (f := (gA T46 3)) rfl hg62 dX7_keep_62 ?_
        obtain ⟨hg63, hq46⟩ := hf_g hq46
        refine vMwa_6 (pc := 63) hx hb hK hP hD hS (f := (gA T46 5)) rfl hg63 dX7_keep_63 (fun H locs hP hD hS => ?_)
        refine lv_aload_n (pc := 64) hx hb dX7_keep_64 rfl (lv_at hl 0 rfl) ?_
        refine vMgRX7_38_0 (pc := 65) hx hb hts mU_90 inU7 hown hK hP dX7_keep_65 ?_
        refine lv_iload_n (pc := 68) hx hb dX7_keep_68 rfl (lv_at hl 1 rfl) ?_
        refine lv_aload_n (pc := 69) hx hb dX7_keep_69 rfl (lv_at hl 0 rfl) ?_
        refine vMgRX7_32_0 (pc := 70) hx hb hts mU_88 inU7 hown hK hP dX7_keep_70 ?_
        refine lv_iload_n (pc := 73) hx hb dX7_keep_73 rfl (lv_at hl 1 rfl) ?_
        obtain ⟨hg74, hq46⟩ := hf_g hq46
        refine vMra_5 (pc := 74) hx hb hK hP (f := (gA T46 4)) rfl hg74 dX7_keep_74 ?_
        obtain ⟨hg75, hq46⟩ := hf_g hq46
        refine vMwa_7 (pc := 75) hx hb hK hP hD hS (f := (gA T46 6)) rfl hg75 dX7_keep_75 (fun H locs hP hD hS => ?_)
        refine lv_iinc (pc := 76) hx hb (v := u1_46 + 1) (lv' := [(1, .int (u1_46 + 1)), (0, .ref (A 0))]) dX7_keep_76 hl (k := 1) rfl rfl (by decide) rfl (fun ls hl => ?_)
        refine lv_goto (pc := 79) hx hb (tgt := 46) dX7_keep_79 (by decide) ?_
        exact ih46 (sA (sA T46 5 (upd (gA T46 5) u1_46.toNatClampNeg ((gA T46 3) u1_46.toNatClampNeg))) 6 (upd (gA T46 6) u1_46.toNatClampNeg ((gA T46 4) u1_46.toNatClampNeg))) (u1_46 + 1) H locs ls hq46 hP hD hS (lv_sub hl [1, 0] rfl)
  exact lp46 256 (sI (sI (sI (sI r9 4 (gI r9 0)) 5 (gI r9 1)) 7 (gI r9 3)) 6 (gI r9 2)) 0 H locs ls hq46 hP hD hS (lv_sub hl [1, 0] rfl)
set_option maxHeartbeats 4000000 in
set_option maxRecDepth 100000 in
theorem kX7_saves_2_1 (l : Launch) (D : va_G) (A : Nat → Nat) (B : Nat → ClassId) (sz : Nat) (S : w_S) (z : w_S) (hf : fX7_saves_2_1 S = some z) : MetW l yX7_saves (wsO yX7_saves cX7_saves 4 none) rm_X7_saves [.ref (A 0), .ref (A 2), .ref (A 1)] D (tyB B) (wM A B S) (wM A B z) sz (none) := by
  refine MetW.mkV (cc := cX7_saves) (maxL := 4) (by decide) (Nat.le_of_ble_eq_true rfl) ?_
  intro p e s m args below meth c Ad Q hx hb hts hown hml hN hK hA hR H locs ls hP hD hS hl
  have hl : lv_has ls 4 [(0, .ref (A 0)), (1, .ref (A 2)), (2, .ref (A 1))] := hl
  rw [fX7_saves_2_1] at hf
  refine lv_iconst (pc := 0) hx hb (v := 0) dX7_saves_0 (by decide) ?_
  refine lv_istore_n (pc := 1) hx hb (lv' := [(3, .int 0), (0, .ref (A 0)), (1, .ref (A 2)), (2, .ref (A 1))]) dX7_saves_1 rfl hl (by decide) rfl (fun ls hl => ?_)
  obtain ⟨q2, hq2, hf⟩ := hf_b hf
  have hk2 : ∀ (H : Heap) (locs : List Loc) (ls : Array Slot), va_P D vwCl (wM A B q2) H → va_D Ad (wM A B q2) → va_S Ad s.heap H locs → lv_has ls 4 [] → W p l e rm_X7_saves s m args below meth c H locs 0 0 Q (F0 m 20 ls []) := by
    intro H locs ls hP hD hS hl
    obtain rfl := Option.some.inj hf
    exact hR H locs 20 ls hP hD hS dX7_saves_20
  have lp2 : ∀ (n : Nat) (T2 : w_S) (u3_2 : Int32) (H : Heap) (locs : List Loc) (ls : Array Slot), fX7_saves_2_1_L2  n T2 u3_2 = some q2 → va_P D vwCl (wM A B T2) H → va_D Ad (wM A B T2) → va_S Ad s.heap H locs → lv_has ls 4 [(1, .ref (A 2)), (2, .ref (A 1)), (3, .int u3_2)] → W p l e rm_X7_saves s m args below meth c H locs 0 0 Q (F0 m 2 ls []) := by
    intro n2
    induction n2 with
    | zero => intro T2 u3_2 H locs ls hq2; exact hf_0 hq2
    | succ n2 ih2 =>
      intro T2 u3_2 H locs ls hq2 hP hD hS hl
      rw [fX7_saves_2_1_L2] at hq2
      refine lv_iload_n (pc := 2) hx hb dX7_saves_2 rfl (lv_at hl 2 rfl) ?_
      refine lv_bipush (pc := 3) hx hb (v := 27) dX7_saves_3 (by decide) ?_
      refine lv_icmp_ge (pc := 5) hx hb (tgt := 20) dX7_saves_5 (by decide) (fun c_5 => ?_) (fun c_5 => ?_)
      · have hq2 := hf_t c_5 hq2
        obtain rfl := Option.some.inj hq2
        exact hk2 H locs ls hP hD hS (lv_sub hl [] rfl)
      · have hq2 := hf_f c_5 hq2
        refine lv_aload_n (pc := 8) hx hb dX7_saves_8 rfl (lv_at hl 1 rfl) ?_
        refine lv_iload_n (pc := 9) hx hb dX7_saves_9 rfl (lv_at hl 2 rfl) ?_
        refine lv_aload_n (pc := 10) hx hb dX7_saves_10 rfl (lv_at hl 0 rfl) ?_
        refine lv_iload_n (pc := 11) hx hb dX7_saves_11 rfl (lv_at hl 2 rfl) ?_
        obtain ⟨hg12, hq2⟩ := hf_g hq2
        refine vMra_2 (pc := 12) hx hb hK hP (f := (gA T2 1)) rfl hg12 dX7_saves_12 ?_
        obtain ⟨hg13, hq2⟩ := hf_g hq2
        refine vMwa_1 (pc := 13) hx hb hK hP hD hS (f := (gA T2 0)) rfl hg13 dX7_saves_13 (fun H locs hP hD hS => ?_)
        refine lv_iinc (pc := 14) hx hb (v := u3_2 + 1) (lv' := [(3, .int (u3_2 + 1)), (1, .ref (A 2)), (2, .ref (A 1))]) dX7_saves_14 hl (k := 2) rfl rfl (by decide) rfl (fun ls hl => ?_)
        refine lv_goto (pc := 17) hx hb (tgt := 2) dX7_saves_17 (by decide) ?_
        exact ih2 (sA T2 0 (upd (gA T2 0) u3_2.toNatClampNeg ((gA T2 1) u3_2.toNatClampNeg))) (u3_2 + 1) H locs ls hq2 hP hD hS (lv_sub hl [1, 2, 0] rfl)
  exact lp2 256 S 0 H locs ls hq2 hP hD hS (lv_sub hl [2, 3, 0] rfl)
set_option maxHeartbeats 4000000 in
set_option maxRecDepth 100000 in
theorem kX7_again (l : Launch) (D : va_G) (A : Nat → Nat) (B : Nat → ClassId) (sz : Nat) (S : w_S) (z : Int32 × w_S) (hf : fX7_again S = some z) : MetW l yX7_again (wsO yX7_again cX7_again 2 (some .int)) rm_X7_again [.ref (A 0)] D (tyB B) (wM A B S) (wM A B z.2) sz (some (.int z.1)) := by
  refine MetW.mkI (cc := cX7_again) (maxL := 2) (by decide) (Nat.le_of_ble_eq_true rfl) ?_
  intro p e s m args below meth c Ad Q hx hb hts hown hml hN hK hA hR H locs ls hP hD hS hl
  have hl : lv_has ls 2 [(0, .ref (A 0))] := hl
  rw [fX7_again] at hf
  refine lv_aload_n (pc := 0) hx hb dX7_again_0 rfl (lv_at hl 0 rfl) ?_
  refine vMgRX7_415_0 (pc := 1) hx hb hts mU_1126 inU7 hown hK hP (x := (gI S 8)) rfl dX7_again_1 ?_
  refine lv_if_ne (pc := 4) hx hb (tgt := 10) dX7_again_4 (by decide) (fun c_4 => ?_) (fun c_4 => ?_)
  · have hf := hf_f c_4 hf
    refine lv_aload_n (pc := 10) hx hb dX7_again_10 rfl (lv_at hl 0 rfl) ?_
    refine lv_aload_n (pc := 11) hx hb dX7_again_11 rfl (lv_at hl 0 rfl) ?_
    refine vMgRX7_13_0 (pc := 12) hx hb hts mU_82 inU7 hown hK hP dX7_again_12 ?_
    refine lv_aload_n (pc := 15) hx hb dX7_again_15 rfl (lv_at hl 0 rfl) ?_
    refine vMgRX7_7_0 (pc := 16) hx hb hts mU_81 inU7 hown hK hP dX7_again_16 ?_
    obtain ⟨r19, hc19, hf⟩ := hf_b hf
    refine cl_V (pc := 19) (As := [.ref (A 2), .ref (A 1)]) (rest := []) hx hb hml hown hts (kX7_saves_2_1 l D A B _ S r19 hc19) (cwV 2 hts gwRX7_186 rfl rfl rfl hdX7_saves ⟨Nat.le_of_ble_eq_true rfl, Nat.le_of_ble_eq_true rfl⟩) hN hK hP hD hS hA (va_recv hK hP (ci := 7) (q0 := 0) rfl (eM_0 A B _)) rfl hl.1 rfl (Nat.le_of_ble_eq_true rfl) dX7_again_19 (st1 := []) rfl ⟨Nat.zero_le _, Nat.zero_le _⟩ (fun H locs hP hD hS => ?_)
    refine lv_aload_n (pc := 22) hx hb dX7_again_22 rfl (lv_at hl 0 rfl) ?_
    refine lv_aload_n (pc := 23) hx hb dX7_again_23 rfl (lv_at hl 0 rfl) ?_
    refine vMgRX7_403_0 (pc := 24) hx hb hts mU_1122 inU7 hown hK hP (x := (gI r19 4)) rfl dX7_again_24 ?_
    refine vMpRX7_19_0 (pc := 27) hx hb hts mU_84 inU7 hown hK hP hD hS dX7_again_27 (fun H locs hP hD hS => ?_)
    refine lv_aload_n (pc := 30) hx hb dX7_again_30 rfl (lv_at hl 0 rfl) ?_
    refine lv_aload_n (pc := 31) hx hb dX7_again_31 rfl (lv_at hl 0 rfl) ?_
    refine vMgRX7_406_0 (pc := 32) hx hb hts mU_1123 inU7 hown hK hP (x := (gI r19 5)) rfl dX7_again_32 ?_
    refine vMpRX7_23_0 (pc := 35) hx hb hts mU_85 inU7 hown hK hP hD hS dX7_again_35 (fun H locs hP hD hS => ?_)
    refine lv_aload_n (pc := 38) hx hb dX7_again_38 rfl (lv_at hl 0 rfl) ?_
    refine lv_aload_n (pc := 39) hx hb dX7_again_39 rfl (lv_at hl 0 rfl) ?_
    refine vMgRX7_409_0 (pc := 40) hx hb hts mU_1124 inU7 hown hK hP (x := (gI r19 7)) rfl dX7_again_40 ?_
    refine vMpRX7_26_0 (pc := 43) hx hb hts mU_86 inU7 hown hK hP hD hS dX7_again_43 (fun H locs hP hD hS => ?_)
    refine lv_aload_n (pc := 46) hx hb dX7_again_46 rfl (lv_at hl 0 rfl) ?_
    refine lv_aload_n (pc := 47) hx hb dX7_again_47 rfl (lv_at hl 0 rfl) ?_
    refine vMgRX7_412_0 (pc := 48) hx hb hts mU_1125 inU7 hown hK hP (x := (gI r19 6)) rfl dX7_again_48 ?_
    refine vMpRX7_195_0 (pc := 51) hx hb hts mU_384 inU7 hown hK hP hD hS dX7_again_51 (fun H locs hP hD hS => ?_)
    refine lv_iconst (pc := 54) hx hb (v := 0) dX7_again_54 (by decide) ?_
    refine lv_istore_n (pc := 55) hx hb (lv' := [(1, .int 0), (0, .ref (A 0))]) dX7_again_55 rfl hl (by decide) rfl (fun ls hl => ?_)
    obtain ⟨q56, hq56, hf⟩ := hf_b hf
    have hk56 : ∀ (H : Heap) (locs : List Loc) (ls : Array Slot), va_P D vwCl (wM A B q56) H → va_D Ad (wM A B q56) → va_S Ad s.heap H locs → lv_has ls 2 [(0, .ref (A 0))] → W p l e rm_X7_again s m args below meth c H locs 0 0 Q (F0 m 92 ls []) := by
      intro H locs ls hP hD hS hl
      refine lv_aload_n (pc := 92) hx hb dX7_again_92 rfl (lv_at hl 0 rfl) ?_
      refine vMgRX7_195_0 (pc := 93) hx hb hts mU_384 inU7 hown hK hP (x := (gI q56 2)) rfl dX7_again_93 ?_
      obtain rfl := Option.some.inj hf
      exact hR H locs 96 ls hP hD hS dX7_again_96
    have lp56 : ∀ (n : Nat) (T56 : w_S) (u1_56 : Int32) (H : Heap) (locs : List Loc) (ls : Array Slot), fX7_again_L56  n T56 u1_56 = some q56 → va_P D vwCl (wM A B T56) H → va_D Ad (wM A B T56) → va_S Ad s.heap H locs → lv_has ls 2 [(0, .ref (A 0)), (1, .int u1_56)] → W p l e rm_X7_again s m args below meth c H locs 0 0 Q (F0 m 56 ls []) := by
      intro n56
      induction n56 with
      | zero => intro T56 u1_56 H locs ls hq56; exact hf_0 hq56
      | succ n56 ih56 =>
        intro T56 u1_56 H locs ls hq56 hP hD hS hl
        rw [fX7_again_L56] at hq56
        refine lv_iload_n (pc := 56) hx hb dX7_again_56 rfl (lv_at hl 1 rfl) ?_
        refine lv_bipush (pc := 57) hx hb (v := 6) dX7_again_57 (by decide) ?_
        refine lv_icmp_ge (pc := 59) hx hb (tgt := 92) dX7_again_59 (by decide) (fun c_59 => ?_) (fun c_59 => ?_)
        · have hq56 := hf_t c_59 hq56
          obtain rfl := Option.some.inj hq56
          exact hk56 H locs ls hP hD hS (lv_sub hl [0] rfl)
        · have hq56 := hf_f c_59 hq56
          refine lv_aload_n (pc := 62) hx hb dX7_again_62 rfl (lv_at hl 0 rfl) ?_
          refine vMgRX7_29_0 (pc := 63) hx hb hts mU_87 inU7 hown hK hP dX7_again_63 ?_
          refine lv_iload_n (pc := 66) hx hb dX7_again_66 rfl (lv_at hl 1 rfl) ?_
          refine lv_aload_n (pc := 67) hx hb dX7_again_67 rfl (lv_at hl 0 rfl) ?_
          refine vMgRX7_35_0 (pc := 68) hx hb hts mU_89 inU7 hown hK hP dX7_again_68 ?_
          refine lv_iload_n (pc := 71) hx hb dX7_again_71 rfl (lv_at hl 1 rfl) ?_
          obtain ⟨hg72, hq56⟩ := hf_g hq56
          refine vMra_6 (pc := 72) hx hb hK hP (f := (gA T56 5)) rfl hg72 dX7_again_72 ?_
          obtain ⟨hg73, hq56⟩ := hf_g hq56
          refine vMwa_4 (pc := 73) hx hb hK hP hD hS (f := (gA T56 3)) rfl hg73 dX7_again_73 (fun H locs hP hD hS => ?_)
          refine lv_aload_n (pc := 74) hx hb dX7_again_74 rfl (lv_at hl 0 rfl) ?_
          refine vMgRX7_32_0 (pc := 75) hx hb hts mU_88 inU7 hown hK hP dX7_again_75 ?_
          refine lv_iload_n (pc := 78) hx hb dX7_again_78 rfl (lv_at hl 1 rfl) ?_
          refine lv_aload_n (pc := 79) hx hb dX7_again_79 rfl (lv_at hl 0 rfl) ?_
          refine vMgRX7_38_0 (pc := 80) hx hb hts mU_90 inU7 hown hK hP dX7_again_80 ?_
          refine lv_iload_n (pc := 83) hx hb dX7_again_83 rfl (lv_at hl 1 rfl) ?_
          obtain ⟨hg84, hq56⟩ := hf_g hq56
          refine vMra_7 (pc := 84) hx hb hK hP (f := (gA T56 6)) rfl hg84 dX7_again_84 ?_
          obtain ⟨hg85, hq56⟩ := hf_g hq56
          refine vMwa_5 (pc := 85) hx hb hK hP hD hS (f := (gA T56 4)) rfl hg85 dX7_again_85 (fun H locs hP hD hS => ?_)
          refine lv_iinc (pc := 86) hx hb (v := u1_56 + 1) (lv' := [(1, .int (u1_56 + 1)), (0, .ref (A 0))]) dX7_again_86 hl (k := 1) rfl rfl (by decide) rfl (fun ls hl => ?_)
          refine lv_goto (pc := 89) hx hb (tgt := 56) dX7_again_89 (by decide) ?_
          exact ih56 (sA (sA T56 3 (upd (gA T56 3) u1_56.toNatClampNeg ((gA T56 5) u1_56.toNatClampNeg))) 4 (upd (gA T56 4) u1_56.toNatClampNeg ((gA T56 6) u1_56.toNatClampNeg))) (u1_56 + 1) H locs ls hq56 hP hD hS (lv_sub hl [1, 0] rfl)
    exact lp56 256 (sI (sI (sI (sI r19 0 (gI r19 4)) 1 (gI r19 5)) 3 (gI r19 7)) 2 (gI r19 6)) 0 H locs ls hq56 hP hD hS (lv_sub hl [1, 0] rfl)
  · have hf := hf_t c_4 hf
    refine lv_bipush (pc := 7) hx hb (v := (-3)) dX7_again_7 (by decide) ?_
    obtain rfl := Option.some.inj hf
    exact hR H locs 9 ls hP hD hS dX7_again_9
