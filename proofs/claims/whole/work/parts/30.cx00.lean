set_option maxHeartbeats 4000000 in
set_option maxRecDepth 100000 in
theorem kJ7_fill_53178_2 (l : Launch) (D : va_G) (A : Nat → Nat) (B : Nat → ClassId) (sz : Nat) (S : w_S) (a1 : Int32) (z : w_S) (hf : fJ7_fill_53178_2 S a1 = some z) : MetW l yJ7_fill_53178 (wsO yJ7_fill_53178 cJ7_fill_53178 4 none) rm_J7_fill_53178 [.ref (A 2), .int a1] D (tyB B) (wX A B S) (wX A B z) sz (none) := by
  refine MetW.mkV (cc := cJ7_fill_53178) (maxL := 4) (by decide) (Nat.le_of_ble_eq_true rfl) ?_
  intro p e s m args below meth c Ad Q hx hb hts hown hml hN hK hA hR H locs ls hP hD hS hl
  have hl : lv_has ls 4 [(0, .ref (A 2)), (1, .int a1)] := hl
  rw [fJ7_fill_53178_2] at hf
  refine lv_iconst (pc := 0) hx hb (v := 0) dJ7_fill_53178_0 (by decide) ?_
  refine lv_istore_n (pc := 1) hx hb (lv' := [(2, .int 0), (0, .ref (A 2)), (1, .int a1)]) dJ7_fill_53178_1 rfl hl (by decide) rfl (fun ls hl => ?_)
  refine lv_aload_n (pc := 2) hx hb dJ7_fill_53178_2 rfl (lv_at hl 1 rfl) ?_
  refine vXln_2 (pc := 3) hx hb hK hP dJ7_fill_53178_3 ?_
  refine lv_istore_n (pc := 4) hx hb (lv' := [(3, .int 9), (2, .int 0), (0, .ref (A 2)), (1, .int a1)]) dJ7_fill_53178_4 rfl hl (by decide) rfl (fun ls hl => ?_)
  obtain ⟨q5, hq5, hf⟩ := hf_b hf
  have hk5 : ∀ (H : Heap) (locs : List Loc) (ls : Array Slot), va_P D vwCl (wX A B q5) H → va_D Ad (wX A B q5) → va_S Ad s.heap H locs → lv_has ls 4 [] → W p l e rm_J7_fill_53178 s m args below meth c H locs 0 0 Q (F0 m 20 ls []) := by
    intro H locs ls hP hD hS hl
    obtain rfl := Option.some.inj hf
    exact hR H locs 20 ls hP hD hS dJ7_fill_53178_20
  have lp5 : ∀ (n : Nat) (T5 : w_S) (u2_5 : Int32) (H : Heap) (locs : List Loc) (ls : Array Slot), fJ7_fill_53178_2_L5 a1 9 n T5 u2_5 = some q5 → va_P D vwCl (wX A B T5) H → va_D Ad (wX A B T5) → va_S Ad s.heap H locs → lv_has ls 4 [(0, .ref (A 2)), (1, .int a1), (2, .int u2_5), (3, .int 9)] → W p l e rm_J7_fill_53178 s m args below meth c H locs 0 0 Q (F0 m 5 ls []) := by
    intro n5
    induction n5 with
    | zero => intro T5 u2_5 H locs ls hq5; exact hf_0 hq5
    | succ n5 ih5 =>
      intro T5 u2_5 H locs ls hq5 hP hD hS hl
      rw [fJ7_fill_53178_2_L5] at hq5
      refine lv_iload_n (pc := 5) hx hb dJ7_fill_53178_5 rfl (lv_at hl 2 rfl) ?_
      refine lv_iload_n (pc := 6) hx hb dJ7_fill_53178_6 rfl (lv_at hl 3 rfl) ?_
      refine lv_icmp_ge (pc := 7) hx hb (tgt := 20) dJ7_fill_53178_7 (by decide) (fun c_7 => ?_) (fun c_7 => ?_)
      · have hq5 := hf_t c_7 hq5
        obtain rfl := Option.some.inj hq5
        exact hk5 H locs ls hP hD hS (lv_sub hl [] rfl)
      · have hq5 := hf_f c_7 hq5
        refine lv_aload_n (pc := 10) hx hb dJ7_fill_53178_10 rfl (lv_at hl 0 rfl) ?_
        refine lv_iload_n (pc := 11) hx hb dJ7_fill_53178_11 rfl (lv_at hl 2 rfl) ?_
        refine lv_iload_n (pc := 12) hx hb dJ7_fill_53178_12 rfl (lv_at hl 1 rfl) ?_
        obtain ⟨hg13, hq5⟩ := hf_g hq5
        refine vXwa_2 (pc := 13) hx hb hK hP hD hS (f := (gA T5 0)) rfl hg13 dJ7_fill_53178_13 (fun H locs hP hD hS => ?_)
        refine lv_iinc (pc := 14) hx hb (v := u2_5 + 1) (lv' := [(2, .int (u2_5 + 1)), (0, .ref (A 2)), (1, .int a1), (3, .int 9)]) dJ7_fill_53178_14 hl (k := 2) rfl rfl (by decide) rfl (fun ls hl => ?_)
        refine lv_goto (pc := 17) hx hb (tgt := 5) dJ7_fill_53178_17 (by decide) ?_
        exact ih5 (sA T5 0 (upd (gA T5 0) u2_5.toNatClampNeg a1)) (u2_5 + 1) H locs ls hq5 hP hD hS (lv_sub hl [1, 2, 0, 3] rfl)
  exact lp5 256 S 0 H locs ls hq5 hP hD hS (lv_sub hl [2, 3, 1, 0] rfl)
set_option maxHeartbeats 4000000 in
set_option maxRecDepth 100000 in
theorem kJ7_fill_53178_3 (l : Launch) (D : va_G) (A : Nat → Nat) (B : Nat → ClassId) (sz : Nat) (S : w_S) (a1 : Int32) (z : w_S) (hf : fJ7_fill_53178_3 S a1 = some z) : MetW l yJ7_fill_53178 (wsO yJ7_fill_53178 cJ7_fill_53178 4 none) rm_J7_fill_53178 [.ref (A 3), .int a1] D (tyB B) (wX A B S) (wX A B z) sz (none) := by
  refine MetW.mkV (cc := cJ7_fill_53178) (maxL := 4) (by decide) (Nat.le_of_ble_eq_true rfl) ?_
  intro p e s m args below meth c Ad Q hx hb hts hown hml hN hK hA hR H locs ls hP hD hS hl
  have hl : lv_has ls 4 [(0, .ref (A 3)), (1, .int a1)] := hl
  rw [fJ7_fill_53178_3] at hf
  refine lv_iconst (pc := 0) hx hb (v := 0) dJ7_fill_53178_0 (by decide) ?_
  refine lv_istore_n (pc := 1) hx hb (lv' := [(2, .int 0), (0, .ref (A 3)), (1, .int a1)]) dJ7_fill_53178_1 rfl hl (by decide) rfl (fun ls hl => ?_)
  refine lv_aload_n (pc := 2) hx hb dJ7_fill_53178_2 rfl (lv_at hl 1 rfl) ?_
  refine vXln_3 (pc := 3) hx hb hK hP dJ7_fill_53178_3 ?_
  refine lv_istore_n (pc := 4) hx hb (lv' := [(3, .int 9), (2, .int 0), (0, .ref (A 3)), (1, .int a1)]) dJ7_fill_53178_4 rfl hl (by decide) rfl (fun ls hl => ?_)
  obtain ⟨q5, hq5, hf⟩ := hf_b hf
  have hk5 : ∀ (H : Heap) (locs : List Loc) (ls : Array Slot), va_P D vwCl (wX A B q5) H → va_D Ad (wX A B q5) → va_S Ad s.heap H locs → lv_has ls 4 [] → W p l e rm_J7_fill_53178 s m args below meth c H locs 0 0 Q (F0 m 20 ls []) := by
    intro H locs ls hP hD hS hl
    obtain rfl := Option.some.inj hf
    exact hR H locs 20 ls hP hD hS dJ7_fill_53178_20
  have lp5 : ∀ (n : Nat) (T5 : w_S) (u2_5 : Int32) (H : Heap) (locs : List Loc) (ls : Array Slot), fJ7_fill_53178_3_L5 a1 9 n T5 u2_5 = some q5 → va_P D vwCl (wX A B T5) H → va_D Ad (wX A B T5) → va_S Ad s.heap H locs → lv_has ls 4 [(0, .ref (A 3)), (1, .int a1), (2, .int u2_5), (3, .int 9)] → W p l e rm_J7_fill_53178 s m args below meth c H locs 0 0 Q (F0 m 5 ls []) := by
    intro n5
    induction n5 with
    | zero => intro T5 u2_5 H locs ls hq5; exact hf_0 hq5
    | succ n5 ih5 =>
      intro T5 u2_5 H locs ls hq5 hP hD hS hl
      rw [fJ7_fill_53178_3_L5] at hq5
      refine lv_iload_n (pc := 5) hx hb dJ7_fill_53178_5 rfl (lv_at hl 2 rfl) ?_
      refine lv_iload_n (pc := 6) hx hb dJ7_fill_53178_6 rfl (lv_at hl 3 rfl) ?_
      refine lv_icmp_ge (pc := 7) hx hb (tgt := 20) dJ7_fill_53178_7 (by decide) (fun c_7 => ?_) (fun c_7 => ?_)
      · have hq5 := hf_t c_7 hq5
        obtain rfl := Option.some.inj hq5
        exact hk5 H locs ls hP hD hS (lv_sub hl [] rfl)
      · have hq5 := hf_f c_7 hq5
        refine lv_aload_n (pc := 10) hx hb dJ7_fill_53178_10 rfl (lv_at hl 0 rfl) ?_
        refine lv_iload_n (pc := 11) hx hb dJ7_fill_53178_11 rfl (lv_at hl 2 rfl) ?_
        refine lv_iload_n (pc := 12) hx hb dJ7_fill_53178_12 rfl (lv_at hl 1 rfl) ?_
        obtain ⟨hg13, hq5⟩ := hf_g hq5
        refine vXwa_3 (pc := 13) hx hb hK hP hD hS (f := (gA T5 1)) rfl hg13 dJ7_fill_53178_13 (fun H locs hP hD hS => ?_)
        refine lv_iinc (pc := 14) hx hb (v := u2_5 + 1) (lv' := [(2, .int (u2_5 + 1)), (0, .ref (A 3)), (1, .int a1), (3, .int 9)]) dJ7_fill_53178_14 hl (k := 2) rfl rfl (by decide) rfl (fun ls hl => ?_)
        refine lv_goto (pc := 17) hx hb (tgt := 5) dJ7_fill_53178_17 (by decide) ?_
        exact ih5 (sA T5 1 (upd (gA T5 1) u2_5.toNatClampNeg a1)) (u2_5 + 1) H locs ls hq5 hP hD hS (lv_sub hl [1, 2, 0, 3] rfl)
  exact lp5 256 S 0 H locs ls hq5 hP hD hS (lv_sub hl [2, 3, 1, 0] rfl)
set_option maxHeartbeats 4000000 in
set_option maxRecDepth 100000 in
theorem kJ7_fill_53178_4 (l : Launch) (D : va_G) (A : Nat → Nat) (B : Nat → ClassId) (sz : Nat) (S : w_S) (a1 : Int32) (z : w_S) (hf : fJ7_fill_53178_4 S a1 = some z) : MetW l yJ7_fill_53178 (wsO yJ7_fill_53178 cJ7_fill_53178 4 none) rm_J7_fill_53178 [.ref (A 4), .int a1] D (tyB B) (wX A B S) (wX A B z) sz (none) := by
  refine MetW.mkV (cc := cJ7_fill_53178) (maxL := 4) (by decide) (Nat.le_of_ble_eq_true rfl) ?_
  intro p e s m args below meth c Ad Q hx hb hts hown hml hN hK hA hR H locs ls hP hD hS hl
  have hl : lv_has ls 4 [(0, .ref (A 4)), (1, .int a1)] := hl
  rw [fJ7_fill_53178_4] at hf
  refine lv_iconst (pc := 0) hx hb (v := 0) dJ7_fill_53178_0 (by decide) ?_
  refine lv_istore_n (pc := 1) hx hb (lv' := [(2, .int 0), (0, .ref (A 4)), (1, .int a1)]) dJ7_fill_53178_1 rfl hl (by decide) rfl (fun ls hl => ?_)
  refine lv_aload_n (pc := 2) hx hb dJ7_fill_53178_2 rfl (lv_at hl 1 rfl) ?_
  refine vXln_4 (pc := 3) hx hb hK hP dJ7_fill_53178_3 ?_
  refine lv_istore_n (pc := 4) hx hb (lv' := [(3, .int 9), (2, .int 0), (0, .ref (A 4)), (1, .int a1)]) dJ7_fill_53178_4 rfl hl (by decide) rfl (fun ls hl => ?_)
  obtain ⟨q5, hq5, hf⟩ := hf_b hf
  have hk5 : ∀ (H : Heap) (locs : List Loc) (ls : Array Slot), va_P D vwCl (wX A B q5) H → va_D Ad (wX A B q5) → va_S Ad s.heap H locs → lv_has ls 4 [] → W p l e rm_J7_fill_53178 s m args below meth c H locs 0 0 Q (F0 m 20 ls []) := by
    intro H locs ls hP hD hS hl
    obtain rfl := Option.some.inj hf
    exact hR H locs 20 ls hP hD hS dJ7_fill_53178_20
  have lp5 : ∀ (n : Nat) (T5 : w_S) (u2_5 : Int32) (H : Heap) (locs : List Loc) (ls : Array Slot), fJ7_fill_53178_4_L5 a1 9 n T5 u2_5 = some q5 → va_P D vwCl (wX A B T5) H → va_D Ad (wX A B T5) → va_S Ad s.heap H locs → lv_has ls 4 [(0, .ref (A 4)), (1, .int a1), (2, .int u2_5), (3, .int 9)] → W p l e rm_J7_fill_53178 s m args below meth c H locs 0 0 Q (F0 m 5 ls []) := by
    intro n5
    induction n5 with
    | zero => intro T5 u2_5 H locs ls hq5; exact hf_0 hq5
    | succ n5 ih5 =>
      intro T5 u2_5 H locs ls hq5 hP hD hS hl
      rw [fJ7_fill_53178_4_L5] at hq5
      refine lv_iload_n (pc := 5) hx hb dJ7_fill_53178_5 rfl (lv_at hl 2 rfl) ?_
      refine lv_iload_n (pc := 6) hx hb dJ7_fill_53178_6 rfl (lv_at hl 3 rfl) ?_
      refine lv_icmp_ge (pc := 7) hx hb (tgt := 20) dJ7_fill_53178_7 (by decide) (fun c_7 => ?_) (fun c_7 => ?_)
      · have hq5 := hf_t c_7 hq5
        obtain rfl := Option.some.inj hq5
        exact hk5 H locs ls hP hD hS (lv_sub hl [] rfl)
      · have hq5 := hf_f c_7 hq5
        refine lv_aload_n (pc := 10) hx hb dJ7_fill_53178_10 rfl (lv_at hl 0 rfl) ?_
        refine lv_iload_n (pc := 11) hx hb dJ7_fill_53178_11 rfl (lv_at hl 2 rfl) ?_
        refine lv_iload_n (pc := 12) hx hb dJ7_fill_53178_12 rfl (lv_at hl 1 rfl) ?_
        obtain ⟨hg13, hq5⟩ := hf_g hq5
        refine vXwa_4 (pc := 13) hx hb hK hP hD hS (f := (gA T5 2)) rfl hg13 dJ7_fill_53178_13 (fun H locs hP hD hS => ?_)
        refine lv_iinc (pc := 14) hx hb (v := u2_5 + 1) (lv' := [(2, .int (u2_5 + 1)), (0, .ref (A 4)), (1, .int a1), (3, .int 9)]) dJ7_fill_53178_14 hl (k := 2) rfl rfl (by decide) rfl (fun ls hl => ?_)
        refine lv_goto (pc := 17) hx hb (tgt := 5) dJ7_fill_53178_17 (by decide) ?_
        exact ih5 (sA T5 2 (upd (gA T5 2) u2_5.toNatClampNeg a1)) (u2_5 + 1) H locs ls hq5 hP hD hS (lv_sub hl [1, 2, 0, 3] rfl)
  exact lp5 256 S 0 H locs ls hq5 hP hD hS (lv_sub hl [2, 3, 1, 0] rfl)
set_option maxHeartbeats 4000000 in
set_option maxRecDepth 100000 in
theorem kX4_resize_1 (l : Launch) (D : va_G) (A : Nat → Nat) (B : Nat → ClassId) (sz : Nat) (S : w_S) (a1 : Int32) (a2 : Int32) (z : w_S) (hf : fX4_resize_1 S a1 a2 = some z) : MetW l yX4_resize (wsO yX4_resize cX4_resize 3 none) rm_X4_resize [.ref (A 1), .int a1, .int a2] D (tyB B) (wX A B S) (wX A B z) sz (none) := by
  refine MetW.mkV (cc := cX4_resize) (maxL := 3) (by decide) (Nat.le_of_ble_eq_true rfl) ?_
  intro p e s m args below meth c Ad Q hx hb hts hown hml hN hK hA hR H locs ls hP hD hS hl
  have hl : lv_has ls 3 [(0, .ref (A 1)), (1, .int a1), (2, .int a2)] := hl
  rw [fX4_resize_1] at hf
  refine lv_aload_n (pc := 0) hx hb dX4_resize_0 rfl (lv_at hl 0 rfl) ?_
  refine lv_iload_n (pc := 1) hx hb dX4_resize_1 rfl (lv_at hl 1 rfl) ?_
  refine vXpRX4_9_1 (pc := 2) hx hb hts mU_43 inU4 hown hK hP hD hS dX4_resize_2 (fun H locs hP hD hS => ?_)
  refine lv_aload_n (pc := 5) hx hb dX4_resize_5 rfl (lv_at hl 0 rfl) ?_
  refine lv_iload_n (pc := 6) hx hb dX4_resize_6 rfl (lv_at hl 2 rfl) ?_
  refine vXpRX4_15_1 (pc := 7) hx hb hts mU_44 inU4 hown hK hP hD hS dX4_resize_7 (fun H locs hP hD hS => ?_)
  refine lv_aload_n (pc := 10) hx hb dX4_resize_10 rfl (lv_at hl 0 rfl) ?_
  refine vXgRX4_21_1 (pc := 11) hx hb hts mU_47 inU4 hown hK hP dX4_resize_11 ?_
  refine lv_iconst (pc := 14) hx hb (v := 0) dX4_resize_14 (by decide) ?_
  obtain ⟨r15, hc15, hf⟩ := hf_b hf
  refine cl_S (pc := 15) (As := [.ref (A 2), .int 0]) (rest := []) hx hb hml hown hts (kJ7_fill_53178_2 l D A B _ (sI (sI S 0 a1) 1 a2) 0 r15 hc15) (va_cwS 2 hts gwRX4_46 rfl rfl rfl hdJ7_fill_53178 ⟨Nat.le_of_ble_eq_true rfl, Nat.le_of_ble_eq_true rfl⟩) hN hK hP hD hS hA rfl hl.1 rfl (Nat.le_of_ble_eq_true rfl) dX4_resize_15 (st1 := []) rfl ⟨Nat.zero_le _, Nat.zero_le _⟩ (fun H locs hP hD hS => ?_)
  refine lv_aload_n (pc := 18) hx hb dX4_resize_18 rfl (lv_at hl 0 rfl) ?_
  refine vXgRX4_25_1 (pc := 19) hx hb hts mU_48 inU4 hown hK hP dX4_resize_19 ?_
  refine lv_iconst (pc := 22) hx hb (v := 0) dX4_resize_22 (by decide) ?_
  obtain ⟨r23, hc23, hf⟩ := hf_b hf
  refine cl_S (pc := 23) (As := [.ref (A 3), .int 0]) (rest := []) hx hb hml hown hts (kJ7_fill_53178_3 l D A B _ r15 0 r23 hc23) (va_cwS 2 hts gwRX4_46 rfl rfl rfl hdJ7_fill_53178 ⟨Nat.le_of_ble_eq_true rfl, Nat.le_of_ble_eq_true rfl⟩) hN hK hP hD hS hA rfl hl.1 rfl (Nat.le_of_ble_eq_true rfl) dX4_resize_23 (st1 := []) rfl ⟨Nat.zero_le _, Nat.zero_le _⟩ (fun H locs hP hD hS => ?_)
  refine lv_aload_n (pc := 26) hx hb dX4_resize_26 rfl (lv_at hl 0 rfl) ?_
  refine vXgRX4_28_1 (pc := 27) hx hb hts mU_49 inU4 hown hK hP dX4_resize_27 ?_
  refine lv_iconst (pc := 30) hx hb (v := 0) dX4_resize_30 (by decide) ?_
  obtain ⟨r31, hc31, hf⟩ := hf_b hf
  refine cl_S (pc := 31) (As := [.ref (A 4), .int 0]) (rest := []) hx hb hml hown hts (kJ7_fill_53178_4 l D A B _ r23 0 r31 hc31) (va_cwS 2 hts gwRX4_46 rfl rfl rfl hdJ7_fill_53178 ⟨Nat.le_of_ble_eq_true rfl, Nat.le_of_ble_eq_true rfl⟩) hN hK hP hD hS hA rfl hl.1 rfl (Nat.le_of_ble_eq_true rfl) dX4_resize_31 (st1 := []) rfl ⟨Nat.zero_le _, Nat.zero_le _⟩ (fun H locs hP hD hS => ?_)
  obtain rfl := Option.some.inj hf
  exact hR H locs 34 ls hP hD hS dX4_resize_34
set_option maxHeartbeats 4000000 in
set_option maxRecDepth 100000 in
theorem kX6_size (l : Launch) (D : va_G) (A : Nat → Nat) (B : Nat → ClassId) (sz : Nat) (S : w_S) (a1 : Int32) (a2 : Int32) (z : Int32 × w_S) (hf : fX6_size S a1 a2 = some z) : MetW l yX6_size (wsO yX6_size cX6_size 4 (some .int)) rm_X6_size [.ref (A 0), .int a1, .int a2] D (tyB B) (wX A B S) (wX A B z.2) sz (some (.int z.1)) := by
  refine MetW.mkI (cc := cX6_size) (maxL := 4) (by decide) (Nat.le_of_ble_eq_true rfl) ?_
  intro p e s m args below meth c Ad Q hx hb hts hown hml hN hK hA hR H locs ls hP hD hS hl
  have hl : lv_has ls 4 [(0, .ref (A 0)), (1, .int a1), (2, .int a2)] := hl
  rw [fX6_size] at hf
  refine lv_iload_n (pc := 0) hx hb dX6_size_0 rfl (lv_at hl 1 rfl) ?_
  refine lv_iconst (pc := 1) hx hb (v := 1) dX6_size_1 (by decide) ?_
  refine lv_icmp_lt (pc := 2) hx hb (tgt := 20) dX6_size_2 (by decide) (fun c_2 => ?_) (fun c_2 => ?_)
  · have hf := hf_t c_2 hf
    refine lv_iconst (pc := 20) hx hb (v := (-1)) dX6_size_20 (by decide) ?_
    obtain rfl := Option.some.inj hf
    exact hR H locs 21 ls hP hD hS dX6_size_21
  · have hf := hf_f c_2 hf
    refine lv_iload_n (pc := 5) hx hb dX6_size_5 rfl (lv_at hl 1 rfl) ?_
    refine lv_iconst (pc := 6) hx hb (v := 3) dX6_size_6 (by decide) ?_
    refine lv_icmp_gt (pc := 7) hx hb (tgt := 20) dX6_size_7 (by decide) (fun c_7 => ?_) (fun c_7 => ?_)
    · have hf := hf_t c_7 hf
      refine lv_iconst (pc := 20) hx hb (v := (-1)) dX6_size_20 (by decide) ?_
      obtain rfl := Option.some.inj hf
      exact hR H locs 21 ls hP hD hS dX6_size_21
    · have hf := hf_f c_7 hf
      refine lv_iload_n (pc := 10) hx hb dX6_size_10 rfl (lv_at hl 2 rfl) ?_
      refine lv_iconst (pc := 11) hx hb (v := 1) dX6_size_11 (by decide) ?_
      refine lv_icmp_lt (pc := 12) hx hb (tgt := 20) dX6_size_12 (by decide) (fun c_12 => ?_) (fun c_12 => ?_)
      · have hf := hf_t c_12 hf
        refine lv_iconst (pc := 20) hx hb (v := (-1)) dX6_size_20 (by decide) ?_
        obtain rfl := Option.some.inj hf
        exact hR H locs 21 ls hP hD hS dX6_size_21
      · have hf := hf_f c_12 hf
        refine lv_iload_n (pc := 15) hx hb dX6_size_15 rfl (lv_at hl 2 rfl) ?_
        refine lv_iconst (pc := 16) hx hb (v := 3) dX6_size_16 (by decide) ?_
        refine lv_icmp_le (pc := 17) hx hb (tgt := 22) dX6_size_17 (by decide) (fun c_17 => ?_) (fun c_17 => ?_)
        · have hf := hf_t c_17 hf
          refine lv_bipush (pc := 22) hx hb (v := 10) dX6_size_22 (by decide) ?_
          refine lv_aload_n (pc := 24) hx hb dX6_size_24 rfl (lv_at hl 0 rfl) ?_
          refine vXgRX6_10_0 (pc := 25) hx hb hts mU_16 inU6 hown hK hP dX6_size_25 ?_
          refine vXgRX6_60_1 (pc := 28) hx hb hts mU_111 inU4 hown hK hP (x := (gI S 0)) rfl dX6_size_28 ?_
          refine lv_imul (pc := 31) hx hb dX6_size_31 ?_
          refine lv_aload_n (pc := 32) hx hb dX6_size_32 rfl (lv_at hl 0 rfl) ?_
          refine vXgRX6_10_0 (pc := 33) hx hb hts mU_16 inU6 hown hK hP dX6_size_33 ?_
          refine vXgRX6_64_1 (pc := 36) hx hb hts mU_112 inU4 hown hK hP (x := (gI S 1)) rfl dX6_size_36 ?_
          refine lv_iadd (pc := 39) hx hb dX6_size_39 ?_
          refine lv_istore_n (pc := 40) hx hb (lv' := [(3, .int ((10 * (gI S 0)) + (gI S 1))), (0, .ref (A 0)), (1, .int a1), (2, .int a2)]) dX6_size_40 rfl hl (by decide) rfl (fun ls hl => ?_)
          refine lv_aload_n (pc := 41) hx hb dX6_size_41 rfl (lv_at hl 1 rfl) ?_
          refine vXgRX6_10_0 (pc := 42) hx hb hts mU_16 inU6 hown hK hP dX6_size_42 ?_
          refine lv_iload_n (pc := 45) hx hb dX6_size_45 rfl (lv_at hl 2 rfl) ?_
          refine lv_iload_n (pc := 46) hx hb dX6_size_46 rfl (lv_at hl 3 rfl) ?_
          obtain ⟨r47, hc47, hf⟩ := hf_b hf
          refine cl_V (pc := 47) (As := [.int a1, .int a2]) (rest := []) hx hb hml hown hts (kX4_resize_1 l D A B _ S a1 a2 r47 hc47) (cwV 2 hts gwRX6_67 rfl rfl rfl hdX4_resize ⟨Nat.le_of_ble_eq_true rfl, Nat.le_of_ble_eq_true rfl⟩) hN hK hP hD hS hA (va_recv hK hP (ci := 4) (q0 := 1) rfl (eX_1 A B _)) rfl hl.1 rfl (Nat.le_of_ble_eq_true rfl) dX6_size_47 (st1 := []) rfl ⟨Nat.zero_le _, Nat.zero_le _⟩ (fun H locs hP hD hS => ?_)
          refine lv_iload_n (pc := 50) hx hb dX6_size_50 rfl (lv_at hl 0 rfl) ?_
          obtain rfl := Option.some.inj hf
          exact hR H locs 51 ls hP hD hS dX6_size_51
        · have hf := hf_f c_17 hf
          refine lv_iconst (pc := 20) hx hb (v := (-1)) dX6_size_20 (by decide) ?_
          obtain rfl := Option.some.inj hf
          exact hR H locs 21 ls hP hD hS dX6_size_21
set_option maxHeartbeats 4000000 in
set_option maxRecDepth 100000 in
theorem kX4_isRoom (l : Launch) (D : va_G) (A : Nat → Nat) (B : Nat → ClassId) (sz : Nat) (S : w_S) (a0 : Int32) (a1 : Int32) (z : Int32) (hf : fX4_isRoom a0 a1 = some z) : MetW l yX4_isRoom (wsO yX4_isRoom cX4_isRoom 2 (some .boolean)) rm_X4_isRoom [.int a0, .int a1] D (tyB B) (wX A B S) (wX A B S) sz (some (.int z)) := by
  refine MetW.mkZ (cc := cX4_isRoom) (maxL := 2) (by decide) (Nat.le_of_ble_eq_true rfl) ?_
  intro p e s m args below meth c Ad Q hx hb hts hown hml hN hK hA hR H locs ls hP hD hS hl
  have hl : lv_has ls 2 [(0, .int a0), (1, .int a1)] := hl
  rw [fX4_isRoom] at hf
  refine lv_iload_n (pc := 0) hx hb dX4_isRoom_0 rfl (lv_at hl 0 rfl) ?_
  refine lv_if_lt (pc := 1) hx hb (tgt := 22) dX4_isRoom_1 (by decide) (fun c_1 => ?_) (fun c_1 => ?_)
  · have hf := hf_t c_1 hf
    refine lv_iconst (pc := 22) hx hb (v := 0) dX4_isRoom_22 (by decide) ?_
    obtain rfl := Option.some.inj hf
    exact hR H locs 23 ls hP hD hS (nz_of (.inl rfl)) dX4_isRoom_23
  · have hf := hf_f c_1 hf
    refine lv_iload_n (pc := 4) hx hb dX4_isRoom_4 rfl (lv_at hl 0 rfl) ?_
    refine lv_iconst (pc := 5) hx hb (v := 3) dX4_isRoom_5 (by decide) ?_
    refine lv_icmp_ge (pc := 6) hx hb (tgt := 22) dX4_isRoom_6 (by decide) (fun c_6 => ?_) (fun c_6 => ?_)
    · have hf := hf_t c_6 hf
      refine lv_iconst (pc := 22) hx hb (v := 0) dX4_isRoom_22 (by decide) ?_
      obtain rfl := Option.some.inj hf
      exact hR H locs 23 ls hP hD hS (nz_of (.inl rfl)) dX4_isRoom_23
    · have hf := hf_f c_6 hf
      refine lv_iload_n (pc := 9) hx hb dX4_isRoom_9 rfl (lv_at hl 1 rfl) ?_
      refine lv_if_lt (pc := 10) hx hb (tgt := 22) dX4_isRoom_10 (by decide) (fun c_10 => ?_) (fun c_10 => ?_)
      · have hf := hf_t c_10 hf
        refine lv_iconst (pc := 22) hx hb (v := 0) dX4_isRoom_22 (by decide) ?_
        obtain rfl := Option.some.inj hf
        exact hR H locs 23 ls hP hD hS (nz_of (.inl rfl)) dX4_isRoom_23
      · have hf := hf_f c_10 hf
        refine lv_iload_n (pc := 13) hx hb dX4_isRoom_13 rfl (lv_at hl 1 rfl) ?_
        refine lv_iconst (pc := 14) hx hb (v := 3) dX4_isRoom_14 (by decide) ?_
        refine lv_icmp_ge (pc := 15) hx hb (tgt := 22) dX4_isRoom_15 (by decide) (fun c_15 => ?_) (fun c_15 => ?_)
        · have hf := hf_t c_15 hf
          refine lv_iconst (pc := 22) hx hb (v := 0) dX4_isRoom_22 (by decide) ?_
          obtain rfl := Option.some.inj hf
          exact hR H locs 23 ls hP hD hS (nz_of (.inl rfl)) dX4_isRoom_23
        · have hf := hf_f c_15 hf
          refine lv_iconst (pc := 18) hx hb (v := 1) dX4_isRoom_18 (by decide) ?_
          refine lv_goto (pc := 19) hx hb (tgt := 23) dX4_isRoom_19 (by decide) ?_
          obtain rfl := Option.some.inj hf
          exact hR H locs 23 ls hP hD hS (nz_of (.inr rfl)) dX4_isRoom_23
set_option maxHeartbeats 4000000 in
set_option maxRecDepth 100000 in
theorem kX4_entry_1 (l : Launch) (D : va_G) (A : Nat → Nat) (B : Nat → ClassId) (sz : Nat) (S : w_S) (a1 : Int32) (a2 : Int32) (a3 : Int32) (z : Int32) (hf : fX4_entry_1 S a1 a2 a3 = some z) : MetW l yX4_entry (wsO yX4_entry cX4_entry 5 (some .int)) rm_X4_entry [.ref (A 1), .int a1, .int a2, .int a3] D (tyB B) (wX A B S) (wX A B S) sz (some (.int z)) := by
  refine MetW.mkI (cc := cX4_entry) (maxL := 5) (by decide) (Nat.le_of_ble_eq_true rfl) ?_
  intro p e s m args below meth c Ad Q hx hb hts hown hml hN hK hA hR H locs ls hP hD hS hl
  have hl : lv_has ls 5 [(0, .ref (A 1)), (1, .int a1), (2, .int a2), (3, .int a3)] := hl
  rw [fX4_entry_1] at hf
  refine lv_iload_n (pc := 0) hx hb dX4_entry_0 rfl (lv_at hl 1 rfl) ?_
  refine lv_if_ne (pc := 1) hx hb (tgt := 11) dX4_entry_1 (by decide) (fun c_1 => ?_) (fun c_1 => ?_)
  · have hf := hf_f c_1 hf
    refine lv_iload_n (pc := 11) hx hb dX4_entry_11 rfl (lv_at hl 1 rfl) ?_
    refine lv_iconst (pc := 12) hx hb (v := 1) dX4_entry_12 (by decide) ?_
    refine lv_icmp_ne (pc := 13) hx hb (tgt := 23) dX4_entry_13 (by decide) (fun c_13 => ?_) (fun c_13 => ?_)
    · have hf := hf_f c_13 hf
      refine lv_aload_n (pc := 23) hx hb dX4_entry_23 rfl (lv_at hl 0 rfl) ?_
      refine vXgRX4_28_1 (pc := 24) hx hb hts mU_49 inU4 hown hK hP dX4_entry_24 ?_
      refine lv_astore (pc := 27) hx hb (lv' := [(4, .ref (A 4)), (0, .ref (A 1)), (1, .int a1), (2, .int a2), (3, .int a3)]) dX4_entry_27 hl (by decide) rfl (fun ls hl => ?_)
      refine lv_iload_n (pc := 29) hx hb dX4_entry_29 rfl (lv_at hl 3 rfl) ?_
      refine lv_iload_n (pc := 30) hx hb dX4_entry_30 rfl (lv_at hl 4 rfl) ?_
      obtain ⟨r31, hc31, hf⟩ := hf_b hf
      refine cl_S (pc := 31) (As := [.int a2, .int a3]) (rest := []) hx hb hml hown hts (kX4_isRoom l D A B _ S a2 a3 r31 hc31) (va_cwS 2 hts gwRX4_59 rfl rfl rfl hdX4_isRoom ⟨Nat.le_of_ble_eq_true rfl, Nat.le_of_ble_eq_true rfl⟩) hN hK hP hD hS hA rfl hl.1 rfl (Nat.le_of_ble_eq_true rfl) dX4_entry_31 (st1 := [.int r31]) rfl ⟨Nat.zero_le _, Nat.zero_le _⟩ (fun H locs hP hD hS => ?_)
      refine lv_if_eq (pc := 34) hx hb (tgt := 48) dX4_entry_34 (by decide) (fun c_34 => ?_) (fun c_34 => ?_)
      · have hf := hf_t c_34 hf
        refine lv_iconst (pc := 48) hx hb (v := 0) dX4_entry_48 (by decide) ?_
        obtain rfl := Option.some.inj hf
        exact hR H locs 49 ls hP hD hS dX4_entry_49
      · have hf := hf_f c_34 hf
        refine lv_aload (pc := 37) hx hb dX4_entry_37 (lv_at hl 0 rfl) ?_
        refine lv_iload_n (pc := 39) hx hb dX4_entry_39 rfl (lv_at hl 3 rfl) ?_
        refine lv_iconst (pc := 40) hx hb (v := 3) dX4_entry_40 (by decide) ?_
        refine lv_imul (pc := 41) hx hb dX4_entry_41 ?_
        refine lv_iload_n (pc := 42) hx hb dX4_entry_42 rfl (lv_at hl 4 rfl) ?_
        refine lv_iadd (pc := 43) hx hb dX4_entry_43 ?_
        obtain ⟨hg44, hf⟩ := hf_g hf
        refine vXra_4 (pc := 44) hx hb hK hP (f := (gA S 2)) rfl hg44 dX4_entry_44 ?_
        refine lv_goto (pc := 45) hx hb (tgt := 49) dX4_entry_45 (by decide) ?_
        obtain rfl := Option.some.inj hf
        exact hR H locs 49 ls hP hD hS dX4_entry_49
    · have hf := hf_t c_13 hf
      refine lv_aload_n (pc := 16) hx hb dX4_entry_16 rfl (lv_at hl 0 rfl) ?_
      refine vXgRX4_25_1 (pc := 17) hx hb hts mU_48 inU4 hown hK hP dX4_entry_17 ?_
      refine lv_goto (pc := 20) hx hb (tgt := 27) dX4_entry_20 (by decide) ?_
      refine lv_astore (pc := 27) hx hb (lv' := [(4, .ref (A 3)), (0, .ref (A 1)), (1, .int a1), (2, .int a2), (3, .int a3)]) dX4_entry_27 hl (by decide) rfl (fun ls hl => ?_)
      refine lv_iload_n (pc := 29) hx hb dX4_entry_29 rfl (lv_at hl 3 rfl) ?_
      refine lv_iload_n (pc := 30) hx hb dX4_entry_30 rfl (lv_at hl 4 rfl) ?_
      obtain ⟨r31, hc31, hf⟩ := hf_b hf
      refine cl_S (pc := 31) (As := [.int a2, .int a3]) (rest := []) hx hb hml hown hts (kX4_isRoom l D A B _ S a2 a3 r31 hc31) (va_cwS 2 hts gwRX4_59 rfl rfl rfl hdX4_isRoom ⟨Nat.le_of_ble_eq_true rfl, Nat.le_of_ble_eq_true rfl⟩) hN hK hP hD hS hA rfl hl.1 rfl (Nat.le_of_ble_eq_true rfl) dX4_entry_31 (st1 := [.int r31]) rfl ⟨Nat.zero_le _, Nat.zero_le _⟩ (fun H locs hP hD hS => ?_)
      refine lv_if_eq (pc := 34) hx hb (tgt := 48) dX4_entry_34 (by decide) (fun c_34 => ?_) (fun c_34 => ?_)
      · have hf := hf_t c_34 hf
        refine lv_iconst (pc := 48) hx hb (v := 0) dX4_entry_48 (by decide) ?_
        obtain rfl := Option.some.inj hf
        exact hR H locs 49 ls hP hD hS dX4_entry_49
      · have hf := hf_f c_34 hf
        refine lv_aload (pc := 37) hx hb dX4_entry_37 (lv_at hl 0 rfl) ?_
        refine lv_iload_n (pc := 39) hx hb dX4_entry_39 rfl (lv_at hl 3 rfl) ?_
        refine lv_iconst (pc := 40) hx hb (v := 3) dX4_entry_40 (by decide) ?_
        refine lv_imul (pc := 41) hx hb dX4_entry_41 ?_
        refine lv_iload_n (pc := 42) hx hb dX4_entry_42 rfl (lv_at hl 4 rfl) ?_
        refine lv_iadd (pc := 43) hx hb dX4_entry_43 ?_
        obtain ⟨hg44, hf⟩ := hf_g hf
        refine vXra_3 (pc := 44) hx hb hK hP (f := (gA S 1)) rfl hg44 dX4_entry_44 ?_
        refine lv_goto (pc := 45) hx hb (tgt := 49) dX4_entry_45 (by decide) ?_
        obtain rfl := Option.some.inj hf
        exact hR H locs 49 ls hP hD hS dX4_entry_49
  · have hf := hf_t c_1 hf
    refine lv_aload_n (pc := 4) hx hb dX4_entry_4 rfl (lv_at hl 0 rfl) ?_
    refine vXgRX4_21_1 (pc := 5) hx hb hts mU_47 inU4 hown hK hP dX4_entry_5 ?_
    refine lv_goto (pc := 8) hx hb (tgt := 27) dX4_entry_8 (by decide) ?_
    refine lv_astore (pc := 27) hx hb (lv' := [(4, .ref (A 2)), (0, .ref (A 1)), (1, .int a1), (2, .int a2), (3, .int a3)]) dX4_entry_27 hl (by decide) rfl (fun ls hl => ?_)
    refine lv_iload_n (pc := 29) hx hb dX4_entry_29 rfl (lv_at hl 3 rfl) ?_
    refine lv_iload_n (pc := 30) hx hb dX4_entry_30 rfl (lv_at hl 4 rfl) ?_
    obtain ⟨r31, hc31, hf⟩ := hf_b hf
    refine cl_S (pc := 31) (As := [.int a2, .int a3]) (rest := []) hx hb hml hown hts (kX4_isRoom l D A B _ S a2 a3 r31 hc31) (va_cwS 2 hts gwRX4_59 rfl rfl rfl hdX4_isRoom ⟨Nat.le_of_ble_eq_true rfl, Nat.le_of_ble_eq_true rfl⟩) hN hK hP hD hS hA rfl hl.1 rfl (Nat.le_of_ble_eq_true rfl) dX4_entry_31 (st1 := [.int r31]) rfl ⟨Nat.zero_le _, Nat.zero_le _⟩ (fun H locs hP hD hS => ?_)
    refine lv_if_eq (pc := 34) hx hb (tgt := 48) dX4_entry_34 (by decide) (fun c_34 => ?_) (fun c_34 => ?_)
    · have hf := hf_t c_34 hf
      refine lv_iconst (pc := 48) hx hb (v := 0) dX4_entry_48 (by decide) ?_
      obtain rfl := Option.some.inj hf
      exact hR H locs 49 ls hP hD hS dX4_entry_49
    · have hf := hf_f c_34 hf
      refine lv_aload (pc := 37) hx hb dX4_entry_37 (lv_at hl 0 rfl) ?_
      refine lv_iload_n (pc := 39) hx hb dX4_entry_39 rfl (lv_at hl 3 rfl) ?_
      refine lv_iconst (pc := 40) hx hb (v := 3) dX4_entry_40 (by decide) ?_
      refine lv_imul (pc := 41) hx hb dX4_entry_41 ?_
      refine lv_iload_n (pc := 42) hx hb dX4_entry_42 rfl (lv_at hl 4 rfl) ?_
      refine lv_iadd (pc := 43) hx hb dX4_entry_43 ?_
      obtain ⟨hg44, hf⟩ := hf_g hf
      refine vXra_2 (pc := 44) hx hb hK hP (f := (gA S 0)) rfl hg44 dX4_entry_44 ?_
      refine lv_goto (pc := 45) hx hb (tgt := 49) dX4_entry_45 (by decide) ?_
      obtain rfl := Option.some.inj hf
      exact hR H locs 49 ls hP hD hS dX4_entry_49
set_option maxHeartbeats 4000000 in
set_option maxRecDepth 100000 in
theorem kX4_columns_1 (l : Launch) (D : va_G) (A : Nat → Nat) (B : Nat → ClassId) (sz : Nat) (S : w_S) (a1 : Int32) (z : Int32) (hf : fX4_columns_1 S a1 = some z) : MetW l yX4_columns (wsO yX4_columns cX4_columns 2 (some .int)) rm_X4_columns [.ref (A 1), .int a1] D (tyB B) (wX A B S) (wX A B S) sz (some (.int z)) := by
  refine MetW.mkI (cc := cX4_columns) (maxL := 2) (by decide) (Nat.le_of_ble_eq_true rfl) ?_
  intro p e s m args below meth c Ad Q hx hb hts hown hml hN hK hA hR H locs ls hP hD hS hl
  have hl : lv_has ls 2 [(0, .ref (A 1)), (1, .int a1)] := hl
  rw [fX4_columns_1] at hf
  refine lv_iload_n (pc := 0) hx hb dX4_columns_0 rfl (lv_at hl 1 rfl) ?_
  refine lv_if_ne (pc := 1) hx hb (tgt := 11) dX4_columns_1 (by decide) (fun c_1 => ?_) (fun c_1 => ?_)
  · have hf := hf_f c_1 hf
    refine lv_aload_n (pc := 11) hx hb dX4_columns_11 rfl (lv_at hl 0 rfl) ?_
    refine vXgRX4_15_1 (pc := 12) hx hb hts mU_44 inU4 hown hK hP (x := (gI S 1)) rfl dX4_columns_12 ?_
    obtain rfl := Option.some.inj hf
    exact hR H locs 15 ls hP hD hS dX4_columns_15
  · have hf := hf_t c_1 hf
    refine lv_aload_n (pc := 4) hx hb dX4_columns_4 rfl (lv_at hl 0 rfl) ?_
    refine vXgRX4_9_1 (pc := 5) hx hb hts mU_43 inU4 hown hK hP (x := (gI S 0)) rfl dX4_columns_5 ?_
    refine lv_goto (pc := 8) hx hb (tgt := 15) dX4_columns_8 (by decide) ?_
    obtain rfl := Option.some.inj hf
    exact hR H locs 15 ls hP hD hS dX4_columns_15
set_option maxHeartbeats 4000000 in
set_option maxRecDepth 100000 in
theorem kX4_rows_1 (l : Launch) (D : va_G) (A : Nat → Nat) (B : Nat → ClassId) (sz : Nat) (S : w_S) (a1 : Int32) (z : Int32) (hf : fX4_rows_1 S a1 = some z) : MetW l yX4_rows (wsO yX4_rows cX4_rows 2 (some .int)) rm_X4_rows [.ref (A 1), .int a1] D (tyB B) (wX A B S) (wX A B S) sz (some (.int z)) := by
  refine MetW.mkI (cc := cX4_rows) (maxL := 2) (by decide) (Nat.le_of_ble_eq_true rfl) ?_
  intro p e s m args below meth c Ad Q hx hb hts hown hml hN hK hA hR H locs ls hP hD hS hl
  have hl : lv_has ls 2 [(0, .ref (A 1)), (1, .int a1)] := hl
  rw [fX4_rows_1] at hf
  refine lv_iload_n (pc := 0) hx hb dX4_rows_0 rfl (lv_at hl 1 rfl) ?_
  refine lv_iconst (pc := 1) hx hb (v := 1) dX4_rows_1 (by decide) ?_
  refine lv_icmp_ne (pc := 2) hx hb (tgt := 12) dX4_rows_2 (by decide) (fun c_2 => ?_) (fun c_2 => ?_)
  · have hf := hf_f c_2 hf
    refine lv_aload_n (pc := 12) hx hb dX4_rows_12 rfl (lv_at hl 0 rfl) ?_
    refine vXgRX4_9_1 (pc := 13) hx hb hts mU_43 inU4 hown hK hP (x := (gI S 0)) rfl dX4_rows_13 ?_
    obtain rfl := Option.some.inj hf
    exact hR H locs 16 ls hP hD hS dX4_rows_16
  · have hf := hf_t c_2 hf
    refine lv_aload_n (pc := 5) hx hb dX4_rows_5 rfl (lv_at hl 0 rfl) ?_
    refine vXgRX4_15_1 (pc := 6) hx hb hts mU_44 inU4 hown hK hP (x := (gI S 1)) rfl dX4_rows_6 ?_
    refine lv_goto (pc := 9) hx hb (tgt := 16) dX4_rows_9 (by decide) ?_
    obtain rfl := Option.some.inj hf
    exact hR H locs 16 ls hP hD hS dX4_rows_16
set_option maxHeartbeats 4000000 in
set_option maxRecDepth 100000 in
theorem kX4_hasEntry_1 (l : Launch) (D : va_G) (A : Nat → Nat) (B : Nat → ClassId) (sz : Nat) (S : w_S) (a1 : Int32) (a2 : Int32) (a3 : Int32) (z : Int32) (hf : fX4_hasEntry_1 S a1 a2 a3 = some z) : MetW l yX4_hasEntry (wsO yX4_hasEntry cX4_hasEntry 4 (some .boolean)) rm_X4_hasEntry [.ref (A 1), .int a1, .int a2, .int a3] D (tyB B) (wX A B S) (wX A B S) sz (some (.int z)) := by
  refine MetW.mkZ (cc := cX4_hasEntry) (maxL := 4) (by decide) (Nat.le_of_ble_eq_true rfl) ?_
  intro p e s m args below meth c Ad Q hx hb hts hown hml hN hK hA hR H locs ls hP hD hS hl
  have hl : lv_has ls 4 [(0, .ref (A 1)), (1, .int a1), (2, .int a2), (3, .int a3)] := hl
  rw [fX4_hasEntry_1] at hf
  refine lv_iload_n (pc := 0) hx hb dX4_hasEntry_0 rfl (lv_at hl 1 rfl) ?_
  refine lv_if_lt (pc := 1) hx hb (tgt := 39) dX4_hasEntry_1 (by decide) (fun c_1 => ?_) (fun c_1 => ?_)
  · have hf := hf_t c_1 hf
    refine lv_iconst (pc := 39) hx hb (v := 0) dX4_hasEntry_39 (by decide) ?_
    obtain rfl := Option.some.inj hf
    exact hR H locs 40 ls hP hD hS (nz_of (.inl rfl)) dX4_hasEntry_40
  · have hf := hf_f c_1 hf
    refine lv_iload_n (pc := 4) hx hb dX4_hasEntry_4 rfl (lv_at hl 1 rfl) ?_
    refine lv_iconst (pc := 5) hx hb (v := 2) dX4_hasEntry_5 (by decide) ?_
    refine lv_icmp_gt (pc := 6) hx hb (tgt := 39) dX4_hasEntry_6 (by decide) (fun c_6 => ?_) (fun c_6 => ?_)
    · have hf := hf_t c_6 hf
      refine lv_iconst (pc := 39) hx hb (v := 0) dX4_hasEntry_39 (by decide) ?_
      obtain rfl := Option.some.inj hf
      exact hR H locs 40 ls hP hD hS (nz_of (.inl rfl)) dX4_hasEntry_40
    · have hf := hf_f c_6 hf
      refine lv_iload_n (pc := 9) hx hb dX4_hasEntry_9 rfl (lv_at hl 2 rfl) ?_
      refine lv_if_lt (pc := 10) hx hb (tgt := 39) dX4_hasEntry_10 (by decide) (fun c_10 => ?_) (fun c_10 => ?_)
      · have hf := hf_t c_10 hf
        refine lv_iconst (pc := 39) hx hb (v := 0) dX4_hasEntry_39 (by decide) ?_
        obtain rfl := Option.some.inj hf
        exact hR H locs 40 ls hP hD hS (nz_of (.inl rfl)) dX4_hasEntry_40
      · have hf := hf_f c_10 hf
        refine lv_iload_n (pc := 13) hx hb dX4_hasEntry_13 rfl (lv_at hl 2 rfl) ?_
        refine lv_aload_n (pc := 14) hx hb dX4_hasEntry_14 rfl (lv_at hl 0 rfl) ?_
        refine lv_iload_n (pc := 15) hx hb dX4_hasEntry_15 rfl (lv_at hl 1 rfl) ?_
        obtain ⟨r16, hc16, hf⟩ := hf_b hf
        refine cl_V (pc := 16) (As := [.int a1]) (rest := [.int a2]) hx hb hml hown hts (kX4_rows_1 l D A B _ S a1 r16 hc16) (cwV 1 hts gwRX4_52 rfl rfl rfl hdX4_rows ⟨Nat.le_of_ble_eq_true rfl, Nat.le_of_ble_eq_true rfl⟩) hN hK hP hD hS hA (va_recv hK hP (ci := 4) (q0 := 1) rfl (eX_1 A B _)) rfl hl.1 rfl (Nat.le_of_ble_eq_true rfl) dX4_hasEntry_16 (st1 := [.int r16, .int a2]) rfl ⟨Nat.zero_le _, Nat.zero_le _⟩ (fun H locs hP hD hS => ?_)
        refine lv_icmp_ge (pc := 19) hx hb (tgt := 39) dX4_hasEntry_19 (by decide) (fun c_19 => ?_) (fun c_19 => ?_)
        · have hf := hf_t c_19 hf
          refine lv_iconst (pc := 39) hx hb (v := 0) dX4_hasEntry_39 (by decide) ?_
          obtain rfl := Option.some.inj hf
          exact hR H locs 40 ls hP hD hS (nz_of (.inl rfl)) dX4_hasEntry_40
        · have hf := hf_f c_19 hf
          refine lv_iload_n (pc := 22) hx hb dX4_hasEntry_22 rfl (lv_at hl 3 rfl) ?_
          refine lv_if_lt (pc := 23) hx hb (tgt := 39) dX4_hasEntry_23 (by decide) (fun c_23 => ?_) (fun c_23 => ?_)
          · have hf := hf_t c_23 hf
            refine lv_iconst (pc := 39) hx hb (v := 0) dX4_hasEntry_39 (by decide) ?_
            obtain rfl := Option.some.inj hf
            exact hR H locs 40 ls hP hD hS (nz_of (.inl rfl)) dX4_hasEntry_40
          · have hf := hf_f c_23 hf
            refine lv_iload_n (pc := 26) hx hb dX4_hasEntry_26 rfl (lv_at hl 3 rfl) ?_
            refine lv_aload_n (pc := 27) hx hb dX4_hasEntry_27 rfl (lv_at hl 0 rfl) ?_
            refine lv_iload_n (pc := 28) hx hb dX4_hasEntry_28 rfl (lv_at hl 1 rfl) ?_
            obtain ⟨r29, hc29, hf⟩ := hf_b hf
            refine cl_V (pc := 29) (As := [.int a1]) (rest := [.int a3]) hx hb hml hown hts (kX4_columns_1 l D A B _ S a1 r29 hc29) (cwV 1 hts gwRX4_56 rfl rfl rfl hdX4_columns ⟨Nat.le_of_ble_eq_true rfl, Nat.le_of_ble_eq_true rfl⟩) hN hK hP hD hS hA (va_recv hK hP (ci := 4) (q0 := 1) rfl (eX_1 A B _)) rfl hl.1 rfl (Nat.le_of_ble_eq_true rfl) dX4_hasEntry_29 (st1 := [.int r29, .int a3]) rfl ⟨Nat.zero_le _, Nat.zero_le _⟩ (fun H locs hP hD hS => ?_)
            refine lv_icmp_ge (pc := 32) hx hb (tgt := 39) dX4_hasEntry_32 (by decide) (fun c_32 => ?_) (fun c_32 => ?_)
            · have hf := hf_t c_32 hf
              refine lv_iconst (pc := 39) hx hb (v := 0) dX4_hasEntry_39 (by decide) ?_
              obtain rfl := Option.some.inj hf
              exact hR H locs 40 ls hP hD hS (nz_of (.inl rfl)) dX4_hasEntry_40
            · have hf := hf_f c_32 hf
              refine lv_iconst (pc := 35) hx hb (v := 1) dX4_hasEntry_35 (by decide) ?_
              refine lv_goto (pc := 36) hx hb (tgt := 40) dX4_hasEntry_36 (by decide) ?_
              obtain rfl := Option.some.inj hf
              exact hR H locs 40 ls hP hD hS (nz_of (.inr rfl)) dX4_hasEntry_40
set_option maxHeartbeats 4000000 in
set_option maxRecDepth 100000 in
theorem kX4_store_1 (l : Launch) (D : va_G) (A : Nat → Nat) (B : Nat → ClassId) (sz : Nat) (S : w_S) (a1 : Int32) (a2 : Int32) (a3 : Int32) (a4 : Int32) (z : w_S) (hf : fX4_store_1 S a1 a2 a3 a4 = some z) : MetW l yX4_store (wsO yX4_store cX4_store 6 none) rm_X4_store [.ref (A 1), .int a1, .int a2, .int a3, .int a4] D (tyB B) (wX A B S) (wX A B z) sz (none) := by
  refine MetW.mkV (cc := cX4_store) (maxL := 6) (by decide) (Nat.le_of_ble_eq_true rfl) ?_
  intro p e s m args below meth c Ad Q hx hb hts hown hml hN hK hA hR H locs ls hP hD hS hl
  have hl : lv_has ls 6 [(0, .ref (A 1)), (1, .int a1), (2, .int a2), (3, .int a3), (4, .int a4)] := hl
  rw [fX4_store_1] at hf
  refine lv_iload_n (pc := 0) hx hb dX4_store_0 rfl (lv_at hl 1 rfl) ?_
  refine lv_if_ne (pc := 1) hx hb (tgt := 11) dX4_store_1 (by decide) (fun c_1 => ?_) (fun c_1 => ?_)
  · have hf := hf_f c_1 hf
    refine lv_iload_n (pc := 11) hx hb dX4_store_11 rfl (lv_at hl 1 rfl) ?_
    refine lv_iconst (pc := 12) hx hb (v := 1) dX4_store_12 (by decide) ?_
    refine lv_icmp_ne (pc := 13) hx hb (tgt := 23) dX4_store_13 (by decide) (fun c_13 => ?_) (fun c_13 => ?_)
    · have hf := hf_f c_13 hf
      refine lv_aload_n (pc := 23) hx hb dX4_store_23 rfl (lv_at hl 0 rfl) ?_
      refine vXgRX4_28_1 (pc := 24) hx hb hts mU_49 inU4 hown hK hP dX4_store_24 ?_
      refine lv_astore (pc := 27) hx hb (lv' := [(5, .ref (A 4)), (0, .ref (A 1)), (1, .int a1), (2, .int a2), (3, .int a3), (4, .int a4)]) dX4_store_27 hl (by decide) rfl (fun ls hl => ?_)
      refine lv_iload_n (pc := 29) hx hb dX4_store_29 rfl (lv_at hl 3 rfl) ?_
      refine lv_iload_n (pc := 30) hx hb dX4_store_30 rfl (lv_at hl 4 rfl) ?_
      obtain ⟨r31, hc31, hf⟩ := hf_b hf
      refine cl_S (pc := 31) (As := [.int a2, .int a3]) (rest := []) hx hb hml hown hts (kX4_isRoom l D A B _ S a2 a3 r31 hc31) (va_cwS 2 hts gwRX4_59 rfl rfl rfl hdX4_isRoom ⟨Nat.le_of_ble_eq_true rfl, Nat.le_of_ble_eq_true rfl⟩) hN hK hP hD hS hA rfl hl.1 rfl (Nat.le_of_ble_eq_true rfl) dX4_store_31 (st1 := [.int r31]) rfl ⟨Nat.zero_le _, Nat.zero_le _⟩ (fun H locs hP hD hS => ?_)
      refine lv_if_eq (pc := 34) hx hb (tgt := 47) dX4_store_34 (by decide) (fun c_34 => ?_) (fun c_34 => ?_)
      · have hf := hf_t c_34 hf
        obtain rfl := Option.some.inj hf
        exact hR H locs 47 ls hP hD hS dX4_store_47
      · have hf := hf_f c_34 hf
        refine lv_aload (pc := 37) hx hb dX4_store_37 (lv_at hl 0 rfl) ?_
        refine lv_iload_n (pc := 39) hx hb dX4_store_39 rfl (lv_at hl 3 rfl) ?_
        refine lv_iconst (pc := 40) hx hb (v := 3) dX4_store_40 (by decide) ?_
        refine lv_imul (pc := 41) hx hb dX4_store_41 ?_
        refine lv_iload_n (pc := 42) hx hb dX4_store_42 rfl (lv_at hl 4 rfl) ?_
        refine lv_iadd (pc := 43) hx hb dX4_store_43 ?_
        refine lv_iload (pc := 44) hx hb dX4_store_44 (lv_at hl 5 rfl) ?_
        obtain ⟨hg46, hf⟩ := hf_g hf
        refine vXwa_4 (pc := 46) hx hb hK hP hD hS (f := (gA S 2)) rfl hg46 dX4_store_46 (fun H locs hP hD hS => ?_)
        obtain rfl := Option.some.inj hf
        exact hR H locs 47 ls hP hD hS dX4_store_47
    · have hf := hf_t c_13 hf
      refine lv_aload_n (pc := 16) hx hb dX4_store_16 rfl (lv_at hl 0 rfl) ?_
      refine vXgRX4_25_1 (pc := 17) hx hb hts mU_48 inU4 hown hK hP dX4_store_17 ?_
      refine lv_goto (pc := 20) hx hb (tgt := 27) dX4_store_20 (by decide) ?_
      refine lv_astore (pc := 27) hx hb (lv' := [(5, .ref (A 3)), (0, .ref (A 1)), (1, .int a1), (2, .int a2), (3, .int a3), (4, .int a4)]) dX4_store_27 hl (by decide) rfl (fun ls hl => ?_)
      refine lv_iload_n (pc := 29) hx hb dX4_store_29 rfl (lv_at hl 3 rfl) ?_
      refine lv_iload_n (pc := 30) hx hb dX4_store_30 rfl (lv_at hl 4 rfl) ?_
      obtain ⟨r31, hc31, hf⟩ := hf_b hf
      refine cl_S (pc := 31) (As := [.int a2, .int a3]) (rest := []) hx hb hml hown hts (kX4_isRoom l D A B _ S a2 a3 r31 hc31) (va_cwS 2 hts gwRX4_59 rfl rfl rfl hdX4_isRoom ⟨Nat.le_of_ble_eq_true rfl, Nat.le_of_ble_eq_true rfl⟩) hN hK hP hD hS hA rfl hl.1 rfl (Nat.le_of_ble_eq_true rfl) dX4_store_31 (st1 := [.int r31]) rfl ⟨Nat.zero_le _, Nat.zero_le _⟩ (fun H locs hP hD hS => ?_)
      refine lv_if_eq (pc := 34) hx hb (tgt := 47) dX4_store_34 (by decide) (fun c_34 => ?_) (fun c_34 => ?_)
      · have hf := hf_t c_34 hf
        obtain rfl := Option.some.inj hf
        exact hR H locs 47 ls hP hD hS dX4_store_47
      · have hf := hf_f c_34 hf
        refine lv_aload (pc := 37) hx hb dX4_store_37 (lv_at hl 0 rfl) ?_
        refine lv_iload_n (pc := 39) hx hb dX4_store_39 rfl (lv_at hl 3 rfl) ?_
        refine lv_iconst (pc := 40) hx hb (v := 3) dX4_store_40 (by decide) ?_
        refine lv_imul (pc := 41) hx hb dX4_store_41 ?_
        refine lv_iload_n (pc := 42) hx hb dX4_store_42 rfl (lv_at hl 4 rfl) ?_
        refine lv_iadd (pc := 43) hx hb dX4_store_43 ?_
        refine lv_iload (pc := 44) hx hb dX4_store_44 (lv_at hl 5 rfl) ?_
        obtain ⟨hg46, hf⟩ := hf_g hf
        refine vXwa_3 (pc := 46) hx hb hK hP hD hS (f := (gA S 1)) rfl hg46 dX4_store_46 (fun H locs hP hD hS => ?_)
        obtain rfl := Option.some.inj hf
        exact hR H locs 47 ls hP hD hS dX4_store_47
  · have hf := hf_t c_1 hf
    refine lv_aload_n (pc := 4) hx hb dX4_store_4 rfl (lv_at hl 0 rfl) ?_
    refine vXgRX4_21_1 (pc := 5) hx hb hts mU_47 inU4 hown hK hP dX4_store_5 ?_
    refine lv_goto (pc := 8) hx hb (tgt := 27) dX4_store_8 (by decide) ?_
    refine lv_astore (pc := 27) hx hb (lv' := [(5, .ref (A 2)), (0, .ref (A 1)), (1, .int a1), (2, .int a2), (3, .int a3), (4, .int a4)]) dX4_store_27 hl (by decide) rfl (fun ls hl => ?_)
    refine lv_iload_n (pc := 29) hx hb dX4_store_29 rfl (lv_at hl 3 rfl) ?_
    refine lv_iload_n (pc := 30) hx hb dX4_store_30 rfl (lv_at hl 4 rfl) ?_
    obtain ⟨r31, hc31, hf⟩ := hf_b hf
    refine cl_S (pc := 31) (As := [.int a2, .int a3]) (rest := []) hx hb hml hown hts (kX4_isRoom l D A B _ S a2 a3 r31 hc31) (va_cwS 2 hts gwRX4_59 rfl rfl rfl hdX4_isRoom ⟨Nat.le_of_ble_eq_true rfl, Nat.le_of_ble_eq_true rfl⟩) hN hK hP hD hS hA rfl hl.1 rfl (Nat.le_of_ble_eq_true rfl) dX4_store_31 (st1 := [.int r31]) rfl ⟨Nat.zero_le _, Nat.zero_le _⟩ (fun H locs hP hD hS => ?_)
    refine lv_if_eq (pc := 34) hx hb (tgt := 47) dX4_store_34 (by decide) (fun c_34 => ?_) (fun c_34 => ?_)
    · have hf := hf_t c_34 hf
      obtain rfl := Option.some.inj hf
      exact hR H locs 47 ls hP hD hS dX4_store_47
    · have hf := hf_f c_34 hf
      refine lv_aload (pc := 37) hx hb dX4_store_37 (lv_at hl 0 rfl) ?_
      refine lv_iload_n (pc := 39) hx hb dX4_store_39 rfl (lv_at hl 3 rfl) ?_
      refine lv_iconst (pc := 40) hx hb (v := 3) dX4_store_40 (by decide) ?_
      refine lv_imul (pc := 41) hx hb dX4_store_41 ?_
      refine lv_iload_n (pc := 42) hx hb dX4_store_42 rfl (lv_at hl 4 rfl) ?_
      refine lv_iadd (pc := 43) hx hb dX4_store_43 ?_
      refine lv_iload (pc := 44) hx hb dX4_store_44 (lv_at hl 5 rfl) ?_
      obtain ⟨hg46, hf⟩ := hf_g hf
      refine vXwa_2 (pc := 46) hx hb hK hP hD hS (f := (gA S 0)) rfl hg46 dX4_store_46 (fun H locs hP hD hS => ?_)
      obtain rfl := Option.some.inj hf
      exact hR H locs 47 ls hP hD hS dX4_store_47
set_option maxHeartbeats 4000000 in
set_option maxRecDepth 100000 in
theorem kX6_reach (l : Launch) (D : va_G) (A : Nat → Nat) (B : Nat → ClassId) (sz : Nat) (S : w_S) (a0 : Int32) (z : Int32) (hf : fX6_reach a0 = some z) : MetW l yX6_reach (wsO yX6_reach cX6_reach 1 (some .int)) rm_X6_reach [.int a0] D (tyB B) (wX A B S) (wX A B S) sz (some (.int z)) := by
  refine MetW.mkI (cc := cX6_reach) (maxL := 1) (by decide) (Nat.le_of_ble_eq_true rfl) ?_
  intro p e s m args below meth c Ad Q hx hb hts hown hml hN hK hA hR H locs ls hP hD hS hl
  have hl : lv_has ls 1 [(0, .int a0)] := hl
  rw [fX6_reach] at hf
  refine lv_iload_n (pc := 0) hx hb dX6_reach_0 rfl (lv_at hl 0 rfl) ?_
  refine lv_iconst (pc := 1) hx hb (v := 2) dX6_reach_1 (by decide) ?_
  refine lv_icmp_ne (pc := 2) hx hb (tgt := 10) dX6_reach_2 (by decide) (fun c_2 => ?_) (fun c_2 => ?_)
  · have hf := hf_f c_2 hf
    refine lv_iconst (pc := 10) hx hb (v := 5) dX6_reach_10 (by decide) ?_
    obtain rfl := Option.some.inj hf
    exact hR H locs 11 ls hP hD hS dX6_reach_11
  · have hf := hf_t c_2 hf
    refine lv_bipush (pc := 5) hx hb (v := 50) dX6_reach_5 (by decide) ?_
    refine lv_goto (pc := 7) hx hb (tgt := 11) dX6_reach_7 (by decide) ?_
    obtain rfl := Option.some.inj hf
    exact hR H locs 11 ls hP hD hS dX6_reach_11
set_option maxHeartbeats 4000000 in
set_option maxRecDepth 100000 in
theorem kX6_set (l : Launch) (D : va_G) (A : Nat → Nat) (B : Nat → ClassId) (sz : Nat) (S : w_S) (a1 : Int32) (a2 : Int32) (a3 : Int32) (a4 : Int32) (z : Int32 × w_S) (hf : fX6_set S a1 a2 a3 a4 = some z) : MetW l yX6_set (wsO yX6_set cX6_set 6 (some .int)) rm_X6_set [.ref (A 0), .int a1, .int a2, .int a3, .int a4] D (tyB B) (wX A B S) (wX A B z.2) sz (some (.int z.1)) := by
  refine MetW.mkI (cc := cX6_set) (maxL := 6) (by decide) (Nat.le_of_ble_eq_true rfl) ?_
  intro p e s m args below meth c Ad Q hx hb hts hown hml hN hK hA hR H locs ls hP hD hS hl
  have hl : lv_has ls 6 [(0, .ref (A 0)), (1, .int a1), (2, .int a2), (3, .int a3), (4, .int a4)] := hl
  rw [fX6_set] at hf
  refine lv_aload_n (pc := 0) hx hb dX6_set_0 rfl (lv_at hl 0 rfl) ?_
  refine vXgRX6_10_0 (pc := 1) hx hb hts mU_16 inU6 hown hK hP dX6_set_1 ?_
  refine lv_iload_n (pc := 4) hx hb dX6_set_4 rfl (lv_at hl 1 rfl) ?_
  refine lv_iload_n (pc := 5) hx hb dX6_set_5 rfl (lv_at hl 2 rfl) ?_
  refine lv_iload_n (pc := 6) hx hb dX6_set_6 rfl (lv_at hl 3 rfl) ?_
  obtain ⟨r7, hc7, hf⟩ := hf_b hf
  refine cl_V (pc := 7) (As := [.int a1, .int a2, .int a3]) (rest := []) hx hb hml hown hts (kX4_hasEntry_1 l D A B _ S a1 a2 a3 r7 hc7) (cwV 3 hts gwRX6_71 rfl rfl rfl hdX4_hasEntry ⟨Nat.le_of_ble_eq_true rfl, Nat.le_of_ble_eq_true rfl⟩) hN hK hP hD hS hA (va_recv hK hP (ci := 4) (q0 := 1) rfl (eX_1 A B _)) rfl hl.1 rfl (Nat.le_of_ble_eq_true rfl) dX6_set_7 (st1 := [.int r7]) rfl ⟨Nat.zero_le _, Nat.zero_le _⟩ (fun H locs hP hD hS => ?_)
  refine lv_if_eq (pc := 10) hx hb (tgt := 32) dX6_set_10 (by decide) (fun c_10 => ?_) (fun c_10 => ?_)
  · have hf := hf_t c_10 hf
    refine lv_iconst (pc := 32) hx hb (v := (-1)) dX6_set_32 (by decide) ?_
    obtain rfl := Option.some.inj hf
    exact hR H locs 33 ls hP hD hS dX6_set_33
  · have hf := hf_f c_10 hf
    refine lv_iload (pc := 13) hx hb dX6_set_13 (lv_at hl 4 rfl) ?_
    refine lv_iload_n (pc := 15) hx hb dX6_set_15 rfl (lv_at hl 1 rfl) ?_
    obtain ⟨r16, hc16, hf⟩ := hf_b hf
    refine cl_S (pc := 16) (As := [.int a1]) (rest := [.int a4]) hx hb hml hown hts (kX6_reach l D A B _ S a1 r16 hc16) (va_cwS 1 hts gwRX6_75 rfl rfl rfl hdX6_reach ⟨Nat.le_of_ble_eq_true rfl, Nat.le_of_ble_eq_true rfl⟩) hN hK hP hD hS hA rfl hl.1 rfl (Nat.le_of_ble_eq_true rfl) dX6_set_16 (st1 := [.int r16, .int a4]) rfl ⟨Nat.zero_le _, Nat.zero_le _⟩ (fun H locs hP hD hS => ?_)
    refine lv_ineg (pc := 19) hx hb dX6_set_19 ?_
    refine lv_icmp_lt (pc := 20) hx hb (tgt := 32) dX6_set_20 (by decide) (fun c_20 => ?_) (fun c_20 => ?_)
    · have hf := hf_t c_20 hf
      refine lv_iconst (pc := 32) hx hb (v := (-1)) dX6_set_32 (by decide) ?_
      obtain rfl := Option.some.inj hf
      exact hR H locs 33 ls hP hD hS dX6_set_33
    · have hf := hf_f c_20 hf
      refine lv_iload (pc := 23) hx hb dX6_set_23 (lv_at hl 4 rfl) ?_
      refine lv_iload_n (pc := 25) hx hb dX6_set_25 rfl (lv_at hl 1 rfl) ?_
      obtain ⟨r26, hc26, hf⟩ := hf_b hf
      refine cl_S (pc := 26) (As := [.int a1]) (rest := [.int a4]) hx hb hml hown hts (kX6_reach l D A B _ S a1 r26 hc26) (va_cwS 1 hts gwRX6_75 rfl rfl rfl hdX6_reach ⟨Nat.le_of_ble_eq_true rfl, Nat.le_of_ble_eq_true rfl⟩) hN hK hP hD hS hA rfl hl.1 rfl (Nat.le_of_ble_eq_true rfl) dX6_set_26 (st1 := [.int r26, .int a4]) rfl ⟨Nat.zero_le _, Nat.zero_le _⟩ (fun H locs hP hD hS => ?_)
      refine lv_icmp_le (pc := 29) hx hb (tgt := 34) dX6_set_29 (by decide) (fun c_29 => ?_) (fun c_29 => ?_)
      · have hf := hf_t c_29 hf
        refine lv_aload_n (pc := 34) hx hb dX6_set_34 rfl (lv_at hl 0 rfl) ?_
        refine vXgRX6_10_0 (pc := 35) hx hb hts mU_16 inU6 hown hK hP dX6_set_35 ?_
        refine lv_iload_n (pc := 38) hx hb dX6_set_38 rfl (lv_at hl 1 rfl) ?_
        refine lv_iload_n (pc := 39) hx hb dX6_set_39 rfl (lv_at hl 2 rfl) ?_
        refine lv_iload_n (pc := 40) hx hb dX6_set_40 rfl (lv_at hl 3 rfl) ?_
        obtain ⟨r41, hc41, hf⟩ := hf_b hf
        refine cl_V (pc := 41) (As := [.int a1, .int a2, .int a3]) (rest := []) hx hb hml hown hts (kX4_entry_1 l D A B _ S a1 a2 a3 r41 hc41) (cwV 3 hts gwRX6_79 rfl rfl rfl hdX4_entry ⟨Nat.le_of_ble_eq_true rfl, Nat.le_of_ble_eq_true rfl⟩) hN hK hP hD hS hA (va_recv hK hP (ci := 4) (q0 := 1) rfl (eX_1 A B _)) rfl hl.1 rfl (Nat.le_of_ble_eq_true rfl) dX6_set_41 (st1 := [.int r41]) rfl ⟨Nat.zero_le _, Nat.zero_le _⟩ (fun H locs hP hD hS => ?_)
        refine lv_istore (pc := 44) hx hb (lv' := [(5, .int r41), (0, .ref (A 0)), (1, .int a1), (2, .int a2), (3, .int a3), (4, .int a4)]) dX6_set_44 hl (by decide) rfl (fun ls hl => ?_)
        refine lv_aload_n (pc := 46) hx hb dX6_set_46 rfl (lv_at hl 1 rfl) ?_
        refine vXgRX6_10_0 (pc := 47) hx hb hts mU_16 inU6 hown hK hP dX6_set_47 ?_
        refine lv_iload_n (pc := 50) hx hb dX6_set_50 rfl (lv_at hl 2 rfl) ?_
        refine lv_iload_n (pc := 51) hx hb dX6_set_51 rfl (lv_at hl 3 rfl) ?_
        refine lv_iload_n (pc := 52) hx hb dX6_set_52 rfl (lv_at hl 4 rfl) ?_
        refine lv_iload (pc := 53) hx hb dX6_set_53 (lv_at hl 5 rfl) ?_
        obtain ⟨r55, hc55, hf⟩ := hf_b hf
        refine cl_V (pc := 55) (As := [.int a1, .int a2, .int a3, .int a4]) (rest := []) hx hb hml hown hts (kX4_store_1 l D A B _ S a1 a2 a3 a4 r55 hc55) (cwV 4 hts gwRX6_83 rfl rfl rfl hdX4_store ⟨Nat.le_of_ble_eq_true rfl, Nat.le_of_ble_eq_true rfl⟩) hN hK hP hD hS hA (va_recv hK hP (ci := 4) (q0 := 1) rfl (eX_1 A B _)) rfl hl.1 rfl (Nat.le_of_ble_eq_true rfl) dX6_set_55 (st1 := []) rfl ⟨Nat.zero_le _, Nat.zero_le _⟩ (fun H locs hP hD hS => ?_)
        refine lv_bipush (pc := 58) hx hb (v := 100) dX6_set_58 (by decide) ?_
        refine lv_iload (pc := 60) hx hb dX6_set_60 (lv_at hl 0 rfl) ?_
        refine lv_iadd (pc := 62) hx hb dX6_set_62 ?_
        obtain rfl := Option.some.inj hf
        exact hR H locs 63 ls hP hD hS dX6_set_63
      · have hf := hf_f c_29 hf
        refine lv_iconst (pc := 32) hx hb (v := (-1)) dX6_set_32 (by decide) ?_
        obtain rfl := Option.some.inj hf
        exact hR H locs 33 ls hP hD hS dX6_set_33
set_option maxHeartbeats 4000000 in
set_option maxRecDepth 100000 in
theorem kX6_at (l : Launch) (D : va_G) (A : Nat → Nat) (B : Nat → ClassId) (sz : Nat) (S : w_S) (a1 : Int32) (a2 : Int32) (a3 : Int32) (z : Int32) (hf : fX6_at S a1 a2 a3 = some z) : MetW l yX6_at (wsO yX6_at cX6_at 4 (some .int)) rm_X6_at [.ref (A 0), .int a1, .int a2, .int a3] D (tyB B) (wX A B S) (wX A B S) sz (some (.int z)) := by
  refine MetW.mkI (cc := cX6_at) (maxL := 4) (by decide) (Nat.le_of_ble_eq_true rfl) ?_
  intro p e s m args below meth c Ad Q hx hb hts hown hml hN hK hA hR H locs ls hP hD hS hl
  have hl : lv_has ls 4 [(0, .ref (A 0)), (1, .int a1), (2, .int a2), (3, .int a3)] := hl
  rw [fX6_at] at hf
  refine lv_aload_n (pc := 0) hx hb dX6_at_0 rfl (lv_at hl 0 rfl) ?_
  refine vXgRX6_10_0 (pc := 1) hx hb hts mU_16 inU6 hown hK hP dX6_at_1 ?_
  refine lv_iload_n (pc := 4) hx hb dX6_at_4 rfl (lv_at hl 1 rfl) ?_
  refine lv_iload_n (pc := 5) hx hb dX6_at_5 rfl (lv_at hl 2 rfl) ?_
  refine lv_iload_n (pc := 6) hx hb dX6_at_6 rfl (lv_at hl 3 rfl) ?_
  obtain ⟨r7, hc7, hf⟩ := hf_b hf
  refine cl_V (pc := 7) (As := [.int a1, .int a2, .int a3]) (rest := []) hx hb hml hown hts (kX4_hasEntry_1 l D A B _ S a1 a2 a3 r7 hc7) (cwV 3 hts gwRX6_71 rfl rfl rfl hdX4_hasEntry ⟨Nat.le_of_ble_eq_true rfl, Nat.le_of_ble_eq_true rfl⟩) hN hK hP hD hS hA (va_recv hK hP (ci := 4) (q0 := 1) rfl (eX_1 A B _)) rfl hl.1 rfl (Nat.le_of_ble_eq_true rfl) dX6_at_7 (st1 := [.int r7]) rfl ⟨Nat.zero_le _, Nat.zero_le _⟩ (fun H locs hP hD hS => ?_)
  refine lv_if_eq (pc := 10) hx hb (tgt := 29) dX6_at_10 (by decide) (fun c_10 => ?_) (fun c_10 => ?_)
  · have hf := hf_t c_10 hf
    refine lv_iconst (pc := 29) hx hb (v := (-1)) dX6_at_29 (by decide) ?_
    obtain rfl := Option.some.inj hf
    exact hR H locs 30 ls hP hD hS dX6_at_30
  · have hf := hf_f c_10 hf
    refine lv_bipush (pc := 13) hx hb (v := 100) dX6_at_13 (by decide) ?_
    refine lv_aload_n (pc := 15) hx hb dX6_at_15 rfl (lv_at hl 0 rfl) ?_
    refine vXgRX6_10_0 (pc := 16) hx hb hts mU_16 inU6 hown hK hP dX6_at_16 ?_
    refine lv_iload_n (pc := 19) hx hb dX6_at_19 rfl (lv_at hl 1 rfl) ?_
    refine lv_iload_n (pc := 20) hx hb dX6_at_20 rfl (lv_at hl 2 rfl) ?_
    refine lv_iload_n (pc := 21) hx hb dX6_at_21 rfl (lv_at hl 3 rfl) ?_
    obtain ⟨r22, hc22, hf⟩ := hf_b hf
    refine cl_V (pc := 22) (As := [.int a1, .int a2, .int a3]) (rest := [.int 100]) hx hb hml hown hts (kX4_entry_1 l D A B _ S a1 a2 a3 r22 hc22) (cwV 3 hts gwRX6_79 rfl rfl rfl hdX4_entry ⟨Nat.le_of_ble_eq_true rfl, Nat.le_of_ble_eq_true rfl⟩) hN hK hP hD hS hA (va_recv hK hP (ci := 4) (q0 := 1) rfl (eX_1 A B _)) rfl hl.1 rfl (Nat.le_of_ble_eq_true rfl) dX6_at_22 (st1 := [.int r22, .int 100]) rfl ⟨Nat.zero_le _, Nat.zero_le _⟩ (fun H locs hP hD hS => ?_)
    refine lv_iadd (pc := 25) hx hb dX6_at_25 ?_
    refine lv_goto (pc := 26) hx hb (tgt := 30) dX6_at_26 (by decide) ?_
    obtain rfl := Option.some.inj hf
    exact hR H locs 30 ls hP hD hS dX6_at_30
set_option maxHeartbeats 4000000 in
set_option maxRecDepth 100000 in
theorem kX4_largestMinor_1 (l : Launch) (D : va_G) (A : Nat → Nat) (B : Nat → ClassId) (sz : Nat) (S : w_S) (a1 : Int32) (z : Int64) (hf : fX4_largestMinor_1 S a1 = some z) : MetW l yX4_largestMinor (wsO yX4_largestMinor cX4_largestMinor 7 (some .long)) rm_X4_largestMinor [.ref (A 1), .int a1] D (tyB B) (wX A B S) (wX A B S) sz (some (.long z)) := by
  refine MetW.mkL (cc := cX4_largestMinor) (maxL := 7) (by decide) (Nat.le_of_ble_eq_true rfl) ?_
  intro p e s m args below meth c Ad Q hx hb hts hown hml hN hK hA hR H locs ls hP hD hS hl
  have hl : lv_has ls 7 [(0, .ref (A 1)), (1, .int a1)] := hl
  rw [fX4_largestMinor_1] at hf
  refine lv_lconst (pc := 0) hx hb (v := 0) dX4_largestMinor_0 (by decide) ?_
  refine lv_lstore_n (pc := 1) hx hb (lv' := [(2, .long 0), (0, .ref (A 1)), (1, .int a1)]) dX4_largestMinor_1 rfl hl (by decide) rfl (fun ls hl => ?_)
  refine lv_iconst (pc := 2) hx hb (v := 0) dX4_largestMinor_2 (by decide) ?_
  refine lv_istore (pc := 3) hx hb (lv' := [(4, .int 0), (2, .long 0), (0, .ref (A 1)), (1, .int a1)]) dX4_largestMinor_3 hl (by decide) rfl (fun ls hl => ?_)
  obtain ⟨q5, hq5, hf⟩ := hf_b hf
  have hk5 : ∀ (H : Heap) (locs : List Loc) (ls : Array Slot), va_P D vwCl (wX A B S) H → va_D Ad (wX A B S) → va_S Ad s.heap H locs → lv_has ls 7 [(2, .long q5)] → W p l e rm_X4_largestMinor s m args below meth c H locs 0 0 Q (F0 m 81 ls []) := by
    intro H locs ls hP hD hS hl
    refine lv_lload_n (pc := 81) hx hb dX4_largestMinor_81 rfl (lv_at hl 0 rfl) ?_
    obtain rfl := Option.some.inj hf
    exact hR H locs 82 ls hP hD hS dX4_largestMinor_82
  have lp5 : ∀ (n : Nat) (u2_5 : Int64) (u4_5 : Int32) (H : Heap) (locs : List Loc) (ls : Array Slot), fX4_largestMinor_1_L5 S a1 n u2_5 u4_5 = some q5 → va_P D vwCl (wX A B S) H → va_D Ad (wX A B S) → va_S Ad s.heap H locs → lv_has ls 7 [(0, .ref (A 1)), (1, .int a1), (2, .long u2_5), (4, .int u4_5)] → W p l e rm_X4_largestMinor s m args below meth c H locs 0 0 Q (F0 m 5 ls []) := by
    intro n5
    induction n5 with
    | zero => intro u2_5 u4_5 H locs ls hq5; exact hf_0 hq5
    | succ n5 ih5 =>
      intro u2_5 u4_5 H locs ls hq5 hP hD hS hl
      rw [fX4_largestMinor_1_L5] at hq5
      refine lv_iload (pc := 5) hx hb dX4_largestMinor_5 (lv_at hl 3 rfl) ?_
      refine lv_iconst (pc := 7) hx hb (v := 3) dX4_largestMinor_7 (by decide) ?_
      refine lv_icmp_ge (pc := 8) hx hb (tgt := 81) dX4_largestMinor_8 (by decide) (fun c_8 => ?_) (fun c_8 => ?_)
      · have hq5 := hf_t c_8 hq5
        obtain rfl := Option.some.inj hq5
        exact hk5 H locs ls hP hD hS (lv_sub hl [2] rfl)
      · have hq5 := hf_f c_8 hq5
        refine lv_iload (pc := 11) hx hb dX4_largestMinor_11 (lv_at hl 3 rfl) ?_
        refine lv_iconst (pc := 13) hx hb (v := 1) dX4_largestMinor_13 (by decide) ?_
        refine lv_iadd (pc := 14) hx hb dX4_largestMinor_14 ?_
        refine lv_iconst (pc := 15) hx hb (v := 3) dX4_largestMinor_15 (by decide) ?_
        refine lv_irem (pc := 16) hx hb dX4_largestMinor_16 (by decide) ?_
        refine lv_istore (pc := 17) hx hb (lv' := [(5, .int ((u4_5 + 1) - (u4_5 + 1) / 3 * 3)), (0, .ref (A 1)), (1, .int a1), (2, .long u2_5), (4, .int u4_5)]) dX4_largestMinor_17 hl (by decide) rfl (fun ls hl => ?_)
        refine lv_iload (pc := 19) hx hb dX4_largestMinor_19 (lv_at hl 4 rfl) ?_
        refine lv_iconst (pc := 21) hx hb (v := 2) dX4_largestMinor_21 (by decide) ?_
        refine lv_iadd (pc := 22) hx hb dX4_largestMinor_22 ?_
        refine lv_iconst (pc := 23) hx hb (v := 3) dX4_largestMinor_23 (by decide) ?_
        refine lv_irem (pc := 24) hx hb dX4_largestMinor_24 (by decide) ?_
        refine lv_istore (pc := 25) hx hb (lv' := [(6, .int ((u4_5 + 2) - (u4_5 + 2) / 3 * 3)), (5, .int ((u4_5 + 1) - (u4_5 + 1) / 3 * 3)), (0, .ref (A 1)), (1, .int a1), (2, .long u2_5), (4, .int u4_5)]) dX4_largestMinor_25 hl (by decide) rfl (fun ls hl => ?_)
        refine lv_lload_n (pc := 27) hx hb dX4_largestMinor_27 rfl (lv_at hl 4 rfl) ?_
        refine lv_aload_n (pc := 28) hx hb dX4_largestMinor_28 rfl (lv_at hl 2 rfl) ?_
        refine lv_iload_n (pc := 29) hx hb dX4_largestMinor_29 rfl (lv_at hl 3 rfl) ?_
        refine lv_iconst (pc := 30) hx hb (v := 0) dX4_largestMinor_30 (by decide) ?_
        refine lv_iload (pc := 31) hx hb dX4_largestMinor_31 (lv_at hl 5 rfl) ?_
        obtain ⟨r33, hc33, hq5⟩ := hf_b hq5
        refine cl_V (pc := 33) (As := [.int a1, .int 0, .int u4_5]) (rest := [.long u2_5]) hx hb hml hown hts (kX4_entry_1 l D A B _ S a1 0 u4_5 r33 hc33) (cwV 3 hts gwRX4_63 rfl rfl rfl hdX4_entry ⟨Nat.le_of_ble_eq_true rfl, Nat.le_of_ble_eq_true rfl⟩) hN hK hP hD hS hA (va_recv hK hP (ci := 4) (q0 := 1) rfl (eX_1 A B _)) rfl hl.1 rfl (Nat.le_of_ble_eq_true rfl) dX4_largestMinor_33 (st1 := [.int r33, .long u2_5]) rfl ⟨Nat.zero_le _, Nat.zero_le _⟩ (fun H locs hP hD hS => ?_)
        refine lv_aload_n (pc := 36) hx hb dX4_largestMinor_36 rfl (lv_at hl 2 rfl) ?_
        refine lv_iload_n (pc := 37) hx hb dX4_largestMinor_37 rfl (lv_at hl 3 rfl) ?_
        refine lv_iconst (pc := 38) hx hb (v := 1) dX4_largestMinor_38 (by decide) ?_
        refine lv_iload (pc := 39) hx hb dX4_largestMinor_39 (lv_at hl 1 rfl) ?_
        obtain ⟨r41, hc41, hq5⟩ := hf_b hq5
        refine cl_V (pc := 41) (As := [.int a1, .int 1, .int ((u4_5 + 1) - (u4_5 + 1) / 3 * 3)]) (rest := [.int r33, .long u2_5]) hx hb hml hown hts (kX4_entry_1 l D A B _ S a1 1 ((u4_5 + 1) - (u4_5 + 1) / 3 * 3) r41 hc41) (cwV 3 hts gwRX4_63 rfl rfl rfl hdX4_entry ⟨Nat.le_of_ble_eq_true rfl, Nat.le_of_ble_eq_true rfl⟩) hN hK hP hD hS hA (va_recv hK hP (ci := 4) (q0 := 1) rfl (eX_1 A B _)) rfl hl.1 rfl (Nat.le_of_ble_eq_true rfl) dX4_largestMinor_41 (st1 := [.int r41, .int r33, .long u2_5]) rfl ⟨Nat.zero_le _, Nat.zero_le _⟩ (fun H locs hP hD hS => ?_)
        refine lv_aload_n (pc := 44) hx hb dX4_largestMinor_44 rfl (lv_at hl 2 rfl) ?_
        refine lv_iload_n (pc := 45) hx hb dX4_largestMinor_45 rfl (lv_at hl 3 rfl) ?_
        refine lv_iconst (pc := 46) hx hb (v := 2) dX4_largestMinor_46 (by decide) ?_
        refine lv_iload (pc := 47) hx hb dX4_largestMinor_47 (lv_at hl 0 rfl) ?_
        obtain ⟨r49, hc49, hq5⟩ := hf_b hq5
        refine cl_V (pc := 49) (As := [.int a1, .int 2, .int ((u4_5 + 2) - (u4_5 + 2) / 3 * 3)]) (rest := [.int r41, .int r33, .long u2_5]) hx hb hml hown hts (kX4_entry_1 l D A B _ S a1 2 ((u4_5 + 2) - (u4_5 + 2) / 3 * 3) r49 hc49) (cwV 3 hts gwRX4_63 rfl rfl rfl hdX4_entry ⟨Nat.le_of_ble_eq_true rfl, Nat.le_of_ble_eq_true rfl⟩) hN hK hP hD hS hA (va_recv hK hP (ci := 4) (q0 := 1) rfl (eX_1 A B _)) rfl hl.1 rfl (Nat.le_of_ble_eq_true rfl) dX4_largestMinor_49 (st1 := [.int r49, .int r41, .int r33, .long u2_5]) rfl ⟨Nat.zero_le _, Nat.zero_le _⟩ (fun H locs hP hD hS => ?_)
        refine lv_imul (pc := 52) hx hb dX4_largestMinor_52 ?_
        refine lv_aload_n (pc := 53) hx hb dX4_largestMinor_53 rfl (lv_at hl 2 rfl) ?_
        refine lv_iload_n (pc := 54) hx hb dX4_largestMinor_54 rfl (lv_at hl 3 rfl) ?_
        refine lv_iconst (pc := 55) hx hb (v := 1) dX4_largestMinor_55 (by decide) ?_
        refine lv_iload (pc := 56) hx hb dX4_largestMinor_56 (lv_at hl 0 rfl) ?_
        obtain ⟨r58, hc58, hq5⟩ := hf_b hq5
        refine cl_V (pc := 58) (As := [.int a1, .int 1, .int ((u4_5 + 2) - (u4_5 + 2) / 3 * 3)]) (rest := [.int (r41 * r49), .int r33, .long u2_5]) hx hb hml hown hts (kX4_entry_1 l D A B _ S a1 1 ((u4_5 + 2) - (u4_5 + 2) / 3 * 3) r58 hc58) (cwV 3 hts gwRX4_63 rfl rfl rfl hdX4_entry ⟨Nat.le_of_ble_eq_true rfl, Nat.le_of_ble_eq_true rfl⟩) hN hK hP hD hS hA (va_recv hK hP (ci := 4) (q0 := 1) rfl (eX_1 A B _)) rfl hl.1 rfl (Nat.le_of_ble_eq_true rfl) dX4_largestMinor_58 (st1 := [.int r58, .int (r41 * r49), .int r33, .long u2_5]) rfl ⟨Nat.zero_le _, Nat.zero_le _⟩ (fun H locs hP hD hS => ?_)
        refine lv_aload_n (pc := 61) hx hb dX4_largestMinor_61 rfl (lv_at hl 2 rfl) ?_
        refine lv_iload_n (pc := 62) hx hb dX4_largestMinor_62 rfl (lv_at hl 3 rfl) ?_
        refine lv_iconst (pc := 63) hx hb (v := 2) dX4_largestMinor_63 (by decide) ?_
        refine lv_iload (pc := 64) hx hb dX4_largestMinor_64 (lv_at hl 1 rfl) ?_
        obtain ⟨r66, hc66, hq5⟩ := hf_b hq5
        refine cl_V (pc := 66) (As := [.int a1, .int 2, .int ((u4_5 + 1) - (u4_5 + 1) / 3 * 3)]) (rest := [.int r58, .int (r41 * r49), .int r33, .long u2_5]) hx hb hml hown hts (kX4_entry_1 l D A B _ S a1 2 ((u4_5 + 1) - (u4_5 + 1) / 3 * 3) r66 hc66) (cwV 3 hts gwRX4_63 rfl rfl rfl hdX4_entry ⟨Nat.le_of_ble_eq_true rfl, Nat.le_of_ble_eq_true rfl⟩) hN hK hP hD hS hA (va_recv hK hP (ci := 4) (q0 := 1) rfl (eX_1 A B _)) rfl hl.1 rfl (Nat.le_of_ble_eq_true rfl) dX4_largestMinor_66 (st1 := [.int r66, .int r58, .int (r41 * r49), .int r33, .long u2_5]) rfl ⟨Nat.zero_le _, Nat.zero_le _⟩ (fun H locs hP hD hS => ?_)
        refine lv_imul (pc := 69) hx hb dX4_largestMinor_69 ?_
        refine lv_isub (pc := 70) hx hb dX4_largestMinor_70 ?_
        refine lv_imul (pc := 71) hx hb dX4_largestMinor_71 ?_
        refine lv_i2l (pc := 72) hx hb (v := (r33 * ((r41 * r49) - (r58 * r66))).toInt64) dX4_largestMinor_72 rfl ?_
        refine lv_ladd (pc := 73) hx hb dX4_largestMinor_73 ?_
        refine lv_lstore_n (pc := 74) hx hb (lv' := [(2, .long (u2_5 + ((r33 * ((r41 * r49) - (r58 * r66))).toInt64))), (6, .int ((u4_5 + 2) - (u4_5 + 2) / 3 * 3)), (5, .int ((u4_5 + 1) - (u4_5 + 1) / 3 * 3)), (0, .ref (A 1)), (1, .int a1), (4, .int u4_5)]) dX4_largestMinor_74 rfl hl (by decide) rfl (fun ls hl => ?_)
        refine lv_iinc (pc := 75) hx hb (v := u4_5 + 1) (lv' := [(4, .int (u4_5 + 1)), (2, .long (u2_5 + ((r33 * ((r41 * r49) - (r58 * r66))).toInt64))), (6, .int ((u4_5 + 2) - (u4_5 + 2) / 3 * 3)), (5, .int ((u4_5 + 1) - (u4_5 + 1) / 3 * 3)), (0, .ref (A 1)), (1, .int a1)]) dX4_largestMinor_75 hl (k := 5) rfl rfl (by decide) rfl (fun ls hl => ?_)
        refine lv_goto (pc := 78) hx hb (tgt := 5) dX4_largestMinor_78 (by decide) ?_
        exact ih5 (u2_5 + ((r33 * ((r41 * r49) - (r58 * r66))).toInt64)) (u4_5 + 1) H locs ls hq5 hP hD hS (lv_sub hl [4, 5, 1, 0] rfl)
  exact lp5 256 0 0 H locs ls hq5 hP hD hS (lv_sub hl [2, 3, 1, 0] rfl)
set_option maxHeartbeats 4000000 in
set_option maxRecDepth 100000 in
theorem kX4_minor_1 (l : Launch) (D : va_G) (A : Nat → Nat) (B : Nat → ClassId) (sz : Nat) (S : w_S) (a1 : Int32) (a2 : Int32) (a3 : Int32) (z : Int64) (hf : fX4_minor_1 S a1 a2 a3 = some z) : MetW l yX4_minor (wsO yX4_minor cX4_minor 4 (some .long)) rm_X4_minor [.ref (A 1), .int a1, .int a2, .int a3] D (tyB B) (wX A B S) (wX A B S) sz (some (.long z)) := by
  refine MetW.mkL (cc := cX4_minor) (maxL := 4) (by decide) (Nat.le_of_ble_eq_true rfl) ?_
  intro p e s m args below meth c Ad Q hx hb hts hown hml hN hK hA hR H locs ls hP hD hS hl
  have hl : lv_has ls 4 [(0, .ref (A 1)), (1, .int a1), (2, .int a2), (3, .int a3)] := hl
  rw [fX4_minor_1] at hf
  refine lv_aload_n (pc := 0) hx hb dX4_minor_0 rfl (lv_at hl 0 rfl) ?_
  refine lv_iload_n (pc := 1) hx hb dX4_minor_1 rfl (lv_at hl 1 rfl) ?_
  refine lv_iload_n (pc := 2) hx hb dX4_minor_2 rfl (lv_at hl 2 rfl) ?_
  refine lv_iload_n (pc := 3) hx hb dX4_minor_3 rfl (lv_at hl 2 rfl) ?_
  obtain ⟨r4, hc4, hf⟩ := hf_b hf
  refine cl_V (pc := 4) (As := [.int a1, .int a2, .int a2]) (rest := []) hx hb hml hown hts (kX4_entry_1 l D A B _ S a1 a2 a2 r4 hc4) (cwV 3 hts gwRX4_63 rfl rfl rfl hdX4_entry ⟨Nat.le_of_ble_eq_true rfl, Nat.le_of_ble_eq_true rfl⟩) hN hK hP hD hS hA (va_recv hK hP (ci := 4) (q0 := 1) rfl (eX_1 A B _)) rfl hl.1 rfl (Nat.le_of_ble_eq_true rfl) dX4_minor_4 (st1 := [.int r4]) rfl ⟨Nat.zero_le _, Nat.zero_le _⟩ (fun H locs hP hD hS => ?_)
  refine lv_aload_n (pc := 7) hx hb dX4_minor_7 rfl (lv_at hl 0 rfl) ?_
  refine lv_iload_n (pc := 8) hx hb dX4_minor_8 rfl (lv_at hl 1 rfl) ?_
  refine lv_iload_n (pc := 9) hx hb dX4_minor_9 rfl (lv_at hl 3 rfl) ?_
  refine lv_iload_n (pc := 10) hx hb dX4_minor_10 rfl (lv_at hl 3 rfl) ?_
  obtain ⟨r11, hc11, hf⟩ := hf_b hf
  refine cl_V (pc := 11) (As := [.int a1, .int a3, .int a3]) (rest := [.int r4]) hx hb hml hown hts (kX4_entry_1 l D A B _ S a1 a3 a3 r11 hc11) (cwV 3 hts gwRX4_63 rfl rfl rfl hdX4_entry ⟨Nat.le_of_ble_eq_true rfl, Nat.le_of_ble_eq_true rfl⟩) hN hK hP hD hS hA (va_recv hK hP (ci := 4) (q0 := 1) rfl (eX_1 A B _)) rfl hl.1 rfl (Nat.le_of_ble_eq_true rfl) dX4_minor_11 (st1 := [.int r11, .int r4]) rfl ⟨Nat.zero_le _, Nat.zero_le _⟩ (fun H locs hP hD hS => ?_)
  refine lv_imul (pc := 14) hx hb dX4_minor_14 ?_
  refine lv_aload_n (pc := 15) hx hb dX4_minor_15 rfl (lv_at hl 0 rfl) ?_
  refine lv_iload_n (pc := 16) hx hb dX4_minor_16 rfl (lv_at hl 1 rfl) ?_
  refine lv_iload_n (pc := 17) hx hb dX4_minor_17 rfl (lv_at hl 2 rfl) ?_
  refine lv_iload_n (pc := 18) hx hb dX4_minor_18 rfl (lv_at hl 3 rfl) ?_
  obtain ⟨r19, hc19, hf⟩ := hf_b hf
  refine cl_V (pc := 19) (As := [.int a1, .int a2, .int a3]) (rest := [.int (r4 * r11)]) hx hb hml hown hts (kX4_entry_1 l D A B _ S a1 a2 a3 r19 hc19) (cwV 3 hts gwRX4_63 rfl rfl rfl hdX4_entry ⟨Nat.le_of_ble_eq_true rfl, Nat.le_of_ble_eq_true rfl⟩) hN hK hP hD hS hA (va_recv hK hP (ci := 4) (q0 := 1) rfl (eX_1 A B _)) rfl hl.1 rfl (Nat.le_of_ble_eq_true rfl) dX4_minor_19 (st1 := [.int r19, .int (r4 * r11)]) rfl ⟨Nat.zero_le _, Nat.zero_le _⟩ (fun H locs hP hD hS => ?_)
  refine lv_aload_n (pc := 22) hx hb dX4_minor_22 rfl (lv_at hl 0 rfl) ?_
  refine lv_iload_n (pc := 23) hx hb dX4_minor_23 rfl (lv_at hl 1 rfl) ?_
  refine lv_iload_n (pc := 24) hx hb dX4_minor_24 rfl (lv_at hl 3 rfl) ?_
  refine lv_iload_n (pc := 25) hx hb dX4_minor_25 rfl (lv_at hl 2 rfl) ?_
  obtain ⟨r26, hc26, hf⟩ := hf_b hf
  refine cl_V (pc := 26) (As := [.int a1, .int a3, .int a2]) (rest := [.int r19, .int (r4 * r11)]) hx hb hml hown hts (kX4_entry_1 l D A B _ S a1 a3 a2 r26 hc26) (cwV 3 hts gwRX4_63 rfl rfl rfl hdX4_entry ⟨Nat.le_of_ble_eq_true rfl, Nat.le_of_ble_eq_true rfl⟩) hN hK hP hD hS hA (va_recv hK hP (ci := 4) (q0 := 1) rfl (eX_1 A B _)) rfl hl.1 rfl (Nat.le_of_ble_eq_true rfl) dX4_minor_26 (st1 := [.int r26, .int r19, .int (r4 * r11)]) rfl ⟨Nat.zero_le _, Nat.zero_le _⟩ (fun H locs hP hD hS => ?_)
  refine lv_imul (pc := 29) hx hb dX4_minor_29 ?_
  refine lv_isub (pc := 30) hx hb dX4_minor_30 ?_
  refine lv_i2l (pc := 31) hx hb (v := ((r4 * r11) - (r19 * r26)).toInt64) dX4_minor_31 rfl ?_
  obtain rfl := Option.some.inj hf
  exact hR H locs 32 ls hP hD hS dX4_minor_32
set_option maxHeartbeats 4000000 in
set_option maxRecDepth 100000 in
theorem kX4_minors_1 (l : Launch) (D : va_G) (A : Nat → Nat) (B : Nat → ClassId) (sz : Nat) (S : w_S) (a1 : Int32) (a2 : Int32) (z : Int64) (hf : fX4_minors_1 S a1 a2 = some z) : MetW l yX4_minors (wsO yX4_minors cX4_minors 3 (some .long)) rm_X4_minors [.ref (A 1), .int a1, .int a2] D (tyB B) (wX A B S) (wX A B S) sz (some (.long z)) := by
  refine MetW.mkL (cc := cX4_minors) (maxL := 3) (by decide) (Nat.le_of_ble_eq_true rfl) ?_
  intro p e s m args below meth c Ad Q hx hb hts hown hml hN hK hA hR H locs ls hP hD hS hl
  have hl : lv_has ls 3 [(0, .ref (A 1)), (1, .int a1), (2, .int a2)] := hl
  rw [fX4_minors_1] at hf
  refine lv_iload_n (pc := 0) hx hb dX4_minors_0 rfl (lv_at hl 2 rfl) ?_
  by_cases e1_0 : a2 = (0 : Int32)
  · have hf := hf_t e1_0 hf
    refine lv_tableIn (pc := 1) hx hb (off := 27) (tgt := 28) dX4_minors_1 (by rw [e1_0]; decide) (by rw [e1_0]; decide) (by rw [e1_0]; rfl) (by decide) ?_
    refine lv_lconst (pc := 28) hx hb (v := 1) dX4_minors_28 (by decide) ?_
    obtain rfl := Option.some.inj hf
    exact hR H locs 29 ls hP hD hS dX4_minors_29
  · have hf := hf_f e1_0 hf
    by_cases e1_1 : a2 = (1 : Int32)
    · have hf := hf_t e1_1 hf
      refine lv_tableIn (pc := 1) hx hb (off := 29) (tgt := 30) dX4_minors_1 (by rw [e1_1]; decide) (by rw [e1_1]; decide) (by rw [e1_1]; rfl) (by decide) ?_
      refine lv_aload_n (pc := 30) hx hb dX4_minors_30 rfl (lv_at hl 0 rfl) ?_
      refine lv_iload_n (pc := 31) hx hb dX4_minors_31 rfl (lv_at hl 1 rfl) ?_
      refine lv_iconst (pc := 32) hx hb (v := 0) dX4_minors_32 (by decide) ?_
      refine lv_iconst (pc := 33) hx hb (v := 0) dX4_minors_33 (by decide) ?_
      obtain ⟨r34, hc34, hf⟩ := hf_b hf
      refine cl_V (pc := 34) (As := [.int a1, .int 0, .int 0]) (rest := []) hx hb hml hown hts (kX4_entry_1 l D A B _ S a1 0 0 r34 hc34) (cwV 3 hts gwRX4_63 rfl rfl rfl hdX4_entry ⟨Nat.le_of_ble_eq_true rfl, Nat.le_of_ble_eq_true rfl⟩) hN hK hP hD hS hA (va_recv hK hP (ci := 4) (q0 := 1) rfl (eX_1 A B _)) rfl hl.1 rfl (Nat.le_of_ble_eq_true rfl) dX4_minors_34 (st1 := [.int r34]) rfl ⟨Nat.zero_le _, Nat.zero_le _⟩ (fun H locs hP hD hS => ?_)
      refine lv_aload_n (pc := 37) hx hb dX4_minors_37 rfl (lv_at hl 0 rfl) ?_
      refine lv_iload_n (pc := 38) hx hb dX4_minors_38 rfl (lv_at hl 1 rfl) ?_
      refine lv_iconst (pc := 39) hx hb (v := 1) dX4_minors_39 (by decide) ?_
      refine lv_iconst (pc := 40) hx hb (v := 1) dX4_minors_40 (by decide) ?_
      obtain ⟨r41, hc41, hf⟩ := hf_b hf
      refine cl_V (pc := 41) (As := [.int a1, .int 1, .int 1]) (rest := [.int r34]) hx hb hml hown hts (kX4_entry_1 l D A B _ S a1 1 1 r41 hc41) (cwV 3 hts gwRX4_63 rfl rfl rfl hdX4_entry ⟨Nat.le_of_ble_eq_true rfl, Nat.le_of_ble_eq_true rfl⟩) hN hK hP hD hS hA (va_recv hK hP (ci := 4) (q0 := 1) rfl (eX_1 A B _)) rfl hl.1 rfl (Nat.le_of_ble_eq_true rfl) dX4_minors_41 (st1 := [.int r41, .int r34]) rfl ⟨Nat.zero_le _, Nat.zero_le _⟩ (fun H locs hP hD hS => ?_)
      refine lv_iadd (pc := 44) hx hb dX4_minors_44 ?_
      refine lv_aload_n (pc := 45) hx hb dX4_minors_45 rfl (lv_at hl 0 rfl) ?_
      refine lv_iload_n (pc := 46) hx hb dX4_minors_46 rfl (lv_at hl 1 rfl) ?_
      refine lv_iconst (pc := 47) hx hb (v := 2) dX4_minors_47 (by decide) ?_
      refine lv_iconst (pc := 48) hx hb (v := 2) dX4_minors_48 (by decide) ?_
      obtain ⟨r49, hc49, hf⟩ := hf_b hf
      refine cl_V (pc := 49) (As := [.int a1, .int 2, .int 2]) (rest := [.int (r34 + r41)]) hx hb hml hown hts (kX4_entry_1 l D A B _ S a1 2 2 r49 hc49) (cwV 3 hts gwRX4_63 rfl rfl rfl hdX4_entry ⟨Nat.le_of_ble_eq_true rfl, Nat.le_of_ble_eq_true rfl⟩) hN hK hP hD hS hA (va_recv hK hP (ci := 4) (q0 := 1) rfl (eX_1 A B _)) rfl hl.1 rfl (Nat.le_of_ble_eq_true rfl) dX4_minors_49 (st1 := [.int r49, .int (r34 + r41)]) rfl ⟨Nat.zero_le _, Nat.zero_le _⟩ (fun H locs hP hD hS => ?_)
      refine lv_iadd (pc := 52) hx hb dX4_minors_52 ?_
      refine lv_i2l (pc := 53) hx hb (v := ((r34 + r41) + r49).toInt64) dX4_minors_53 rfl ?_
      obtain rfl := Option.some.inj hf
      exact hR H locs 54 ls hP hD hS dX4_minors_54
    · have hf := hf_f e1_1 hf
      by_cases e1_2 : a2 = (2 : Int32)
      · have hf := hf_t e1_2 hf
        refine lv_tableIn (pc := 1) hx hb (off := 54) (tgt := 55) dX4_minors_1 (by rw [e1_2]; decide) (by rw [e1_2]; decide) (by rw [e1_2]; rfl) (by decide) ?_
        refine lv_aload_n (pc := 55) hx hb dX4_minors_55 rfl (lv_at hl 0 rfl) ?_
        refine lv_iload_n (pc := 56) hx hb dX4_minors_56 rfl (lv_at hl 1 rfl) ?_
        refine lv_iconst (pc := 57) hx hb (v := 0) dX4_minors_57 (by decide) ?_
        refine lv_iconst (pc := 58) hx hb (v := 1) dX4_minors_58 (by decide) ?_
        obtain ⟨r59, hc59, hf⟩ := hf_b hf
        refine cl_V (pc := 59) (As := [.int a1, .int 0, .int 1]) (rest := []) hx hb hml hown hts (kX4_minor_1 l D A B _ S a1 0 1 r59 hc59) (cwV 3 hts gwRX4_67 rfl rfl rfl hdX4_minor ⟨Nat.le_of_ble_eq_true rfl, Nat.le_of_ble_eq_true rfl⟩) hN hK hP hD hS hA (va_recv hK hP (ci := 4) (q0 := 1) rfl (eX_1 A B _)) rfl hl.1 rfl (Nat.le_of_ble_eq_true rfl) dX4_minors_59 (st1 := [.long r59]) rfl ⟨Nat.zero_le _, Nat.zero_le _⟩ (fun H locs hP hD hS => ?_)
        refine lv_aload_n (pc := 62) hx hb dX4_minors_62 rfl (lv_at hl 0 rfl) ?_
        refine lv_iload_n (pc := 63) hx hb dX4_minors_63 rfl (lv_at hl 1 rfl) ?_
        refine lv_iconst (pc := 64) hx hb (v := 0) dX4_minors_64 (by decide) ?_
        refine lv_iconst (pc := 65) hx hb (v := 2) dX4_minors_65 (by decide) ?_
        obtain ⟨r66, hc66, hf⟩ := hf_b hf
        refine cl_V (pc := 66) (As := [.int a1, .int 0, .int 2]) (rest := [.long r59]) hx hb hml hown hts (kX4_minor_1 l D A B _ S a1 0 2 r66 hc66) (cwV 3 hts gwRX4_67 rfl rfl rfl hdX4_minor ⟨Nat.le_of_ble_eq_true rfl, Nat.le_of_ble_eq_true rfl⟩) hN hK hP hD hS hA (va_recv hK hP (ci := 4) (q0 := 1) rfl (eX_1 A B _)) rfl hl.1 rfl (Nat.le_of_ble_eq_true rfl) dX4_minors_66 (st1 := [.long r66, .long r59]) rfl ⟨Nat.zero_le _, Nat.zero_le _⟩ (fun H locs hP hD hS => ?_)
        refine lv_ladd (pc := 69) hx hb dX4_minors_69 ?_
        refine lv_aload_n (pc := 70) hx hb dX4_minors_70 rfl (lv_at hl 0 rfl) ?_
        refine lv_iload_n (pc := 71) hx hb dX4_minors_71 rfl (lv_at hl 1 rfl) ?_
        refine lv_iconst (pc := 72) hx hb (v := 1) dX4_minors_72 (by decide) ?_
        refine lv_iconst (pc := 73) hx hb (v := 2) dX4_minors_73 (by decide) ?_
        obtain ⟨r74, hc74, hf⟩ := hf_b hf
        refine cl_V (pc := 74) (As := [.int a1, .int 1, .int 2]) (rest := [.long (r59 + r66)]) hx hb hml hown hts (kX4_minor_1 l D A B _ S a1 1 2 r74 hc74) (cwV 3 hts gwRX4_67 rfl rfl rfl hdX4_minor ⟨Nat.le_of_ble_eq_true rfl, Nat.le_of_ble_eq_true rfl⟩) hN hK hP hD hS hA (va_recv hK hP (ci := 4) (q0 := 1) rfl (eX_1 A B _)) rfl hl.1 rfl (Nat.le_of_ble_eq_true rfl) dX4_minors_74 (st1 := [.long r74, .long (r59 + r66)]) rfl ⟨Nat.zero_le _, Nat.zero_le _⟩ (fun H locs hP hD hS => ?_)
        refine lv_ladd (pc := 77) hx hb dX4_minors_77 ?_
        obtain rfl := Option.some.inj hf
        exact hR H locs 78 ls hP hD hS dX4_minors_78
      · have hf := hf_f e1_2 hf
        have n1_0 := lv_neT (a := 0) e1_0 rfl
        have n1_1 := lv_neT (a := 1) e1_1 rfl
        have n1_2 := lv_neT (a := 2) e1_2 rfl
        refine lv_tableOut (pc := 1) hx hb (tgt := 79) dX4_minors_1 (by omega) (by decide) ?_
        refine lv_aload_n (pc := 79) hx hb dX4_minors_79 rfl (lv_at hl 0 rfl) ?_
        refine lv_iload_n (pc := 80) hx hb dX4_minors_80 rfl (lv_at hl 1 rfl) ?_
        obtain ⟨r81, hc81, hf⟩ := hf_b hf
        refine cl_V (pc := 81) (As := [.int a1]) (rest := []) hx hb hml hown hts (kX4_largestMinor_1 l D A B _ S a1 r81 hc81) (cwV 1 hts gwRX4_71 rfl rfl rfl hdX4_largestMinor ⟨Nat.le_of_ble_eq_true rfl, Nat.le_of_ble_eq_true rfl⟩) hN hK hP hD hS hA (va_recv hK hP (ci := 4) (q0 := 1) rfl (eX_1 A B _)) rfl hl.1 rfl (Nat.le_of_ble_eq_true rfl) dX4_minors_81 (st1 := [.long r81]) rfl ⟨Nat.zero_le _, Nat.zero_le _⟩ (fun H locs hP hD hS => ?_)
        obtain rfl := Option.some.inj hf
        exact hR H locs 84 ls hP hD hS dX4_minors_84
set_option maxHeartbeats 4000000 in
set_option maxRecDepth 100000 in
theorem kX6_far (l : Launch) (D : va_G) (A : Nat → Nat) (B : Nat → ClassId) (sz : Nat) (S : w_S) (a0 : Int32) (z : Int64) (hf : fX6_far a0 = some z) : MetW l yX6_far (wsO yX6_far cX6_far 1 (some .long)) rm_X6_far [.int a0] D (tyB B) (wX A B S) (wX A B S) sz (some (.long z)) := by
  refine MetW.mkL (cc := cX6_far) (maxL := 1) (by decide) (Nat.le_of_ble_eq_true rfl) ?_
  intro p e s m args below meth c Ad Q hx hb hts hown hml hN hK hA hR H locs ls hP hD hS hl
  have hl : lv_has ls 1 [(0, .int a0)] := hl
  rw [fX6_far] at hf
  refine lv_iload_n (pc := 0) hx hb dX6_far_0 rfl (lv_at hl 0 rfl) ?_
  refine lv_i2l (pc := 1) hx hb (v := a0.toInt64) dX6_far_1 rfl ?_
  refine lv_ldc2 (pc := 2) hx hb (v := 4000000000000000000) hown (hts (.constantLong RX6 321 (4000000000000000000)) mU_202) dX6_far_2 ?_
  refine lv_lsub (pc := 5) hx hb dX6_far_5 ?_
  obtain rfl := Option.some.inj hf
  exact hR H locs 6 ls hP hD hS dX6_far_6
set_option maxHeartbeats 4000000 in
set_option maxRecDepth 100000 in
theorem kX6_det (l : Launch) (D : va_G) (A : Nat → Nat) (B : Nat → ClassId) (sz : Nat) (S : w_S) (a1 : Int32) (z : Int64) (hf : fX6_det S a1 = some z) : MetW l yX6_det (wsO yX6_det cX6_det 2 (some .long)) rm_X6_det [.ref (A 0), .int a1] D (tyB B) (wX A B S) (wX A B S) sz (some (.long z)) := by
  refine MetW.mkL (cc := cX6_det) (maxL := 2) (by decide) (Nat.le_of_ble_eq_true rfl) ?_
  intro p e s m args below meth c Ad Q hx hb hts hown hml hN hK hA hR H locs ls hP hD hS hl
  have hl : lv_has ls 2 [(0, .ref (A 0)), (1, .int a1)] := hl
  rw [fX6_det] at hf
  refine lv_iload_n (pc := 0) hx hb dX6_det_0 rfl (lv_at hl 1 rfl) ?_
  refine lv_if_eq (pc := 1) hx hb (tgt := 14) dX6_det_1 (by decide) (fun c_1 => ?_) (fun c_1 => ?_)
  · have hf := hf_t c_1 hf
    refine lv_aload_n (pc := 14) hx hb dX6_det_14 rfl (lv_at hl 0 rfl) ?_
    refine vXgRX6_10_0 (pc := 15) hx hb hts mU_16 inU6 hown hK hP dX6_det_15 ?_
    refine lv_iload_n (pc := 18) hx hb dX6_det_18 rfl (lv_at hl 1 rfl) ?_
    refine lv_aload_n (pc := 19) hx hb dX6_det_19 rfl (lv_at hl 0 rfl) ?_
    refine vXgRX6_10_0 (pc := 20) hx hb hts mU_16 inU6 hown hK hP dX6_det_20 ?_
    refine lv_iload_n (pc := 23) hx hb dX6_det_23 rfl (lv_at hl 1 rfl) ?_
    obtain ⟨r24, hc24, hf⟩ := hf_b hf
    refine cl_V (pc := 24) (As := [.int a1]) (rest := [.int a1, .ref (A 1)]) hx hb hml hown hts (kX4_rows_1 l D A B _ S a1 r24 hc24) (cwV 1 hts gwRX6_91 rfl rfl rfl hdX4_rows ⟨Nat.le_of_ble_eq_true rfl, Nat.le_of_ble_eq_true rfl⟩) hN hK hP hD hS hA (va_recv hK hP (ci := 4) (q0 := 1) rfl (eX_1 A B _)) rfl hl.1 rfl (Nat.le_of_ble_eq_true rfl) dX6_det_24 (st1 := [.int r24, .int a1, .ref (A 1)]) rfl ⟨Nat.zero_le _, Nat.zero_le _⟩ (fun H locs hP hD hS => ?_)
    obtain ⟨r27, hc27, hf⟩ := hf_b hf
    refine cl_V (pc := 27) (As := [.int a1, .int r24]) (rest := []) hx hb hml hown hts (kX4_minors_1 l D A B _ S a1 r24 r27 hc27) (cwV 2 hts gwRX6_94 rfl rfl rfl hdX4_minors ⟨Nat.le_of_ble_eq_true rfl, Nat.le_of_ble_eq_true rfl⟩) hN hK hP hD hS hA (va_recv hK hP (ci := 4) (q0 := 1) rfl (eX_1 A B _)) rfl hl.1 rfl (Nat.le_of_ble_eq_true rfl) dX6_det_27 (st1 := [.long r27]) rfl ⟨Nat.zero_le _, Nat.zero_le _⟩ (fun H locs hP hD hS => ?_)
    obtain rfl := Option.some.inj hf
    exact hR H locs 30 ls hP hD hS dX6_det_30
  · have hf := hf_f c_1 hf
    refine lv_iload_n (pc := 4) hx hb dX6_det_4 rfl (lv_at hl 1 rfl) ?_
    refine lv_iconst (pc := 5) hx hb (v := 1) dX6_det_5 (by decide) ?_
    refine lv_icmp_eq (pc := 6) hx hb (tgt := 14) dX6_det_6 (by decide) (fun c_6 => ?_) (fun c_6 => ?_)
    · have hf := hf_t c_6 hf
      refine lv_aload_n (pc := 14) hx hb dX6_det_14 rfl (lv_at hl 0 rfl) ?_
      refine vXgRX6_10_0 (pc := 15) hx hb hts mU_16 inU6 hown hK hP dX6_det_15 ?_
      refine lv_iload_n (pc := 18) hx hb dX6_det_18 rfl (lv_at hl 1 rfl) ?_
      refine lv_aload_n (pc := 19) hx hb dX6_det_19 rfl (lv_at hl 0 rfl) ?_
      refine vXgRX6_10_0 (pc := 20) hx hb hts mU_16 inU6 hown hK hP dX6_det_20 ?_
      refine lv_iload_n (pc := 23) hx hb dX6_det_23 rfl (lv_at hl 1 rfl) ?_
      obtain ⟨r24, hc24, hf⟩ := hf_b hf
      refine cl_V (pc := 24) (As := [.int a1]) (rest := [.int a1, .ref (A 1)]) hx hb hml hown hts (kX4_rows_1 l D A B _ S a1 r24 hc24) (cwV 1 hts gwRX6_91 rfl rfl rfl hdX4_rows ⟨Nat.le_of_ble_eq_true rfl, Nat.le_of_ble_eq_true rfl⟩) hN hK hP hD hS hA (va_recv hK hP (ci := 4) (q0 := 1) rfl (eX_1 A B _)) rfl hl.1 rfl (Nat.le_of_ble_eq_true rfl) dX6_det_24 (st1 := [.int r24, .int a1, .ref (A 1)]) rfl ⟨Nat.zero_le _, Nat.zero_le _⟩ (fun H locs hP hD hS => ?_)
      obtain ⟨r27, hc27, hf⟩ := hf_b hf
      refine cl_V (pc := 27) (As := [.int a1, .int r24]) (rest := []) hx hb hml hown hts (kX4_minors_1 l D A B _ S a1 r24 r27 hc27) (cwV 2 hts gwRX6_94 rfl rfl rfl hdX4_minors ⟨Nat.le_of_ble_eq_true rfl, Nat.le_of_ble_eq_true rfl⟩) hN hK hP hD hS hA (va_recv hK hP (ci := 4) (q0 := 1) rfl (eX_1 A B _)) rfl hl.1 rfl (Nat.le_of_ble_eq_true rfl) dX6_det_27 (st1 := [.long r27]) rfl ⟨Nat.zero_le _, Nat.zero_le _⟩ (fun H locs hP hD hS => ?_)
      obtain rfl := Option.some.inj hf
      exact hR H locs 30 ls hP hD hS dX6_det_30
    · have hf := hf_f c_6 hf
      refine lv_iconst (pc := 9) hx hb (v := (-1)) dX6_det_9 (by decide) ?_
      obtain ⟨r10, hc10, hf⟩ := hf_b hf
      refine cl_S (pc := 10) (As := [.int (-1)]) (rest := []) hx hb hml hown hts (kX6_far l D A B _ S (-1) r10 hc10) (va_cwS 1 hts gwRX6_87 rfl rfl rfl hdX6_far ⟨Nat.le_of_ble_eq_true rfl, Nat.le_of_ble_eq_true rfl⟩) hN hK hP hD hS hA rfl hl.1 rfl (Nat.le_of_ble_eq_true rfl) dX6_det_10 (st1 := [.long r10]) rfl ⟨Nat.zero_le _, Nat.zero_le _⟩ (fun H locs hP hD hS => ?_)
      obtain rfl := Option.some.inj hf
      exact hR H locs 13 ls hP hD hS dX6_det_13
set_option maxHeartbeats 4000000 in
set_option maxRecDepth 100000 in
theorem kX6_diagonal (l : Launch) (D : va_G) (A : Nat → Nat) (B : Nat → ClassId) (sz : Nat) (S : w_S) (a1 : Int32) (z : Int64) (hf : fX6_diagonal S a1 = some z) : MetW l yX6_diagonal (wsO yX6_diagonal cX6_diagonal 2 (some .long)) rm_X6_diagonal [.ref (A 0), .int a1] D (tyB B) (wX A B S) (wX A B S) sz (some (.long z)) := by
  refine MetW.mkL (cc := cX6_diagonal) (maxL := 2) (by decide) (Nat.le_of_ble_eq_true rfl) ?_
  intro p e s m args below meth c Ad Q hx hb hts hown hml hN hK hA hR H locs ls hP hD hS hl
  have hl : lv_has ls 2 [(0, .ref (A 0)), (1, .int a1)] := hl
  rw [fX6_diagonal] at hf
  refine lv_iload_n (pc := 0) hx hb dX6_diagonal_0 rfl (lv_at hl 1 rfl) ?_
  refine lv_if_eq (pc := 1) hx hb (tgt := 19) dX6_diagonal_1 (by decide) (fun c_1 => ?_) (fun c_1 => ?_)
  · have hf := hf_t c_1 hf
    refine lv_iload_n (pc := 19) hx hb dX6_diagonal_19 rfl (lv_at hl 1 rfl) ?_
    refine lv_iconst (pc := 20) hx hb (v := 2) dX6_diagonal_20 (by decide) ?_
    refine lv_icmp_ne (pc := 21) hx hb (tgt := 47) dX6_diagonal_21 (by decide) (fun c_21 => ?_) (fun c_21 => ?_)
    · have hf := hf_f c_21 hf
      refine lv_aload_n (pc := 47) hx hb dX6_diagonal_47 rfl (lv_at hl 0 rfl) ?_
      refine vXgRX6_10_0 (pc := 48) hx hb hts mU_16 inU6 hown hK hP dX6_diagonal_48 ?_
      refine lv_iload_n (pc := 51) hx hb dX6_diagonal_51 rfl (lv_at hl 1 rfl) ?_
      refine lv_iconst (pc := 52) hx hb (v := 1) dX6_diagonal_52 (by decide) ?_
      obtain ⟨r53, hc53, hf⟩ := hf_b hf
      refine cl_V (pc := 53) (As := [.int a1, .int 1]) (rest := []) hx hb hml hown hts (kX4_minors_1 l D A B _ S a1 1 r53 hc53) (cwV 2 hts gwRX6_94 rfl rfl rfl hdX4_minors ⟨Nat.le_of_ble_eq_true rfl, Nat.le_of_ble_eq_true rfl⟩) hN hK hP hD hS hA (va_recv hK hP (ci := 4) (q0 := 1) rfl (eX_1 A B _)) rfl hl.1 rfl (Nat.le_of_ble_eq_true rfl) dX6_diagonal_53 (st1 := [.long r53]) rfl ⟨Nat.zero_le _, Nat.zero_le _⟩ (fun H locs hP hD hS => ?_)
      obtain rfl := Option.some.inj hf
      exact hR H locs 56 ls hP hD hS dX6_diagonal_56
    · have hf := hf_t c_21 hf
      refine lv_aload_n (pc := 24) hx hb dX6_diagonal_24 rfl (lv_at hl 0 rfl) ?_
      refine vXgRX6_10_0 (pc := 25) hx hb hts mU_16 inU6 hown hK hP dX6_diagonal_25 ?_
      refine vXgRX6_60_1 (pc := 28) hx hb hts mU_111 inU4 hown hK hP (x := (gI S 0)) rfl dX6_diagonal_28 ?_
      refine lv_aload_n (pc := 31) hx hb dX6_diagonal_31 rfl (lv_at hl 0 rfl) ?_
      refine vXgRX6_10_0 (pc := 32) hx hb hts mU_16 inU6 hown hK hP dX6_diagonal_32 ?_
      refine vXgRX6_64_1 (pc := 35) hx hb hts mU_112 inU4 hown hK hP (x := (gI S 1)) rfl dX6_diagonal_35 ?_
      refine lv_icmp_eq (pc := 38) hx hb (tgt := 47) dX6_diagonal_38 (by decide) (fun c_38 => ?_) (fun c_38 => ?_)
      · have hf := hf_t c_38 hf
        refine lv_aload_n (pc := 47) hx hb dX6_diagonal_47 rfl (lv_at hl 0 rfl) ?_
        refine vXgRX6_10_0 (pc := 48) hx hb hts mU_16 inU6 hown hK hP dX6_diagonal_48 ?_
        refine lv_iload_n (pc := 51) hx hb dX6_diagonal_51 rfl (lv_at hl 1 rfl) ?_
        refine lv_iconst (pc := 52) hx hb (v := 1) dX6_diagonal_52 (by decide) ?_
        obtain ⟨r53, hc53, hf⟩ := hf_b hf
        refine cl_V (pc := 53) (As := [.int a1, .int 1]) (rest := []) hx hb hml hown hts (kX4_minors_1 l D A B _ S a1 1 r53 hc53) (cwV 2 hts gwRX6_94 rfl rfl rfl hdX4_minors ⟨Nat.le_of_ble_eq_true rfl, Nat.le_of_ble_eq_true rfl⟩) hN hK hP hD hS hA (va_recv hK hP (ci := 4) (q0 := 1) rfl (eX_1 A B _)) rfl hl.1 rfl (Nat.le_of_ble_eq_true rfl) dX6_diagonal_53 (st1 := [.long r53]) rfl ⟨Nat.zero_le _, Nat.zero_le _⟩ (fun H locs hP hD hS => ?_)
        obtain rfl := Option.some.inj hf
        exact hR H locs 56 ls hP hD hS dX6_diagonal_56
      · have hf := hf_f c_38 hf
        refine lv_bipush (pc := 41) hx hb (v := (-4)) dX6_diagonal_41 (by decide) ?_
        obtain ⟨r43, hc43, hf⟩ := hf_b hf
        refine cl_S (pc := 43) (As := [.int (-4)]) (rest := []) hx hb hml hown hts (kX6_far l D A B _ S (-4) r43 hc43) (va_cwS 1 hts gwRX6_87 rfl rfl rfl hdX6_far ⟨Nat.le_of_ble_eq_true rfl, Nat.le_of_ble_eq_true rfl⟩) hN hK hP hD hS hA rfl hl.1 rfl (Nat.le_of_ble_eq_true rfl) dX6_diagonal_43 (st1 := [.long r43]) rfl ⟨Nat.zero_le _, Nat.zero_le _⟩ (fun H locs hP hD hS => ?_)
        obtain rfl := Option.some.inj hf
        exact hR H locs 46 ls hP hD hS dX6_diagonal_46
  · have hf := hf_f c_1 hf
    refine lv_iload_n (pc := 4) hx hb dX6_diagonal_4 rfl (lv_at hl 1 rfl) ?_
    refine lv_iconst (pc := 5) hx hb (v := 1) dX6_diagonal_5 (by decide) ?_
    refine lv_icmp_eq (pc := 6) hx hb (tgt := 19) dX6_diagonal_6 (by decide) (fun c_6 => ?_) (fun c_6 => ?_)
    · have hf := hf_t c_6 hf
      refine lv_iload_n (pc := 19) hx hb dX6_diagonal_19 rfl (lv_at hl 1 rfl) ?_
      refine lv_iconst (pc := 20) hx hb (v := 2) dX6_diagonal_20 (by decide) ?_
      refine lv_icmp_ne (pc := 21) hx hb (tgt := 47) dX6_diagonal_21 (by decide) (fun c_21 => ?_) (fun c_21 => ?_)
      · have hf := hf_f c_21 hf
        refine lv_aload_n (pc := 47) hx hb dX6_diagonal_47 rfl (lv_at hl 0 rfl) ?_
        refine vXgRX6_10_0 (pc := 48) hx hb hts mU_16 inU6 hown hK hP dX6_diagonal_48 ?_
        refine lv_iload_n (pc := 51) hx hb dX6_diagonal_51 rfl (lv_at hl 1 rfl) ?_
        refine lv_iconst (pc := 52) hx hb (v := 1) dX6_diagonal_52 (by decide) ?_
        obtain ⟨r53, hc53, hf⟩ := hf_b hf
        refine cl_V (pc := 53) (As := [.int a1, .int 1]) (rest := []) hx hb hml hown hts (kX4_minors_1 l D A B _ S a1 1 r53 hc53) (cwV 2 hts gwRX6_94 rfl rfl rfl hdX4_minors ⟨Nat.le_of_ble_eq_true rfl, Nat.le_of_ble_eq_true rfl⟩) hN hK hP hD hS hA (va_recv hK hP (ci := 4) (q0 := 1) rfl (eX_1 A B _)) rfl hl.1 rfl (Nat.le_of_ble_eq_true rfl) dX6_diagonal_53 (st1 := [.long r53]) rfl ⟨Nat.zero_le _, Nat.zero_le _⟩ (fun H locs hP hD hS => ?_)
        obtain rfl := Option.some.inj hf
        exact hR H locs 56 ls hP hD hS dX6_diagonal_56
      · have hf := hf_t c_21 hf
        refine lv_aload_n (pc := 24) hx hb dX6_diagonal_24 rfl (lv_at hl 0 rfl) ?_
        refine vXgRX6_10_0 (pc := 25) hx hb hts mU_16 inU6 hown hK hP dX6_diagonal_25 ?_
        refine vXgRX6_60_1 (pc := 28) hx hb hts mU_111 inU4 hown hK hP (x := (gI S 0)) rfl dX6_diagonal_28 ?_
        refine lv_aload_n (pc := 31) hx hb dX6_diagonal_31 rfl (lv_at hl 0 rfl) ?_
        refine vXgRX6_10_0 (pc := 32) hx hb hts mU_16 inU6 hown hK hP dX6_diagonal_32 ?_
        refine vXgRX6_64_1 (pc := 35) hx hb hts mU_112 inU4 hown hK hP (x := (gI S 1)) rfl dX6_diagonal_35 ?_
        refine lv_icmp_eq (pc := 38) hx hb (tgt := 47) dX6_diagonal_38 (by decide) (fun c_38 => ?_) (fun c_38 => ?_)
        · have hf := hf_t c_38 hf
          refine lv_aload_n (pc := 47) hx hb dX6_diagonal_47 rfl (lv_at hl 0 rfl) ?_
          refine vXgRX6_10_0 (pc := 48) hx hb hts mU_16 inU6 hown hK hP dX6_diagonal_48 ?_
          refine lv_iload_n (pc := 51) hx hb dX6_diagonal_51 rfl (lv_at hl 1 rfl) ?_
          refine lv_iconst (pc := 52) hx hb (v := 1) dX6_diagonal_52 (by decide) ?_
          obtain ⟨r53, hc53, hf⟩ := hf_b hf
          refine cl_V (pc := 53) (As := [.int a1, .int 1]) (rest := []) hx hb hml hown hts (kX4_minors_1 l D A B _ S a1 1 r53 hc53) (cwV 2 hts gwRX6_94 rfl rfl rfl hdX4_minors ⟨Nat.le_of_ble_eq_true rfl, Nat.le_of_ble_eq_true rfl⟩) hN hK hP hD hS hA (va_recv hK hP (ci := 4) (q0 := 1) rfl (eX_1 A B _)) rfl hl.1 rfl (Nat.le_of_ble_eq_true rfl) dX6_diagonal_53 (st1 := [.long r53]) rfl ⟨Nat.zero_le _, Nat.zero_le _⟩ (fun H locs hP hD hS => ?_)
          obtain rfl := Option.some.inj hf
          exact hR H locs 56 ls hP hD hS dX6_diagonal_56
        · have hf := hf_f c_38 hf
          refine lv_bipush (pc := 41) hx hb (v := (-4)) dX6_diagonal_41 (by decide) ?_
          obtain ⟨r43, hc43, hf⟩ := hf_b hf
          refine cl_S (pc := 43) (As := [.int (-4)]) (rest := []) hx hb hml hown hts (kX6_far l D A B _ S (-4) r43 hc43) (va_cwS 1 hts gwRX6_87 rfl rfl rfl hdX6_far ⟨Nat.le_of_ble_eq_true rfl, Nat.le_of_ble_eq_true rfl⟩) hN hK hP hD hS hA rfl hl.1 rfl (Nat.le_of_ble_eq_true rfl) dX6_diagonal_43 (st1 := [.long r43]) rfl ⟨Nat.zero_le _, Nat.zero_le _⟩ (fun H locs hP hD hS => ?_)
          obtain rfl := Option.some.inj hf
          exact hR H locs 46 ls hP hD hS dX6_diagonal_46
    · have hf := hf_f c_6 hf
      refine lv_iload_n (pc := 9) hx hb dX6_diagonal_9 rfl (lv_at hl 1 rfl) ?_
      refine lv_iconst (pc := 10) hx hb (v := 2) dX6_diagonal_10 (by decide) ?_
      refine lv_icmp_eq (pc := 11) hx hb (tgt := 19) dX6_diagonal_11 (by decide) (fun c_11 => ?_) (fun c_11 => ?_)
      · have hf := hf_t c_11 hf
        refine lv_iload_n (pc := 19) hx hb dX6_diagonal_19 rfl (lv_at hl 1 rfl) ?_
        refine lv_iconst (pc := 20) hx hb (v := 2) dX6_diagonal_20 (by decide) ?_
        refine lv_icmp_ne (pc := 21) hx hb (tgt := 47) dX6_diagonal_21 (by decide) (fun c_21 => ?_) (fun c_21 => ?_)
        · have hf := hf_f c_21 hf
          refine lv_aload_n (pc := 47) hx hb dX6_diagonal_47 rfl (lv_at hl 0 rfl) ?_
          refine vXgRX6_10_0 (pc := 48) hx hb hts mU_16 inU6 hown hK hP dX6_diagonal_48 ?_
          refine lv_iload_n (pc := 51) hx hb dX6_diagonal_51 rfl (lv_at hl 1 rfl) ?_
          refine lv_iconst (pc := 52) hx hb (v := 1) dX6_diagonal_52 (by decide) ?_
          obtain ⟨r53, hc53, hf⟩ := hf_b hf
          refine cl_V (pc := 53) (As := [.int a1, .int 1]) (rest := []) hx hb hml hown hts (kX4_minors_1 l D A B _ S a1 1 r53 hc53) (cwV 2 hts gwRX6_94 rfl rfl rfl hdX4_minors ⟨Nat.le_of_ble_eq_true rfl, Nat.le_of_ble_eq_true rfl⟩) hN hK hP hD hS hA (va_recv hK hP (ci := 4) (q0 := 1) rfl (eX_1 A B _)) rfl hl.1 rfl (Nat.le_of_ble_eq_true rfl) dX6_diagonal_53 (st1 := [.long r53]) rfl ⟨Nat.zero_le _, Nat.zero_le _⟩ (fun H locs hP hD hS => ?_)
          obtain rfl := Option.some.inj hf
          exact hR H locs 56 ls hP hD hS dX6_diagonal_56
        · have hf := hf_t c_21 hf
          refine lv_aload_n (pc := 24) hx hb dX6_diagonal_24 rfl (lv_at hl 0 rfl) ?_
          refine vXgRX6_10_0 (pc := 25) hx hb hts mU_16 inU6 hown hK hP dX6_diagonal_25 ?_
          refine vXgRX6_60_1 (pc := 28) hx hb hts mU_111 inU4 hown hK hP (x := (gI S 0)) rfl dX6_diagonal_28 ?_
          refine lv_aload_n (pc := 31) hx hb dX6_diagonal_31 rfl (lv_at hl 0 rfl) ?_
          refine vXgRX6_10_0 (pc := 32) hx hb hts mU_16 inU6 hown hK hP dX6_diagonal_32 ?_
          refine vXgRX6_64_1 (pc := 35) hx hb hts mU_112 inU4 hown hK hP (x := (gI S 1)) rfl dX6_diagonal_35 ?_
          refine lv_icmp_eq (pc := 38) hx hb (tgt := 47) dX6_diagonal_38 (by decide) (fun c_38 => ?_) (fun c_38 => ?_)
          · have hf := hf_t c_38 hf
            refine lv_aload_n (pc := 47) hx hb dX6_diagonal_47 rfl (lv_at hl 0 rfl) ?_
            refine vXgRX6_10_0 (pc := 48) hx hb hts mU_16 inU6 hown hK hP dX6_diagonal_48 ?_
            refine lv_iload_n (pc := 51) hx hb dX6_diagonal_51 rfl (lv_at hl 1 rfl) ?_
            refine lv_iconst (pc := 52) hx hb (v := 1) dX6_diagonal_52 (by decide) ?_
            obtain ⟨r53, hc53, hf⟩ := hf_b hf
            refine cl_V (pc := 53) (As := [.int a1, .int 1]) (rest := []) hx hb hml hown hts (kX4_minors_1 l D A B _ S a1 1 r53 hc53) (cwV 2 hts gwRX6_94 rfl rfl rfl hdX4_minors ⟨Nat.le_of_ble_eq_true rfl, Nat.le_of_ble_eq_true rfl⟩) hN hK hP hD hS hA (va_recv hK hP (ci := 4) (q0 := 1) rfl (eX_1 A B _)) rfl hl.1 rfl (Nat.le_of_ble_eq_true rfl) dX6_diagonal_53 (st1 := [.long r53]) rfl ⟨Nat.zero_le _, Nat.zero_le _⟩ (fun H locs hP hD hS => ?_)
            obtain rfl := Option.some.inj hf
            exact hR H locs 56 ls hP hD hS dX6_diagonal_56
          · have hf := hf_f c_38 hf
            refine lv_bipush (pc := 41) hx hb (v := (-4)) dX6_diagonal_41 (by decide) ?_
            obtain ⟨r43, hc43, hf⟩ := hf_b hf
            refine cl_S (pc := 43) (As := [.int (-4)]) (rest := []) hx hb hml hown hts (kX6_far l D A B _ S (-4) r43 hc43) (va_cwS 1 hts gwRX6_87 rfl rfl rfl hdX6_far ⟨Nat.le_of_ble_eq_true rfl, Nat.le_of_ble_eq_true rfl⟩) hN hK hP hD hS hA rfl hl.1 rfl (Nat.le_of_ble_eq_true rfl) dX6_diagonal_43 (st1 := [.long r43]) rfl ⟨Nat.zero_le _, Nat.zero_le _⟩ (fun H locs hP hD hS => ?_)
            obtain rfl := Option.some.inj hf
            exact hR H locs 46 ls hP hD hS dX6_diagonal_46
      · have hf := hf_f c_11 hf
        refine lv_iconst (pc := 14) hx hb (v := (-1)) dX6_diagonal_14 (by decide) ?_
        obtain ⟨r15, hc15, hf⟩ := hf_b hf
        refine cl_S (pc := 15) (As := [.int (-1)]) (rest := []) hx hb hml hown hts (kX6_far l D A B _ S (-1) r15 hc15) (va_cwS 1 hts gwRX6_87 rfl rfl rfl hdX6_far ⟨Nat.le_of_ble_eq_true rfl, Nat.le_of_ble_eq_true rfl⟩) hN hK hP hD hS hA rfl hl.1 rfl (Nat.le_of_ble_eq_true rfl) dX6_diagonal_15 (st1 := [.long r15]) rfl ⟨Nat.zero_le _, Nat.zero_le _⟩ (fun H locs hP hD hS => ?_)
        obtain rfl := Option.some.inj hf
        exact hR H locs 18 ls hP hD hS dX6_diagonal_18
set_option maxHeartbeats 4000000 in
set_option maxRecDepth 100000 in
theorem kX6_character (l : Launch) (D : va_G) (A : Nat → Nat) (B : Nat → ClassId) (sz : Nat) (S : w_S) (a1 : Int32) (a2 : Int32) (z : Int64) (hf : fX6_character S a1 a2 = some z) : MetW l yX6_character (wsO yX6_character cX6_character 6 (some .long)) rm_X6_character [.ref (A 0), .int a1, .int a2] D (tyB B) (wX A B S) (wX A B S) sz (some (.long z)) := by
  refine MetW.mkL (cc := cX6_character) (maxL := 6) (by decide) (Nat.le_of_ble_eq_true rfl) ?_
  intro p e s m args below meth c Ad Q hx hb hts hown hml hN hK hA hR H locs ls hP hD hS hl
  have hl : lv_has ls 6 [(0, .ref (A 0)), (1, .int a1), (2, .int a2)] := hl
  rw [fX6_character] at hf
  refine lv_iload_n (pc := 0) hx hb dX6_character_0 rfl (lv_at hl 1 rfl) ?_
  refine lv_if_eq (pc := 1) hx hb (tgt := 9) dX6_character_1 (by decide) (fun c_1 => ?_) (fun c_1 => ?_)
  · have hf := hf_t c_1 hf
    refine lv_iload_n (pc := 9) hx hb dX6_character_9 rfl (lv_at hl 2 rfl) ?_
    refine lv_if_lt (pc := 10) hx hb (tgt := 25) dX6_character_10 (by decide) (fun c_10 => ?_) (fun c_10 => ?_)
    · have hf := hf_t c_10 hf
      refine lv_iconst (pc := 25) hx hb (v := (-1)) dX6_character_25 (by decide) ?_
      obtain ⟨r26, hc26, hf⟩ := hf_b hf
      refine cl_S (pc := 26) (As := [.int (-1)]) (rest := []) hx hb hml hown hts (kX6_far l D A B _ S (-1) r26 hc26) (va_cwS 1 hts gwRX6_87 rfl rfl rfl hdX6_far ⟨Nat.le_of_ble_eq_true rfl, Nat.le_of_ble_eq_true rfl⟩) hN hK hP hD hS hA rfl hl.1 rfl (Nat.le_of_ble_eq_true rfl) dX6_character_26 (st1 := [.long r26]) rfl ⟨Nat.zero_le _, Nat.zero_le _⟩ (fun H locs hP hD hS => ?_)
      obtain rfl := Option.some.inj hf
      exact hR H locs 29 ls hP hD hS dX6_character_29
    · have hf := hf_f c_10 hf
      refine lv_iload_n (pc := 13) hx hb dX6_character_13 rfl (lv_at hl 2 rfl) ?_
      refine lv_aload_n (pc := 14) hx hb dX6_character_14 rfl (lv_at hl 0 rfl) ?_
      refine vXgRX6_10_0 (pc := 15) hx hb hts mU_16 inU6 hown hK hP dX6_character_15 ?_
      refine lv_iload_n (pc := 18) hx hb dX6_character_18 rfl (lv_at hl 1 rfl) ?_
      obtain ⟨r19, hc19, hf⟩ := hf_b hf
      refine cl_V (pc := 19) (As := [.int a1]) (rest := [.int a2]) hx hb hml hown hts (kX4_rows_1 l D A B _ S a1 r19 hc19) (cwV 1 hts gwRX6_91 rfl rfl rfl hdX4_rows ⟨Nat.le_of_ble_eq_true rfl, Nat.le_of_ble_eq_true rfl⟩) hN hK hP hD hS hA (va_recv hK hP (ci := 4) (q0 := 1) rfl (eX_1 A B _)) rfl hl.1 rfl (Nat.le_of_ble_eq_true rfl) dX6_character_19 (st1 := [.int r19, .int a2]) rfl ⟨Nat.zero_le _, Nat.zero_le _⟩ (fun H locs hP hD hS => ?_)
      refine lv_icmp_le (pc := 22) hx hb (tgt := 30) dX6_character_22 (by decide) (fun c_22 => ?_) (fun c_22 => ?_)
      · have hf := hf_t c_22 hf
        refine lv_aload_n (pc := 30) hx hb dX6_character_30 rfl (lv_at hl 0 rfl) ?_
        refine vXgRX6_10_0 (pc := 31) hx hb hts mU_16 inU6 hown hK hP dX6_character_31 ?_
        refine lv_iload_n (pc := 34) hx hb dX6_character_34 rfl (lv_at hl 1 rfl) ?_
        obtain ⟨r35, hc35, hf⟩ := hf_b hf
        refine cl_V (pc := 35) (As := [.int a1]) (rest := []) hx hb hml hown hts (kX4_rows_1 l D A B _ S a1 r35 hc35) (cwV 1 hts gwRX6_91 rfl rfl rfl hdX4_rows ⟨Nat.le_of_ble_eq_true rfl, Nat.le_of_ble_eq_true rfl⟩) hN hK hP hD hS hA (va_recv hK hP (ci := 4) (q0 := 1) rfl (eX_1 A B _)) rfl hl.1 rfl (Nat.le_of_ble_eq_true rfl) dX6_character_35 (st1 := [.int r35]) rfl ⟨Nat.zero_le _, Nat.zero_le _⟩ (fun H locs hP hD hS => ?_)
        refine lv_iload_n (pc := 38) hx hb dX6_character_38 rfl (lv_at hl 2 rfl) ?_
        refine lv_isub (pc := 39) hx hb dX6_character_39 ?_
        refine lv_istore_n (pc := 40) hx hb (lv' := [(3, .int (r35 - a2)), (0, .ref (A 0)), (1, .int a1), (2, .int a2)]) dX6_character_40 rfl hl (by decide) rfl (fun ls hl => ?_)
        refine lv_aload_n (pc := 41) hx hb dX6_character_41 rfl (lv_at hl 1 rfl) ?_
        refine vXgRX6_10_0 (pc := 42) hx hb hts mU_16 inU6 hown hK hP dX6_character_42 ?_
        refine lv_iload_n (pc := 45) hx hb dX6_character_45 rfl (lv_at hl 2 rfl) ?_
        refine lv_iload_n (pc := 46) hx hb dX6_character_46 rfl (lv_at hl 0 rfl) ?_
        obtain ⟨r47, hc47, hf⟩ := hf_b hf
        refine cl_V (pc := 47) (As := [.int a1, .int (r35 - a2)]) (rest := []) hx hb hml hown hts (kX4_minors_1 l D A B _ S a1 (r35 - a2) r47 hc47) (cwV 2 hts gwRX6_94 rfl rfl rfl hdX4_minors ⟨Nat.le_of_ble_eq_true rfl, Nat.le_of_ble_eq_true rfl⟩) hN hK hP hD hS hA (va_recv hK hP (ci := 4) (q0 := 1) rfl (eX_1 A B _)) rfl hl.1 rfl (Nat.le_of_ble_eq_true rfl) dX6_character_47 (st1 := [.long r47]) rfl ⟨Nat.zero_le _, Nat.zero_le _⟩ (fun H locs hP hD hS => ?_)
        refine lv_lstore (pc := 50) hx hb (lv' := [(4, .long r47), (3, .int (r35 - a2)), (0, .ref (A 0)), (1, .int a1), (2, .int a2)]) dX6_character_50 hl (by decide) rfl (fun ls hl => ?_)
        refine lv_iload_n (pc := 52) hx hb dX6_character_52 rfl (lv_at hl 1 rfl) ?_
        refine lv_iconst (pc := 53) hx hb (v := 2) dX6_character_53 (by decide) ?_
        refine lv_irem (pc := 54) hx hb dX6_character_54 (by decide) ?_
        refine lv_if_ne (pc := 55) hx hb (tgt := 63) dX6_character_55 (by decide) (fun c_55 => ?_) (fun c_55 => ?_)
        · have hf := hf_f c_55 hf
          refine lv_lload (pc := 63) hx hb dX6_character_63 (lv_at hl 0 rfl) ?_
          refine lv_lneg (pc := 65) hx hb dX6_character_65 ?_
          obtain rfl := Option.some.inj hf
          exact hR H locs 66 ls hP hD hS dX6_character_66
        · have hf := hf_t c_55 hf
          refine lv_lload (pc := 58) hx hb dX6_character_58 (lv_at hl 0 rfl) ?_
          refine lv_goto (pc := 60) hx hb (tgt := 66) dX6_character_60 (by decide) ?_
          obtain rfl := Option.some.inj hf
          exact hR H locs 66 ls hP hD hS dX6_character_66
      · have hf := hf_f c_22 hf
        refine lv_iconst (pc := 25) hx hb (v := (-1)) dX6_character_25 (by decide) ?_
        obtain ⟨r26, hc26, hf⟩ := hf_b hf
        refine cl_S (pc := 26) (As := [.int (-1)]) (rest := []) hx hb hml hown hts (kX6_far l D A B _ S (-1) r26 hc26) (va_cwS 1 hts gwRX6_87 rfl rfl rfl hdX6_far ⟨Nat.le_of_ble_eq_true rfl, Nat.le_of_ble_eq_true rfl⟩) hN hK hP hD hS hA rfl hl.1 rfl (Nat.le_of_ble_eq_true rfl) dX6_character_26 (st1 := [.long r26]) rfl ⟨Nat.zero_le _, Nat.zero_le _⟩ (fun H locs hP hD hS => ?_)
        obtain rfl := Option.some.inj hf
        exact hR H locs 29 ls hP hD hS dX6_character_29
  · have hf := hf_f c_1 hf
    refine lv_iload_n (pc := 4) hx hb dX6_character_4 rfl (lv_at hl 1 rfl) ?_
    refine lv_iconst (pc := 5) hx hb (v := 1) dX6_character_5 (by decide) ?_
    refine lv_icmp_ne (pc := 6) hx hb (tgt := 25) dX6_character_6 (by decide) (fun c_6 => ?_) (fun c_6 => ?_)
    · have hf := hf_f c_6 hf
      refine lv_iconst (pc := 25) hx hb (v := (-1)) dX6_character_25 (by decide) ?_
      obtain ⟨r26, hc26, hf⟩ := hf_b hf
      refine cl_S (pc := 26) (As := [.int (-1)]) (rest := []) hx hb hml hown hts (kX6_far l D A B _ S (-1) r26 hc26) (va_cwS 1 hts gwRX6_87 rfl rfl rfl hdX6_far ⟨Nat.le_of_ble_eq_true rfl, Nat.le_of_ble_eq_true rfl⟩) hN hK hP hD hS hA rfl hl.1 rfl (Nat.le_of_ble_eq_true rfl) dX6_character_26 (st1 := [.long r26]) rfl ⟨Nat.zero_le _, Nat.zero_le _⟩ (fun H locs hP hD hS => ?_)
      obtain rfl := Option.some.inj hf
      exact hR H locs 29 ls hP hD hS dX6_character_29
    · have hf := hf_t c_6 hf
      refine lv_iload_n (pc := 9) hx hb dX6_character_9 rfl (lv_at hl 2 rfl) ?_
      refine lv_if_lt (pc := 10) hx hb (tgt := 25) dX6_character_10 (by decide) (fun c_10 => ?_) (fun c_10 => ?_)
      · have hf := hf_t c_10 hf
        refine lv_iconst (pc := 25) hx hb (v := (-1)) dX6_character_25 (by decide) ?_
        obtain ⟨r26, hc26, hf⟩ := hf_b hf
        refine cl_S (pc := 26) (As := [.int (-1)]) (rest := []) hx hb hml hown hts (kX6_far l D A B _ S (-1) r26 hc26) (va_cwS 1 hts gwRX6_87 rfl rfl rfl hdX6_far ⟨Nat.le_of_ble_eq_true rfl, Nat.le_of_ble_eq_true rfl⟩) hN hK hP hD hS hA rfl hl.1 rfl (Nat.le_of_ble_eq_true rfl) dX6_character_26 (st1 := [.long r26]) rfl ⟨Nat.zero_le _, Nat.zero_le _⟩ (fun H locs hP hD hS => ?_)
        obtain rfl := Option.some.inj hf
        exact hR H locs 29 ls hP hD hS dX6_character_29
      · have hf := hf_f c_10 hf
        refine lv_iload_n (pc := 13) hx hb dX6_character_13 rfl (lv_at hl 2 rfl) ?_
        refine lv_aload_n (pc := 14) hx hb dX6_character_14 rfl (lv_at hl 0 rfl) ?_
        refine vXgRX6_10_0 (pc := 15) hx hb hts mU_16 inU6 hown hK hP dX6_character_15 ?_
        refine lv_iload_n (pc := 18) hx hb dX6_character_18 rfl (lv_at hl 1 rfl) ?_
        obtain ⟨r19, hc19, hf⟩ := hf_b hf
        refine cl_V (pc := 19) (As := [.int a1]) (rest := [.int a2]) hx hb hml hown hts (kX4_rows_1 l D A B _ S a1 r19 hc19) (cwV 1 hts gwRX6_91 rfl rfl rfl hdX4_rows ⟨Nat.le_of_ble_eq_true rfl, Nat.le_of_ble_eq_true rfl⟩) hN hK hP hD hS hA (va_recv hK hP (ci := 4) (q0 := 1) rfl (eX_1 A B _)) rfl hl.1 rfl (Nat.le_of_ble_eq_true rfl) dX6_character_19 (st1 := [.int r19, .int a2]) rfl ⟨Nat.zero_le _, Nat.zero_le _⟩ (fun H locs hP hD hS => ?_)
        refine lv_icmp_le (pc := 22) hx hb (tgt := 30) dX6_character_22 (by decide) (fun c_22 => ?_) (fun c_22 => ?_)
        · have hf := hf_t c_22 hf
          refine lv_aload_n (pc := 30) hx hb dX6_character_30 rfl (lv_at hl 0 rfl) ?_
          refine vXgRX6_10_0 (pc := 31) hx hb hts mU_16 inU6 hown hK hP dX6_character_31 ?_
          refine lv_iload_n (pc := 34) hx hb dX6_character_34 rfl (lv_at hl 1 rfl) ?_
          obtain ⟨r35, hc35, hf⟩ := hf_b hf
          refine cl_V (pc := 35) (As := [.int a1]) (rest := []) hx hb hml hown hts (kX4_rows_1 l D A B _ S a1 r35 hc35) (cwV 1 hts gwRX6_91 rfl rfl rfl hdX4_rows ⟨Nat.le_of_ble_eq_true rfl, Nat.le_of_ble_eq_true rfl⟩) hN hK hP hD hS hA (va_recv hK hP (ci := 4) (q0 := 1) rfl (eX_1 A B _)) rfl hl.1 rfl (Nat.le_of_ble_eq_true rfl) dX6_character_35 (st1 := [.int r35]) rfl ⟨Nat.zero_le _, Nat.zero_le _⟩ (fun H locs hP hD hS => ?_)
          refine lv_iload_n (pc := 38) hx hb dX6_character_38 rfl (lv_at hl 2 rfl) ?_
          refine lv_isub (pc := 39) hx hb dX6_character_39 ?_
          refine lv_istore_n (pc := 40) hx hb (lv' := [(3, .int (r35 - a2)), (0, .ref (A 0)), (1, .int a1), (2, .int a2)]) dX6_character_40 rfl hl (by decide) rfl (fun ls hl => ?_)
          refine lv_aload_n (pc := 41) hx hb dX6_character_41 rfl (lv_at hl 1 rfl) ?_
          refine vXgRX6_10_0 (pc := 42) hx hb hts mU_16 inU6 hown hK hP dX6_character_42 ?_
          refine lv_iload_n (pc := 45) hx hb dX6_character_45 rfl (lv_at hl 2 rfl) ?_
          refine lv_iload_n (pc := 46) hx hb dX6_character_46 rfl (lv_at hl 0 rfl) ?_
          obtain ⟨r47, hc47, hf⟩ := hf_b hf
          refine cl_V (pc := 47) (As := [.int a1, .int (r35 - a2)]) (rest := []) hx hb hml hown hts (kX4_minors_1 l D A B _ S a1 (r35 - a2) r47 hc47) (cwV 2 hts gwRX6_94 rfl rfl rfl hdX4_minors ⟨Nat.le_of_ble_eq_true rfl, Nat.le_of_ble_eq_true rfl⟩) hN hK hP hD hS hA (va_recv hK hP (ci := 4) (q0 := 1) rfl (eX_1 A B _)) rfl hl.1 rfl (Nat.le_of_ble_eq_true rfl) dX6_character_47 (st1 := [.long r47]) rfl ⟨Nat.zero_le _, Nat.zero_le _⟩ (fun H locs hP hD hS => ?_)
          refine lv_lstore (pc := 50) hx hb (lv' := [(4, .long r47), (3, .int (r35 - a2)), (0, .ref (A 0)), (1, .int a1), (2, .int a2)]) dX6_character_50 hl (by decide) rfl (fun ls hl => ?_)
          refine lv_iload_n (pc := 52) hx hb dX6_character_52 rfl (lv_at hl 1 rfl) ?_
          refine lv_iconst (pc := 53) hx hb (v := 2) dX6_character_53 (by decide) ?_
          refine lv_irem (pc := 54) hx hb dX6_character_54 (by decide) ?_
          refine lv_if_ne (pc := 55) hx hb (tgt := 63) dX6_character_55 (by decide) (fun c_55 => ?_) (fun c_55 => ?_)
          · have hf := hf_f c_55 hf
            refine lv_lload (pc := 63) hx hb dX6_character_63 (lv_at hl 0 rfl) ?_
            refine lv_lneg (pc := 65) hx hb dX6_character_65 ?_
            obtain rfl := Option.some.inj hf
            exact hR H locs 66 ls hP hD hS dX6_character_66
          · have hf := hf_t c_55 hf
            refine lv_lload (pc := 58) hx hb dX6_character_58 (lv_at hl 0 rfl) ?_
            refine lv_goto (pc := 60) hx hb (tgt := 66) dX6_character_60 (by decide) ?_
            obtain rfl := Option.some.inj hf
            exact hR H locs 66 ls hP hD hS dX6_character_66
        · have hf := hf_f c_22 hf
          refine lv_iconst (pc := 25) hx hb (v := (-1)) dX6_character_25 (by decide) ?_
          obtain ⟨r26, hc26, hf⟩ := hf_b hf
          refine cl_S (pc := 26) (As := [.int (-1)]) (rest := []) hx hb hml hown hts (kX6_far l D A B _ S (-1) r26 hc26) (va_cwS 1 hts gwRX6_87 rfl rfl rfl hdX6_far ⟨Nat.le_of_ble_eq_true rfl, Nat.le_of_ble_eq_true rfl⟩) hN hK hP hD hS hA rfl hl.1 rfl (Nat.le_of_ble_eq_true rfl) dX6_character_26 (st1 := [.long r26]) rfl ⟨Nat.zero_le _, Nat.zero_le _⟩ (fun H locs hP hD hS => ?_)
          obtain rfl := Option.some.inj hf
          exact hR H locs 29 ls hP hD hS dX6_character_29
set_option maxHeartbeats 4000000 in
set_option maxRecDepth 100000 in
theorem kX5_take_25 (l : Launch) (D : va_G) (A : Nat → Nat) (B : Nat → ClassId) (sz : Nat) (S : w_S) (a1 : Int32) (z : w_S) (hf : fX5_take_25 S a1 = some z) : MetW l yX5_take (wsO yX5_take cX5_take 2 none) rm_X5_take [.ref (A 25), .int a1] D (tyB B) (wX A B S) (wX A B z) sz (none) := by
  refine MetW.mkV (cc := cX5_take) (maxL := 2) (by decide) (Nat.le_of_ble_eq_true rfl) ?_
  intro p e s m args below meth c Ad Q hx hb hts hown hml hN hK hA hR H locs ls hP hD hS hl
  have hl : lv_has ls 2 [(0, .ref (A 25)), (1, .int a1)] := hl
  rw [fX5_take_25] at hf
  refine lv_aload_n (pc := 0) hx hb dX5_take_0 rfl (lv_at hl 0 rfl) ?_
  refine vXgRX5_15_25 (pc := 1) hx hb hts mU_266 inU5 hown hK hP (x := (gI S 21)) rfl dX5_take_1 ?_
  refine lv_if_lt (pc := 4) hx hb (tgt := 37) dX5_take_4 (by decide) (fun c_4 => ?_) (fun c_4 => ?_)
  · have hf := hf_t c_4 hf
    obtain rfl := Option.some.inj hf
    exact hR H locs 37 ls hP hD hS dX5_take_37
  · have hf := hf_f c_4 hf
    refine lv_aload_n (pc := 7) hx hb dX5_take_7 rfl (lv_at hl 0 rfl) ?_
    refine vXgRX5_15_25 (pc := 8) hx hb hts mU_266 inU5 hown hK hP (x := (gI S 21)) rfl dX5_take_8 ?_
    refine lv_sipush (pc := 11) hx hb (v := 200) dX5_take_11 (by decide) ?_
    refine lv_icmp_ge (pc := 14) hx hb (tgt := 37) dX5_take_14 (by decide) (fun c_14 => ?_) (fun c_14 => ?_)
    · have hf := hf_t c_14 hf
      obtain rfl := Option.some.inj hf
      exact hR H locs 37 ls hP hD hS dX5_take_37
    · have hf := hf_f c_14 hf
      refine lv_aload_n (pc := 17) hx hb dX5_take_17 rfl (lv_at hl 0 rfl) ?_
      refine vXgRX5_9_25 (pc := 18) hx hb hts mU_63 inU5 hown hK hP dX5_take_18 ?_
      refine lv_aload_n (pc := 21) hx hb dX5_take_21 rfl (lv_at hl 0 rfl) ?_
      refine vXgRX5_15_25 (pc := 22) hx hb hts mU_266 inU5 hown hK hP (x := (gI S 21)) rfl dX5_take_22 ?_
      refine lv_iload_n (pc := 25) hx hb dX5_take_25 rfl (lv_at hl 1 rfl) ?_
      obtain ⟨hg26, hf⟩ := hf_g hf
      refine vXwa_26 (pc := 26) hx hb hK hP hD hS (f := (gA S 17)) rfl hg26 dX5_take_26 (fun H locs hP hD hS => ?_)
      refine lv_aload_n (pc := 27) hx hb dX5_take_27 rfl (lv_at hl 0 rfl) ?_
      refine lv_dup (pc := 28) hx hb dX5_take_28 rfl ?_
      refine vXgRX5_15_25 (pc := 29) hx hb hts mU_266 inU5 hown hK hP (x := (gI S 21)) rfl dX5_take_29 ?_
      refine lv_iconst (pc := 32) hx hb (v := 1) dX5_take_32 (by decide) ?_
      refine lv_iadd (pc := 33) hx hb dX5_take_33 ?_
      refine vXpRX5_15_25 (pc := 34) hx hb hts mU_266 inU5 hown hK hP hD hS dX5_take_34 (fun H locs hP hD hS => ?_)
      obtain rfl := Option.some.inj hf
      exact hR H locs 37 ls hP hD hS dX5_take_37
set_option maxHeartbeats 4000000 in
set_option maxRecDepth 100000 in
theorem kX6_feed (l : Launch) (D : va_G) (A : Nat → Nat) (B : Nat → ClassId) (sz : Nat) (S : w_S) (a1 : Int64) (a3 : Int32) (z : Int32 × w_S) (hf : fX6_feed S a1 a3 = some z) : MetW l yX6_feed (wsO yX6_feed cX6_feed 5 (some .int)) rm_X6_feed [.ref (A 0), .long a1, .int a3] D (tyB B) (wX A B S) (wX A B z.2) sz (some (.int z.1)) := by
  refine MetW.mkI (cc := cX6_feed) (maxL := 5) (by decide) (Nat.le_of_ble_eq_true rfl) ?_
  intro p e s m args below meth c Ad Q hx hb hts hown hml hN hK hA hR H locs ls hP hD hS hl
  have hl : lv_has ls 5 [(0, .ref (A 0)), (1, .long a1), (3, .int a3)] := hl
  rw [fX6_feed] at hf
  refine lv_iload_n (pc := 0) hx hb dX6_feed_0 rfl (lv_at hl 2 rfl) ?_
  refine lv_iconst (pc := 1) hx hb (v := 1) dX6_feed_1 (by decide) ?_
  refine lv_icmp_lt (pc := 2) hx hb (tgt := 11) dX6_feed_2 (by decide) (fun c_2 => ?_) (fun c_2 => ?_)
  · have hf := hf_t c_2 hf
    refine lv_iconst (pc := 11) hx hb (v := (-1)) dX6_feed_11 (by decide) ?_
    obtain rfl := Option.some.inj hf
    exact hR H locs 12 ls hP hD hS dX6_feed_12
  · have hf := hf_f c_2 hf
    refine lv_iload_n (pc := 5) hx hb dX6_feed_5 rfl (lv_at hl 2 rfl) ?_
    refine lv_bipush (pc := 6) hx hb (v := 8) dX6_feed_6 (by decide) ?_
    refine lv_icmp_le (pc := 8) hx hb (tgt := 13) dX6_feed_8 (by decide) (fun c_8 => ?_) (fun c_8 => ?_)
    · have hf := hf_t c_8 hf
      refine lv_aload_n (pc := 13) hx hb dX6_feed_13 rfl (lv_at hl 0 rfl) ?_
      refine vXgRX6_35_0 (pc := 14) hx hb hts mU_27 inU6 hown hK hP dX6_feed_14 ?_
      refine vXgRX6_98_25 (pc := 17) hx hb hts mU_261 inU5 hown hK hP (x := (gI S 21)) rfl dX6_feed_17 ?_
      refine lv_iload_n (pc := 20) hx hb dX6_feed_20 rfl (lv_at hl 2 rfl) ?_
      refine lv_iadd (pc := 21) hx hb dX6_feed_21 ?_
      refine lv_sipush (pc := 22) hx hb (v := 200) dX6_feed_22 (by decide) ?_
      refine lv_icmp_le (pc := 25) hx hb (tgt := 31) dX6_feed_25 (by decide) (fun c_25 => ?_) (fun c_25 => ?_)
      · have hf := hf_t c_25 hf
        refine lv_iconst (pc := 31) hx hb (v := 0) dX6_feed_31 (by decide) ?_
        refine lv_istore (pc := 32) hx hb (lv' := [(4, .int 0), (0, .ref (A 0)), (1, .long a1), (3, .int a3)]) dX6_feed_32 hl (by decide) rfl (fun ls hl => ?_)
        obtain ⟨q34, hq34, hf⟩ := hf_b hf
        have hk34 : ∀ (H : Heap) (locs : List Loc) (ls : Array Slot), va_P D vwCl (wX A B q34) H → va_D Ad (wX A B q34) → va_S Ad s.heap H locs → lv_has ls 5 [(0, .ref (A 0))] → W p l e rm_X6_feed s m args below meth c H locs 0 0 Q (F0 m 62 ls []) := by
          intro H locs ls hP hD hS hl
          refine lv_aload_n (pc := 62) hx hb dX6_feed_62 rfl (lv_at hl 0 rfl) ?_
          refine vXgRX6_35_0 (pc := 63) hx hb hts mU_27 inU6 hown hK hP dX6_feed_63 ?_
          refine vXgRX6_98_25 (pc := 66) hx hb hts mU_261 inU5 hown hK hP (x := (gI q34 21)) rfl dX6_feed_66 ?_
          obtain rfl := Option.some.inj hf
          exact hR H locs 69 ls hP hD hS dX6_feed_69
        have lp34 : ∀ (n : Nat) (T34 : w_S) (u4_34 : Int32) (H : Heap) (locs : List Loc) (ls : Array Slot), fX6_feed_L34 a1 a3 n T34 u4_34 = some q34 → va_P D vwCl (wX A B T34) H → va_D Ad (wX A B T34) → va_S Ad s.heap H locs → lv_has ls 5 [(0, .ref (A 0)), (1, .long a1), (3, .int a3), (4, .int u4_34)] → W p l e rm_X6_feed s m args below meth c H locs 0 0 Q (F0 m 34 ls []) := by
          intro n34
          induction n34 with
          | zero => intro T34 u4_34 H locs ls hq34; exact hf_0 hq34
          | succ n34 ih34 =>
            intro T34 u4_34 H locs ls hq34 hP hD hS hl
            rw [fX6_feed_L34] at hq34
            refine lv_iload (pc := 34) hx hb dX6_feed_34 (lv_at hl 3 rfl) ?_
            refine lv_iload_n (pc := 36) hx hb dX6_feed_36 rfl (lv_at hl 2 rfl) ?_
            refine lv_icmp_ge (pc := 37) hx hb (tgt := 62) dX6_feed_37 (by decide) (fun c_37 => ?_) (fun c_37 => ?_)
            · have hq34 := hf_t c_37 hq34
              obtain rfl := Option.some.inj hq34
              exact hk34 H locs ls hP hD hS (lv_sub hl [0] rfl)
            · have hq34 := hf_f c_37 hq34
              refine lv_aload_n (pc := 40) hx hb dX6_feed_40 rfl (lv_at hl 0 rfl) ?_
              refine vXgRX6_35_0 (pc := 41) hx hb hts mU_27 inU6 hown hK hP dX6_feed_41 ?_
              refine lv_lload_n (pc := 44) hx hb dX6_feed_44 rfl (lv_at hl 1 rfl) ?_
              refine lv_bipush (pc := 45) hx hb (v := 8) dX6_feed_45 (by decide) ?_
              refine lv_iload (pc := 47) hx hb dX6_feed_47 (lv_at hl 3 rfl) ?_
              refine lv_imul (pc := 49) hx hb dX6_feed_49 ?_
              refine lv_lushr (pc := 50) hx hb (v := (a1.toUInt64 >>> ((8 * u4_34).toInt64.toUInt64 &&& Int64.toUInt64 63)).toInt64) dX6_feed_50 rfl ?_
              refine lv_l2i (pc := 51) hx hb (v := ((a1.toUInt64 >>> ((8 * u4_34).toInt64.toUInt64 &&& Int64.toUInt64 63)).toInt64).toInt32) dX6_feed_51 rfl ?_
              refine lv_i2b (pc := 52) hx hb (v := (((a1.toUInt64 >>> ((8 * u4_34).toInt64.toUInt64 &&& Int64.toUInt64 63)).toInt64).toInt32).toInt8.toInt32) dX6_feed_52 rfl ?_
              obtain ⟨r53, hc53, hq34⟩ := hf_b hq34
              refine cl_V (pc := 53) (As := [.int ((((a1.toUInt64 >>> ((8 * u4_34).toInt64.toUInt64 &&& Int64.toUInt64 63)).toInt64).toInt32).toInt8.toInt32)]) (rest := []) hx hb hml hown hts (kX5_take_25 l D A B _ T34 ((((a1.toUInt64 >>> ((8 * u4_34).toInt64.toUInt64 &&& Int64.toUInt64 63)).toInt64).toInt32).toInt8.toInt32) r53 hc53) (cwV 1 hts gwRX6_101 rfl rfl rfl hdX5_take ⟨Nat.le_of_ble_eq_true rfl, Nat.le_of_ble_eq_true rfl⟩) hN hK hP hD hS hA (va_recv hK hP (ci := 5) (q0 := 25) rfl (eX_25 A B _)) rfl hl.1 rfl (Nat.le_of_ble_eq_true rfl) dX6_feed_53 (st1 := []) rfl ⟨Nat.zero_le _, Nat.zero_le _⟩ (fun H locs hP hD hS => ?_)
              refine lv_iinc (pc := 56) hx hb (v := u4_34 + 1) (lv' := [(4, .int (u4_34 + 1)), (0, .ref (A 0)), (1, .long a1), (3, .int a3)]) dX6_feed_56 hl (k := 3) rfl rfl (by decide) rfl (fun ls hl => ?_)
              refine lv_goto (pc := 59) hx hb (tgt := 34) dX6_feed_59 (by decide) ?_
              exact ih34 r53 (u4_34 + 1) H locs ls hq34 hP hD hS (lv_sub hl [1, 2, 3, 0] rfl)
        exact lp34 256 S 0 H locs ls hq34 hP hD hS (lv_sub hl [1, 2, 3, 0] rfl)
      · have hf := hf_f c_25 hf
        refine lv_bipush (pc := 28) hx hb (v := (-2)) dX6_feed_28 (by decide) ?_
        obtain rfl := Option.some.inj hf
        exact hR H locs 30 ls hP hD hS dX6_feed_30
    · have hf := hf_f c_8 hf
      refine lv_iconst (pc := 11) hx hb (v := (-1)) dX6_feed_11 (by decide) ?_
      obtain rfl := Option.some.inj hf
      exact hR H locs 12 ls hP hD hS dX6_feed_12
set_option maxHeartbeats 4000000 in
set_option maxRecDepth 100000 in
theorem kX4_copyFrom_1_13 (l : Launch) (D : va_G) (A : Nat → Nat) (B : Nat → ClassId) (sz : Nat) (S : w_S) (z : w_S) (hf : fX4_copyFrom_1_13 S = some z) : MetW l yX4_copyFrom (wsO yX4_copyFrom cX4_copyFrom 2 none) rm_X4_copyFrom [.ref (A 1), .ref (A 13)] D (tyB B) (wX A B S) (wX A B z) sz (none) := by
  refine MetW.mkV (cc := cX4_copyFrom) (maxL := 2) (by decide) (Nat.le_of_ble_eq_true rfl) ?_
  intro p e s m args below meth c Ad Q hx hb hts hown hml hN hK hA hR H locs ls hP hD hS hl
  have hl : lv_has ls 2 [(0, .ref (A 1)), (1, .ref (A 13))] := hl
  rw [fX4_copyFrom_1_13] at hf
  refine lv_aload_n (pc := 0) hx hb dX4_copyFrom_0 rfl (lv_at hl 0 rfl) ?_
  refine lv_aload_n (pc := 1) hx hb dX4_copyFrom_1 rfl (lv_at hl 1 rfl) ?_
  refine vXgRX4_9_13 (pc := 2) hx hb hts mU_43 inU4 hown hK hP (x := (gI S 8)) rfl dX4_copyFrom_2 ?_
  refine vXpRX4_9_1 (pc := 5) hx hb hts mU_43 inU4 hown hK hP hD hS dX4_copyFrom_5 (fun H locs hP hD hS => ?_)
  refine lv_aload_n (pc := 8) hx hb dX4_copyFrom_8 rfl (lv_at hl 0 rfl) ?_
  refine lv_aload_n (pc := 9) hx hb dX4_copyFrom_9 rfl (lv_at hl 1 rfl) ?_
  refine vXgRX4_15_13 (pc := 10) hx hb hts mU_44 inU4 hown hK hP (x := (gI S 9)) rfl dX4_copyFrom_10 ?_
  refine vXpRX4_15_1 (pc := 13) hx hb hts mU_44 inU4 hown hK hP hD hS dX4_copyFrom_13 (fun H locs hP hD hS => ?_)
  refine lv_aload_n (pc := 16) hx hb dX4_copyFrom_16 rfl (lv_at hl 0 rfl) ?_
  refine lv_aload_n (pc := 17) hx hb dX4_copyFrom_17 rfl (lv_at hl 1 rfl) ?_
  refine vXgRX4_18_13 (pc := 18) hx hb hts mU_45 inU4 hown hK hP (x := (gI S 10)) rfl dX4_copyFrom_18 ?_
  refine vXpRX4_18_1 (pc := 21) hx hb hts mU_45 inU4 hown hK hP hD hS dX4_copyFrom_21 (fun H locs hP hD hS => ?_)
  refine lv_aload_n (pc := 24) hx hb dX4_copyFrom_24 rfl (lv_at hl 0 rfl) ?_
  refine lv_aload_n (pc := 25) hx hb dX4_copyFrom_25 rfl (lv_at hl 1 rfl) ?_
  refine vXgRX4_37_13 (pc := 26) hx hb hts mU_281 inU4 hown hK hP (x := (gI S 11)) rfl dX4_copyFrom_26 ?_
  refine vXpRX4_37_1 (pc := 29) hx hb hts mU_281 inU4 hown hK hP hD hS dX4_copyFrom_29 (fun H locs hP hD hS => ?_)
  refine lv_aload_n (pc := 32) hx hb dX4_copyFrom_32 rfl (lv_at hl 1 rfl) ?_
  refine vXgRX4_21_13 (pc := 33) hx hb hts mU_47 inU4 hown hK hP dX4_copyFrom_33 ?_
  refine lv_iconst (pc := 36) hx hb (v := 0) dX4_copyFrom_36 (by decide) ?_
  refine lv_aload_n (pc := 37) hx hb dX4_copyFrom_37 rfl (lv_at hl 0 rfl) ?_
  refine vXgRX4_21_1 (pc := 38) hx hb hts mU_47 inU4 hown hK hP dX4_copyFrom_38 ?_
  refine lv_iconst (pc := 41) hx hb (v := 0) dX4_copyFrom_41 (by decide) ?_
  refine lv_bipush (pc := 42) hx hb (v := 9) dX4_copyFrom_42 (by decide) ?_
  refine va_copyi (pc := 44) hx hb (hml.trans hl.1.symm) hown (hts (.methodLink RX4 40 arraycopyName) mU_282) (hts (.native arraycopyName) mU_283) (hts (.static arraycopyName) mU_284) (hts (.initialized "java/lang/System") mU_285) hK hP hD hS 14 2 1 1 (f := (gA S 10)) (g := (gA S 0)) (eX_14 A B (sI (sI (sI (sI S 0 (gI S 8)) 1 (gI S 9)) 2 (gI S 10)) 3 (gI S 11))) (eX_2 A B (sI (sI (sI (sI S 0 (gI S 8)) 1 (gI S 9)) 2 (gI S 10)) 3 (gI S 11))) (ty := .int) rfl rfl rfl (sp := 0) (dp := 0) (n := 9) (by decide) (by decide) (by decide) (by decide) (by decide) (fun _ _ => rfl) (Nat.le_of_ble_eq_true rfl) (Nat.le_of_ble_eq_true rfl) dX4_copyFrom_44 (fun H locs hP hD hS => ?_)
  rw [tX_2] at hP hD
  refine lv_aload_n (pc := 47) hx hb dX4_copyFrom_47 rfl (lv_at hl 1 rfl) ?_
  refine vXgRX4_25_13 (pc := 48) hx hb hts mU_48 inU4 hown hK hP dX4_copyFrom_48 ?_
  refine lv_iconst (pc := 51) hx hb (v := 0) dX4_copyFrom_51 (by decide) ?_
  refine lv_aload_n (pc := 52) hx hb dX4_copyFrom_52 rfl (lv_at hl 0 rfl) ?_
  refine vXgRX4_25_1 (pc := 53) hx hb hts mU_48 inU4 hown hK hP dX4_copyFrom_53 ?_
  refine lv_iconst (pc := 56) hx hb (v := 0) dX4_copyFrom_56 (by decide) ?_
  refine lv_bipush (pc := 57) hx hb (v := 9) dX4_copyFrom_57 (by decide) ?_
  refine va_copyi (pc := 59) hx hb (hml.trans hl.1.symm) hown (hts (.methodLink RX4 40 arraycopyName) mU_282) (hts (.native arraycopyName) mU_283) (hts (.static arraycopyName) mU_284) (hts (.initialized "java/lang/System") mU_285) hK hP hD hS 15 3 1 1 (f := (gA S 11)) (g := (gA S 1)) (eX_15 A B (sA (sI (sI (sI (sI S 0 (gI S 8)) 1 (gI S 9)) 2 (gI S 10)) 3 (gI S 11)) 0 (va_cpy (gA S 10) (gA S 0) (0 : Int32).toNatClampNeg (0 : Int32).toNatClampNeg (9 : Int32).toNatClampNeg))) (eX_3 A B (sA (sI (sI (sI (sI S 0 (gI S 8)) 1 (gI S 9)) 2 (gI S 10)) 3 (gI S 11)) 0 (va_cpy (gA S 10) (gA S 0) (0 : Int32).toNatClampNeg (0 : Int32).toNatClampNeg (9 : Int32).toNatClampNeg))) (ty := .int) rfl rfl rfl (sp := 0) (dp := 0) (n := 9) (by decide) (by decide) (by decide) (by decide) (by decide) (fun _ _ => rfl) (Nat.le_of_ble_eq_true rfl) (Nat.le_of_ble_eq_true rfl) dX4_copyFrom_59 (fun H locs hP hD hS => ?_)
  rw [tX_3] at hP hD
  refine lv_aload_n (pc := 62) hx hb dX4_copyFrom_62 rfl (lv_at hl 1 rfl) ?_
  refine vXgRX4_28_13 (pc := 63) hx hb hts mU_49 inU4 hown hK hP dX4_copyFrom_63 ?_
  refine lv_iconst (pc := 66) hx hb (v := 0) dX4_copyFrom_66 (by decide) ?_
  refine lv_aload_n (pc := 67) hx hb dX4_copyFrom_67 rfl (lv_at hl 0 rfl) ?_
  refine vXgRX4_28_1 (pc := 68) hx hb hts mU_49 inU4 hown hK hP dX4_copyFrom_68 ?_
  refine lv_iconst (pc := 71) hx hb (v := 0) dX4_copyFrom_71 (by decide) ?_
  refine lv_bipush (pc := 72) hx hb (v := 9) dX4_copyFrom_72 (by decide) ?_
  refine va_copyi (pc := 74) hx hb (hml.trans hl.1.symm) hown (hts (.methodLink RX4 40 arraycopyName) mU_282) (hts (.native arraycopyName) mU_283) (hts (.static arraycopyName) mU_284) (hts (.initialized "java/lang/System") mU_285) hK hP hD hS 16 4 1 1 (f := (gA S 12)) (g := (gA S 2)) (eX_16 A B (sA (sA (sI (sI (sI (sI S 0 (gI S 8)) 1 (gI S 9)) 2 (gI S 10)) 3 (gI S 11)) 0 (va_cpy (gA S 10) (gA S 0) (0 : Int32).toNatClampNeg (0 : Int32).toNatClampNeg (9 : Int32).toNatClampNeg)) 1 (va_cpy (gA S 11) (gA S 1) (0 : Int32).toNatClampNeg (0 : Int32).toNatClampNeg (9 : Int32).toNatClampNeg))) (eX_4 A B (sA (sA (sI (sI (sI (sI S 0 (gI S 8)) 1 (gI S 9)) 2 (gI S 10)) 3 (gI S 11)) 0 (va_cpy (gA S 10) (gA S 0) (0 : Int32).toNatClampNeg (0 : Int32).toNatClampNeg (9 : Int32).toNatClampNeg)) 1 (va_cpy (gA S 11) (gA S 1) (0 : Int32).toNatClampNeg (0 : Int32).toNatClampNeg (9 : Int32).toNatClampNeg))) (ty := .int) rfl rfl rfl (sp := 0) (dp := 0) (n := 9) (by decide) (by decide) (by decide) (by decide) (by decide) (fun _ _ => rfl) (Nat.le_of_ble_eq_true rfl) (Nat.le_of_ble_eq_true rfl) dX4_copyFrom_74 (fun H locs hP hD hS => ?_)
  rw [tX_4] at hP hD
  refine lv_aload_n (pc := 77) hx hb dX4_copyFrom_77 rfl (lv_at hl 1 rfl) ?_
  refine vXgRX4_31_13 (pc := 78) hx hb hts mU_50 inU4 hown hK hP dX4_copyFrom_78 ?_
  refine lv_iconst (pc := 81) hx hb (v := 0) dX4_copyFrom_81 (by decide) ?_
  refine lv_aload_n (pc := 82) hx hb dX4_copyFrom_82 rfl (lv_at hl 0 rfl) ?_
  refine vXgRX4_31_1 (pc := 83) hx hb hts mU_50 inU4 hown hK hP dX4_copyFrom_83 ?_
  refine lv_iconst (pc := 86) hx hb (v := 0) dX4_copyFrom_86 (by decide) ?_
  refine lv_bipush (pc := 87) hx hb (v := 6) dX4_copyFrom_87 (by decide) ?_
  refine va_copyi (pc := 89) hx hb (hml.trans hl.1.symm) hown (hts (.methodLink RX4 40 arraycopyName) mU_282) (hts (.native arraycopyName) mU_283) (hts (.static arraycopyName) mU_284) (hts (.initialized "java/lang/System") mU_285) hK hP hD hS 17 5 1 1 (f := (gA S 13)) (g := (gA S 3)) (eX_17 A B (sA (sA (sA (sI (sI (sI (sI S 0 (gI S 8)) 1 (gI S 9)) 2 (gI S 10)) 3 (gI S 11)) 0 (va_cpy (gA S 10) (gA S 0) (0 : Int32).toNatClampNeg (0 : Int32).toNatClampNeg (9 : Int32).toNatClampNeg)) 1 (va_cpy (gA S 11) (gA S 1) (0 : Int32).toNatClampNeg (0 : Int32).toNatClampNeg (9 : Int32).toNatClampNeg)) 2 (va_cpy (gA S 12) (gA S 2) (0 : Int32).toNatClampNeg (0 : Int32).toNatClampNeg (9 : Int32).toNatClampNeg))) (eX_5 A B (sA (sA (sA (sI (sI (sI (sI S 0 (gI S 8)) 1 (gI S 9)) 2 (gI S 10)) 3 (gI S 11)) 0 (va_cpy (gA S 10) (gA S 0) (0 : Int32).toNatClampNeg (0 : Int32).toNatClampNeg (9 : Int32).toNatClampNeg)) 1 (va_cpy (gA S 11) (gA S 1) (0 : Int32).toNatClampNeg (0 : Int32).toNatClampNeg (9 : Int32).toNatClampNeg)) 2 (va_cpy (gA S 12) (gA S 2) (0 : Int32).toNatClampNeg (0 : Int32).toNatClampNeg (9 : Int32).toNatClampNeg))) (ty := .int) rfl rfl rfl (sp := 0) (dp := 0) (n := 6) (by decide) (by decide) (by decide) (by decide) (by decide) (fun _ _ => rfl) (Nat.le_of_ble_eq_true rfl) (Nat.le_of_ble_eq_true rfl) dX4_copyFrom_89 (fun H locs hP hD hS => ?_)
  rw [tX_5] at hP hD
  refine lv_aload_n (pc := 92) hx hb dX4_copyFrom_92 rfl (lv_at hl 1 rfl) ?_
  refine vXgRX4_34_13 (pc := 93) hx hb hts mU_51 inU4 hown hK hP dX4_copyFrom_93 ?_
  refine lv_iconst (pc := 96) hx hb (v := 0) dX4_copyFrom_96 (by decide) ?_
  refine lv_aload_n (pc := 97) hx hb dX4_copyFrom_97 rfl (lv_at hl 0 rfl) ?_
  refine vXgRX4_34_1 (pc := 98) hx hb hts mU_51 inU4 hown hK hP dX4_copyFrom_98 ?_
  refine lv_iconst (pc := 101) hx hb (v := 0) dX4_copyFrom_101 (by decide) ?_
  refine lv_bipush (pc := 102) hx hb (v := 6) dX4_copyFrom_102 (by decide) ?_
  refine va_copyi (pc := 104) hx hb (hml.trans hl.1.symm) hown (hts (.methodLink RX4 40 arraycopyName) mU_282) (hts (.native arraycopyName) mU_283) (hts (.static arraycopyName) mU_284) (hts (.initialized "java/lang/System") mU_285) hK hP hD hS 18 6 1 1 (f := (gA S 14)) (g := (gA S 4)) (eX_18 A B (sA (sA (sA (sA (sI (sI (sI (sI S 0 (gI S 8)) 1 (gI S 9)) 2 (gI S 10)) 3 (gI S 11)) 0 (va_cpy (gA S 10) (gA S 0) (0 : Int32).toNatClampNeg (0 : Int32).toNatClampNeg (9 : Int32).toNatClampNeg)) 1 (va_cpy (gA S 11) (gA S 1) (0 : Int32).toNatClampNeg (0 : Int32).toNatClampNeg (9 : Int32).toNatClampNeg)) 2 (va_cpy (gA S 12) (gA S 2) (0 : Int32).toNatClampNeg (0 : Int32).toNatClampNeg (9 : Int32).toNatClampNeg)) 3 (va_cpy (gA S 13) (gA S 3) (0 : Int32).toNatClampNeg (0 : Int32).toNatClampNeg (6 : Int32).toNatClampNeg))) (eX_6 A B (sA (sA (sA (sA (sI (sI (sI (sI S 0 (gI S 8)) 1 (gI S 9)) 2 (gI S 10)) 3 (gI S 11)) 0 (va_cpy (gA S 10) (gA S 0) (0 : Int32).toNatClampNeg (0 : Int32).toNatClampNeg (9 : Int32).toNatClampNeg)) 1 (va_cpy (gA S 11) (gA S 1) (0 : Int32).toNatClampNeg (0 : Int32).toNatClampNeg (9 : Int32).toNatClampNeg)) 2 (va_cpy (gA S 12) (gA S 2) (0 : Int32).toNatClampNeg (0 : Int32).toNatClampNeg (9 : Int32).toNatClampNeg)) 3 (va_cpy (gA S 13) (gA S 3) (0 : Int32).toNatClampNeg (0 : Int32).toNatClampNeg (6 : Int32).toNatClampNeg))) (ty := .int) rfl rfl rfl (sp := 0) (dp := 0) (n := 6) (by decide) (by decide) (by decide) (by decide) (by decide) (fun _ _ => rfl) (Nat.le_of_ble_eq_true rfl) (Nat.le_of_ble_eq_true rfl) dX4_copyFrom_104 (fun H locs hP hD hS => ?_)
  rw [tX_6] at hP hD
  obtain rfl := Option.some.inj hf
  exact hR H locs 107 ls hP hD hS dX4_copyFrom_107
set_option maxHeartbeats 4000000 in
set_option maxRecDepth 100000 in
theorem kX4_copyFrom_13_1 (l : Launch) (D : va_G) (A : Nat → Nat) (B : Nat → ClassId) (sz : Nat) (S : w_S) (z : w_S) (hf : fX4_copyFrom_13_1 S = some z) : MetW l yX4_copyFrom (wsO yX4_copyFrom cX4_copyFrom 2 none) rm_X4_copyFrom [.ref (A 13), .ref (A 1)] D (tyB B) (wX A B S) (wX A B z) sz (none) := by
  refine MetW.mkV (cc := cX4_copyFrom) (maxL := 2) (by decide) (Nat.le_of_ble_eq_true rfl) ?_
  intro p e s m args below meth c Ad Q hx hb hts hown hml hN hK hA hR H locs ls hP hD hS hl
  have hl : lv_has ls 2 [(0, .ref (A 13)), (1, .ref (A 1))] := hl
  rw [fX4_copyFrom_13_1] at hf
  refine lv_aload_n (pc := 0) hx hb dX4_copyFrom_0 rfl (lv_at hl 0 rfl) ?_
  refine lv_aload_n (pc := 1) hx hb dX4_copyFrom_1 rfl (lv_at hl 1 rfl) ?_
  refine vXgRX4_9_1 (pc := 2) hx hb hts mU_43 inU4 hown hK hP (x := (gI S 0)) rfl dX4_copyFrom_2 ?_
  refine vXpRX4_9_13 (pc := 5) hx hb hts mU_43 inU4 hown hK hP hD hS dX4_copyFrom_5 (fun H locs hP hD hS => ?_)
  refine lv_aload_n (pc := 8) hx hb dX4_copyFrom_8 rfl (lv_at hl 0 rfl) ?_
  refine lv_aload_n (pc := 9) hx hb dX4_copyFrom_9 rfl (lv_at hl 1 rfl) ?_
  refine vXgRX4_15_1 (pc := 10) hx hb hts mU_44 inU4 hown hK hP (x := (gI S 1)) rfl dX4_copyFrom_10 ?_
  refine vXpRX4_15_13 (pc := 13) hx hb hts mU_44 inU4 hown hK hP hD hS dX4_copyFrom_13 (fun H locs hP hD hS => ?_)
  refine lv_aload_n (pc := 16) hx hb dX4_copyFrom_16 rfl (lv_at hl 0 rfl) ?_
  refine lv_aload_n (pc := 17) hx hb dX4_copyFrom_17 rfl (lv_at hl 1 rfl) ?_
  refine vXgRX4_18_1 (pc := 18) hx hb hts mU_45 inU4 hown hK hP (x := (gI S 2)) rfl dX4_copyFrom_18 ?_
  refine vXpRX4_18_13 (pc := 21) hx hb hts mU_45 inU4 hown hK hP hD hS dX4_copyFrom_21 (fun H locs hP hD hS => ?_)
  refine lv_aload_n (pc := 24) hx hb dX4_copyFrom_24 rfl (lv_at hl 0 rfl) ?_
  refine lv_aload_n (pc := 25) hx hb dX4_copyFrom_25 rfl (lv_at hl 1 rfl) ?_
  refine vXgRX4_37_1 (pc := 26) hx hb hts mU_281 inU4 hown hK hP (x := (gI S 3)) rfl dX4_copyFrom_26 ?_
  refine vXpRX4_37_13 (pc := 29) hx hb hts mU_281 inU4 hown hK hP hD hS dX4_copyFrom_29 (fun H locs hP hD hS => ?_)
  refine lv_aload_n (pc := 32) hx hb dX4_copyFrom_32 rfl (lv_at hl 1 rfl) ?_
  refine vXgRX4_21_1 (pc := 33) hx hb hts mU_47 inU4 hown hK hP dX4_copyFrom_33 ?_
  refine lv_iconst (pc := 36) hx hb (v := 0) dX4_copyFrom_36 (by decide) ?_
  refine lv_aload_n (pc := 37) hx hb dX4_copyFrom_37 rfl (lv_at hl 0 rfl) ?_
  refine vXgRX4_21_13 (pc := 38) hx hb hts mU_47 inU4 hown hK hP dX4_copyFrom_38 ?_
  refine lv_iconst (pc := 41) hx hb (v := 0) dX4_copyFrom_41 (by decide) ?_
  refine lv_bipush (pc := 42) hx hb (v := 9) dX4_copyFrom_42 (by decide) ?_
  refine va_copyi (pc := 44) hx hb (hml.trans hl.1.symm) hown (hts (.methodLink RX4 40 arraycopyName) mU_282) (hts (.native arraycopyName) mU_283) (hts (.static arraycopyName) mU_284) (hts (.initialized "java/lang/System") mU_285) hK hP hD hS 2 14 1 1 (f := (gA S 0)) (g := (gA S 10)) (eX_2 A B (sI (sI (sI (sI S 8 (gI S 0)) 9 (gI S 1)) 10 (gI S 2)) 11 (gI S 3))) (eX_14 A B (sI (sI (sI (sI S 8 (gI S 0)) 9 (gI S 1)) 10 (gI S 2)) 11 (gI S 3))) (ty := .int) rfl rfl rfl (sp := 0) (dp := 0) (n := 9) (by decide) (by decide) (by decide) (by decide) (by decide) (fun _ _ => rfl) (Nat.le_of_ble_eq_true rfl) (Nat.le_of_ble_eq_true rfl) dX4_copyFrom_44 (fun H locs hP hD hS => ?_)
  rw [tX_14] at hP hD
  refine lv_aload_n (pc := 47) hx hb dX4_copyFrom_47 rfl (lv_at hl 1 rfl) ?_
  refine vXgRX4_25_1 (pc := 48) hx hb hts mU_48 inU4 hown hK hP dX4_copyFrom_48 ?_
  refine lv_iconst (pc := 51) hx hb (v := 0) dX4_copyFrom_51 (by decide) ?_
  refine lv_aload_n (pc := 52) hx hb dX4_copyFrom_52 rfl (lv_at hl 0 rfl) ?_
  refine vXgRX4_25_13 (pc := 53) hx hb hts mU_48 inU4 hown hK hP dX4_copyFrom_53 ?_
  refine lv_iconst (pc := 56) hx hb (v := 0) dX4_copyFrom_56 (by decide) ?_
  refine lv_bipush (pc := 57) hx hb (v := 9) dX4_copyFrom_57 (by decide) ?_
  refine va_copyi (pc := 59) hx hb (hml.trans hl.1.symm) hown (hts (.methodLink RX4 40 arraycopyName) mU_282) (hts (.native arraycopyName) mU_283) (hts (.static arraycopyName) mU_284) (hts (.initialized "java/lang/System") mU_285) hK hP hD hS 3 15 1 1 (f := (gA S 1)) (g := (gA S 11)) (eX_3 A B (sA (sI (sI (sI (sI S 8 (gI S 0)) 9 (gI S 1)) 10 (gI S 2)) 11 (gI S 3)) 10 (va_cpy (gA S 0) (gA S 10) (0 : Int32).toNatClampNeg (0 : Int32).toNatClampNeg (9 : Int32).toNatClampNeg))) (eX_15 A B (sA (sI (sI (sI (sI S 8 (gI S 0)) 9 (gI S 1)) 10 (gI S 2)) 11 (gI S 3)) 10 (va_cpy (gA S 0) (gA S 10) (0 : Int32).toNatClampNeg (0 : Int32).toNatClampNeg (9 : Int32).toNatClampNeg))) (ty := .int) rfl rfl rfl (sp := 0) (dp := 0) (n := 9) (by decide) (by decide) (by decide) (by decide) (by decide) (fun _ _ => rfl) (Nat.le_of_ble_eq_true rfl) (Nat.le_of_ble_eq_true rfl) dX4_copyFrom_59 (fun H locs hP hD hS => ?_)
  rw [tX_15] at hP hD
  refine lv_aload_n (pc := 62) hx hb dX4_copyFrom_62 rfl (lv_at hl 1 rfl) ?_
  refine vXgRX4_28_1 (pc := 63) hx hb hts mU_49 inU4 hown hK hP dX4_copyFrom_63 ?_
  refine lv_iconst (pc := 66) hx hb (v := 0) dX4_copyFrom_66 (by decide) ?_
  refine lv_aload_n (pc := 67) hx hb dX4_copyFrom_67 rfl (lv_at hl 0 rfl) ?_
  refine vXgRX4_28_13 (pc := 68) hx hb hts mU_49 inU4 hown hK hP dX4_copyFrom_68 ?_
  refine lv_iconst (pc := 71) hx hb (v := 0) dX4_copyFrom_71 (by decide) ?_
  refine lv_bipush (pc := 72) hx hb (v := 9) dX4_copyFrom_72 (by decide) ?_
  refine va_copyi (pc := 74) hx hb (hml.trans hl.1.symm) hown (hts (.methodLink RX4 40 arraycopyName) mU_282) (hts (.native arraycopyName) mU_283) (hts (.static arraycopyName) mU_284) (hts (.initialized "java/lang/System") mU_285) hK hP hD hS 4 16 1 1 (f := (gA S 2)) (g := (gA S 12)) (eX_4 A B (sA (sA (sI (sI (sI (sI S 8 (gI S 0)) 9 (gI S 1)) 10 (gI S 2)) 11 (gI S 3)) 10 (va_cpy (gA S 0) (gA S 10) (0 : Int32).toNatClampNeg (0 : Int32).toNatClampNeg (9 : Int32).toNatClampNeg)) 11 (va_cpy (gA S 1) (gA S 11) (0 : Int32).toNatClampNeg (0 : Int32).toNatClampNeg (9 : Int32).toNatClampNeg))) (eX_16 A B (sA (sA (sI (sI (sI (sI S 8 (gI S 0)) 9 (gI S 1)) 10 (gI S 2)) 11 (gI S 3)) 10 (va_cpy (gA S 0) (gA S 10) (0 : Int32).toNatClampNeg (0 : Int32).toNatClampNeg (9 : Int32).toNatClampNeg)) 11 (va_cpy (gA S 1) (gA S 11) (0 : Int32).toNatClampNeg (0 : Int32).toNatClampNeg (9 : Int32).toNatClampNeg))) (ty := .int) rfl rfl rfl (sp := 0) (dp := 0) (n := 9) (by decide) (by decide) (by decide) (by decide) (by decide) (fun _ _ => rfl) (Nat.le_of_ble_eq_true rfl) (Nat.le_of_ble_eq_true rfl) dX4_copyFrom_74 (fun H locs hP hD hS => ?_)
  rw [tX_16] at hP hD
  refine lv_aload_n (pc := 77) hx hb dX4_copyFrom_77 rfl (lv_at hl 1 rfl) ?_
  refine vXgRX4_31_1 (pc := 78) hx hb hts mU_50 inU4 hown hK hP dX4_copyFrom_78 ?_
  refine lv_iconst (pc := 81) hx hb (v := 0) dX4_copyFrom_81 (by decide) ?_
  refine lv_aload_n (pc := 82) hx hb dX4_copyFrom_82 rfl (lv_at hl 0 rfl) ?_
  refine vXgRX4_31_13 (pc := 83) hx hb hts mU_50 inU4 hown hK hP dX4_copyFrom_83 ?_
  refine lv_iconst (pc := 86) hx hb (v := 0) dX4_copyFrom_86 (by decide) ?_
  refine lv_bipush (pc := 87) hx hb (v := 6) dX4_copyFrom_87 (by decide) ?_
  refine va_copyi (pc := 89) hx hb (hml.trans hl.1.symm) hown (hts (.methodLink RX4 40 arraycopyName) mU_282) (hts (.native arraycopyName) mU_283) (hts (.static arraycopyName) mU_284) (hts (.initialized "java/lang/System") mU_285) hK hP hD hS 5 17 1 1 (f := (gA S 3)) (g := (gA S 13)) (eX_5 A B (sA (sA (sA (sI (sI (sI (sI S 8 (gI S 0)) 9 (gI S 1)) 10 (gI S 2)) 11 (gI S 3)) 10 (va_cpy (gA S 0) (gA S 10) (0 : Int32).toNatClampNeg (0 : Int32).toNatClampNeg (9 : Int32).toNatClampNeg)) 11 (va_cpy (gA S 1) (gA S 11) (0 : Int32).toNatClampNeg (0 : Int32).toNatClampNeg (9 : Int32).toNatClampNeg)) 12 (va_cpy (gA S 2) (gA S 12) (0 : Int32).toNatClampNeg (0 : Int32).toNatClampNeg (9 : Int32).toNatClampNeg))) (eX_17 A B (sA (sA (sA (sI (sI (sI (sI S 8 (gI S 0)) 9 (gI S 1)) 10 (gI S 2)) 11 (gI S 3)) 10 (va_cpy (gA S 0) (gA S 10) (0 : Int32).toNatClampNeg (0 : Int32).toNatClampNeg (9 : Int32).toNatClampNeg)) 11 (va_cpy (gA S 1) (gA S 11) (0 : Int32).toNatClampNeg (0 : Int32).toNatClampNeg (9 : Int32).toNatClampNeg)) 12 (va_cpy (gA S 2) (gA S 12) (0 : Int32).toNatClampNeg (0 : Int32).toNatClampNeg (9 : Int32).toNatClampNeg))) (ty := .int) rfl rfl rfl (sp := 0) (dp := 0) (n := 6) (by decide) (by decide) (by decide) (by decide) (by decide) (fun _ _ => rfl) (Nat.le_of_ble_eq_true rfl) (Nat.le_of_ble_eq_true rfl) dX4_copyFrom_89 (fun H locs hP hD hS => ?_)
  rw [tX_17] at hP hD
  refine lv_aload_n (pc := 92) hx hb dX4_copyFrom_92 rfl (lv_at hl 1 rfl) ?_
  refine vXgRX4_34_1 (pc := 93) hx hb hts mU_51 inU4 hown hK hP dX4_copyFrom_93 ?_
  refine lv_iconst (pc := 96) hx hb (v := 0) dX4_copyFrom_96 (by decide) ?_
  refine lv_aload_n (pc := 97) hx hb dX4_copyFrom_97 rfl (lv_at hl 0 rfl) ?_
  refine vXgRX4_34_13 (pc := 98) hx hb hts mU_51 inU4 hown hK hP dX4_copyFrom_98 ?_
  refine lv_iconst (pc := 101) hx hb (v := 0) dX4_copyFrom_101 (by decide) ?_
  refine lv_bipush (pc := 102) hx hb (v := 6) dX4_copyFrom_102 (by decide) ?_
  refine va_copyi (pc := 104) hx hb (hml.trans hl.1.symm) hown (hts (.methodLink RX4 40 arraycopyName) mU_282) (hts (.native arraycopyName) mU_283) (hts (.static arraycopyName) mU_284) (hts (.initialized "java/lang/System") mU_285) hK hP hD hS 6 18 1 1 (f := (gA S 4)) (g := (gA S 14)) (eX_6 A B (sA (sA (sA (sA (sI (sI (sI (sI S 8 (gI S 0)) 9 (gI S 1)) 10 (gI S 2)) 11 (gI S 3)) 10 (va_cpy (gA S 0) (gA S 10) (0 : Int32).toNatClampNeg (0 : Int32).toNatClampNeg (9 : Int32).toNatClampNeg)) 11 (va_cpy (gA S 1) (gA S 11) (0 : Int32).toNatClampNeg (0 : Int32).toNatClampNeg (9 : Int32).toNatClampNeg)) 12 (va_cpy (gA S 2) (gA S 12) (0 : Int32).toNatClampNeg (0 : Int32).toNatClampNeg (9 : Int32).toNatClampNeg)) 13 (va_cpy (gA S 3) (gA S 13) (0 : Int32).toNatClampNeg (0 : Int32).toNatClampNeg (6 : Int32).toNatClampNeg))) (eX_18 A B (sA (sA (sA (sA (sI (sI (sI (sI S 8 (gI S 0)) 9 (gI S 1)) 10 (gI S 2)) 11 (gI S 3)) 10 (va_cpy (gA S 0) (gA S 10) (0 : Int32).toNatClampNeg (0 : Int32).toNatClampNeg (9 : Int32).toNatClampNeg)) 11 (va_cpy (gA S 1) (gA S 11) (0 : Int32).toNatClampNeg (0 : Int32).toNatClampNeg (9 : Int32).toNatClampNeg)) 12 (va_cpy (gA S 2) (gA S 12) (0 : Int32).toNatClampNeg (0 : Int32).toNatClampNeg (9 : Int32).toNatClampNeg)) 13 (va_cpy (gA S 3) (gA S 13) (0 : Int32).toNatClampNeg (0 : Int32).toNatClampNeg (6 : Int32).toNatClampNeg))) (ty := .int) rfl rfl rfl (sp := 0) (dp := 0) (n := 6) (by decide) (by decide) (by decide) (by decide) (by decide) (fun _ _ => rfl) (Nat.le_of_ble_eq_true rfl) (Nat.le_of_ble_eq_true rfl) dX4_copyFrom_104 (fun H locs hP hD hS => ?_)
  rw [tX_18] at hP hD
  obtain rfl := Option.some.inj hf
  exact hR H locs 107 ls hP hD hS dX4_copyFrom_107
set_option maxHeartbeats 4000000 in
set_option maxRecDepth 100000 in
theorem kX5_here_25 (l : Launch) (D : va_G) (A : Nat → Nat) (B : Nat → ClassId) (sz : Nat) (S : w_S) (a1 : Int32) (z : Int32) (hf : fX5_here_25 S a1 = some z) : MetW l yX5_here (wsO yX5_here cX5_here 3 (some .int)) rm_X5_here [.ref (A 25), .int a1] D (tyB B) (wX A B S) (wX A B S) sz (some (.int z)) := by
  refine MetW.mkI (cc := cX5_here) (maxL := 3) (by decide) (Nat.le_of_ble_eq_true rfl) ?_
  intro p e s m args below meth c Ad Q hx hb hts hown hml hN hK hA hR H locs ls hP hD hS hl
  have hl : lv_has ls 3 [(0, .ref (A 25)), (1, .int a1)] := hl
  rw [fX5_here_25] at hf
  refine lv_aload_n (pc := 0) hx hb dX5_here_0 rfl (lv_at hl 0 rfl) ?_
  refine vXgRX5_19_25 (pc := 1) hx hb hts mU_290 inU5 hown hK hP (x := (gI S 22)) rfl dX5_here_1 ?_
  refine lv_iload_n (pc := 4) hx hb dX5_here_4 rfl (lv_at hl 1 rfl) ?_
  refine lv_iadd (pc := 5) hx hb dX5_here_5 ?_
  refine lv_istore_n (pc := 6) hx hb (lv' := [(2, .int ((gI S 22) + a1)), (0, .ref (A 25)), (1, .int a1)]) dX5_here_6 rfl hl (by decide) rfl (fun ls hl => ?_)
  refine lv_iload_n (pc := 7) hx hb dX5_here_7 rfl (lv_at hl 0 rfl) ?_
  refine lv_if_lt (pc := 8) hx hb (tgt := 39) dX5_here_8 (by decide) (fun c_8 => ?_) (fun c_8 => ?_)
  · have hf := hf_t c_8 hf
    refine lv_iconst (pc := 39) hx hb (v := (-1)) dX5_here_39 (by decide) ?_
    obtain rfl := Option.some.inj hf
    exact hR H locs 40 ls hP hD hS dX5_here_40
  · have hf := hf_f c_8 hf
    refine lv_iload_n (pc := 11) hx hb dX5_here_11 rfl (lv_at hl 0 rfl) ?_
    refine lv_aload_n (pc := 12) hx hb dX5_here_12 rfl (lv_at hl 1 rfl) ?_
    refine vXgRX5_15_25 (pc := 13) hx hb hts mU_266 inU5 hown hK hP (x := (gI S 21)) rfl dX5_here_13 ?_
    refine lv_icmp_ge (pc := 16) hx hb (tgt := 39) dX5_here_16 (by decide) (fun c_16 => ?_) (fun c_16 => ?_)
    · have hf := hf_t c_16 hf
      refine lv_iconst (pc := 39) hx hb (v := (-1)) dX5_here_39 (by decide) ?_
      obtain rfl := Option.some.inj hf
      exact hR H locs 40 ls hP hD hS dX5_here_40
    · have hf := hf_f c_16 hf
      refine lv_iload_n (pc := 19) hx hb dX5_here_19 rfl (lv_at hl 0 rfl) ?_
      refine lv_sipush (pc := 20) hx hb (v := 200) dX5_here_20 (by decide) ?_
      refine lv_icmp_ge (pc := 23) hx hb (tgt := 39) dX5_here_23 (by decide) (fun c_23 => ?_) (fun c_23 => ?_)
      · have hf := hf_t c_23 hf
        refine lv_iconst (pc := 39) hx hb (v := (-1)) dX5_here_39 (by decide) ?_
        obtain rfl := Option.some.inj hf
        exact hR H locs 40 ls hP hD hS dX5_here_40
      · have hf := hf_f c_23 hf
        refine lv_aload_n (pc := 26) hx hb dX5_here_26 rfl (lv_at hl 1 rfl) ?_
        refine vXgRX5_9_25 (pc := 27) hx hb hts mU_63 inU5 hown hK hP dX5_here_27 ?_
        refine lv_iload_n (pc := 30) hx hb dX5_here_30 rfl (lv_at hl 0 rfl) ?_
        obtain ⟨hg31, hf⟩ := hf_g hf
        refine vXra_26 (pc := 31) hx hb hK hP (f := (gA S 17)) rfl hg31 dX5_here_31 ?_
        refine lv_sipush (pc := 32) hx hb (v := 255) dX5_here_32 (by decide) ?_
        refine lv_iand (pc := 35) hx hb dX5_here_35 ?_
        refine lv_goto (pc := 36) hx hb (tgt := 40) dX5_here_36 (by decide) ?_
        obtain rfl := Option.some.inj hf
        exact hR H locs 40 ls hP hD hS dX5_here_40
