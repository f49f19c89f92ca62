set_option maxHeartbeats 4000000 in
set_option maxRecDepth 100000 in
theorem kX6_shelf (l : Launch) (D : va_G) (A : Nat → Nat) (B : Nat → ClassId) (sz : Nat) (S : w_S) (a1 : Int32) (a2 : Int32) (a3 : Int32) (z : Int32 × w_S) (hf : fX6_shelf S a1 a2 a3 = some z) : MetW l yX6_shelf (wsO yX6_shelf cX6_shelf 5 (some .int)) rm_X6_shelf [.ref (A 0), .int a1, .int a2, .int a3] D (tyB B) (wX A B S) (wX A B z.2) sz (some (.int z.1)) := by
  refine MetW.mkI (cc := cX6_shelf) (maxL := 5) (by decide) (Nat.le_of_ble_eq_true rfl) ?_
  intro p e s m args below meth c Ad Q hx hb hts hown hml hN hK hA hR H locs ls hP hD hS hl
  have hl : lv_has ls 5 [(0, .ref (A 0)), (1, .int a1), (2, .int a2), (3, .int a3)] := hl
  rw [fX6_shelf] at hf
  refine lv_iload_n (pc := 0) hx hb dX6_shelf_0 rfl (lv_at hl 1 rfl) ?_
  obtain ⟨r1, hc1, hf⟩ := hf_b hf
  refine cl_S (pc := 1) (As := [.int a1]) (rest := []) hx hb hml hown hts (kX6_isShelf l D A B _ S a1 r1 hc1) (va_cwS 1 hts gwRX6_275 rfl rfl rfl hdX6_isShelf ⟨Nat.le_of_ble_eq_true rfl, Nat.le_of_ble_eq_true rfl⟩) hN hK hP hD hS hA rfl hl.1 rfl (Nat.le_of_ble_eq_true rfl) dX6_shelf_1 (st1 := [.int r1]) rfl ⟨Nat.zero_le _, Nat.zero_le _⟩ (fun H locs hP hD hS => ?_)
  refine lv_if_ne (pc := 4) hx hb (tgt := 9) dX6_shelf_4 (by decide) (fun c_4 => ?_) (fun c_4 => ?_)
  · have hf := hf_f c_4 hf
    refine lv_iload_n (pc := 9) hx hb dX6_shelf_9 rfl (lv_at hl 2 rfl) ?_
    refine lv_if_ne (pc := 10) hx hb (tgt := 38) dX6_shelf_10 (by decide) (fun c_10 => ?_) (fun c_10 => ?_)
    · have hf := hf_f c_10 hf
      refine lv_iload_n (pc := 38) hx hb dX6_shelf_38 rfl (lv_at hl 2 rfl) ?_
      refine lv_iconst (pc := 39) hx hb (v := 1) dX6_shelf_39 (by decide) ?_
      refine lv_icmp_ne (pc := 40) hx hb (tgt := 93) dX6_shelf_40 (by decide) (fun c_40 => ?_) (fun c_40 => ?_)
      · have hf := hf_f c_40 hf
        refine lv_iload_n (pc := 93) hx hb dX6_shelf_93 rfl (lv_at hl 2 rfl) ?_
        refine lv_iconst (pc := 94) hx hb (v := 2) dX6_shelf_94 (by decide) ?_
        refine lv_icmp_ne (pc := 95) hx hb (tgt := 112) dX6_shelf_95 (by decide) (fun c_95 => ?_) (fun c_95 => ?_)
        · have hf := hf_f c_95 hf
          refine lv_iconst (pc := 112) hx hb (v := (-1)) dX6_shelf_112 (by decide) ?_
          obtain rfl := Option.some.inj hf
          exact hR H locs 113 ls hP hD hS dX6_shelf_113
        · have hf := hf_t c_95 hf
          refine lv_aload_n (pc := 98) hx hb dX6_shelf_98 rfl (lv_at hl 0 rfl) ?_
          refine vXgRX6_54_0 (pc := 99) hx hb hts mU_35 inU6 hown hK hP dX6_shelf_99 ?_
          refine lv_iload_n (pc := 102) hx hb dX6_shelf_102 rfl (lv_at hl 1 rfl) ?_
          by_cases e103_0 : a1 = (0 : Int32)
          · have hf := hf_t e103_0 hf
            refine vXrq_38_0 (pc := 103) hx hb hK hP e103_0 dX6_shelf_103 ?_
            refine lv_iconst (pc := 104) hx hb (v := 2) dX6_shelf_104 (by decide) ?_
            refine lv_iconst (pc := 105) hx hb (v := 0) dX6_shelf_105 (by decide) ?_
            refine lv_iconst (pc := 106) hx hb (v := 0) dX6_shelf_106 (by decide) ?_
            obtain ⟨r107, hc107, hf⟩ := hf_b hf
            refine cl_V (pc := 107) (As := [.int 2, .int 0, .int 0]) (rest := []) hx hb hml hown hts (kX3_hold_39 l D A B _ S 2 0 0 r107 hc107) (cwV 3 hts gwRX6_278 rfl rfl rfl hdX3_hold ⟨Nat.le_of_ble_eq_true rfl, Nat.le_of_ble_eq_true rfl⟩) hN hK hP hD hS hA (va_recv hK hP (ci := 3) (q0 := 39) rfl (eX_39 A B _)) rfl hl.1 rfl (Nat.le_of_ble_eq_true rfl) dX6_shelf_107 (st1 := []) rfl ⟨Nat.zero_le _, Nat.zero_le _⟩ (fun H locs hP hD hS => ?_)
            refine lv_iconst (pc := 110) hx hb (v := 1) dX6_shelf_110 (by decide) ?_
            obtain rfl := Option.some.inj hf
            exact hR H locs 111 ls hP hD hS dX6_shelf_111
          · have hf := hf_f e103_0 hf
            by_cases e103_1 : a1 = (1 : Int32)
            · have hf := hf_t e103_1 hf
              refine vXrq_38_1 (pc := 103) hx hb hK hP e103_1 dX6_shelf_103 ?_
              refine lv_iconst (pc := 104) hx hb (v := 2) dX6_shelf_104 (by decide) ?_
              refine lv_iconst (pc := 105) hx hb (v := 0) dX6_shelf_105 (by decide) ?_
              refine lv_iconst (pc := 106) hx hb (v := 0) dX6_shelf_106 (by decide) ?_
              obtain ⟨r107, hc107, hf⟩ := hf_b hf
              refine cl_V (pc := 107) (As := [.int 2, .int 0, .int 0]) (rest := []) hx hb hml hown hts (kX3_hold_40 l D A B _ S 2 0 0 r107 hc107) (cwV 3 hts gwRX6_278 rfl rfl rfl hdX3_hold ⟨Nat.le_of_ble_eq_true rfl, Nat.le_of_ble_eq_true rfl⟩) hN hK hP hD hS hA (va_recv hK hP (ci := 3) (q0 := 40) rfl (eX_40 A B _)) rfl hl.1 rfl (Nat.le_of_ble_eq_true rfl) dX6_shelf_107 (st1 := []) rfl ⟨Nat.zero_le _, Nat.zero_le _⟩ (fun H locs hP hD hS => ?_)
              refine lv_iconst (pc := 110) hx hb (v := 1) dX6_shelf_110 (by decide) ?_
              obtain rfl := Option.some.inj hf
              exact hR H locs 111 ls hP hD hS dX6_shelf_111
            · have hf := hf_f e103_1 hf
              by_cases e103_2 : a1 = (2 : Int32)
              · have hf := hf_t e103_2 hf
                refine vXrq_38_2 (pc := 103) hx hb hK hP e103_2 dX6_shelf_103 ?_
                refine lv_iconst (pc := 104) hx hb (v := 2) dX6_shelf_104 (by decide) ?_
                refine lv_iconst (pc := 105) hx hb (v := 0) dX6_shelf_105 (by decide) ?_
                refine lv_iconst (pc := 106) hx hb (v := 0) dX6_shelf_106 (by decide) ?_
                obtain ⟨r107, hc107, hf⟩ := hf_b hf
                refine cl_V (pc := 107) (As := [.int 2, .int 0, .int 0]) (rest := []) hx hb hml hown hts (kX3_hold_41 l D A B _ S 2 0 0 r107 hc107) (cwV 3 hts gwRX6_278 rfl rfl rfl hdX3_hold ⟨Nat.le_of_ble_eq_true rfl, Nat.le_of_ble_eq_true rfl⟩) hN hK hP hD hS hA (va_recv hK hP (ci := 3) (q0 := 41) rfl (eX_41 A B _)) rfl hl.1 rfl (Nat.le_of_ble_eq_true rfl) dX6_shelf_107 (st1 := []) rfl ⟨Nat.zero_le _, Nat.zero_le _⟩ (fun H locs hP hD hS => ?_)
                refine lv_iconst (pc := 110) hx hb (v := 1) dX6_shelf_110 (by decide) ?_
                obtain rfl := Option.some.inj hf
                exact hR H locs 111 ls hP hD hS dX6_shelf_111
              · have hf := hf_f e103_2 hf
                by_cases e103_3 : a1 = (3 : Int32)
                · have hf := hf_t e103_3 hf
                  refine vXrq_38_3 (pc := 103) hx hb hK hP e103_3 dX6_shelf_103 ?_
                  refine lv_iconst (pc := 104) hx hb (v := 2) dX6_shelf_104 (by decide) ?_
                  refine lv_iconst (pc := 105) hx hb (v := 0) dX6_shelf_105 (by decide) ?_
                  refine lv_iconst (pc := 106) hx hb (v := 0) dX6_shelf_106 (by decide) ?_
                  obtain ⟨r107, hc107, hf⟩ := hf_b hf
                  refine cl_V (pc := 107) (As := [.int 2, .int 0, .int 0]) (rest := []) hx hb hml hown hts (kX3_hold_42 l D A B _ S 2 0 0 r107 hc107) (cwV 3 hts gwRX6_278 rfl rfl rfl hdX3_hold ⟨Nat.le_of_ble_eq_true rfl, Nat.le_of_ble_eq_true rfl⟩) hN hK hP hD hS hA (va_recv hK hP (ci := 3) (q0 := 42) rfl (eX_42 A B _)) rfl hl.1 rfl (Nat.le_of_ble_eq_true rfl) dX6_shelf_107 (st1 := []) rfl ⟨Nat.zero_le _, Nat.zero_le _⟩ (fun H locs hP hD hS => ?_)
                  refine lv_iconst (pc := 110) hx hb (v := 1) dX6_shelf_110 (by decide) ?_
                  obtain rfl := Option.some.inj hf
                  exact hR H locs 111 ls hP hD hS dX6_shelf_111
                · have hf := hf_f e103_3 hf
                  exact hf_0 hf
      · have hf := hf_t c_40 hf
        refine lv_iload_n (pc := 43) hx hb dX6_shelf_43 rfl (lv_at hl 3 rfl) ?_
        obtain ⟨r44, hc44, hf⟩ := hf_b hf
        refine cl_S (pc := 44) (As := [.int a3]) (rest := []) hx hb hml hown hts (kX6_isSheet l D A B _ S a3 r44 hc44) (va_cwS 1 hts gwRX6_214 rfl rfl rfl hdX6_isSheet ⟨Nat.le_of_ble_eq_true rfl, Nat.le_of_ble_eq_true rfl⟩) hN hK hP hD hS hA rfl hl.1 rfl (Nat.le_of_ble_eq_true rfl) dX6_shelf_44 (st1 := [.int r44]) rfl ⟨Nat.zero_le _, Nat.zero_le _⟩ (fun H locs hP hD hS => ?_)
        refine lv_if_eq (pc := 47) hx hb (tgt := 93) dX6_shelf_47 (by decide) (fun c_47 => ?_) (fun c_47 => ?_)
        · have hf := hf_t c_47 hf
          refine lv_iload_n (pc := 93) hx hb dX6_shelf_93 rfl (lv_at hl 2 rfl) ?_
          refine lv_iconst (pc := 94) hx hb (v := 2) dX6_shelf_94 (by decide) ?_
          refine lv_icmp_ne (pc := 95) hx hb (tgt := 112) dX6_shelf_95 (by decide) (fun c_95 => ?_) (fun c_95 => ?_)
          · have hf := hf_f c_95 hf
            refine lv_iconst (pc := 112) hx hb (v := (-1)) dX6_shelf_112 (by decide) ?_
            obtain rfl := Option.some.inj hf
            exact hR H locs 113 ls hP hD hS dX6_shelf_113
          · have hf := hf_t c_95 hf
            refine lv_aload_n (pc := 98) hx hb dX6_shelf_98 rfl (lv_at hl 0 rfl) ?_
            refine vXgRX6_54_0 (pc := 99) hx hb hts mU_35 inU6 hown hK hP dX6_shelf_99 ?_
            refine lv_iload_n (pc := 102) hx hb dX6_shelf_102 rfl (lv_at hl 1 rfl) ?_
            by_cases e103_0 : a1 = (0 : Int32)
            · have hf := hf_t e103_0 hf
              refine vXrq_38_0 (pc := 103) hx hb hK hP e103_0 dX6_shelf_103 ?_
              refine lv_iconst (pc := 104) hx hb (v := 2) dX6_shelf_104 (by decide) ?_
              refine lv_iconst (pc := 105) hx hb (v := 0) dX6_shelf_105 (by decide) ?_
              refine lv_iconst (pc := 106) hx hb (v := 0) dX6_shelf_106 (by decide) ?_
              obtain ⟨r107, hc107, hf⟩ := hf_b hf
              refine cl_V (pc := 107) (As := [.int 2, .int 0, .int 0]) (rest := []) hx hb hml hown hts (kX3_hold_39 l D A B _ S 2 0 0 r107 hc107) (cwV 3 hts gwRX6_278 rfl rfl rfl hdX3_hold ⟨Nat.le_of_ble_eq_true rfl, Nat.le_of_ble_eq_true rfl⟩) hN hK hP hD hS hA (va_recv hK hP (ci := 3) (q0 := 39) rfl (eX_39 A B _)) rfl hl.1 rfl (Nat.le_of_ble_eq_true rfl) dX6_shelf_107 (st1 := []) rfl ⟨Nat.zero_le _, Nat.zero_le _⟩ (fun H locs hP hD hS => ?_)
              refine lv_iconst (pc := 110) hx hb (v := 1) dX6_shelf_110 (by decide) ?_
              obtain rfl := Option.some.inj hf
              exact hR H locs 111 ls hP hD hS dX6_shelf_111
            · have hf := hf_f e103_0 hf
              by_cases e103_1 : a1 = (1 : Int32)
              · have hf := hf_t e103_1 hf
                refine vXrq_38_1 (pc := 103) hx hb hK hP e103_1 dX6_shelf_103 ?_
                refine lv_iconst (pc := 104) hx hb (v := 2) dX6_shelf_104 (by decide) ?_
                refine lv_iconst (pc := 105) hx hb (v := 0) dX6_shelf_105 (by decide) ?_
                refine lv_iconst (pc := 106) hx hb (v := 0) dX6_shelf_106 (by decide) ?_
                obtain ⟨r107, hc107, hf⟩ := hf_b hf
                refine cl_V (pc := 107) (As := [.int 2, .int 0, .int 0]) (rest := []) hx hb hml hown hts (kX3_hold_40 l D A B _ S 2 0 0 r107 hc107) (cwV 3 hts gwRX6_278 rfl rfl rfl hdX3_hold ⟨Nat.le_of_ble_eq_true rfl, Nat.le_of_ble_eq_true rfl⟩) hN hK hP hD hS hA (va_recv hK hP (ci := 3) (q0 := 40) rfl (eX_40 A B _)) rfl hl.1 rfl (Nat.le_of_ble_eq_true rfl) dX6_shelf_107 (st1 := []) rfl ⟨Nat.zero_le _, Nat.zero_le _⟩ (fun H locs hP hD hS => ?_)
                refine lv_iconst (pc := 110) hx hb (v := 1) dX6_shelf_110 (by decide) ?_
                obtain rfl := Option.some.inj hf
                exact hR H locs 111 ls hP hD hS dX6_shelf_111
              · have hf := hf_f e103_1 hf
                by_cases e103_2 : a1 = (2 : Int32)
                · have hf := hf_t e103_2 hf
                  refine vXrq_38_2 (pc := 103) hx hb hK hP e103_2 dX6_shelf_103 ?_
                  refine lv_iconst (pc := 104) hx hb (v := 2) dX6_shelf_104 (by decide) ?_
                  refine lv_iconst (pc := 105) hx hb (v := 0) dX6_shelf_105 (by decide) ?_
                  refine lv_iconst (pc := 106) hx hb (v := 0) dX6_shelf_106 (by decide) ?_
                  obtain ⟨r107, hc107, hf⟩ := hf_b hf
                  refine cl_V (pc := 107) (As := [.int 2, .int 0, .int 0]) (rest := []) hx hb hml hown hts (kX3_hold_41 l D A B _ S 2 0 0 r107 hc107) (cwV 3 hts gwRX6_278 rfl rfl rfl hdX3_hold ⟨Nat.le_of_ble_eq_true rfl, Nat.le_of_ble_eq_true rfl⟩) hN hK hP hD hS hA (va_recv hK hP (ci := 3) (q0 := 41) rfl (eX_41 A B _)) rfl hl.1 rfl (Nat.le_of_ble_eq_true rfl) dX6_shelf_107 (st1 := []) rfl ⟨Nat.zero_le _, Nat.zero_le _⟩ (fun H locs hP hD hS => ?_)
                  refine lv_iconst (pc := 110) hx hb (v := 1) dX6_shelf_110 (by decide) ?_
                  obtain rfl := Option.some.inj hf
                  exact hR H locs 111 ls hP hD hS dX6_shelf_111
                · have hf := hf_f e103_2 hf
                  by_cases e103_3 : a1 = (3 : Int32)
                  · have hf := hf_t e103_3 hf
                    refine vXrq_38_3 (pc := 103) hx hb hK hP e103_3 dX6_shelf_103 ?_
                    refine lv_iconst (pc := 104) hx hb (v := 2) dX6_shelf_104 (by decide) ?_
                    refine lv_iconst (pc := 105) hx hb (v := 0) dX6_shelf_105 (by decide) ?_
                    refine lv_iconst (pc := 106) hx hb (v := 0) dX6_shelf_106 (by decide) ?_
                    obtain ⟨r107, hc107, hf⟩ := hf_b hf
                    refine cl_V (pc := 107) (As := [.int 2, .int 0, .int 0]) (rest := []) hx hb hml hown hts (kX3_hold_42 l D A B _ S 2 0 0 r107 hc107) (cwV 3 hts gwRX6_278 rfl rfl rfl hdX3_hold ⟨Nat.le_of_ble_eq_true rfl, Nat.le_of_ble_eq_true rfl⟩) hN hK hP hD hS hA (va_recv hK hP (ci := 3) (q0 := 42) rfl (eX_42 A B _)) rfl hl.1 rfl (Nat.le_of_ble_eq_true rfl) dX6_shelf_107 (st1 := []) rfl ⟨Nat.zero_le _, Nat.zero_le _⟩ (fun H locs hP hD hS => ?_)
                    refine lv_iconst (pc := 110) hx hb (v := 1) dX6_shelf_110 (by decide) ?_
                    obtain rfl := Option.some.inj hf
                    exact hR H locs 111 ls hP hD hS dX6_shelf_111
                  · have hf := hf_f e103_3 hf
                    exact hf_0 hf
        · have hf := hf_f c_47 hf
          refine lv_aload_n (pc := 50) hx hb dX6_shelf_50 rfl (lv_at hl 0 rfl) ?_
          refine vXgRX6_48_0 (pc := 51) hx hb hts mU_33 inU6 hown hK hP dX6_shelf_51 ?_
          refine lv_iload_n (pc := 54) hx hb dX6_shelf_54 rfl (lv_at hl 3 rfl) ?_
          by_cases e55_0 : a3 = (0 : Int32)
          · have hf := hf_t e55_0 hf
            refine vXrq_29_0 (pc := 55) hx hb hK hP e55_0 dX6_shelf_55 ?_
            refine lv_astore (pc := 56) hx hb (lv' := [(4, .ref (A 30)), (0, .ref (A 0)), (1, .int a1), (2, .int a2), (3, .int a3)]) dX6_shelf_56 hl (by decide) rfl (fun ls hl => ?_)
            refine lv_aload_n (pc := 58) hx hb dX6_shelf_58 rfl (lv_at hl 1 rfl) ?_
            refine vXgRX6_54_0 (pc := 59) hx hb hts mU_35 inU6 hown hK hP dX6_shelf_59 ?_
            refine lv_iload_n (pc := 62) hx hb dX6_shelf_62 rfl (lv_at hl 2 rfl) ?_
            by_cases e63_0 : a1 = (0 : Int32)
            · have hf := hf_t e63_0 hf
              refine vXrq_38_0 (pc := 63) hx hb hK hP e63_0 dX6_shelf_63 ?_
              refine lv_aload (pc := 64) hx hb dX6_shelf_64 (lv_at hl 0 rfl) ?_
              refine vXgRX6_252_30 (pc := 66) hx hb hts mU_796 inU2 hown hK hP (x := (gI S 28)) rfl dX6_shelf_66 ?_
              refine lv_iconst (pc := 69) hx hb (v := (-1)) dX6_shelf_69 (by decide) ?_
              obtain ⟨q78, hv78, hf⟩ := hf_b hf
              have hj78 : ∀ (H : Heap) (locs : List Loc) (ls : Array Slot), va_P D vwCl (wX A B S) H → va_D Ad (wX A B S) → va_S Ad s.heap H locs → lv_has ls 5 [(4, .ref (A 30))] → W p l e rm_X6_shelf s m args below meth c H locs 0 0 Q (F0 m 78 ls [.int q78, .ref (A 39)]) := by
                intro H locs ls hP hD hS hl
                refine lv_aload (pc := 78) hx hb dX6_shelf_78 (lv_at hl 0 rfl) ?_
                refine vXgRX6_255_30 (pc := 80) hx hb hts mU_797 inU2 hown hK hP (x := (gI S 29)) rfl dX6_shelf_80 ?_
                refine lv_aload (pc := 83) hx hb dX6_shelf_83 (lv_at hl 0 rfl) ?_
                refine vXgRX6_252_30 (pc := 85) hx hb hts mU_796 inU2 hown hK hP (x := (gI S 28)) rfl dX6_shelf_85 ?_
                obtain ⟨r88, hc88, hf⟩ := hf_b hf
                refine cl_V (pc := 88) (As := [.int q78, .int (gI S 29), .int (gI S 28)]) (rest := []) hx hb hml hown hts (kX3_hold_39 l D A B _ S q78 (gI S 29) (gI S 28) r88 hc88) (cwV 3 hts gwRX6_278 rfl rfl rfl hdX3_hold ⟨Nat.le_of_ble_eq_true rfl, Nat.le_of_ble_eq_true rfl⟩) hN hK hP hD hS hA (va_recv hK hP (ci := 3) (q0 := 39) rfl (eX_39 A B _)) rfl hl.1 rfl (Nat.le_of_ble_eq_true rfl) dX6_shelf_88 (st1 := []) rfl ⟨Nat.zero_le _, Nat.zero_le _⟩ (fun H locs hP hD hS => ?_)
                refine lv_iconst (pc := 91) hx hb (v := 1) dX6_shelf_91 (by decide) ?_
                obtain rfl := Option.some.inj hf
                exact hR H locs 92 ls hP hD hS dX6_shelf_92
              refine lv_icmp_ne (pc := 70) hx hb (tgt := 77) dX6_shelf_70 (by decide) (fun c_70 => ?_) (fun c_70 => ?_)
              · have hv78 := hf_f c_70 hv78
                refine lv_iconst (pc := 77) hx hb (v := 1) dX6_shelf_77 (by decide) ?_
                obtain rfl := Option.some.inj hv78
                exact hj78 H locs ls hP hD hS (lv_sub hl [0] rfl)
              · have hv78 := hf_t c_70 hv78
                refine lv_iconst (pc := 73) hx hb (v := 2) dX6_shelf_73 (by decide) ?_
                refine lv_goto (pc := 74) hx hb (tgt := 78) dX6_shelf_74 (by decide) ?_
                obtain rfl := Option.some.inj hv78
                exact hj78 H locs ls hP hD hS (lv_sub hl [0] rfl)
            · have hf := hf_f e63_0 hf
              by_cases e63_1 : a1 = (1 : Int32)
              · have hf := hf_t e63_1 hf
                refine vXrq_38_1 (pc := 63) hx hb hK hP e63_1 dX6_shelf_63 ?_
                refine lv_aload (pc := 64) hx hb dX6_shelf_64 (lv_at hl 0 rfl) ?_
                refine vXgRX6_252_30 (pc := 66) hx hb hts mU_796 inU2 hown hK hP (x := (gI S 28)) rfl dX6_shelf_66 ?_
                refine lv_iconst (pc := 69) hx hb (v := (-1)) dX6_shelf_69 (by decide) ?_
                obtain ⟨q78, hv78, hf⟩ := hf_b hf
                have hj78 : ∀ (H : Heap) (locs : List Loc) (ls : Array Slot), va_P D vwCl (wX A B S) H → va_D Ad (wX A B S) → va_S Ad s.heap H locs → lv_has ls 5 [(4, .ref (A 30))] → W p l e rm_X6_shelf s m args below meth c H locs 0 0 Q (F0 m 78 ls [.int q78, .ref (A 40)]) := by
                  intro H locs ls hP hD hS hl
                  refine lv_aload (pc := 78) hx hb dX6_shelf_78 (lv_at hl 0 rfl) ?_
                  refine vXgRX6_255_30 (pc := 80) hx hb hts mU_797 inU2 hown hK hP (x := (gI S 29)) rfl dX6_shelf_80 ?_
                  refine lv_aload (pc := 83) hx hb dX6_shelf_83 (lv_at hl 0 rfl) ?_
                  refine vXgRX6_252_30 (pc := 85) hx hb hts mU_796 inU2 hown hK hP (x := (gI S 28)) rfl dX6_shelf_85 ?_
                  obtain ⟨r88, hc88, hf⟩ := hf_b hf
                  refine cl_V (pc := 88) (As := [.int q78, .int (gI S 29), .int (gI S 28)]) (rest := []) hx hb hml hown hts (kX3_hold_40 l D A B _ S q78 (gI S 29) (gI S 28) r88 hc88) (cwV 3 hts gwRX6_278 rfl rfl rfl hdX3_hold ⟨Nat.le_of_ble_eq_true rfl, Nat.le_of_ble_eq_true rfl⟩) hN hK hP hD hS hA (va_recv hK hP (ci := 3) (q0 := 40) rfl (eX_40 A B _)) rfl hl.1 rfl (Nat.le_of_ble_eq_true rfl) dX6_shelf_88 (st1 := []) rfl ⟨Nat.zero_le _, Nat.zero_le _⟩ (fun H locs hP hD hS => ?_)
                  refine lv_iconst (pc := 91) hx hb (v := 1) dX6_shelf_91 (by decide) ?_
                  obtain rfl := Option.some.inj hf
                  exact hR H locs 92 ls hP hD hS dX6_shelf_92
                refine lv_icmp_ne (pc := 70) hx hb (tgt := 77) dX6_shelf_70 (by decide) (fun c_70 => ?_) (fun c_70 => ?_)
                · have hv78 := hf_f c_70 hv78
                  refine lv_iconst (pc := 77) hx hb (v := 1) dX6_shelf_77 (by decide) ?_
                  obtain rfl := Option.some.inj hv78
                  exact hj78 H locs ls hP hD hS (lv_sub hl [0] rfl)
                · have hv78 := hf_t c_70 hv78
                  refine lv_iconst (pc := 73) hx hb (v := 2) dX6_shelf_73 (by decide) ?_
                  refine lv_goto (pc := 74) hx hb (tgt := 78) dX6_shelf_74 (by decide) ?_
                  obtain rfl := Option.some.inj hv78
                  exact hj78 H locs ls hP hD hS (lv_sub hl [0] rfl)
              · have hf := hf_f e63_1 hf
                by_cases e63_2 : a1 = (2 : Int32)
                · have hf := hf_t e63_2 hf
                  refine vXrq_38_2 (pc := 63) hx hb hK hP e63_2 dX6_shelf_63 ?_
                  refine lv_aload (pc := 64) hx hb dX6_shelf_64 (lv_at hl 0 rfl) ?_
                  refine vXgRX6_252_30 (pc := 66) hx hb hts mU_796 inU2 hown hK hP (x := (gI S 28)) rfl dX6_shelf_66 ?_
                  refine lv_iconst (pc := 69) hx hb (v := (-1)) dX6_shelf_69 (by decide) ?_
                  obtain ⟨q78, hv78, hf⟩ := hf_b hf
                  have hj78 : ∀ (H : Heap) (locs : List Loc) (ls : Array Slot), va_P D vwCl (wX A B S) H → va_D Ad (wX A B S) → va_S Ad s.heap H locs → lv_has ls 5 [(4, .ref (A 30))] → W p l e rm_X6_shelf s m args below meth c H locs 0 0 Q (F0 m 78 ls [.int q78, .ref (A 41)]) := by
                    intro H locs ls hP hD hS hl
                    refine lv_aload (pc := 78) hx hb dX6_shelf_78 (lv_at hl 0 rfl) ?_
                    refine vXgRX6_255_30 (pc := 80) hx hb hts mU_797 inU2 hown hK hP (x := (gI S 29)) rfl dX6_shelf_80 ?_
                    refine lv_aload (pc := 83) hx hb dX6_shelf_83 (lv_at hl 0 rfl) ?_
                    refine vXgRX6_252_30 (pc := 85) hx hb hts mU_796 inU2 hown hK hP (x := (gI S 28)) rfl dX6_shelf_85 ?_
                    obtain ⟨r88, hc88, hf⟩ := hf_b hf
                    refine cl_V (pc := 88) (As := [.int q78, .int (gI S 29), .int (gI S 28)]) (rest := []) hx hb hml hown hts (kX3_hold_41 l D A B _ S q78 (gI S 29) (gI S 28) r88 hc88) (cwV 3 hts gwRX6_278 rfl rfl rfl hdX3_hold ⟨Nat.le_of_ble_eq_true rfl, Nat.le_of_ble_eq_true rfl⟩) hN hK hP hD hS hA (va_recv hK hP (ci := 3) (q0 := 41) rfl (eX_41 A B _)) rfl hl.1 rfl (Nat.le_of_ble_eq_true rfl) dX6_shelf_88 (st1 := []) rfl ⟨Nat.zero_le _, Nat.zero_le _⟩ (fun H locs hP hD hS => ?_)
                    refine lv_iconst (pc := 91) hx hb (v := 1) dX6_shelf_91 (by decide) ?_
                    obtain rfl := Option.some.inj hf
                    exact hR H locs 92 ls hP hD hS dX6_shelf_92
                  refine lv_icmp_ne (pc := 70) hx hb (tgt := 77) dX6_shelf_70 (by decide) (fun c_70 => ?_) (fun c_70 => ?_)
                  · have hv78 := hf_f c_70 hv78
                    refine lv_iconst (pc := 77) hx hb (v := 1) dX6_shelf_77 (by decide) ?_
                    obtain rfl := Option.some.inj hv78
                    exact hj78 H locs ls hP hD hS (lv_sub hl [0] rfl)
                  · have hv78 := hf_t c_70 hv78
                    refine lv_iconst (pc := 73) hx hb (v := 2) dX6_shelf_73 (by decide) ?_
                    refine lv_goto (pc := 74) hx hb (tgt := 78) dX6_shelf_74 (by decide) ?_
                    obtain rfl := Option.some.inj hv78
                    exact hj78 H locs ls hP hD hS (lv_sub hl [0] rfl)
                · have hf := hf_f e63_2 hf
                  by_cases e63_3 : a1 = (3 : Int32)
                  · have hf := hf_t e63_3 hf
                    refine vXrq_38_3 (pc := 63) hx hb hK hP e63_3 dX6_shelf_63 ?_
                    refine lv_aload (pc := 64) hx hb dX6_shelf_64 (lv_at hl 0 rfl) ?_
                    refine vXgRX6_252_30 (pc := 66) hx hb hts mU_796 inU2 hown hK hP (x := (gI S 28)) rfl dX6_shelf_66 ?_
                    refine lv_iconst (pc := 69) hx hb (v := (-1)) dX6_shelf_69 (by decide) ?_
                    obtain ⟨q78, hv78, hf⟩ := hf_b hf
                    have hj78 : ∀ (H : Heap) (locs : List Loc) (ls : Array Slot), va_P D vwCl (wX A B S) H → va_D Ad (wX A B S) → va_S Ad s.heap H locs → lv_has ls 5 [(4, .ref (A 30))] → W p l e rm_X6_shelf s m args below meth c H locs 0 0 Q (F0 m 78 ls [.int q78, .ref (A 42)]) := by
                      intro H locs ls hP hD hS hl
                      refine lv_aload (pc := 78) hx hb dX6_shelf_78 (lv_at hl 0 rfl) ?_
                      refine vXgRX6_255_30 (pc := 80) hx hb hts mU_797 inU2 hown hK hP (x := (gI S 29)) rfl dX6_shelf_80 ?_
                      refine lv_aload (pc := 83) hx hb dX6_shelf_83 (lv_at hl 0 rfl) ?_
                      refine vXgRX6_252_30 (pc := 85) hx hb hts mU_796 inU2 hown hK hP (x := (gI S 28)) rfl dX6_shelf_85 ?_
                      obtain ⟨r88, hc88, hf⟩ := hf_b hf
                      refine cl_V (pc := 88) (As := [.int q78, .int (gI S 29), .int (gI S 28)]) (rest := []) hx hb hml hown hts (kX3_hold_42 l D A B _ S q78 (gI S 29) (gI S 28) r88 hc88) (cwV 3 hts gwRX6_278 rfl rfl rfl hdX3_hold ⟨Nat.le_of_ble_eq_true rfl, Nat.le_of_ble_eq_true rfl⟩) hN hK hP hD hS hA (va_recv hK hP (ci := 3) (q0 := 42) rfl (eX_42 A B _)) rfl hl.1 rfl (Nat.le_of_ble_eq_true rfl) dX6_shelf_88 (st1 := []) rfl ⟨Nat.zero_le _, Nat.zero_le _⟩ (fun H locs hP hD hS => ?_)
                      refine lv_iconst (pc := 91) hx hb (v := 1) dX6_shelf_91 (by decide) ?_
                      obtain rfl := Option.some.inj hf
                      exact hR H locs 92 ls hP hD hS dX6_shelf_92
                    refine lv_icmp_ne (pc := 70) hx hb (tgt := 77) dX6_shelf_70 (by decide) (fun c_70 => ?_) (fun c_70 => ?_)
                    · have hv78 := hf_f c_70 hv78
                      refine lv_iconst (pc := 77) hx hb (v := 1) dX6_shelf_77 (by decide) ?_
                      obtain rfl := Option.some.inj hv78
                      exact hj78 H locs ls hP hD hS (lv_sub hl [0] rfl)
                    · have hv78 := hf_t c_70 hv78
                      refine lv_iconst (pc := 73) hx hb (v := 2) dX6_shelf_73 (by decide) ?_
                      refine lv_goto (pc := 74) hx hb (tgt := 78) dX6_shelf_74 (by decide) ?_
                      obtain rfl := Option.some.inj hv78
                      exact hj78 H locs ls hP hD hS (lv_sub hl [0] rfl)
                  · have hf := hf_f e63_3 hf
                    exact hf_0 hf
          · have hf := hf_f e55_0 hf
            by_cases e55_1 : a3 = (1 : Int32)
            · have hf := hf_t e55_1 hf
              refine vXrq_29_1 (pc := 55) hx hb hK hP e55_1 dX6_shelf_55 ?_
              refine lv_astore (pc := 56) hx hb (lv' := [(4, .ref (A 32)), (0, .ref (A 0)), (1, .int a1), (2, .int a2), (3, .int a3)]) dX6_shelf_56 hl (by decide) rfl (fun ls hl => ?_)
              refine lv_aload_n (pc := 58) hx hb dX6_shelf_58 rfl (lv_at hl 1 rfl) ?_
              refine vXgRX6_54_0 (pc := 59) hx hb hts mU_35 inU6 hown hK hP dX6_shelf_59 ?_
              refine lv_iload_n (pc := 62) hx hb dX6_shelf_62 rfl (lv_at hl 2 rfl) ?_
              by_cases e63_0 : a1 = (0 : Int32)
              · have hf := hf_t e63_0 hf
                refine vXrq_38_0 (pc := 63) hx hb hK hP e63_0 dX6_shelf_63 ?_
                refine lv_aload (pc := 64) hx hb dX6_shelf_64 (lv_at hl 0 rfl) ?_
                refine vXgRX6_252_32 (pc := 66) hx hb hts mU_796 inU2 hown hK hP (x := (gI S 30)) rfl dX6_shelf_66 ?_
                refine lv_iconst (pc := 69) hx hb (v := (-1)) dX6_shelf_69 (by decide) ?_
                obtain ⟨q78, hv78, hf⟩ := hf_b hf
                have hj78 : ∀ (H : Heap) (locs : List Loc) (ls : Array Slot), va_P D vwCl (wX A B S) H → va_D Ad (wX A B S) → va_S Ad s.heap H locs → lv_has ls 5 [(4, .ref (A 32))] → W p l e rm_X6_shelf s m args below meth c H locs 0 0 Q (F0 m 78 ls [.int q78, .ref (A 39)]) := by
                  intro H locs ls hP hD hS hl
                  refine lv_aload (pc := 78) hx hb dX6_shelf_78 (lv_at hl 0 rfl) ?_
                  refine vXgRX6_255_32 (pc := 80) hx hb hts mU_797 inU2 hown hK hP (x := (gI S 31)) rfl dX6_shelf_80 ?_
                  refine lv_aload (pc := 83) hx hb dX6_shelf_83 (lv_at hl 0 rfl) ?_
                  refine vXgRX6_252_32 (pc := 85) hx hb hts mU_796 inU2 hown hK hP (x := (gI S 30)) rfl dX6_shelf_85 ?_
                  obtain ⟨r88, hc88, hf⟩ := hf_b hf
                  refine cl_V (pc := 88) (As := [.int q78, .int (gI S 31), .int (gI S 30)]) (rest := []) hx hb hml hown hts (kX3_hold_39 l D A B _ S q78 (gI S 31) (gI S 30) r88 hc88) (cwV 3 hts gwRX6_278 rfl rfl rfl hdX3_hold ⟨Nat.le_of_ble_eq_true rfl, Nat.le_of_ble_eq_true rfl⟩) hN hK hP hD hS hA (va_recv hK hP (ci := 3) (q0 := 39) rfl (eX_39 A B _)) rfl hl.1 rfl (Nat.le_of_ble_eq_true rfl) dX6_shelf_88 (st1 := []) rfl ⟨Nat.zero_le _, Nat.zero_le _⟩ (fun H locs hP hD hS => ?_)
                  refine lv_iconst (pc := 91) hx hb (v := 1) dX6_shelf_91 (by decide) ?_
                  obtain rfl := Option.some.inj hf
                  exact hR H locs 92 ls hP hD hS dX6_shelf_92
                refine lv_icmp_ne (pc := 70) hx hb (tgt := 77) dX6_shelf_70 (by decide) (fun c_70 => ?_) (fun c_70 => ?_)
                · have hv78 := hf_f c_70 hv78
                  refine lv_iconst (pc := 77) hx hb (v := 1) dX6_shelf_77 (by decide) ?_
                  obtain rfl := Option.some.inj hv78
                  exact hj78 H locs ls hP hD hS (lv_sub hl [0] rfl)
                · have hv78 := hf_t c_70 hv78
                  refine lv_iconst (pc := 73) hx hb (v := 2) dX6_shelf_73 (by decide) ?_
                  refine lv_goto (pc := 74) hx hb (tgt := 78) dX6_shelf_74 (by decide) ?_
                  obtain rfl := Option.some.inj hv78
                  exact hj78 H locs ls hP hD hS (lv_sub hl [0] rfl)
              · have hf := hf_f e63_0 hf
                by_cases e63_1 : a1 = (1 : Int32)
                · have hf := hf_t e63_1 hf
                  refine vXrq_38_1 (pc := 63) hx hb hK hP e63_1 dX6_shelf_63 ?_
                  refine lv_aload (pc := 64) hx hb dX6_shelf_64 (lv_at hl 0 rfl) ?_
                  refine vXgRX6_252_32 (pc := 66) hx hb hts mU_796 inU2 hown hK hP (x := (gI S 30)) rfl dX6_shelf_66 ?_
                  refine lv_iconst (pc := 69) hx hb (v := (-1)) dX6_shelf_69 (by decide) ?_
                  obtain ⟨q78, hv78, hf⟩ := hf_b hf
                  have hj78 : ∀ (H : Heap) (locs : List Loc) (ls : Array Slot), va_P D vwCl (wX A B S) H → va_D Ad (wX A B S) → va_S Ad s.heap H locs → lv_has ls 5 [(4, .ref (A 32))] → W p l e rm_X6_shelf s m args below meth c H locs 0 0 Q (F0 m 78 ls [.int q78, .ref (A 40)]) := by
                    intro H locs ls hP hD hS hl
                    refine lv_aload (pc := 78) hx hb dX6_shelf_78 (lv_at hl 0 rfl) ?_
                    refine vXgRX6_255_32 (pc := 80) hx hb hts mU_797 inU2 hown hK hP (x := (gI S 31)) rfl dX6_shelf_80 ?_
                    refine lv_aload (pc := 83) hx hb dX6_shelf_83 (lv_at hl 0 rfl) ?_
                    refine vXgRX6_252_32 (pc := 85) hx hb hts mU_796 inU2 hown hK hP (x := (gI S 30)) rfl dX6_shelf_85 ?_
                    obtain ⟨r88, hc88, hf⟩ := hf_b hf
                    refine cl_V (pc := 88) (As := [.int q78, .int (gI S 31), .int (gI S 30)]) (rest := []) hx hb hml hown hts (kX3_hold_40 l D A B _ S q78 (gI S 31) (gI S 30) r88 hc88) (cwV 3 hts gwRX6_278 rfl rfl rfl hdX3_hold ⟨Nat.le_of_ble_eq_true rfl, Nat.le_of_ble_eq_true rfl⟩) hN hK hP hD hS hA (va_recv hK hP (ci := 3) (q0 := 40) rfl (eX_40 A B _)) rfl hl.1 rfl (Nat.le_of_ble_eq_true rfl) dX6_shelf_88 (st1 := []) rfl ⟨Nat.zero_le _, Nat.zero_le _⟩ (fun H locs hP hD hS => ?_)
                    refine lv_iconst (pc := 91) hx hb (v := 1) dX6_shelf_91 (by decide) ?_
                    obtain rfl := Option.some.inj hf
                    exact hR H locs 92 ls hP hD hS dX6_shelf_92
                  refine lv_icmp_ne (pc := 70) hx hb (tgt := 77) dX6_shelf_70 (by decide) (fun c_70 => ?_) (fun c_70 => ?_)
                  · have hv78 := hf_f c_70 hv78
                    refine lv_iconst (pc := 77) hx hb (v := 1) dX6_shelf_77 (by decide) ?_
                    obtain rfl := Option.some.inj hv78
                    exact hj78 H locs ls hP hD hS (lv_sub hl [0] rfl)
                  · have hv78 := hf_t c_70 hv78
                    refine lv_iconst (pc := 73) hx hb (v := 2) dX6_shelf_73 (by decide) ?_
                    refine lv_goto (pc := 74) hx hb (tgt := 78) dX6_shelf_74 (by decide) ?_
                    obtain rfl := Option.some.inj hv78
                    exact hj78 H locs ls hP hD hS (lv_sub hl [0] rfl)
                · have hf := hf_f e63_1 hf
                  by_cases e63_2 : a1 = (2 : Int32)
                  · have hf := hf_t e63_2 hf
                    refine vXrq_38_2 (pc := 63) hx hb hK hP e63_2 dX6_shelf_63 ?_
                    refine lv_aload (pc := 64) hx hb dX6_shelf_64 (lv_at hl 0 rfl) ?_
                    refine vXgRX6_252_32 (pc := 66) hx hb hts mU_796 inU2 hown hK hP (x := (gI S 30)) rfl dX6_shelf_66 ?_
                    refine lv_iconst (pc := 69) hx hb (v := (-1)) dX6_shelf_69 (by decide) ?_
                    obtain ⟨q78, hv78, hf⟩ := hf_b hf
                    have hj78 : ∀ (H : Heap) (locs : List Loc) (ls : Array Slot), va_P D vwCl (wX A B S) H → va_D Ad (wX A B S) → va_S Ad s.heap H locs → lv_has ls 5 [(4, .ref (A 32))] → W p l e rm_X6_shelf s m args below meth c H locs 0 0 Q (F0 m 78 ls [.int q78, .ref (A 41)]) := by
                      intro H locs ls hP hD hS hl
                      refine lv_aload (pc := 78) hx hb dX6_shelf_78 (lv_at hl 0 rfl) ?_
                      refine vXgRX6_255_32 (pc := 80) hx hb hts mU_797 inU2 hown hK hP (x := (gI S 31)) rfl dX6_shelf_80 ?_
                      refine lv_aload (pc := 83) hx hb dX6_shelf_83 (lv_at hl 0 rfl) ?_
                      refine vXgRX6_252_32 (pc := 85) hx hb hts mU_796 inU2 hown hK hP (x := (gI S 30)) rfl dX6_shelf_85 ?_
                      obtain ⟨r88, hc88, hf⟩ := hf_b hf
                      refine cl_V (pc := 88) (As := [.int q78, .int (gI S 31), .int (gI S 30)]) (rest := []) hx hb hml hown hts (kX3_hold_41 l D A B _ S q78 (gI S 31) (gI S 30) r88 hc88) (cwV 3 hts gwRX6_278 rfl rfl rfl hdX3_hold ⟨Nat.le_of_ble_eq_true rfl, Nat.le_of_ble_eq_true rfl⟩) hN hK hP hD hS hA (va_recv hK hP (ci := 3) (q0 := 41) rfl (eX_41 A B _)) rfl hl.1 rfl (Nat.le_of_ble_eq_true rfl) dX6_shelf_88 (st1 := []) rfl ⟨Nat.zero_le _, Nat.zero_le _⟩ (fun H locs hP hD hS => ?_)
                      refine lv_iconst (pc := 91) hx hb (v := 1) dX6_shelf_91 (by decide) ?_
                      obtain rfl := Option.some.inj hf
                      exact hR H locs 92 ls hP hD hS dX6_shelf_92
                    refine lv_icmp_ne (pc := 70) hx hb (tgt := 77) dX6_shelf_70 (by decide) (fun c_70 => ?_) (fun c_70 => ?_)
                    · have hv78 := hf_f c_70 hv78
                      refine lv_iconst (pc := 77) hx hb (v := 1) dX6_shelf_77 (by decide) ?_
                      obtain rfl := Option.some.inj hv78
                      exact hj78 H locs ls hP hD hS (lv_sub hl [0] rfl)
                    · have hv78 := hf_t c_70 hv78
                      refine lv_iconst (pc := 73) hx hb (v := 2) dX6_shelf_73 (by decide) ?_
                      refine lv_goto (pc := 74) hx hb (tgt := 78) dX6_shelf_74 (by decide) ?_
                      obtain rfl := Option.some.inj hv78
                      exact hj78 H locs ls hP hD hS (lv_sub hl [0] rfl)
                  · have hf := hf_f e63_2 hf
                    by_cases e63_3 : a1 = (3 : Int32)
                    · have hf := hf_t e63_3 hf
                      refine vXrq_38_3 (pc := 63) hx hb hK hP e63_3 dX6_shelf_63 ?_
                      refine lv_aload (pc := 64) hx hb dX6_shelf_64 (lv_at hl 0 rfl) ?_
                      refine vXgRX6_252_32 (pc := 66) hx hb hts mU_796 inU2 hown hK hP (x := (gI S 30)) rfl dX6_shelf_66 ?_
                      refine lv_iconst (pc := 69) hx hb (v := (-1)) dX6_shelf_69 (by decide) ?_
                      obtain ⟨q78, hv78, hf⟩ := hf_b hf
                      have hj78 : ∀ (H : Heap) (locs : List Loc) (ls : Array Slot), va_P D vwCl (wX A B S) H → va_D Ad (wX A B S) → va_S Ad s.heap H locs → lv_has ls 5 [(4, .ref (A 32))] → W p l e rm_X6_shelf s m args below meth c H locs 0 0 Q (F0 m 78 ls [.int q78, .ref (A 42)]) := by
                        intro H locs ls hP hD hS hl
                        refine lv_aload (pc := 78) hx hb dX6_shelf_78 (lv_at hl 0 rfl) ?_
                        refine vXgRX6_255_32 (pc := 80) hx hb hts mU_797 inU2 hown hK hP (x := (gI S 31)) rfl dX6_shelf_80 ?_
                        refine lv_aload (pc := 83) hx hb dX6_shelf_83 (lv_at hl 0 rfl) ?_
                        refine vXgRX6_252_32 (pc := 85) hx hb hts mU_796 inU2 hown hK hP (x := (gI S 30)) rfl dX6_shelf_85 ?_
                        obtain ⟨r88, hc88, hf⟩ := hf_b hf
                        refine cl_V (pc := 88) (As := [.int q78, .int (gI S 31), .int (gI S 30)]) (rest := []) hx hb hml hown hts (kX3_hold_42 l D A B _ S q78 (gI S 31) (gI S 30) r88 hc88) (cwV 3 hts gwRX6_278 rfl rfl rfl hdX3_hold ⟨Nat.le_of_ble_eq_true rfl, Nat.le_of_ble_eq_true rfl⟩) hN hK hP hD hS hA (va_recv hK hP (ci := 3) (q0 := 42) rfl (eX_42 A B _)) rfl hl.1 rfl (Nat.le_of_ble_eq_true rfl) dX6_shelf_88 (st1 := []) rfl ⟨Nat.zero_le _, Nat.zero_le _⟩ (fun H locs hP hD hS => ?_)
                        refine lv_iconst (pc := 91) hx hb (v := 1) dX6_shelf_91 (by decide) ?_
                        obtain rfl := Option.some.inj hf
                        exact hR H locs 92 ls hP hD hS dX6_shelf_92
                      refine lv_icmp_ne (pc := 70) hx hb (tgt := 77) dX6_shelf_70 (by decide) (fun c_70 => ?_) (fun c_70 => ?_)
                      · have hv78 := hf_f c_70 hv78
                        refine lv_iconst (pc := 77) hx hb (v := 1) dX6_shelf_77 (by decide) ?_
                        obtain rfl := Option.some.inj hv78
                        exact hj78 H locs ls hP hD hS (lv_sub hl [0] rfl)
                      · have hv78 := hf_t c_70 hv78
                        refine lv_iconst (pc := 73) hx hb (v := 2) dX6_shelf_73 (by decide) ?_
                        refine lv_goto (pc := 74) hx hb (tgt := 78) dX6_shelf_74 (by decide) ?_
                        obtain rfl := Option.some.inj hv78
                        exact hj78 H locs ls hP hD hS (lv_sub hl [0] rfl)
                    · have hf := hf_f e63_3 hf
                      exact hf_0 hf
            · have hf := hf_f e55_1 hf
              by_cases e55_2 : a3 = (2 : Int32)
              · have hf := hf_t e55_2 hf
                refine vXrq_29_2 (pc := 55) hx hb hK hP e55_2 dX6_shelf_55 ?_
                refine lv_astore (pc := 56) hx hb (lv' := [(4, .ref (A 34)), (0, .ref (A 0)), (1, .int a1), (2, .int a2), (3, .int a3)]) dX6_shelf_56 hl (by decide) rfl (fun ls hl => ?_)
                refine lv_aload_n (pc := 58) hx hb dX6_shelf_58 rfl (lv_at hl 1 rfl) ?_
                refine vXgRX6_54_0 (pc := 59) hx hb hts mU_35 inU6 hown hK hP dX6_shelf_59 ?_
                refine lv_iload_n (pc := 62) hx hb dX6_shelf_62 rfl (lv_at hl 2 rfl) ?_
                by_cases e63_0 : a1 = (0 : Int32)
                · have hf := hf_t e63_0 hf
                  refine vXrq_38_0 (pc := 63) hx hb hK hP e63_0 dX6_shelf_63 ?_
                  refine lv_aload (pc := 64) hx hb dX6_shelf_64 (lv_at hl 0 rfl) ?_
                  refine vXgRX6_252_34 (pc := 66) hx hb hts mU_796 inU2 hown hK hP (x := (gI S 32)) rfl dX6_shelf_66 ?_
                  refine lv_iconst (pc := 69) hx hb (v := (-1)) dX6_shelf_69 (by decide) ?_
                  obtain ⟨q78, hv78, hf⟩ := hf_b hf
                  have hj78 : ∀ (H : Heap) (locs : List Loc) (ls : Array Slot), va_P D vwCl (wX A B S) H → va_D Ad (wX A B S) → va_S Ad s.heap H locs → lv_has ls 5 [(4, .ref (A 34))] → W p l e rm_X6_shelf s m args below meth c H locs 0 0 Q (F0 m 78 ls [.int q78, .ref (A 39)]) := by
                    intro H locs ls hP hD hS hl
                    refine lv_aload (pc := 78) hx hb dX6_shelf_78 (lv_at hl 0 rfl) ?_
                    refine vXgRX6_255_34 (pc := 80) hx hb hts mU_797 inU2 hown hK hP (x := (gI S 33)) rfl dX6_shelf_80 ?_
                    refine lv_aload (pc := 83) hx hb dX6_shelf_83 (lv_at hl 0 rfl) ?_
                    refine vXgRX6_252_34 (pc := 85) hx hb hts mU_796 inU2 hown hK hP (x := (gI S 32)) rfl dX6_shelf_85 ?_
                    obtain ⟨r88, hc88, hf⟩ := hf_b hf
                    refine cl_V (pc := 88) (As := [.int q78, .int (gI S 33), .int (gI S 32)]) (rest := []) hx hb hml hown hts (kX3_hold_39 l D A B _ S q78 (gI S 33) (gI S 32) r88 hc88) (cwV 3 hts gwRX6_278 rfl rfl rfl hdX3_hold ⟨Nat.le_of_ble_eq_true rfl, Nat.le_of_ble_eq_true rfl⟩) hN hK hP hD hS hA (va_recv hK hP (ci := 3) (q0 := 39) rfl (eX_39 A B _)) rfl hl.1 rfl (Nat.le_of_ble_eq_true rfl) dX6_shelf_88 (st1 := []) rfl ⟨Nat.zero_le _, Nat.zero_le _⟩ (fun H locs hP hD hS => ?_)
                    refine lv_iconst (pc := 91) hx hb (v := 1) dX6_shelf_91 (by decide) ?_
                    obtain rfl := Option.some.inj hf
                    exact hR H locs 92 ls hP hD hS dX6_shelf_92
                  refine lv_icmp_ne (pc := 70) hx hb (tgt := 77) dX6_shelf_70 (by decide) (fun c_70 => ?_) (fun c_70 => ?_)
                  · have hv78 := hf_f c_70 hv78
                    refine lv_iconst (pc := 77) hx hb (v := 1) dX6_shelf_77 (by decide) ?_
                    obtain rfl := Option.some.inj hv78
                    exact hj78 H locs ls hP hD hS (lv_sub hl [0] rfl)
                  · have hv78 := hf_t c_70 hv78
                    refine lv_iconst (pc := 73) hx hb (v := 2) dX6_shelf_73 (by decide) ?_
                    refine lv_goto (pc := 74) hx hb (tgt := 78) dX6_shelf_74 (by decide) ?_
                    obtain rfl := Option.some.inj hv78
                    exact hj78 H locs ls hP hD hS (lv_sub hl [0] rfl)
                · have hf := hf_f e63_0 hf
                  by_cases e63_1 : a1 = (1 : Int32)
                  · have hf := hf_t e63_1 hf
                    refine vXrq_38_1 (pc := 63) hx hb hK hP e63_1 dX6_shelf_63 ?_
                    refine lv_aload (pc := 64) hx hb dX6_shelf_64 (lv_at hl 0 rfl) ?_
                    refine vXgRX6_252_34 (pc := 66) hx hb hts mU_796 inU2 hown hK hP (x := (gI S 32)) rfl dX6_shelf_66 ?_
                    refine lv_iconst (pc := 69) hx hb (v := (-1)) dX6_shelf_69 (by decide) ?_
                    obtain ⟨q78, hv78, hf⟩ := hf_b hf
                    have hj78 : ∀ (H : Heap) (locs : List Loc) (ls : Array Slot), va_P D vwCl (wX A B S) H → va_D Ad (wX A B S) → va_S Ad s.heap H locs → lv_has ls 5 [(4, .ref (A 34))] → W p l e rm_X6_shelf s m args below meth c H locs 0 0 Q (F0 m 78 ls [.int q78, .ref (A 40)]) := by
                      intro H locs ls hP hD hS hl
                      refine lv_aload (pc := 78) hx hb dX6_shelf_78 (lv_at hl 0 rfl) ?_
                      refine vXgRX6_255_34 (pc := 80) hx hb hts mU_797 inU2 hown hK hP (x := (gI S 33)) rfl dX6_shelf_80 ?_
                      refine lv_aload (pc := 83) hx hb dX6_shelf_83 (lv_at hl 0 rfl) ?_
                      refine vXgRX6_252_34 (pc := 85) hx hb hts mU_796 inU2 hown hK hP (x := (gI S 32)) rfl dX6_shelf_85 ?_
                      obtain ⟨r88, hc88, hf⟩ := hf_b hf
                      refine cl_V (pc := 88) (As := [.int q78, .int (gI S 33), .int (gI S 32)]) (rest := []) hx hb hml hown hts (kX3_hold_40 l D A B _ S q78 (gI S 33) (gI S 32) r88 hc88) (cwV 3 hts gwRX6_278 rfl rfl rfl hdX3_hold ⟨Nat.le_of_ble_eq_true rfl, Nat.le_of_ble_eq_true rfl⟩) hN hK hP hD hS hA (va_recv hK hP (ci := 3) (q0 := 40) rfl (eX_40 A B _)) rfl hl.1 rfl (Nat.le_of_ble_eq_true rfl) dX6_shelf_88 (st1 := []) rfl ⟨Nat.zero_le _, Nat.zero_le _⟩ (fun H locs hP hD hS => ?_)
                      refine lv_iconst (pc := 91) hx hb (v := 1) dX6_shelf_91 (by decide) ?_
                      obtain rfl := Option.some.inj hf
                      exact hR H locs 92 ls hP hD hS dX6_shelf_92
                    refine lv_icmp_ne (pc := 70) hx hb (tgt := 77) dX6_shelf_70 (by decide) (fun c_70 => ?_) (fun c_70 => ?_)
                    · have hv78 := hf_f c_70 hv78
                      refine lv_iconst (pc := 77) hx hb (v := 1) dX6_shelf_77 (by decide) ?_
                      obtain rfl := Option.some.inj hv78
                      exact hj78 H locs ls hP hD hS (lv_sub hl [0] rfl)
                    · have hv78 := hf_t c_70 hv78
                      refine lv_iconst (pc := 73) hx hb (v := 2) dX6_shelf_73 (by decide) ?_
                      refine lv_goto (pc := 74) hx hb (tgt := 78) dX6_shelf_74 (by decide) ?_
                      obtain rfl := Option.some.inj hv78
                      exact hj78 H locs ls hP hD hS (lv_sub hl [0] rfl)
                  · have hf := hf_f e63_1 hf
                    by_cases e63_2 : a1 = (2 : Int32)
                    · have hf := hf_t e63_2 hf
                      refine vXrq_38_2 (pc := 63) hx hb hK hP e63_2 dX6_shelf_63 ?_
                      refine lv_aload (pc := 64) hx hb dX6_shelf_64 (lv_at hl 0 rfl) ?_
                      refine vXgRX6_252_34 (pc := 66) hx hb hts mU_796 inU2 hown hK hP (x := (gI S 32)) rfl dX6_shelf_66 ?_
                      refine lv_iconst (pc := 69) hx hb (v := (-1)) dX6_shelf_69 (by decide) ?_
                      obtain ⟨q78, hv78, hf⟩ := hf_b hf
                      have hj78 : ∀ (H : Heap) (locs : List Loc) (ls : Array Slot), va_P D vwCl (wX A B S) H → va_D Ad (wX A B S) → va_S Ad s.heap H locs → lv_has ls 5 [(4, .ref (A 34))] → W p l e rm_X6_shelf s m args below meth c H locs 0 0 Q (F0 m 78 ls [.int q78, .ref (A 41)]) := by
                        intro H locs ls hP hD hS hl
                        refine lv_aload (pc := 78) hx hb dX6_shelf_78 (lv_at hl 0 rfl) ?_
                        refine vXgRX6_255_34 (pc := 80) hx hb hts mU_797 inU2 hown hK hP (x := (gI S 33)) rfl dX6_shelf_80 ?_
                        refine lv_aload (pc := 83) hx hb dX6_shelf_83 (lv_at hl 0 rfl) ?_
                        refine vXgRX6_252_34 (pc := 85) hx hb hts mU_796 inU2 hown hK hP (x := (gI S 32)) rfl dX6_shelf_85 ?_
                        obtain ⟨r88, hc88, hf⟩ := hf_b hf
                        refine cl_V (pc := 88) (As := [.int q78, .int (gI S 33), .int (gI S 32)]) (rest := []) hx hb hml hown hts (kX3_hold_41 l D A B _ S q78 (gI S 33) (gI S 32) r88 hc88) (cwV 3 hts gwRX6_278 rfl rfl rfl hdX3_hold ⟨Nat.le_of_ble_eq_true rfl, Nat.le_of_ble_eq_true rfl⟩) hN hK hP hD hS hA (va_recv hK hP (ci := 3) (q0 := 41) rfl (eX_41 A B _)) rfl hl.1 rfl (Nat.le_of_ble_eq_true rfl) dX6_shelf_88 (st1 := []) rfl ⟨Nat.zero_le _, Nat.zero_le _⟩ (fun H locs hP hD hS => ?_)
                        refine lv_iconst (pc := 91) hx hb (v := 1) dX6_shelf_91 (by decide) ?_
                        obtain rfl := Option.some.inj hf
                        exact hR H locs 92 ls hP hD hS dX6_shelf_92
                      refine lv_icmp_ne (pc := 70) hx hb (tgt := 77) dX6_shelf_70 (by decide) (fun c_70 => ?_) (fun c_70 => ?_)
                      · have hv78 := hf_f c_70 hv78
                        refine lv_iconst (pc := 77) hx hb (v := 1) dX6_shelf_77 (by decide) ?_
                        obtain rfl := Option.some.inj hv78
                        exact hj78 H locs ls hP hD hS (lv_sub hl [0] rfl)
                      · have hv78 := hf_t c_70 hv78
                        refine lv_iconst (pc := 73) hx hb (v := 2) dX6_shelf_73 (by decide) ?_
                        refine lv_goto (pc := 74) hx hb (tgt := 78) dX6_shelf_74 (by decide) ?_
                        obtain rfl := Option.some.inj hv78
                        exact hj78 H locs ls hP hD hS (lv_sub hl [0] rfl)
                    · have hf := hf_f e63_2 hf
                      by_cases e63_3 : a1 = (3 : Int32)
                      · have hf := hf_t e63_3 hf
                        refine vXrq_38_3 (pc := 63) hx hb hK hP e63_3 dX6_shelf_63 ?_
                        refine lv_aload (pc := 64) hx hb dX6_shelf_64 (lv_at hl 0 rfl) ?_
                        refine vXgRX6_252_34 (pc := 66) hx hb hts mU_796 inU2 hown hK hP (x := (gI S 32)) rfl dX6_shelf_66 ?_
                        refine lv_iconst (pc := 69) hx hb (v := (-1)) dX6_shelf_69 (by decide) ?_
                        obtain ⟨q78, hv78, hf⟩ := hf_b hf
                        have hj78 : ∀ (H : Heap) (locs : List Loc) (ls : Array Slot), va_P D vwCl (wX A B S) H → va_D Ad (wX A B S) → va_S Ad s.heap H locs → lv_has ls 5 [(4, .ref (A 34))] → W p l e rm_X6_shelf s m args below meth c H locs 0 0 Q (F0 m 78 ls [.int q78, .ref (A 42)]) := by
                          intro H locs ls hP hD hS hl
                          refine lv_aload (pc := 78) hx hb dX6_shelf_78 (lv_at hl 0 rfl) ?_
                          refine vXgRX6_255_34 (pc := 80) hx hb hts mU_797 inU2 hown hK hP (x := (gI S 33)) rfl dX6_shelf_80 ?_
                          refine lv_aload (pc := 83) hx hb dX6_shelf_83 (lv_at hl 0 rfl) ?_
                          refine vXgRX6_252_34 (pc := 85) hx hb hts mU_796 inU2 hown hK hP (x := (gI S 32)) rfl dX6_shelf_85 ?_
                          obtain ⟨r88, hc88, hf⟩ := hf_b hf
                          refine cl_V (pc := 88) (As := [.int q78, .int (gI S 33), .int (gI S 32)]) (rest := []) hx hb hml hown hts (kX3_hold_42 l D A B _ S q78 (gI S 33) (gI S 32) r88 hc88) (cwV 3 hts gwRX6_278 rfl rfl rfl hdX3_hold ⟨Nat.le_of_ble_eq_true rfl, Nat.le_of_ble_eq_true rfl⟩) hN hK hP hD hS hA (va_recv hK hP (ci := 3) (q0 := 42) rfl (eX_42 A B _)) rfl hl.1 rfl (Nat.le_of_ble_eq_true rfl) dX6_shelf_88 (st1 := []) rfl ⟨Nat.zero_le _, Nat.zero_le _⟩ (fun H locs hP hD hS => ?_)
                          refine lv_iconst (pc := 91) hx hb (v := 1) dX6_shelf_91 (by decide) ?_
                          obtain rfl := Option.some.inj hf
                          exact hR H locs 92 ls hP hD hS dX6_shelf_92
                        refine lv_icmp_ne (pc := 70) hx hb (tgt := 77) dX6_shelf_70 (by decide) (fun c_70 => ?_) (fun c_70 => ?_)
                        · have hv78 := hf_f c_70 hv78
                          refine lv_iconst (pc := 77) hx hb (v := 1) dX6_shelf_77 (by decide) ?_
                          obtain rfl := Option.some.inj hv78
                          exact hj78 H locs ls hP hD hS (lv_sub hl [0] rfl)
                        · have hv78 := hf_t c_70 hv78
                          refine lv_iconst (pc := 73) hx hb (v := 2) dX6_shelf_73 (by decide) ?_
                          refine lv_goto (pc := 74) hx hb (tgt := 78) dX6_shelf_74 (by decide) ?_
                          obtain rfl := Option.some.inj hv78
                          exact hj78 H locs ls hP hD hS (lv_sub hl [0] rfl)
                      · have hf := hf_f e63_3 hf
                        exact hf_0 hf
              · have hf := hf_f e55_2 hf
                by_cases e55_3 : a3 = (3 : Int32)
                · have hf := hf_t e55_3 hf
                  refine vXrq_29_3 (pc := 55) hx hb hK hP e55_3 dX6_shelf_55 ?_
                  refine lv_astore (pc := 56) hx hb (lv' := [(4, .ref (A 36)), (0, .ref (A 0)), (1, .int a1), (2, .int a2), (3, .int a3)]) dX6_shelf_56 hl (by decide) rfl (fun ls hl => ?_)
                  refine lv_aload_n (pc := 58) hx hb dX6_shelf_58 rfl (lv_at hl 1 rfl) ?_
                  refine vXgRX6_54_0 (pc := 59) hx hb hts mU_35 inU6 hown hK hP dX6_shelf_59 ?_
                  refine lv_iload_n (pc := 62) hx hb dX6_shelf_62 rfl (lv_at hl 2 rfl) ?_
                  by_cases e63_0 : a1 = (0 : Int32)
                  · have hf := hf_t e63_0 hf
                    refine vXrq_38_0 (pc := 63) hx hb hK hP e63_0 dX6_shelf_63 ?_
                    refine lv_aload (pc := 64) hx hb dX6_shelf_64 (lv_at hl 0 rfl) ?_
                    refine vXgRX6_252_36 (pc := 66) hx hb hts mU_796 inU2 hown hK hP (x := (gI S 34)) rfl dX6_shelf_66 ?_
                    refine lv_iconst (pc := 69) hx hb (v := (-1)) dX6_shelf_69 (by decide) ?_
                    obtain ⟨q78, hv78, hf⟩ := hf_b hf
                    have hj78 : ∀ (H : Heap) (locs : List Loc) (ls : Array Slot), va_P D vwCl (wX A B S) H → va_D Ad (wX A B S) → va_S Ad s.heap H locs → lv_has ls 5 [(4, .ref (A 36))] → W p l e rm_X6_shelf s m args below meth c H locs 0 0 Q (F0 m 78 ls [.int q78, .ref (A 39)]) := by
                      intro H locs ls hP hD hS hl
                      refine lv_aload (pc := 78) hx hb dX6_shelf_78 (lv_at hl 0 rfl) ?_
                      refine vXgRX6_255_36 (pc := 80) hx hb hts mU_797 inU2 hown hK hP (x := (gI S 35)) rfl dX6_shelf_80 ?_
                      refine lv_aload (pc := 83) hx hb dX6_shelf_83 (lv_at hl 0 rfl) ?_
                      refine vXgRX6_252_36 (pc := 85) hx hb hts mU_796 inU2 hown hK hP (x := (gI S 34)) rfl dX6_shelf_85 ?_
                      obtain ⟨r88, hc88, hf⟩ := hf_b hf
                      refine cl_V (pc := 88) (As := [.int q78, .int (gI S 35), .int (gI S 34)]) (rest := []) hx hb hml hown hts (kX3_hold_39 l D A B _ S q78 (gI S 35) (gI S 34) r88 hc88) (cwV 3 hts gwRX6_278 rfl rfl rfl hdX3_hold ⟨Nat.le_of_ble_eq_true rfl, Nat.le_of_ble_eq_true rfl⟩) hN hK hP hD hS hA (va_recv hK hP (ci := 3) (q0 := 39) rfl (eX_39 A B _)) rfl hl.1 rfl (Nat.le_of_ble_eq_true rfl) dX6_shelf_88 (st1 := []) rfl ⟨Nat.zero_le _, Nat.zero_le _⟩ (fun H locs hP hD hS => ?_)
                      refine lv_iconst (pc := 91) hx hb (v := 1) dX6_shelf_91 (by decide) ?_
                      obtain rfl := Option.some.inj hf
                      exact hR H locs 92 ls hP hD hS dX6_shelf_92
                    refine lv_icmp_ne (pc := 70) hx hb (tgt := 77) dX6_shelf_70 (by decide) (fun c_70 => ?_) (fun c_70 => ?_)
                    · have hv78 := hf_f c_70 hv78
                      refine lv_iconst (pc := 77) hx hb (v := 1) dX6_shelf_77 (by decide) ?_
                      obtain rfl := Option.some.inj hv78
                      exact hj78 H locs ls hP hD hS (lv_sub hl [0] rfl)
                    · have hv78 := hf_t c_70 hv78
                      refine lv_iconst (pc := 73) hx hb (v := 2) dX6_shelf_73 (by decide) ?_
                      refine lv_goto (pc := 74) hx hb (tgt := 78) dX6_shelf_74 (by decide) ?_
                      obtain rfl := Option.some.inj hv78
                      exact hj78 H locs ls hP hD hS (lv_sub hl [0] rfl)
                  · have hf := hf_f e63_0 hf
                    by_cases e63_1 : a1 = (1 : Int32)
                    · have hf := hf_t e63_1 hf
                      refine vXrq_38_1 (pc := 63) hx hb hK hP e63_1 dX6_shelf_63 ?_
                      refine lv_aload (pc := 64) hx hb dX6_shelf_64 (lv_at hl 0 rfl) ?_
                      refine vXgRX6_252_36 (pc := 66) hx hb hts mU_796 inU2 hown hK hP (x := (gI S 34)) rfl dX6_shelf_66 ?_
                      refine lv_iconst (pc := 69) hx hb (v := (-1)) dX6_shelf_69 (by decide) ?_
                      obtain ⟨q78, hv78, hf⟩ := hf_b hf
                      have hj78 : ∀ (H : Heap) (locs : List Loc) (ls : Array Slot), va_P D vwCl (wX A B S) H → va_D Ad (wX A B S) → va_S Ad s.heap H locs → lv_has ls 5 [(4, .ref (A 36))] → W p l e rm_X6_shelf s m args below meth c H locs 0 0 Q (F0 m 78 ls [.int q78, .ref (A 40)]) := by
                        intro H locs ls hP hD hS hl
                        refine lv_aload (pc := 78) hx hb dX6_shelf_78 (lv_at hl 0 rfl) ?_
                        refine vXgRX6_255_36 (pc := 80) hx hb hts mU_797 inU2 hown hK hP (x := (gI S 35)) rfl dX6_shelf_80 ?_
                        refine lv_aload (pc := 83) hx hb dX6_shelf_83 (lv_at hl 0 rfl) ?_
                        refine vXgRX6_252_36 (pc := 85) hx hb hts mU_796 inU2 hown hK hP (x := (gI S 34)) rfl dX6_shelf_85 ?_
                        obtain ⟨r88, hc88, hf⟩ := hf_b hf
                        refine cl_V (pc := 88) (As := [.int q78, .int (gI S 35), .int (gI S 34)]) (rest := []) hx hb hml hown hts (kX3_hold_40 l D A B _ S q78 (gI S 35) (gI S 34) r88 hc88) (cwV 3 hts gwRX6_278 rfl rfl rfl hdX3_hold ⟨Nat.le_of_ble_eq_true rfl, Nat.le_of_ble_eq_true rfl⟩) hN hK hP hD hS hA (va_recv hK hP (ci := 3) (q0 := 40) rfl (eX_40 A B _)) rfl hl.1 rfl (Nat.le_of_ble_eq_true rfl) dX6_shelf_88 (st1 := []) rfl ⟨Nat.zero_le _, Nat.zero_le _⟩ (fun H locs hP hD hS => ?_)
                        refine lv_iconst (pc := 91) hx hb (v := 1) dX6_shelf_91 (by decide) ?_
                        obtain rfl := Option.some.inj hf
                        exact hR H locs 92 ls hP hD hS dX6_shelf_92
                      refine lv_icmp_ne (pc := 70) hx hb (tgt := 77) dX6_shelf_70 (by decide) (fun c_70 => ?_) (fun c_70 => ?_)
                      · have hv78 := hf_f c_70 hv78
                        refine lv_iconst (pc := 77) hx hb (v := 1) dX6_shelf_77 (by decide) ?_
                        obtain rfl := Option.some.inj hv78
                        exact hj78 H locs ls hP hD hS (lv_sub hl [0] rfl)
                      · have hv78 := hf_t c_70 hv78
                        refine lv_iconst (pc := 73) hx hb (v := 2) dX6_shelf_73 (by decide) ?_
                        refine lv_goto (pc := 74) hx hb (tgt := 78) dX6_shelf_74 (by decide) ?_
                        obtain rfl := Option.some.inj hv78
                        exact hj78 H locs ls hP hD hS (lv_sub hl [0] rfl)
                    · have hf := hf_f e63_1 hf
                      by_cases e63_2 : a1 = (2 : Int32)
                      · have hf := hf_t e63_2 hf
                        refine vXrq_38_2 (pc := 63) hx hb hK hP e63_2 dX6_shelf_63 ?_
                        refine lv_aload (pc := 64) hx hb dX6_shelf_64 (lv_at hl 0 rfl) ?_
                        refine vXgRX6_252_36 (pc := 66) hx hb hts mU_796 inU2 hown hK hP (x := (gI S 34)) rfl dX6_shelf_66 ?_
                        refine lv_iconst (pc := 69) hx hb (v := (-1)) dX6_shelf_69 (by decide) ?_
                        obtain ⟨q78, hv78, hf⟩ := hf_b hf
                        have hj78 : ∀ (H : Heap) (locs : List Loc) (ls : Array Slot), va_P D vwCl (wX A B S) H → va_D Ad (wX A B S) → va_S Ad s.heap H locs → lv_has ls 5 [(4, .ref (A 36))] → W p l e rm_X6_shelf s m args below meth c H locs 0 0 Q (F0 m 78 ls [.int q78, .ref (A 41)]) := by
                          intro H locs ls hP hD hS hl
                          refine lv_aload (pc := 78) hx hb dX6_shelf_78 (lv_at hl 0 rfl) ?_
                          refine vXgRX6_255_36 (pc := 80) hx hb hts mU_797 inU2 hown hK hP (x := (gI S 35)) rfl dX6_shelf_80 ?_
                          refine lv_aload (pc := 83) hx hb dX6_shelf_83 (lv_at hl 0 rfl) ?_
                          refine vXgRX6_252_36 (pc := 85) hx hb hts mU_796 inU2 hown hK hP (x := (gI S 34)) rfl dX6_shelf_85 ?_
                          obtain ⟨r88, hc88, hf⟩ := hf_b hf
                          refine cl_V (pc := 88) (As := [.int q78, .int (gI S 35), .int (gI S 34)]) (rest := []) hx hb hml hown hts (kX3_hold_41 l D A B _ S q78 (gI S 35) (gI S 34) r88 hc88) (cwV 3 hts gwRX6_278 rfl rfl rfl hdX3_hold ⟨Nat.le_of_ble_eq_true rfl, Nat.le_of_ble_eq_true rfl⟩) hN hK hP hD hS hA (va_recv hK hP (ci := 3) (q0 := 41) rfl (eX_41 A B _)) rfl hl.1 rfl (Nat.le_of_ble_eq_true rfl) dX6_shelf_88 (st1 := []) rfl ⟨Nat.zero_le _, Nat.zero_le _⟩ (fun H locs hP hD hS => ?_)
                          refine lv_iconst (pc := 91) hx hb (v := 1) dX6_shelf_91 (by decide) ?_
                          obtain rfl := Option.some.inj hf
                          exact hR H locs 92 ls hP hD hS dX6_shelf_92
                        refine lv_icmp_ne (pc := 70) hx hb (tgt := 77) dX6_shelf_70 (by decide) (fun c_70 => ?_) (fun c_70 => ?_)
                        · have hv78 := hf_f c_70 hv78
                          refine lv_iconst (pc := 77) hx hb (v := 1) dX6_shelf_77 (by decide) ?_
                          obtain rfl := Option.some.inj hv78
                          exact hj78 H locs ls hP hD hS (lv_sub hl [0] rfl)
                        · have hv78 := hf_t c_70 hv78
                          refine lv_iconst (pc := 73) hx hb (v := 2) dX6_shelf_73 (by decide) ?_
                          refine lv_goto (pc := 74) hx hb (tgt := 78) dX6_shelf_74 (by decide) ?_
                          obtain rfl := Option.some.inj hv78
                          exact hj78 H locs ls hP hD hS (lv_sub hl [0] rfl)
                      · have hf := hf_f e63_2 hf
                        by_cases e63_3 : a1 = (3 : Int32)
                        · have hf := hf_t e63_3 hf
                          refine vXrq_38_3 (pc := 63) hx hb hK hP e63_3 dX6_shelf_63 ?_
                          refine lv_aload (pc := 64) hx hb dX6_shelf_64 (lv_at hl 0 rfl) ?_
                          refine vXgRX6_252_36 (pc := 66) hx hb hts mU_796 inU2 hown hK hP (x := (gI S 34)) rfl dX6_shelf_66 ?_
                          refine lv_iconst (pc := 69) hx hb (v := (-1)) dX6_shelf_69 (by decide) ?_
                          obtain ⟨q78, hv78, hf⟩ := hf_b hf
                          have hj78 : ∀ (H : Heap) (locs : List Loc) (ls : Array Slot), va_P D vwCl (wX A B S) H → va_D Ad (wX A B S) → va_S Ad s.heap H locs → lv_has ls 5 [(4, .ref (A 36))] → W p l e rm_X6_shelf s m args below meth c H locs 0 0 Q (F0 m 78 ls [.int q78, .ref (A 42)]) := by
                            intro H locs ls hP hD hS hl
                            refine lv_aload (pc := 78) hx hb dX6_shelf_78 (lv_at hl 0 rfl) ?_
                            refine vXgRX6_255_36 (pc := 80) hx hb hts mU_797 inU2 hown hK hP (x := (gI S 35)) rfl dX6_shelf_80 ?_
                            refine lv_aload (pc := 83) hx hb dX6_shelf_83 (lv_at hl 0 rfl) ?_
                            refine vXgRX6_252_36 (pc := 85) hx hb hts mU_796 inU2 hown hK hP (x := (gI S 34)) rfl dX6_shelf_85 ?_
                            obtain ⟨r88, hc88, hf⟩ := hf_b hf
                            refine cl_V (pc := 88) (As := [.int q78, .int (gI S 35), .int (gI S 34)]) (rest := []) hx hb hml hown hts (kX3_hold_42 l D A B _ S q78 (gI S 35) (gI S 34) r88 hc88) (cwV 3 hts gwRX6_278 rfl rfl rfl hdX3_hold ⟨Nat.le_of_ble_eq_true rfl, Nat.le_of_ble_eq_true rfl⟩) hN hK hP hD hS hA (va_recv hK hP (ci := 3) (q0 := 42) rfl (eX_42 A B _)) rfl hl.1 rfl (Nat.le_of_ble_eq_true rfl) dX6_shelf_88 (st1 := []) rfl ⟨Nat.zero_le _, Nat.zero_le _⟩ (fun H locs hP hD hS => ?_)
                            refine lv_iconst (pc := 91) hx hb (v := 1) dX6_shelf_91 (by decide) ?_
                            obtain rfl := Option.some.inj hf
                            exact hR H locs 92 ls hP hD hS dX6_shelf_92
                          refine lv_icmp_ne (pc := 70) hx hb (tgt := 77) dX6_shelf_70 (by decide) (fun c_70 => ?_) (fun c_70 => ?_)
                          · have hv78 := hf_f c_70 hv78
                            refine lv_iconst (pc := 77) hx hb (v := 1) dX6_shelf_77 (by decide) ?_
                            obtain rfl := Option.some.inj hv78
                            exact hj78 H locs ls hP hD hS (lv_sub hl [0] rfl)
                          · have hv78 := hf_t c_70 hv78
                            refine lv_iconst (pc := 73) hx hb (v := 2) dX6_shelf_73 (by decide) ?_
                            refine lv_goto (pc := 74) hx hb (tgt := 78) dX6_shelf_74 (by decide) ?_
                            obtain rfl := Option.some.inj hv78
                            exact hj78 H locs ls hP hD hS (lv_sub hl [0] rfl)
                        · have hf := hf_f e63_3 hf
                          exact hf_0 hf
                · have hf := hf_f e55_3 hf
                  exact hf_0 hf
    · have hf := hf_t c_10 hf
      refine lv_aload_n (pc := 13) hx hb dX6_shelf_13 rfl (lv_at hl 0 rfl) ?_
      refine vXgRX6_10_0 (pc := 14) hx hb hts mU_16 inU6 hown hK hP dX6_shelf_14 ?_
      refine lv_iload_n (pc := 17) hx hb dX6_shelf_17 rfl (lv_at hl 3 rfl) ?_
      obtain ⟨r18, hc18, hf⟩ := hf_b hf
      refine cl_V (pc := 18) (As := [.int a3]) (rest := []) hx hb hml hown hts (kX4_hasEquation_1 l D A B _ S a3 r18 hc18) (cwV 1 hts gwRX6_125 rfl rfl rfl hdX4_hasEquation ⟨Nat.le_of_ble_eq_true rfl, Nat.le_of_ble_eq_true rfl⟩) hN hK hP hD hS hA (va_recv hK hP (ci := 4) (q0 := 1) rfl (eX_1 A B _)) rfl hl.1 rfl (Nat.le_of_ble_eq_true rfl) dX6_shelf_18 (st1 := [.int r18]) rfl ⟨Nat.zero_le _, Nat.zero_le _⟩ (fun H locs hP hD hS => ?_)
      refine lv_if_eq (pc := 21) hx hb (tgt := 38) dX6_shelf_21 (by decide) (fun c_21 => ?_) (fun c_21 => ?_)
      · have hf := hf_t c_21 hf
        refine lv_iload_n (pc := 38) hx hb dX6_shelf_38 rfl (lv_at hl 2 rfl) ?_
        refine lv_iconst (pc := 39) hx hb (v := 1) dX6_shelf_39 (by decide) ?_
        refine lv_icmp_ne (pc := 40) hx hb (tgt := 93) dX6_shelf_40 (by decide) (fun c_40 => ?_) (fun c_40 => ?_)
        · have hf := hf_f c_40 hf
          refine lv_iload_n (pc := 93) hx hb dX6_shelf_93 rfl (lv_at hl 2 rfl) ?_
          refine lv_iconst (pc := 94) hx hb (v := 2) dX6_shelf_94 (by decide) ?_
          refine lv_icmp_ne (pc := 95) hx hb (tgt := 112) dX6_shelf_95 (by decide) (fun c_95 => ?_) (fun c_95 => ?_)
          · have hf := hf_f c_95 hf
            refine lv_iconst (pc := 112) hx hb (v := (-1)) dX6_shelf_112 (by decide) ?_
            obtain rfl := Option.some.inj hf
            exact hR H locs 113 ls hP hD hS dX6_shelf_113
          · have hf := hf_t c_95 hf
            refine lv_aload_n (pc := 98) hx hb dX6_shelf_98 rfl (lv_at hl 0 rfl) ?_
            refine vXgRX6_54_0 (pc := 99) hx hb hts mU_35 inU6 hown hK hP dX6_shelf_99 ?_
            refine lv_iload_n (pc := 102) hx hb dX6_shelf_102 rfl (lv_at hl 1 rfl) ?_
            by_cases e103_0 : a1 = (0 : Int32)
            · have hf := hf_t e103_0 hf
              refine vXrq_38_0 (pc := 103) hx hb hK hP e103_0 dX6_shelf_103 ?_
              refine lv_iconst (pc := 104) hx hb (v := 2) dX6_shelf_104 (by decide) ?_
              refine lv_iconst (pc := 105) hx hb (v := 0) dX6_shelf_105 (by decide) ?_
              refine lv_iconst (pc := 106) hx hb (v := 0) dX6_shelf_106 (by decide) ?_
              obtain ⟨r107, hc107, hf⟩ := hf_b hf
              refine cl_V (pc := 107) (As := [.int 2, .int 0, .int 0]) (rest := []) hx hb hml hown hts (kX3_hold_39 l D A B _ S 2 0 0 r107 hc107) (cwV 3 hts gwRX6_278 rfl rfl rfl hdX3_hold ⟨Nat.le_of_ble_eq_true rfl, Nat.le_of_ble_eq_true rfl⟩) hN hK hP hD hS hA (va_recv hK hP (ci := 3) (q0 := 39) rfl (eX_39 A B _)) rfl hl.1 rfl (Nat.le_of_ble_eq_true rfl) dX6_shelf_107 (st1 := []) rfl ⟨Nat.zero_le _, Nat.zero_le _⟩ (fun H locs hP hD hS => ?_)
              refine lv_iconst (pc := 110) hx hb (v := 1) dX6_shelf_110 (by decide) ?_
              obtain rfl := Option.some.inj hf
              exact hR H locs 111 ls hP hD hS dX6_shelf_111
            · have hf := hf_f e103_0 hf
              by_cases e103_1 : a1 = (1 : Int32)
              · have hf := hf_t e103_1 hf
                refine vXrq_38_1 (pc := 103) hx hb hK hP e103_1 dX6_shelf_103 ?_
                refine lv_iconst (pc := 104) hx hb (v := 2) dX6_shelf_104 (by decide) ?_
                refine lv_iconst (pc := 105) hx hb (v := 0) dX6_shelf_105 (by decide) ?_
                refine lv_iconst (pc := 106) hx hb (v := 0) dX6_shelf_106 (by decide) ?_
                obtain ⟨r107, hc107, hf⟩ := hf_b hf
                refine cl_V (pc := 107) (As := [.int 2, .int 0, .int 0]) (rest := []) hx hb hml hown hts (kX3_hold_40 l D A B _ S 2 0 0 r107 hc107) (cwV 3 hts gwRX6_278 rfl rfl rfl hdX3_hold ⟨Nat.le_of_ble_eq_true rfl, Nat.le_of_ble_eq_true rfl⟩) hN hK hP hD hS hA (va_recv hK hP (ci := 3) (q0 := 40) rfl (eX_40 A B _)) rfl hl.1 rfl (Nat.le_of_ble_eq_true rfl) dX6_shelf_107 (st1 := []) rfl ⟨Nat.zero_le _, Nat.zero_le _⟩ (fun H locs hP hD hS => ?_)
                refine lv_iconst (pc := 110) hx hb (v := 1) dX6_shelf_110 (by decide) ?_
                obtain rfl := Option.some.inj hf
                exact hR H locs 111 ls hP hD hS dX6_shelf_111
              · have hf := hf_f e103_1 hf
                by_cases e103_2 : a1 = (2 : Int32)
                · have hf := hf_t e103_2 hf
                  refine vXrq_38_2 (pc := 103) hx hb hK hP e103_2 dX6_shelf_103 ?_
                  refine lv_iconst (pc := 104) hx hb (v := 2) dX6_shelf_104 (by decide) ?_
                  refine lv_iconst (pc := 105) hx hb (v := 0) dX6_shelf_105 (by decide) ?_
                  refine lv_iconst (pc := 106) hx hb (v := 0) dX6_shelf_106 (by decide) ?_
                  obtain ⟨r107, hc107, hf⟩ := hf_b hf
                  refine cl_V (pc := 107) (As := [.int 2, .int 0, .int 0]) (rest := []) hx hb hml hown hts (kX3_hold_41 l D A B _ S 2 0 0 r107 hc107) (cwV 3 hts gwRX6_278 rfl rfl rfl hdX3_hold ⟨Nat.le_of_ble_eq_true rfl, Nat.le_of_ble_eq_true rfl⟩) hN hK hP hD hS hA (va_recv hK hP (ci := 3) (q0 := 41) rfl (eX_41 A B _)) rfl hl.1 rfl (Nat.le_of_ble_eq_true rfl) dX6_shelf_107 (st1 := []) rfl ⟨Nat.zero_le _, Nat.zero_le _⟩ (fun H locs hP hD hS => ?_)
                  refine lv_iconst (pc := 110) hx hb (v := 1) dX6_shelf_110 (by decide) ?_
                  obtain rfl := Option.some.inj hf
                  exact hR H locs 111 ls hP hD hS dX6_shelf_111
                · have hf := hf_f e103_2 hf
                  by_cases e103_3 : a1 = (3 : Int32)
                  · have hf := hf_t e103_3 hf
                    refine vXrq_38_3 (pc := 103) hx hb hK hP e103_3 dX6_shelf_103 ?_
                    refine lv_iconst (pc := 104) hx hb (v := 2) dX6_shelf_104 (by decide) ?_
                    refine lv_iconst (pc := 105) hx hb (v := 0) dX6_shelf_105 (by decide) ?_
                    refine lv_iconst (pc := 106) hx hb (v := 0) dX6_shelf_106 (by decide) ?_
                    obtain ⟨r107, hc107, hf⟩ := hf_b hf
                    refine cl_V (pc := 107) (As := [.int 2, .int 0, .int 0]) (rest := []) hx hb hml hown hts (kX3_hold_42 l D A B _ S 2 0 0 r107 hc107) (cwV 3 hts gwRX6_278 rfl rfl rfl hdX3_hold ⟨Nat.le_of_ble_eq_true rfl, Nat.le_of_ble_eq_true rfl⟩) hN hK hP hD hS hA (va_recv hK hP (ci := 3) (q0 := 42) rfl (eX_42 A B _)) rfl hl.1 rfl (Nat.le_of_ble_eq_true rfl) dX6_shelf_107 (st1 := []) rfl ⟨Nat.zero_le _, Nat.zero_le _⟩ (fun H locs hP hD hS => ?_)
                    refine lv_iconst (pc := 110) hx hb (v := 1) dX6_shelf_110 (by decide) ?_
                    obtain rfl := Option.some.inj hf
                    exact hR H locs 111 ls hP hD hS dX6_shelf_111
                  · have hf := hf_f e103_3 hf
                    exact hf_0 hf
        · have hf := hf_t c_40 hf
          refine lv_iload_n (pc := 43) hx hb dX6_shelf_43 rfl (lv_at hl 3 rfl) ?_
          obtain ⟨r44, hc44, hf⟩ := hf_b hf
          refine cl_S (pc := 44) (As := [.int a3]) (rest := []) hx hb hml hown hts (kX6_isSheet l D A B _ S a3 r44 hc44) (va_cwS 1 hts gwRX6_214 rfl rfl rfl hdX6_isSheet ⟨Nat.le_of_ble_eq_true rfl, Nat.le_of_ble_eq_true rfl⟩) hN hK hP hD hS hA rfl hl.1 rfl (Nat.le_of_ble_eq_true rfl) dX6_shelf_44 (st1 := [.int r44]) rfl ⟨Nat.zero_le _, Nat.zero_le _⟩ (fun H locs hP hD hS => ?_)
          refine lv_if_eq (pc := 47) hx hb (tgt := 93) dX6_shelf_47 (by decide) (fun c_47 => ?_) (fun c_47 => ?_)
          · have hf := hf_t c_47 hf
            refine lv_iload_n (pc := 93) hx hb dX6_shelf_93 rfl (lv_at hl 2 rfl) ?_
            refine lv_iconst (pc := 94) hx hb (v := 2) dX6_shelf_94 (by decide) ?_
            refine lv_icmp_ne (pc := 95) hx hb (tgt := 112) dX6_shelf_95 (by decide) (fun c_95 => ?_) (fun c_95 => ?_)
            · have hf := hf_f c_95 hf
              refine lv_iconst (pc := 112) hx hb (v := (-1)) dX6_shelf_112 (by decide) ?_
              obtain rfl := Option.some.inj hf
              exact hR H locs 113 ls hP hD hS dX6_shelf_113
            · have hf := hf_t c_95 hf
              refine lv_aload_n (pc := 98) hx hb dX6_shelf_98 rfl (lv_at hl 0 rfl) ?_
              refine vXgRX6_54_0 (pc := 99) hx hb hts mU_35 inU6 hown hK hP dX6_shelf_99 ?_
              refine lv_iload_n (pc := 102) hx hb dX6_shelf_102 rfl (lv_at hl 1 rfl) ?_
              by_cases e103_0 : a1 = (0 : Int32)
              · have hf := hf_t e103_0 hf
                refine vXrq_38_0 (pc := 103) hx hb hK hP e103_0 dX6_shelf_103 ?_
                refine lv_iconst (pc := 104) hx hb (v := 2) dX6_shelf_104 (by decide) ?_
                refine lv_iconst (pc := 105) hx hb (v := 0) dX6_shelf_105 (by decide) ?_
                refine lv_iconst (pc := 106) hx hb (v := 0) dX6_shelf_106 (by decide) ?_
                obtain ⟨r107, hc107, hf⟩ := hf_b hf
                refine cl_V (pc := 107) (As := [.int 2, .int 0, .int 0]) (rest := []) hx hb hml hown hts (kX3_hold_39 l D A B _ S 2 0 0 r107 hc107) (cwV 3 hts gwRX6_278 rfl rfl rfl hdX3_hold ⟨Nat.le_of_ble_eq_true rfl, Nat.le_of_ble_eq_true rfl⟩) hN hK hP hD hS hA (va_recv hK hP (ci := 3) (q0 := 39) rfl (eX_39 A B _)) rfl hl.1 rfl (Nat.le_of_ble_eq_true rfl) dX6_shelf_107 (st1 := []) rfl ⟨Nat.zero_le _, Nat.zero_le _⟩ (fun H locs hP hD hS => ?_)
                refine lv_iconst (pc := 110) hx hb (v := 1) dX6_shelf_110 (by decide) ?_
                obtain rfl := Option.some.inj hf
                exact hR H locs 111 ls hP hD hS dX6_shelf_111
              · have hf := hf_f e103_0 hf
                by_cases e103_1 : a1 = (1 : Int32)
                · have hf := hf_t e103_1 hf
                  refine vXrq_38_1 (pc := 103) hx hb hK hP e103_1 dX6_shelf_103 ?_
                  refine lv_iconst (pc := 104) hx hb (v := 2) dX6_shelf_104 (by decide) ?_
                  refine lv_iconst (pc := 105) hx hb (v := 0) dX6_shelf_105 (by decide) ?_
                  refine lv_iconst (pc := 106) hx hb (v := 0) dX6_shelf_106 (by decide) ?_
                  obtain ⟨r107, hc107, hf⟩ := hf_b hf
                  refine cl_V (pc := 107) (As := [.int 2, .int 0, .int 0]) (rest := []) hx hb hml hown hts (kX3_hold_40 l D A B _ S 2 0 0 r107 hc107) (cwV 3 hts gwRX6_278 rfl rfl rfl hdX3_hold ⟨Nat.le_of_ble_eq_true rfl, Nat.le_of_ble_eq_true rfl⟩) hN hK hP hD hS hA (va_recv hK hP (ci := 3) (q0 := 40) rfl (eX_40 A B _)) rfl hl.1 rfl (Nat.le_of_ble_eq_true rfl) dX6_shelf_107 (st1 := []) rfl ⟨Nat.zero_le _, Nat.zero_le _⟩ (fun H locs hP hD hS => ?_)
                  refine lv_iconst (pc := 110) hx hb (v := 1) dX6_shelf_110 (by decide) ?_
                  obtain rfl := Option.some.inj hf
                  exact hR H locs 111 ls hP hD hS dX6_shelf_111
                · have hf := hf_f e103_1 hf
                  by_cases e103_2 : a1 = (2 : Int32)
                  · have hf := hf_t e103_2 hf
                    refine vXrq_38_2 (pc := 103) hx hb hK hP e103_2 dX6_shelf_103 ?_
                    refine lv_iconst (pc := 104) hx hb (v := 2) dX6_shelf_104 (by decide) ?_
                    refine lv_iconst (pc := 105) hx hb (v := 0) dX6_shelf_105 (by decide) ?_
                    refine lv_iconst (pc := 106) hx hb (v := 0) dX6_shelf_106 (by decide) ?_
                    obtain ⟨r107, hc107, hf⟩ := hf_b hf
                    refine cl_V (pc := 107) (As := [.int 2, .int 0, .int 0]) (rest := []) hx hb hml hown hts (kX3_hold_41 l D A B _ S 2 0 0 r107 hc107) (cwV 3 hts gwRX6_278 rfl rfl rfl hdX3_hold ⟨Nat.le_of_ble_eq_true rfl, Nat.le_of_ble_eq_true rfl⟩) hN hK hP hD hS hA (va_recv hK hP (ci := 3) (q0 := 41) rfl (eX_41 A B _)) rfl hl.1 rfl (Nat.le_of_ble_eq_true rfl) dX6_shelf_107 (st1 := []) rfl ⟨Nat.zero_le _, Nat.zero_le _⟩ (fun H locs hP hD hS => ?_)
                    refine lv_iconst (pc := 110) hx hb (v := 1) dX6_shelf_110 (by decide) ?_
                    obtain rfl := Option.some.inj hf
                    exact hR H locs 111 ls hP hD hS dX6_shelf_111
                  · have hf := hf_f e103_2 hf
                    by_cases e103_3 : a1 = (3 : Int32)
                    · have hf := hf_t e103_3 hf
                      refine vXrq_38_3 (pc := 103) hx hb hK hP e103_3 dX6_shelf_103 ?_
                      refine lv_iconst (pc := 104) hx hb (v := 2) dX6_shelf_104 (by decide) ?_
                      refine lv_iconst (pc := 105) hx hb (v := 0) dX6_shelf_105 (by decide) ?_
                      refine lv_iconst (pc := 106) hx hb (v := 0) dX6_shelf_106 (by decide) ?_
                      obtain ⟨r107, hc107, hf⟩ := hf_b hf
                      refine cl_V (pc := 107) (As := [.int 2, .int 0, .int 0]) (rest := []) hx hb hml hown hts (kX3_hold_42 l D A B _ S 2 0 0 r107 hc107) (cwV 3 hts gwRX6_278 rfl rfl rfl hdX3_hold ⟨Nat.le_of_ble_eq_true rfl, Nat.le_of_ble_eq_true rfl⟩) hN hK hP hD hS hA (va_recv hK hP (ci := 3) (q0 := 42) rfl (eX_42 A B _)) rfl hl.1 rfl (Nat.le_of_ble_eq_true rfl) dX6_shelf_107 (st1 := []) rfl ⟨Nat.zero_le _, Nat.zero_le _⟩ (fun H locs hP hD hS => ?_)
                      refine lv_iconst (pc := 110) hx hb (v := 1) dX6_shelf_110 (by decide) ?_
                      obtain rfl := Option.some.inj hf
                      exact hR H locs 111 ls hP hD hS dX6_shelf_111
                    · have hf := hf_f e103_3 hf
                      exact hf_0 hf
          · have hf := hf_f c_47 hf
            refine lv_aload_n (pc := 50) hx hb dX6_shelf_50 rfl (lv_at hl 0 rfl) ?_
            refine vXgRX6_48_0 (pc := 51) hx hb hts mU_33 inU6 hown hK hP dX6_shelf_51 ?_
            refine lv_iload_n (pc := 54) hx hb dX6_shelf_54 rfl (lv_at hl 3 rfl) ?_
            by_cases e55_0 : a3 = (0 : Int32)
            · have hf := hf_t e55_0 hf
              refine vXrq_29_0 (pc := 55) hx hb hK hP e55_0 dX6_shelf_55 ?_
              refine lv_astore (pc := 56) hx hb (lv' := [(4, .ref (A 30)), (0, .ref (A 0)), (1, .int a1), (2, .int a2), (3, .int a3)]) dX6_shelf_56 hl (by decide) rfl (fun ls hl => ?_)
              refine lv_aload_n (pc := 58) hx hb dX6_shelf_58 rfl (lv_at hl 1 rfl) ?_
              refine vXgRX6_54_0 (pc := 59) hx hb hts mU_35 inU6 hown hK hP dX6_shelf_59 ?_
              refine lv_iload_n (pc := 62) hx hb dX6_shelf_62 rfl (lv_at hl 2 rfl) ?_
              by_cases e63_0 : a1 = (0 : Int32)
              · have hf := hf_t e63_0 hf
                refine vXrq_38_0 (pc := 63) hx hb hK hP e63_0 dX6_shelf_63 ?_
                refine lv_aload (pc := 64) hx hb dX6_shelf_64 (lv_at hl 0 rfl) ?_
                refine vXgRX6_252_30 (pc := 66) hx hb hts mU_796 inU2 hown hK hP (x := (gI S 28)) rfl dX6_shelf_66 ?_
                refine lv_iconst (pc := 69) hx hb (v := (-1)) dX6_shelf_69 (by decide) ?_
                obtain ⟨q78, hv78, hf⟩ := hf_b hf
                have hj78 : ∀ (H : Heap) (locs : List Loc) (ls : Array Slot), va_P D vwCl (wX A B S) H → va_D Ad (wX A B S) → va_S Ad s.heap H locs → lv_has ls 5 [(4, .ref (A 30))] → W p l e rm_X6_shelf s m args below meth c H locs 0 0 Q (F0 m 78 ls [.int q78, .ref (A 39)]) := by
                  intro H locs ls hP hD hS hl
                  refine lv_aload (pc := 78) hx hb dX6_shelf_78 (lv_at hl 0 rfl) ?_
                  refine vXgRX6_255_30 (pc := 80) hx hb hts mU_797 inU2 hown hK hP (x := (gI S 29)) rfl dX6_shelf_80 ?_
                  refine lv_aload (pc := 83) hx hb dX6_shelf_83 (lv_at hl 0 rfl) ?_
                  refine vXgRX6_252_30 (pc := 85) hx hb hts mU_796 inU2 hown hK hP (x := (gI S 28)) rfl dX6_shelf_85 ?_
                  obtain ⟨r88, hc88, hf⟩ := hf_b hf
                  refine cl_V (pc := 88) (As := [.int q78, .int (gI S 29), .int (gI S 28)]) (rest := []) hx hb hml hown hts (kX3_hold_39 l D A B _ S q78 (gI S 29) (gI S 28) r88 hc88) (cwV 3 hts gwRX6_278 rfl rfl rfl hdX3_hold ⟨Nat.le_of_ble_eq_true rfl, Nat.le_of_ble_eq_true rfl⟩) hN hK hP hD hS hA (va_recv hK hP (ci := 3) (q0 := 39) rfl (eX_39 A B _)) rfl hl.1 rfl (Nat.le_of_ble_eq_true rfl) dX6_shelf_88 (st1 := []) rfl ⟨Nat.zero_le _, Nat.zero_le _⟩ (fun H locs hP hD hS => ?_)
                  refine lv_iconst (pc := 91) hx hb (v := 1) dX6_shelf_91 (by decide) ?_
                  obtain rfl := Option.some.inj hf
                  exact hR H locs 92 ls hP hD hS dX6_shelf_92
                refine lv_icmp_ne (pc := 70) hx hb (tgt := 77) dX6_shelf_70 (by decide) (fun c_70 => ?_) (fun c_70 => ?_)
                · have hv78 := hf_f c_70 hv78
                  refine lv_iconst (pc := 77) hx hb (v := 1) dX6_shelf_77 (by decide) ?_
                  obtain rfl := Option.some.inj hv78
                  exact hj78 H locs ls hP hD hS (lv_sub hl [0] rfl)
                · have hv78 := hf_t c_70 hv78
                  refine lv_iconst (pc := 73) hx hb (v := 2) dX6_shelf_73 (by decide) ?_
                  refine lv_goto (pc := 74) hx hb (tgt := 78) dX6_shelf_74 (by decide) ?_
                  obtain rfl := Option.some.inj hv78
                  exact hj78 H locs ls hP hD hS (lv_sub hl [0] rfl)
              · have hf := hf_f e63_0 hf
                by_cases e63_1 : a1 = (1 : Int32)
                · have hf := hf_t e63_1 hf
                  refine vXrq_38_1 (pc := 63) hx hb hK hP e63_1 dX6_shelf_63 ?_
                  refine lv_aload (pc := 64) hx hb dX6_shelf_64 (lv_at hl 0 rfl) ?_
                  refine vXgRX6_252_30 (pc := 66) hx hb hts mU_796 inU2 hown hK hP (x := (gI S 28)) rfl dX6_shelf_66 ?_
                  refine lv_iconst (pc := 69) hx hb (v := (-1)) dX6_shelf_69 (by decide) ?_
                  obtain ⟨q78, hv78, hf⟩ := hf_b hf
                  have hj78 : ∀ (H : Heap) (locs : List Loc) (ls : Array Slot), va_P D vwCl (wX A B S) H → va_D Ad (wX A B S) → va_S Ad s.heap H locs → lv_has ls 5 [(4, .ref (A 30))] → W p l e rm_X6_shelf s m args below meth c H locs 0 0 Q (F0 m 78 ls [.int q78, .ref (A 40)]) := by
                    intro H locs ls hP hD hS hl
                    refine lv_aload (pc := 78) hx hb dX6_shelf_78 (lv_at hl 0 rfl) ?_
                    refine vXgRX6_255_30 (pc := 80) hx hb hts mU_797 inU2 hown hK hP (x := (gI S 29)) rfl dX6_shelf_80 ?_
                    refine lv_aload (pc := 83) hx hb dX6_shelf_83 (lv_at hl 0 rfl) ?_
                    refine vXgRX6_252_30 (pc := 85) hx hb hts mU_796 inU2 hown hK hP (x := (gI S 28)) rfl dX6_shelf_85 ?_
                    obtain ⟨r88, hc88, hf⟩ := hf_b hf
                    refine cl_V (pc := 88) (As := [.int q78, .int (gI S 29), .int (gI S 28)]) (rest := []) hx hb hml hown hts (kX3_hold_40 l D A B _ S q78 (gI S 29) (gI S 28) r88 hc88) (cwV 3 hts gwRX6_278 rfl rfl rfl hdX3_hold ⟨Nat.le_of_ble_eq_true rfl, Nat.le_of_ble_eq_true rfl⟩) hN hK hP hD hS hA (va_recv hK hP (ci := 3) (q0 := 40) rfl (eX_40 A B _)) rfl hl.1 rfl (Nat.le_of_ble_eq_true rfl) dX6_shelf_88 (st1 := []) rfl ⟨Nat.zero_le _, Nat.zero_le _⟩ (fun H locs hP hD hS => ?_)
                    refine lv_iconst (pc := 91) hx hb (v := 1) dX6_shelf_91 (by decide) ?_
                    obtain rfl := Option.some.inj hf
                    exact hR H locs 92 ls hP hD hS dX6_shelf_92
                  refine lv_icmp_ne (pc := 70) hx hb (tgt := 77) dX6_shelf_70 (by decide) (fun c_70 => ?_) (fun c_70 => ?_)
                  · have hv78 := hf_f c_70 hv78
                    refine lv_iconst (pc := 77) hx hb (v := 1) dX6_shelf_77 (by decide) ?_
                    obtain rfl := Option.some.inj hv78
                    exact hj78 H locs ls hP hD hS (lv_sub hl [0] rfl)
                  · have hv78 := hf_t c_70 hv78
                    refine lv_iconst (pc := 73) hx hb (v := 2) dX6_shelf_73 (by decide) ?_
                    refine lv_goto (pc := 74) hx hb (tgt := 78) dX6_shelf_74 (by decide) ?_
                    obtain rfl := Option.some.inj hv78
                    exact hj78 H locs ls hP hD hS (lv_sub hl [0] rfl)
                · have hf := hf_f e63_1 hf
                  by_cases e63_2 : a1 = (2 : Int32)
                  · have hf := hf_t e63_2 hf
                    refine vXrq_38_2 (pc := 63) hx hb hK hP e63_2 dX6_shelf_63 ?_
                    refine lv_aload (pc := 64) hx hb dX6_shelf_64 (lv_at hl 0 rfl) ?_
                    refine vXgRX6_252_30 (pc := 66) hx hb hts mU_796 inU2 hown hK hP (x := (gI S 28)) rfl dX6_shelf_66 ?_
                    refine lv_iconst (pc := 69) hx hb (v := (-1)) dX6_shelf_69 (by decide) ?_
                    obtain ⟨q78, hv78, hf⟩ := hf_b hf
                    have hj78 : ∀ (H : Heap) (locs : List Loc) (ls : Array Slot), va_P D vwCl (wX A B S) H → va_D Ad (wX A B S) → va_S Ad s.heap H locs → lv_has ls 5 [(4, .ref (A 30))] → W p l e rm_X6_shelf s m args below meth c H locs 0 0 Q (F0 m 78 ls [.int q78, .ref (A 41)]) := by
                      intro H locs ls hP hD hS hl
                      refine lv_aload (pc := 78) hx hb dX6_shelf_78 (lv_at hl 0 rfl) ?_
                      refine vXgRX6_255_30 (pc := 80) hx hb hts mU_797 inU2 hown hK hP (x := (gI S 29)) rfl dX6_shelf_80 ?_
                      refine lv_aload (pc := 83) hx hb dX6_shelf_83 (lv_at hl 0 rfl) ?_
                      refine vXgRX6_252_30 (pc := 85) hx hb hts mU_796 inU2 hown hK hP (x := (gI S 28)) rfl dX6_shelf_85 ?_
                      obtain ⟨r88, hc88, hf⟩ := hf_b hf
                      refine cl_V (pc := 88) (As := [.int q78, .int (gI S 29), .int (gI S 28)]) (rest := []) hx hb hml hown hts (kX3_hold_41 l D A B _ S q78 (gI S 29) (gI S 28) r88 hc88) (cwV 3 hts gwRX6_278 rfl rfl rfl hdX3_hold ⟨Nat.le_of_ble_eq_true rfl, Nat.le_of_ble_eq_true rfl⟩) hN hK hP hD hS hA (va_recv hK hP (ci := 3) (q0 := 41) rfl (eX_41 A B _)) rfl hl.1 rfl (Nat.le_of_ble_eq_true rfl) dX6_shelf_88 (st1 := []) rfl ⟨Nat.zero_le _, Nat.zero_le _⟩ (fun H locs hP hD hS => ?_)
                      refine lv_iconst (pc := 91) hx hb (v := 1) dX6_shelf_91 (by decide) ?_
                      obtain rfl := Option.some.inj hf
                      exact hR H locs 92 ls hP hD hS dX6_shelf_92
                    refine lv_icmp_ne (pc := 70) hx hb (tgt := 77) dX6_shelf_70 (by decide) (fun c_70 => ?_) (fun c_70 => ?_)
                    · have hv78 := hf_f c_70 hv78
                      refine lv_iconst (pc := 77) hx hb (v := 1) dX6_shelf_77 (by decide) ?_
                      obtain rfl := Option.some.inj hv78
                      exact hj78 H locs ls hP hD hS (lv_sub hl [0] rfl)
                    · have hv78 := hf_t c_70 hv78
                      refine lv_iconst (pc := 73) hx hb (v := 2) dX6_shelf_73 (by decide) ?_
                      refine lv_goto (pc := 74) hx hb (tgt := 78) dX6_shelf_74 (by decide) ?_
                      obtain rfl := Option.some.inj hv78
                      exact hj78 H locs ls hP hD hS (lv_sub hl [0] rfl)
                  · have hf := hf_f e63_2 hf
                    by_cases e63_3 : a1 = (3 : Int32)
                    · have hf := hf_t e63_3 hf
                      refine vXrq_38_3 (pc := 63) hx hb hK hP e63_3 dX6_shelf_63 ?_
                      refine lv_aload (pc := 64) hx hb dX6_shelf_64 (lv_at hl 0 rfl) ?_
                      refine vXgRX6_252_30 (pc := 66) hx hb hts mU_796 inU2 hown hK hP (x := (gI S 28)) rfl dX6_shelf_66 ?_
                      refine lv_iconst (pc := 69) hx hb (v := (-1)) dX6_shelf_69 (by decide) ?_
                      obtain ⟨q78, hv78, hf⟩ := hf_b hf
                      have hj78 : ∀ (H : Heap) (locs : List Loc) (ls : Array Slot), va_P D vwCl (wX A B S) H → va_D Ad (wX A B S) → va_S Ad s.heap H locs → lv_has ls 5 [(4, .ref (A 30))] → W p l e rm_X6_shelf s m args below meth c H locs 0 0 Q (F0 m 78 ls [.int q78, .ref (A 42)]) := by
                        intro H locs ls hP hD hS hl
                        refine lv_aload (pc := 78) hx hb dX6_shelf_78 (lv_at hl 0 rfl) ?_
                        refine vXgRX6_255_30 (pc := 80) hx hb hts mU_797 inU2 hown hK hP (x := (gI S 29)) rfl dX6_shelf_80 ?_
                        refine lv_aload (pc := 83) hx hb dX6_shelf_83 (lv_at hl 0 rfl) ?_
                        refine vXgRX6_252_30 (pc := 85) hx hb hts mU_796 inU2 hown hK hP (x := (gI S 28)) rfl dX6_shelf_85 ?_
                        obtain ⟨r88, hc88, hf⟩ := hf_b hf
                        refine cl_V (pc := 88) (As := [.int q78, .int (gI S 29), .int (gI S 28)]) (rest := []) hx hb hml hown hts (kX3_hold_42 l D A B _ S q78 (gI S 29) (gI S 28) r88 hc88) (cwV 3 hts gwRX6_278 rfl rfl rfl hdX3_hold ⟨Nat.le_of_ble_eq_true rfl, Nat.le_of_ble_eq_true rfl⟩) hN hK hP hD hS hA (va_recv hK hP (ci := 3) (q0 := 42) rfl (eX_42 A B _)) rfl hl.1 rfl (Nat.le_of_ble_eq_true rfl) dX6_shelf_88 (st1 := []) rfl ⟨Nat.zero_le _, Nat.zero_le _⟩ (fun H locs hP hD hS => ?_)
                        refine lv_iconst (pc := 91) hx hb (v := 1) dX6_shelf_91 (by decide) ?_
                        obtain rfl := Option.some.inj hf
                        exact hR H locs 92 ls hP hD hS dX6_shelf_92
                      refine lv_icmp_ne (pc := 70) hx hb (tgt := 77) dX6_shelf_70 (by decide) (fun c_70 => ?_) (fun c_70 => ?_)
                      · have hv78 := hf_f c_70 hv78
                        refine lv_iconst (pc := 77) hx hb (v := 1) dX6_shelf_77 (by decide) ?_
                        obtain rfl := Option.some.inj hv78
                        exact hj78 H locs ls hP hD hS (lv_sub hl [0] rfl)
                      · have hv78 := hf_t c_70 hv78
                        refine lv_iconst (pc := 73) hx hb (v := 2) dX6_shelf_73 (by decide) ?_
                        refine lv_goto (pc := 74) hx hb (tgt := 78) dX6_shelf_74 (by decide) ?_
                        obtain rfl := Option.some.inj hv78
                        exact hj78 H locs ls hP hD hS (lv_sub hl [0] rfl)
                    · have hf := hf_f e63_3 hf
                      exact hf_0 hf
            · have hf := hf_f e55_0 hf
              by_cases e55_1 : a3 = (1 : Int32)
              · have hf := hf_t e55_1 hf
                refine vXrq_29_1 (pc := 55) hx hb hK hP e55_1 dX6_shelf_55 ?_
                refine lv_astore (pc := 56) hx hb (lv' := [(4, .ref (A 32)), (0, .ref (A 0)), (1, .int a1), (2, .int a2), (3, .int a3)]) dX6_shelf_56 hl (by decide) rfl (fun ls hl => ?_)
                refine lv_aload_n (pc := 58) hx hb dX6_shelf_58 rfl (lv_at hl 1 rfl) ?_
                refine vXgRX6_54_0 (pc := 59) hx hb hts mU_35 inU6 hown hK hP dX6_shelf_59 ?_
                refine lv_iload_n (pc := 62) hx hb dX6_shelf_62 rfl (lv_at hl 2 rfl) ?_
                by_cases e63_0 : a1 = (0 : Int32)
                · have hf := hf_t e63_0 hf
                  refine vXrq_38_0 (pc := 63) hx hb hK hP e63_0 dX6_shelf_63 ?_
                  refine lv_aload (pc := 64) hx hb dX6_shelf_64 (lv_at hl 0 rfl) ?_
                  refine vXgRX6_252_32 (pc := 66) hx hb hts mU_796 inU2 hown hK hP (x := (gI S 30)) rfl dX6_shelf_66 ?_
                  refine lv_iconst (pc := 69) hx hb (v := (-1)) dX6_shelf_69 (by decide) ?_
                  obtain ⟨q78, hv78, hf⟩ := hf_b hf
                  have hj78 : ∀ (H : Heap) (locs : List Loc) (ls : Array Slot), va_P D vwCl (wX A B S) H → va_D Ad (wX A B S) → va_S Ad s.heap H locs → lv_has ls 5 [(4, .ref (A 32))] → W p l e rm_X6_shelf s m args below meth c H locs 0 0 Q (F0 m 78 ls [.int q78, .ref (A 39)]) := by
                    intro H locs ls hP hD hS hl
                    refine lv_aload (pc := 78) hx hb dX6_shelf_78 (lv_at hl 0 rfl) ?_
                    refine vXgRX6_255_32 (pc := 80) hx hb hts mU_797 inU2 hown hK hP (x := (gI S 31)) rfl dX6_shelf_80 ?_
                    refine lv_aload (pc := 83) hx hb dX6_shelf_83 (lv_at hl 0 rfl) ?_
                    refine vXgRX6_252_32 (pc := 85) hx hb hts mU_796 inU2 hown hK hP (x := (gI S 30)) rfl dX6_shelf_85 ?_
                    obtain ⟨r88, hc88, hf⟩ := hf_b hf
                    refine cl_V (pc := 88) (As := [.int q78, .int (gI S 31), .int (gI S 30)]) (rest := []) hx hb hml hown hts (kX3_hold_39 l D A B _ S q78 (gI S 31) (gI S 30) r88 hc88) (cwV 3 hts gwRX6_278 rfl rfl rfl hdX3_hold ⟨Nat.le_of_ble_eq_true rfl, Nat.le_of_ble_eq_true rfl⟩) hN hK hP hD hS hA (va_recv hK hP (ci := 3) (q0 := 39) rfl (eX_39 A B _)) rfl hl.1 rfl (Nat.le_of_ble_eq_true rfl) dX6_shelf_88 (st1 := []) rfl ⟨Nat.zero_le _, Nat.zero_le _⟩ (fun H locs hP hD hS => ?_)
                    refine lv_iconst (pc := 91) hx hb (v := 1) dX6_shelf_91 (by decide) ?_
                    obtain rfl := Option.some.inj hf
                    exact hR H locs 92 ls hP hD hS dX6_shelf_92
                  refine lv_icmp_ne (pc := 70) hx hb (tgt := 77) dX6_shelf_70 (by decide) (fun c_70 => ?_) (fun c_70 => ?_)
                  · have hv78 := hf_f c_70 hv78
                    refine lv_iconst (pc := 77) hx hb (v := 1) dX6_shelf_77 (by decide) ?_
                    obtain rfl := Option.some.inj hv78
                    exact hj78 H locs ls hP hD hS (lv_sub hl [0] rfl)
                  · have hv78 := hf_t c_70 hv78
                    refine lv_iconst (pc := 73) hx hb (v := 2) dX6_shelf_73 (by decide) ?_
                    refine lv_goto (pc := 74) hx hb (tgt := 78) dX6_shelf_74 (by decide) ?_
                    obtain rfl := Option.some.inj hv78
                    exact hj78 H locs ls hP hD hS (lv_sub hl [0] rfl)
                · have hf := hf_f e63_0 hf
                  by_cases e63_1 : a1 = (1 : Int32)
                  · have hf := hf_t e63_1 hf
                    refine vXrq_38_1 (pc := 63) hx hb hK hP e63_1 dX6_shelf_63 ?_
                    refine lv_aload (pc := 64) hx hb dX6_shelf_64 (lv_at hl 0 rfl) ?_
                    refine vXgRX6_252_32 (pc := 66) hx hb hts mU_796 inU2 hown hK hP (x := (gI S 30)) rfl dX6_shelf_66 ?_
                    refine lv_iconst (pc := 69) hx hb (v := (-1)) dX6_shelf_69 (by decide) ?_
                    obtain ⟨q78, hv78, hf⟩ := hf_b hf
                    have hj78 : ∀ (H : Heap) (locs : List Loc) (ls : Array Slot), va_P D vwCl (wX A B S) H → va_D Ad (wX A B S) → va_S Ad s.heap H locs → lv_has ls 5 [(4, .ref (A 32))] → W p l e rm_X6_shelf s m args below meth c H locs 0 0 Q (F0 m 78 ls [.int q78, .ref (A 40)]) := by
                      intro H locs ls hP hD hS hl
                      refine lv_aload (pc := 78) hx hb dX6_shelf_78 (lv_at hl 0 rfl) ?_
                      refine vXgRX6_255_32 (pc := 80) hx hb hts mU_797 inU2 hown hK hP (x := (gI S 31)) rfl dX6_shelf_80 ?_
                      refine lv_aload (pc := 83) hx hb dX6_shelf_83 (lv_at hl 0 rfl) ?_
                      refine vXgRX6_252_32 (pc := 85) hx hb hts mU_796 inU2 hown hK hP (x := (gI S 30)) rfl dX6_shelf_85 ?_
                      obtain ⟨r88, hc88, hf⟩ := hf_b hf
                      refine cl_V (pc := 88) (As := [.int q78, .int (gI S 31), .int (gI S 30)]) (rest := []) hx hb hml hown hts (kX3_hold_40 l D A B _ S q78 (gI S 31) (gI S 30) r88 hc88) (cwV 3 hts gwRX6_278 rfl rfl rfl hdX3_hold ⟨Nat.le_of_ble_eq_true rfl, Nat.le_of_ble_eq_true rfl⟩) hN hK hP hD hS hA (va_recv hK hP (ci := 3) (q0 := 40) rfl (eX_40 A B _)) rfl hl.1 rfl (Nat.le_of_ble_eq_true rfl) dX6_shelf_88 (st1 := []) rfl ⟨Nat.zero_le _, Nat.zero_le _⟩ (fun H locs hP hD hS => ?_)
                      refine lv_iconst (pc := 91) hx hb (v := 1) dX6_shelf_91 (by decide) ?_
                      obtain rfl := Option.some.inj hf
                      exact hR H locs 92 ls hP hD hS dX6_shelf_92
                    refine lv_icmp_ne (pc := 70) hx hb (tgt := 77) dX6_shelf_70 (by decide) (fun c_70 => ?_) (fun c_70 => ?_)
                    · have hv78 := hf_f c_70 hv78
                      refine lv_iconst (pc := 77) hx hb (v := 1) dX6_shelf_77 (by decide) ?_
                      obtain rfl := Option.some.inj hv78
                      exact hj78 H locs ls hP hD hS (lv_sub hl [0] rfl)
                    · have hv78 := hf_t c_70 hv78
                      refine lv_iconst (pc := 73) hx hb (v := 2) dX6_shelf_73 (by decide) ?_
                      refine lv_goto (pc := 74) hx hb (tgt := 78) dX6_shelf_74 (by decide) ?_
                      obtain rfl := Option.some.inj hv78
                      exact hj78 H locs ls hP hD hS (lv_sub hl [0] rfl)
                  · have hf := hf_f e63_1 hf
                    by_cases e63_2 : a1 = (2 : Int32)
                    · have hf := hf_t e63_2 hf
                      refine vXrq_38_2 (pc := 63) hx hb hK hP e63_2 dX6_shelf_63 ?_
                      refine lv_aload (pc := 64) hx hb dX6_shelf_64 (lv_at hl 0 rfl) ?_
                      refine vXgRX6_252_32 (pc := 66) hx hb hts mU_796 inU2 hown hK hP (x := (gI S 30)) rfl dX6_shelf_66 ?_
                      refine lv_iconst (pc := 69) hx hb (v := (-1)) dX6_shelf_69 (by decide) ?_
                      obtain ⟨q78, hv78, hf⟩ := hf_b hf
                      have hj78 : ∀ (H : Heap) (locs : List Loc) (ls : Array Slot), va_P D vwCl (wX A B S) H → va_D Ad (wX A B S) → va_S Ad s.heap H locs → lv_has ls 5 [(4, .ref (A 32))] → W p l e rm_X6_shelf s m args below meth c H locs 0 0 Q (F0 m 78 ls [.int q78, .ref (A 41)]) := by
                        intro H locs ls hP hD hS hl
                        refine lv_aload (pc := 78) hx hb dX6_shelf_78 (lv_at hl 0 rfl) ?_
                        refine vXgRX6_255_32 (pc := 80) hx hb hts mU_797 inU2 hown hK hP (x := (gI S 31)) rfl dX6_shelf_80 ?_
                        refine lv_aload (pc := 83) hx hb dX6_shelf_83 (lv_at hl 0 rfl) ?_
                        refine vXgRX6_252_32 (pc := 85) hx hb hts mU_796 inU2 hown hK hP (x := (gI S 30)) rfl dX6_shelf_85 ?_
                        obtain ⟨r88, hc88, hf⟩ := hf_b hf
                        refine cl_V (pc := 88) (As := [.int q78, .int (gI S 31), .int (gI S 30)]) (rest := []) hx hb hml hown hts (kX3_hold_41 l D A B _ S q78 (gI S 31) (gI S 30) r88 hc88) (cwV 3 hts gwRX6_278 rfl rfl rfl hdX3_hold ⟨Nat.le_of_ble_eq_true rfl, Nat.le_of_ble_eq_true rfl⟩) hN hK hP hD hS hA (va_recv hK hP (ci := 3) (q0 := 41) rfl (eX_41 A B _)) rfl hl.1 rfl (Nat.le_of_ble_eq_true rfl) dX6_shelf_88 (st1 := []) rfl ⟨Nat.zero_le _, Nat.zero_le _⟩ (fun H locs hP hD hS => ?_)
                        refine lv_iconst (pc := 91) hx hb (v := 1) dX6_shelf_91 (by decide) ?_
                        obtain rfl := Option.some.inj hf
                        exact hR H locs 92 ls hP hD hS dX6_shelf_92
                      refine lv_icmp_ne (pc := 70) hx hb (tgt := 77) dX6_shelf_70 (by decide) (fun c_70 => ?_) (fun c_70 => ?_)
                      · have hv78 := hf_f c_70 hv78
                        refine lv_iconst (pc := 77) hx hb (v := 1) dX6_shelf_77 (by decide) ?_
                        obtain rfl := Option.some.inj hv78
                        exact hj78 H locs ls hP hD hS (lv_sub hl [0] rfl)
                      · have hv78 := hf_t c_70 hv78
                        refine lv_iconst (pc := 73) hx hb (v := 2) dX6_shelf_73 (by decide) ?_
                        refine lv_goto (pc := 74) hx hb (tgt := 78) dX6_shelf_74 (by decide) ?_
                        obtain rfl := Option.some.inj hv78
                        exact hj78 H locs ls hP hD hS (lv_sub hl [0] rfl)
                    · have hf := hf_f e63_2 hf
                      by_cases e63_3 : a1 = (3 : Int32)
                      · have hf := hf_t e63_3 hf
                        refine vXrq_38_3 (pc := 63) hx hb hK hP e63_3 dX6_shelf_63 ?_
                        refine lv_aload (pc := 64) hx hb dX6_shelf_64 (lv_at hl 0 rfl) ?_
                        refine vXgRX6_252_32 (pc := 66) hx hb hts mU_796 inU2 hown hK hP (x := (gI S 30)) rfl dX6_shelf_66 ?_
                        refine lv_iconst (pc := 69) hx hb (v := (-1)) dX6_shelf_69 (by decide) ?_
                        obtain ⟨q78, hv78, hf⟩ := hf_b hf
                        have hj78 : ∀ (H : Heap) (locs : List Loc) (ls : Array Slot), va_P D vwCl (wX A B S) H → va_D Ad (wX A B S) → va_S Ad s.heap H locs → lv_has ls 5 [(4, .ref (A 32))] → W p l e rm_X6_shelf s m args below meth c H locs 0 0 Q (F0 m 78 ls [.int q78, .ref (A 42)]) := by
                          intro H locs ls hP hD hS hl
                          refine lv_aload (pc := 78) hx hb dX6_shelf_78 (lv_at hl 0 rfl) ?_
                          refine vXgRX6_255_32 (pc := 80) hx hb hts mU_797 inU2 hown hK hP (x := (gI S 31)) rfl dX6_shelf_80 ?_
                          refine lv_aload (pc := 83) hx hb dX6_shelf_83 (lv_at hl 0 rfl) ?_
                          refine vXgRX6_252_32 (pc := 85) hx hb hts mU_796 inU2 hown hK hP (x := (gI S 30)) rfl dX6_shelf_85 ?_
                          obtain ⟨r88, hc88, hf⟩ := hf_b hf
                          refine cl_V (pc := 88) (As := [.int q78, .int (gI S 31), .int (gI S 30)]) (rest := []) hx hb hml hown hts (kX3_hold_42 l D A B _ S q78 (gI S 31) (gI S 30) r88 hc88) (cwV 3 hts gwRX6_278 rfl rfl rfl hdX3_hold ⟨Nat.le_of_ble_eq_true rfl, Nat.le_of_ble_eq_true rfl⟩) hN hK hP hD hS hA (va_recv hK hP (ci := 3) (q0 := 42) rfl (eX_42 A B _)) rfl hl.1 rfl (Nat.le_of_ble_eq_true rfl) dX6_shelf_88 (st1 := []) rfl ⟨Nat.zero_le _, Nat.zero_le _⟩ (fun H locs hP hD hS => ?_)
                          refine lv_iconst (pc := 91) hx hb (v := 1) dX6_shelf_91 (by decide) ?_
                          obtain rfl := Option.some.inj hf
                          exact hR H locs 92 ls hP hD hS dX6_shelf_92
                        refine lv_icmp_ne (pc := 70) hx hb (tgt := 77) dX6_shelf_70 (by decide) (fun c_70 => ?_) (fun c_70 => ?_)
                        · have hv78 := hf_f c_70 hv78
                          refine lv_iconst (pc := 77) hx hb (v := 1) dX6_shelf_77 (by decide) ?_
                          obtain rfl := Option.some.inj hv78
                          exact hj78 H locs ls hP hD hS (lv_sub hl [0] rfl)
                        · have hv78 := hf_t c_70 hv78
                          refine lv_iconst (pc := 73) hx hb (v := 2) dX6_shelf_73 (by decide) ?_
                          refine lv_goto (pc := 74) hx hb (tgt := 78) dX6_shelf_74 (by decide) ?_
                          obtain rfl := Option.some.inj hv78
                          exact hj78 H locs ls hP hD hS (lv_sub hl [0] rfl)
                      · have hf := hf_f e63_3 hf
                        exact hf_0 hf
              · have hf := hf_f e55_1 hf
                by_cases e55_2 : a3 = (2 : Int32)
                · have hf := hf_t e55_2 hf
                  refine vXrq_29_2 (pc := 55) hx hb hK hP e55_2 dX6_shelf_55 ?_
                  refine lv_astore (pc := 56) hx hb (lv' := [(4, .ref (A 34)), (0, .ref (A 0)), (1, .int a1), (2, .int a2), (3, .int a3)]) dX6_shelf_56 hl (by decide) rfl (fun ls hl => ?_)
                  refine lv_aload_n (pc := 58) hx hb dX6_shelf_58 rfl (lv_at hl 1 rfl) ?_
                  refine vXgRX6_54_0 (pc := 59) hx hb hts mU_35 inU6 hown hK hP dX6_shelf_59 ?_
                  refine lv_iload_n (pc := 62) hx hb dX6_shelf_62 rfl (lv_at hl 2 rfl) ?_
                  by_cases e63_0 : a1 = (0 : Int32)
                  · have hf := hf_t e63_0 hf
                    refine vXrq_38_0 (pc := 63) hx hb hK hP e63_0 dX6_shelf_63 ?_
                    refine lv_aload (pc := 64) hx hb dX6_shelf_64 (lv_at hl 0 rfl) ?_
                    refine vXgRX6_252_34 (pc := 66) hx hb hts mU_796 inU2 hown hK hP (x := (gI S 32)) rfl dX6_shelf_66 ?_
                    refine lv_iconst (pc := 69) hx hb (v := (-1)) dX6_shelf_69 (by decide) ?_
                    obtain ⟨q78, hv78, hf⟩ := hf_b hf
                    have hj78 : ∀ (H : Heap) (locs : List Loc) (ls : Array Slot), va_P D vwCl (wX A B S) H → va_D Ad (wX A B S) → va_S Ad s.heap H locs → lv_has ls 5 [(4, .ref (A 34))] → W p l e rm_X6_shelf s m args below meth c H locs 0 0 Q (F0 m 78 ls [.int q78, .ref (A 39)]) := by
                      intro H locs ls hP hD hS hl
                      refine lv_aload (pc := 78) hx hb dX6_shelf_78 (lv_at hl 0 rfl) ?_
                      refine vXgRX6_255_34 (pc := 80) hx hb hts mU_797 inU2 hown hK hP (x := (gI S 33)) rfl dX6_shelf_80 ?_
                      refine lv_aload (pc := 83) hx hb dX6_shelf_83 (lv_at hl 0 rfl) ?_
                      refine vXgRX6_252_34 (pc := 85) hx hb hts mU_796 inU2 hown hK hP (x := (gI S 32)) rfl dX6_shelf_85 ?_
                      obtain ⟨r88, hc88, hf⟩ := hf_b hf
                      refine cl_V (pc := 88) (As := [.int q78, .int (gI S 33), .int (gI S 32)]) (rest := []) hx hb hml hown hts (kX3_hold_39 l D A B _ S q78 (gI S 33) (gI S 32) r88 hc88) (cwV 3 hts gwRX6_278 rfl rfl rfl hdX3_hold ⟨Nat.le_of_ble_eq_true rfl, Nat.le_of_ble_eq_true rfl⟩) hN hK hP hD hS hA (va_recv hK hP (ci := 3) (q0 := 39) rfl (eX_39 A B _)) rfl hl.1 rfl (Nat.le_of_ble_eq_true rfl) dX6_shelf_88 (st1 := []) rfl ⟨Nat.zero_le _, Nat.zero_le _⟩ (fun H locs hP hD hS => ?_)
                      refine lv_iconst (pc := 91) hx hb (v := 1) dX6_shelf_91 (by decide) ?_
                      obtain rfl := Option.some.inj hf
                      exact hR H locs 92 ls hP hD hS dX6_shelf_92
                    refine lv_icmp_ne (pc := 70) hx hb (tgt := 77) dX6_shelf_70 (by decide) (fun c_70 => ?_) (fun c_70 => ?_)
                    · have hv78 := hf_f c_70 hv78
                      refine lv_iconst (pc := 77) hx hb (v := 1) dX6_shelf_77 (by decide) ?_
                      obtain rfl := Option.some.inj hv78
                      exact hj78 H locs ls hP hD hS (lv_sub hl [0] rfl)
                    · have hv78 := hf_t c_70 hv78
                      refine lv_iconst (pc := 73) hx hb (v := 2) dX6_shelf_73 (by decide) ?_
                      refine lv_goto (pc := 74) hx hb (tgt := 78) dX6_shelf_74 (by decide) ?_
                      obtain rfl := Option.some.inj hv78
                      exact hj78 H locs ls hP hD hS (lv_sub hl [0] rfl)
                  · have hf := hf_f e63_0 hf
                    by_cases e63_1 : a1 = (1 : Int32)
                    · have hf := hf_t e63_1 hf
                      refine vXrq_38_1 (pc := 63) hx hb hK hP e63_1 dX6_shelf_63 ?_
                      refine lv_aload (pc := 64) hx hb dX6_shelf_64 (lv_at hl 0 rfl) ?_
                      refine vXgRX6_252_34 (pc := 66) hx hb hts mU_796 inU2 hown hK hP (x := (gI S 32)) rfl dX6_shelf_66 ?_
                      refine lv_iconst (pc := 69) hx hb (v := (-1)) dX6_shelf_69 (by decide) ?_
                      obtain ⟨q78, hv78, hf⟩ := hf_b hf
                      have hj78 : ∀ (H : Heap) (locs : List Loc) (ls : Array Slot), va_P D vwCl (wX A B S) H → va_D Ad (wX A B S) → va_S Ad s.heap H locs → lv_has ls 5 [(4, .ref (A 34))] → W p l e rm_X6_shelf s m args below meth c H locs 0 0 Q (F0 m 78 ls [.int q78, .ref (A 40)]) := by
                        intro H locs ls hP hD hS hl
                        refine lv_aload (pc := 78) hx hb dX6_shelf_78 (lv_at hl 0 rfl) ?_
                        refine vXgRX6_255_34 (pc := 80) hx hb hts mU_797 inU2 hown hK hP (x := (gI S 33)) rfl dX6_shelf_80 ?_
                        refine lv_aload (pc := 83) hx hb dX6_shelf_83 (lv_at hl 0 rfl) ?_
                        refine vXgRX6_252_34 (pc := 85) hx hb hts mU_796 inU2 hown hK hP (x := (gI S 32)) rfl dX6_shelf_85 ?_
                        obtain ⟨r88, hc88, hf⟩ := hf_b hf
                        refine cl_V (pc := 88) (As := [.int q78, .int (gI S 33), .int (gI S 32)]) (rest := []) hx hb hml hown hts (kX3_hold_40 l D A B _ S q78 (gI S 33) (gI S 32) r88 hc88) (cwV 3 hts gwRX6_278 rfl rfl rfl hdX3_hold ⟨Nat.le_of_ble_eq_true rfl, Nat.le_of_ble_eq_true rfl⟩) hN hK hP hD hS hA (va_recv hK hP (ci := 3) (q0 := 40) rfl (eX_40 A B _)) rfl hl.1 rfl (Nat.le_of_ble_eq_true rfl) dX6_shelf_88 (st1 := []) rfl ⟨Nat.zero_le _, Nat.zero_le _⟩ (fun H locs hP hD hS => ?_)
                        refine lv_iconst (pc := 91) hx hb (v := 1) dX6_shelf_91 (by decide) ?_
                        obtain rfl := Option.some.inj hf
                        exact hR H locs 92 ls hP hD hS dX6_shelf_92
                      refine lv_icmp_ne (pc := 70) hx hb (tgt := 77) dX6_shelf_70 (by decide) (fun c_70 => ?_) (fun c_70 => ?_)
                      · have hv78 := hf_f c_70 hv78
                        refine lv_iconst (pc := 77) hx hb (v := 1) dX6_shelf_77 (by decide) ?_
                        obtain rfl := Option.some.inj hv78
                        exact hj78 H locs ls hP hD hS (lv_sub hl [0] rfl)
                      · have hv78 := hf_t c_70 hv78
                        refine lv_iconst (pc := 73) hx hb (v := 2) dX6_shelf_73 (by decide) ?_
                        refine lv_goto (pc := 74) hx hb (tgt := 78) dX6_shelf_74 (by decide) ?_
                        obtain rfl := Option.some.inj hv78
                        exact hj78 H locs ls hP hD hS (lv_sub hl [0] rfl)
                    · have hf := hf_f e63_1 hf
                      by_cases e63_2 : a1 = (2 : Int32)
                      · have hf := hf_t e63_2 hf
                        refine vXrq_38_2 (pc := 63) hx hb hK hP e63_2 dX6_shelf_63 ?_
                        refine lv_aload (pc := 64) hx hb dX6_shelf_64 (lv_at hl 0 rfl) ?_
                        refine vXgRX6_252_34 (pc := 66) hx hb hts mU_796 inU2 hown hK hP (x := (gI S 32)) rfl dX6_shelf_66 ?_
                        refine lv_iconst (pc := 69) hx hb (v := (-1)) dX6_shelf_69 (by decide) ?_
                        obtain ⟨q78, hv78, hf⟩ := hf_b hf
                        have hj78 : ∀ (H : Heap) (locs : List Loc) (ls : Array Slot), va_P D vwCl (wX A B S) H → va_D Ad (wX A B S) → va_S Ad s.heap H locs → lv_has ls 5 [(4, .ref (A 34))] → W p l e rm_X6_shelf s m args below meth c H locs 0 0 Q (F0 m 78 ls [.int q78, .ref (A 41)]) := by
                          intro H locs ls hP hD hS hl
                          refine lv_aload (pc := 78) hx hb dX6_shelf_78 (lv_at hl 0 rfl) ?_
                          refine vXgRX6_255_34 (pc := 80) hx hb hts mU_797 inU2 hown hK hP (x := (gI S 33)) rfl dX6_shelf_80 ?_
                          refine lv_aload (pc := 83) hx hb dX6_shelf_83 (lv_at hl 0 rfl) ?_
                          refine vXgRX6_252_34 (pc := 85) hx hb hts mU_796 inU2 hown hK hP (x := (gI S 32)) rfl dX6_shelf_85 ?_
                          obtain ⟨r88, hc88, hf⟩ := hf_b hf
                          refine cl_V (pc := 88) (As := [.int q78, .int (gI S 33), .int (gI S 32)]) (rest := []) hx hb hml hown hts (kX3_hold_41 l D A B _ S q78 (gI S 33) (gI S 32) r88 hc88) (cwV 3 hts gwRX6_278 rfl rfl rfl hdX3_hold ⟨Nat.le_of_ble_eq_true rfl, Nat.le_of_ble_eq_true rfl⟩) hN hK hP hD hS hA (va_recv hK hP (ci := 3) (q0 := 41) rfl (eX_41 A B _)) rfl hl.1 rfl (Nat.le_of_ble_eq_true rfl) dX6_shelf_88 (st1 := []) rfl ⟨Nat.zero_le _, Nat.zero_le _⟩ (fun H locs hP hD hS => ?_)
                          refine lv_iconst (pc := 91) hx hb (v := 1) dX6_shelf_91 (by decide) ?_
                          obtain rfl := Option.some.inj hf
                          exact hR H locs 92 ls hP hD hS dX6_shelf_92
                        refine lv_icmp_ne (pc := 70) hx hb (tgt := 77) dX6_shelf_70 (by decide) (fun c_70 => ?_) (fun c_70 => ?_)
                        · have hv78 := hf_f c_70 hv78
                          refine lv_iconst (pc := 77) hx hb (v := 1) dX6_shelf_77 (by decide) ?_
                          obtain rfl := Option.some.inj hv78
                          exact hj78 H locs ls hP hD hS (lv_sub hl [0] rfl)
                        · have hv78 := hf_t c_70 hv78
                          refine lv_iconst (pc := 73) hx hb (v := 2) dX6_shelf_73 (by decide) ?_
                          refine lv_goto (pc := 74) hx hb (tgt := 78) dX6_shelf_74 (by decide) ?_
                          obtain rfl := Option.some.inj hv78
                          exact hj78 H locs ls hP hD hS (lv_sub hl [0] rfl)
                      · have hf := hf_f e63_2 hf
                        by_cases e63_3 : a1 = (3 : Int32)
                        · have hf := hf_t e63_3 hf
                          refine vXrq_38_3 (pc := 63) hx hb hK hP e63_3 dX6_shelf_63 ?_
                          refine lv_aload (pc := 64) hx hb dX6_shelf_64 (lv_at hl 0 rfl) ?_
                          refine vXgRX6_252_34 (pc := 66) hx hb hts mU_796 inU2 hown hK hP (x := (gI S 32)) rfl dX6_shelf_66 ?_
                          refine lv_iconst (pc := 69) hx hb (v := (-1)) dX6_shelf_69 (by decide) ?_
                          obtain ⟨q78, hv78, hf⟩ := hf_b hf
                          have hj78 : ∀ (H : Heap) (locs : List Loc) (ls : Array Slot), va_P D vwCl (wX A B S) H → va_D Ad (wX A B S) → va_S Ad s.heap H locs → lv_has ls 5 [(4, .ref (A 34))] → W p l e rm_X6_shelf s m args below meth c H locs 0 0 Q (F0 m 78 ls [.int q78, .ref (A 42)]) := by
                            intro H locs ls hP hD hS hl
                            refine lv_aload (pc := 78) hx hb dX6_shelf_78 (lv_at hl 0 rfl) ?_
                            refine vXgRX6_255_34 (pc := 80) hx hb hts mU_797 inU2 hown hK hP (x := (gI S 33)) rfl dX6_shelf_80 ?_
                            refine lv_aload (pc := 83) hx hb dX6_shelf_83 (lv_at hl 0 rfl) ?_
                            refine vXgRX6_252_34 (pc := 85) hx hb hts mU_796 inU2 hown hK hP (x := (gI S 32)) rfl dX6_shelf_85 ?_
                            obtain ⟨r88, hc88, hf⟩ := hf_b hf
                            refine cl_V (pc := 88) (As := [.int q78, .int (gI S 33), .int (gI S 32)]) (rest := []) hx hb hml hown hts (kX3_hold_42 l D A B _ S q78 (gI S 33) (gI S 32) r88 hc88) (cwV 3 hts gwRX6_278 rfl rfl rfl hdX3_hold ⟨Nat.le_of_ble_eq_true rfl, Nat.le_of_ble_eq_true rfl⟩) hN hK hP hD hS hA (va_recv hK hP (ci := 3) (q0 := 42) rfl (eX_42 A B _)) rfl hl.1 rfl (Nat.le_of_ble_eq_true rfl) dX6_shelf_88 (st1 := []) rfl ⟨Nat.zero_le _, Nat.zero_le _⟩ (fun H locs hP hD hS => ?_)
                            refine lv_iconst (pc := 91) hx hb (v := 1) dX6_shelf_91 (by decide) ?_
                            obtain rfl := Option.some.inj hf
                            exact hR H locs 92 ls hP hD hS dX6_shelf_92
                          refine lv_icmp_ne (pc := 70) hx hb (tgt := 77) dX6_shelf_70 (by decide) (fun c_70 => ?_) (fun c_70 => ?_)
                          · have hv78 := hf_f c_70 hv78
                            refine lv_iconst (pc := 77) hx hb (v := 1) dX6_shelf_77 (by decide) ?_
                            obtain rfl := Option.some.inj hv78
                            exact hj78 H locs ls hP hD hS (lv_sub hl [0] rfl)
                          · have hv78 := hf_t c_70 hv78
                            refine lv_iconst (pc := 73) hx hb (v := 2) dX6_shelf_73 (by decide) ?_
                            refine lv_goto (pc := 74) hx hb (tgt := 78) dX6_shelf_74 (by decide) ?_
                            obtain rfl := Option.some.inj hv78
                            exact hj78 H locs ls hP hD hS (lv_sub hl [0] rfl)
                        · have hf := hf_f e63_3 hf
                          exact hf_0 hf
                · have hf := hf_f e55_2 hf
                  by_cases e55_3 : a3 = (3 : Int32)
                  · have hf := hf_t e55_3 hf
                    refine vXrq_29_3 (pc := 55) hx hb hK hP e55_3 dX6_shelf_55 ?_
                    refine lv_astore (pc := 56) hx hb (lv' := [(4, .ref (A 36)), (0, .ref (A 0)), (1, .int a1), (2, .int a2), (3, .int a3)]) dX6_shelf_56 hl (by decide) rfl (fun ls hl => ?_)
                    refine lv_aload_n (pc := 58) hx hb dX6_shelf_58 rfl (lv_at hl 1 rfl) ?_
                    refine vXgRX6_54_0 (pc := 59) hx hb hts mU_35 inU6 hown hK hP dX6_shelf_59 ?_
                    refine lv_iload_n (pc := 62) hx hb dX6_shelf_62 rfl (lv_at hl 2 rfl) ?_
                    by_cases e63_0 : a1 = (0 : Int32)
                    · have hf := hf_t e63_0 hf
                      refine vXrq_38_0 (pc := 63) hx hb hK hP e63_0 dX6_shelf_63 ?_
                      refine lv_aload (pc := 64) hx hb dX6_shelf_64 (lv_at hl 0 rfl) ?_
                      refine vXgRX6_252_36 (pc := 66) hx hb hts mU_796 inU2 hown hK hP (x := (gI S 34)) rfl dX6_shelf_66 ?_
                      refine lv_iconst (pc := 69) hx hb (v := (-1)) dX6_shelf_69 (by decide) ?_
                      obtain ⟨q78, hv78, hf⟩ := hf_b hf
                      have hj78 : ∀ (H : Heap) (locs : List Loc) (ls : Array Slot), va_P D vwCl (wX A B S) H → va_D Ad (wX A B S) → va_S Ad s.heap H locs → lv_has ls 5 [(4, .ref (A 36))] → W p l e rm_X6_shelf s m args below meth c H locs 0 0 Q (F0 m 78 ls [.int q78, .ref (A 39)]) := by
                        intro H locs ls hP hD hS hl
                        refine lv_aload (pc := 78) hx hb dX6_shelf_78 (lv_at hl 0 rfl) ?_
                        refine vXgRX6_255_36 (pc := 80) hx hb hts mU_797 inU2 hown hK hP (x := (gI S 35)) rfl dX6_shelf_80 ?_
                        refine lv_aload (pc := 83) hx hb dX6_shelf_83 (lv_at hl 0 rfl) ?_
                        refine vXgRX6_252_36 (pc := 85) hx hb hts mU_796 inU2 hown hK hP (x := (gI S 34)) rfl dX6_shelf_85 ?_
                        obtain ⟨r88, hc88, hf⟩ := hf_b hf
                        refine cl_V (pc := 88) (As := [.int q78, .int (gI S 35), .int (gI S 34)]) (rest := []) hx hb hml hown hts (kX3_hold_39 l D A B _ S q78 (gI S 35) (gI S 34) r88 hc88) (cwV 3 hts gwRX6_278 rfl rfl rfl hdX3_hold ⟨Nat.le_of_ble_eq_true rfl, Nat.le_of_ble_eq_true rfl⟩) hN hK hP hD hS hA (va_recv hK hP (ci := 3) (q0 := 39) rfl (eX_39 A B _)) rfl hl.1 rfl (Nat.le_of_ble_eq_true rfl) dX6_shelf_88 (st1 := []) rfl ⟨Nat.zero_le _, Nat.zero_le _⟩ (fun H locs hP hD hS => ?_)
                        refine lv_iconst (pc := 91) hx hb (v := 1) dX6_shelf_91 (by decide) ?_
                        obtain rfl := Option.some.inj hf
                        exact hR H locs 92 ls hP hD hS dX6_shelf_92
                      refine lv_icmp_ne (pc := 70) hx hb (tgt := 77) dX6_shelf_70 (by decide) (fun c_70 => ?_) (fun c_70 => ?_)
                      · have hv78 := hf_f c_70 hv78
                        refine lv_iconst (pc := 77) hx hb (v := 1) dX6_shelf_77 (by decide) ?_
                        obtain rfl := Option.some.inj hv78
                        exact hj78 H locs ls hP hD hS (lv_sub hl [0] rfl)
                      · have hv78 := hf_t c_70 hv78
                        refine lv_iconst (pc := 73) hx hb (v := 2) dX6_shelf_73 (by decide) ?_
                        refine lv_goto (pc := 74) hx hb (tgt := 78) dX6_shelf_74 (by decide) ?_
                        obtain rfl := Option.some.inj hv78
                        exact hj78 H locs ls hP hD hS (lv_sub hl [0] rfl)
                    · have hf := hf_f e63_0 hf
                      by_cases e63_1 : a1 = (1 : Int32)
                      · have hf := hf_t e63_1 hf
                        refine vXrq_38_1 (pc := 63) hx hb hK hP e63_1 dX6_shelf_63 ?_
                        refine lv_aload (pc := 64) hx hb dX6_shelf_64 (lv_at hl 0 rfl) ?_
                        refine vXgRX6_252_36 (pc := 66) hx hb hts mU_796 inU2 hown hK hP (x := (gI S 34)) rfl dX6_shelf_66 ?_
                        refine lv_iconst (pc := 69) hx hb (v := (-1)) dX6_shelf_69 (by decide) ?_
                        obtain ⟨q78, hv78, hf⟩ := hf_b hf
                        have hj78 : ∀ (H : Heap) (locs : List Loc) (ls : Array Slot), va_P D vwCl (wX A B S) H → va_D Ad (wX A B S) → va_S Ad s.heap H locs → lv_has ls 5 [(4, .ref (A 36))] → W p l e rm_X6_shelf s m args below meth c H locs 0 0 Q (F0 m 78 ls [.int q78, .ref (A 40)]) := by
                          intro H locs ls hP hD hS hl
                          refine lv_aload (pc := 78) hx hb dX6_shelf_78 (lv_at hl 0 rfl) ?_
                          refine vXgRX6_255_36 (pc := 80) hx hb hts mU_797 inU2 hown hK hP (x := (gI S 35)) rfl dX6_shelf_80 ?_
                          refine lv_aload (pc := 83) hx hb dX6_shelf_83 (lv_at hl 0 rfl) ?_
                          refine vXgRX6_252_36 (pc := 85) hx hb hts mU_796 inU2 hown hK hP (x := (gI S 34)) rfl dX6_shelf_85 ?_
                          obtain ⟨r88, hc88, hf⟩ := hf_b hf
                          refine cl_V (pc := 88) (As := [.int q78, .int (gI S 35), .int (gI S 34)]) (rest := []) hx hb hml hown hts (kX3_hold_40 l D A B _ S q78 (gI S 35) (gI S 34) r88 hc88) (cwV 3 hts gwRX6_278 rfl rfl rfl hdX3_hold ⟨Nat.le_of_ble_eq_true rfl, Nat.le_of_ble_eq_true rfl⟩) hN hK hP hD hS hA (va_recv hK hP (ci := 3) (q0 := 40) rfl (eX_40 A B _)) rfl hl.1 rfl (Nat.le_of_ble_eq_true rfl) dX6_shelf_88 (st1 := []) rfl ⟨Nat.zero_le _, Nat.zero_le _⟩ (fun H locs hP hD hS => ?_)
                          refine lv_iconst (pc := 91) hx hb (v := 1) dX6_shelf_91 (by decide) ?_
                          obtain rfl := Option.some.inj hf
                          exact hR H locs 92 ls hP hD hS dX6_shelf_92
                        refine lv_icmp_ne (pc := 70) hx hb (tgt := 77) dX6_shelf_70 (by decide) (fun c_70 => ?_) (fun c_70 => ?_)
                        · have hv78 := hf_f c_70 hv78
                          refine lv_iconst (pc := 77) hx hb (v := 1) dX6_shelf_77 (by decide) ?_
                          obtain rfl := Option.some.inj hv78
                          exact hj78 H locs ls hP hD hS (lv_sub hl [0] rfl)
                        · have hv78 := hf_t c_70 hv78
                          refine lv_iconst (pc := 73) hx hb (v := 2) dX6_shelf_73 (by decide) ?_
                          refine lv_goto (pc := 74) hx hb (tgt := 78) dX6_shelf_74 (by decide) ?_
                          obtain rfl := Option.some.inj hv78
                          exact hj78 H locs ls hP hD hS (lv_sub hl [0] rfl)
                      · have hf := hf_f e63_1 hf
                        by_cases e63_2 : a1 = (2 : Int32)
                        · have hf := hf_t e63_2 hf
                          refine vXrq_38_2 (pc := 63) hx hb hK hP e63_2 dX6_shelf_63 ?_
                          refine lv_aload (pc := 64) hx hb dX6_shelf_64 (lv_at hl 0 rfl) ?_
                          refine vXgRX6_252_36 (pc := 66) hx hb hts mU_796 inU2 hown hK hP (x := (gI S 34)) rfl dX6_shelf_66 ?_
                          refine lv_iconst (pc := 69) hx hb (v := (-1)) dX6_shelf_69 (by decide) ?_
                          obtain ⟨q78, hv78, hf⟩ := hf_b hf
                          have hj78 : ∀ (H : Heap) (locs : List Loc) (ls : Array Slot), va_P D vwCl (wX A B S) H → va_D Ad (wX A B S) → va_S Ad s.heap H locs → lv_has ls 5 [(4, .ref (A 36))] → W p l e rm_X6_shelf s m args below meth c H locs 0 0 Q (F0 m 78 ls [.int q78, .ref (A 41)]) := by
                            intro H locs ls hP hD hS hl
                            refine lv_aload (pc := 78) hx hb dX6_shelf_78 (lv_at hl 0 rfl) ?_
                            refine vXgRX6_255_36 (pc := 80) hx hb hts mU_797 inU2 hown hK hP (x := (gI S 35)) rfl dX6_shelf_80 ?_
                            refine lv_aload (pc := 83) hx hb dX6_shelf_83 (lv_at hl 0 rfl) ?_
                            refine vXgRX6_252_36 (pc := 85) hx hb hts mU_796 inU2 hown hK hP (x := (gI S 34)) rfl dX6_shelf_85 ?_
                            obtain ⟨r88, hc88, hf⟩ := hf_b hf
                            refine cl_V (pc := 88) (As := [.int q78, .int (gI S 35), .int (gI S 34)]) (rest := []) hx hb hml hown hts (kX3_hold_41 l D A B _ S q78 (gI S 35) (gI S 34) r88 hc88) (cwV 3 hts gwRX6_278 rfl rfl rfl hdX3_hold ⟨Nat.le_of_ble_eq_true rfl, Nat.le_of_ble_eq_true rfl⟩) hN hK hP hD hS hA (va_recv hK hP (ci := 3) (q0 := 41) rfl (eX_41 A B _)) rfl hl.1 rfl (Nat.le_of_ble_eq_true rfl) dX6_shelf_88 (st1 := []) rfl ⟨Nat.zero_le _, Nat.zero_le _⟩ (fun H locs hP hD hS => ?_)
                            refine lv_iconst (pc := 91) hx hb (v := 1) dX6_shelf_91 (by decide) ?_
                            obtain rfl := Option.some.inj hf
                            exact hR H locs 92 ls hP hD hS dX6_shelf_92
                          refine lv_icmp_ne (pc := 70) hx hb (tgt := 77) dX6_shelf_70 (by decide) (fun c_70 => ?_) (fun c_70 => ?_)
                          · have hv78 := hf_f c_70 hv78
                            refine lv_iconst (pc := 77) hx hb (v := 1) dX6_shelf_77 (by decide) ?_
                            obtain rfl := Option.some.inj hv78
                            exact hj78 H locs ls hP hD hS (lv_sub hl [0] rfl)
                          · have hv78 := hf_t c_70 hv78
                            refine lv_iconst (pc := 73) hx hb (v := 2) dX6_shelf_73 (by decide) ?_
                            refine lv_goto (pc := 74) hx hb (tgt := 78) dX6_shelf_74 (by decide) ?_
                            obtain rfl := Option.some.inj hv78
                            exact hj78 H locs ls hP hD hS (lv_sub hl [0] rfl)
                        · have hf := hf_f e63_2 hf
                          by_cases e63_3 : a1 = (3 : Int32)
                          · have hf := hf_t e63_3 hf
                            refine vXrq_38_3 (pc := 63) hx hb hK hP e63_3 dX6_shelf_63 ?_
                            refine lv_aload (pc := 64) hx hb dX6_shelf_64 (lv_at hl 0 rfl) ?_
                            refine vXgRX6_252_36 (pc := 66) hx hb hts mU_796 inU2 hown hK hP (x := (gI S 34)) rfl dX6_shelf_66 ?_
                            refine lv_iconst (pc := 69) hx hb (v := (-1)) dX6_shelf_69 (by decide) ?_
                            obtain ⟨q78, hv78, hf⟩ := hf_b hf
                            have hj78 : ∀ (H : Heap) (locs : List Loc) (ls : Array Slot), va_P D vwCl (wX A B S) H → va_D Ad (wX A B S) → va_S Ad s.heap H locs → lv_has ls 5 [(4, .ref (A 36))] → W p l e rm_X6_shelf s m args below meth c H locs 0 0 Q (F0 m 78 ls [.int q78, .ref (A 42)]) := by
                              intro H locs ls hP hD hS hl
                              refine lv_aload (pc := 78) hx hb dX6_shelf_78 (lv_at hl 0 rfl) ?_
                              refine vXgRX6_255_36 (pc := 80) hx hb hts mU_797 inU2 hown hK hP (x := (gI S 35)) rfl dX6_shelf_80 ?_
                              refine lv_aload (pc := 83) hx hb dX6_shelf_83 (lv_at hl 0 rfl) ?_
                              refine vXgRX6_252_36 (pc := 85) hx hb hts mU_796 inU2 hown hK hP (x := (gI S 34)) rfl dX6_shelf_85 ?_
                              obtain ⟨r88, hc88, hf⟩ := hf_b hf
                              refine cl_V (pc := 88) (As := [.int q78, .int (gI S 35), .int (gI S 34)]) (rest := []) hx hb hml hown hts (kX3_hold_42 l D A B _ S q78 (gI S 35) (gI S 34) r88 hc88) (cwV 3 hts gwRX6_278 rfl rfl rfl hdX3_hold ⟨Nat.le_of_ble_eq_true rfl, Nat.le_of_ble_eq_true rfl⟩) hN hK hP hD hS hA (va_recv hK hP (ci := 3) (q0 := 42) rfl (eX_42 A B _)) rfl hl.1 rfl (Nat.le_of_ble_eq_true rfl) dX6_shelf_88 (st1 := []) rfl ⟨Nat.zero_le _, Nat.zero_le _⟩ (fun H locs hP hD hS => ?_)
                              refine lv_iconst (pc := 91) hx hb (v := 1) dX6_shelf_91 (by decide) ?_
                              obtain rfl := Option.some.inj hf
                              exact hR H locs 92 ls hP hD hS dX6_shelf_92
                            refine lv_icmp_ne (pc := 70) hx hb (tgt := 77) dX6_shelf_70 (by decide) (fun c_70 => ?_) (fun c_70 => ?_)
                            · have hv78 := hf_f c_70 hv78
                              refine lv_iconst (pc := 77) hx hb (v := 1) dX6_shelf_77 (by decide) ?_
                              obtain rfl := Option.some.inj hv78
                              exact hj78 H locs ls hP hD hS (lv_sub hl [0] rfl)
                            · have hv78 := hf_t c_70 hv78
                              refine lv_iconst (pc := 73) hx hb (v := 2) dX6_shelf_73 (by decide) ?_
                              refine lv_goto (pc := 74) hx hb (tgt := 78) dX6_shelf_74 (by decide) ?_
                              obtain rfl := Option.some.inj hv78
                              exact hj78 H locs ls hP hD hS (lv_sub hl [0] rfl)
                          · have hf := hf_f e63_3 hf
                            exact hf_0 hf
                  · have hf := hf_f e55_3 hf
                    exact hf_0 hf
      · have hf := hf_f c_21 hf
        refine lv_aload_n (pc := 24) hx hb dX6_shelf_24 rfl (lv_at hl 0 rfl) ?_
        refine vXgRX6_54_0 (pc := 25) hx hb hts mU_35 inU6 hown hK hP dX6_shelf_25 ?_
        refine lv_iload_n (pc := 28) hx hb dX6_shelf_28 rfl (lv_at hl 1 rfl) ?_
        by_cases e29_0 : a1 = (0 : Int32)
        · have hf := hf_t e29_0 hf
          refine vXrq_38_0 (pc := 29) hx hb hK hP e29_0 dX6_shelf_29 ?_
          refine lv_iconst (pc := 30) hx hb (v := 0) dX6_shelf_30 (by decide) ?_
          refine lv_iload_n (pc := 31) hx hb dX6_shelf_31 rfl (lv_at hl 3 rfl) ?_
          refine lv_iconst (pc := 32) hx hb (v := 0) dX6_shelf_32 (by decide) ?_
          obtain ⟨r33, hc33, hf⟩ := hf_b hf
          refine cl_V (pc := 33) (As := [.int 0, .int a3, .int 0]) (rest := []) hx hb hml hown hts (kX3_hold_39 l D A B _ S 0 a3 0 r33 hc33) (cwV 3 hts gwRX6_278 rfl rfl rfl hdX3_hold ⟨Nat.le_of_ble_eq_true rfl, Nat.le_of_ble_eq_true rfl⟩) hN hK hP hD hS hA (va_recv hK hP (ci := 3) (q0 := 39) rfl (eX_39 A B _)) rfl hl.1 rfl (Nat.le_of_ble_eq_true rfl) dX6_shelf_33 (st1 := []) rfl ⟨Nat.zero_le _, Nat.zero_le _⟩ (fun H locs hP hD hS => ?_)
          refine lv_iconst (pc := 36) hx hb (v := 1) dX6_shelf_36 (by decide) ?_
          obtain rfl := Option.some.inj hf
          exact hR H locs 37 ls hP hD hS dX6_shelf_37
        · have hf := hf_f e29_0 hf
          by_cases e29_1 : a1 = (1 : Int32)
          · have hf := hf_t e29_1 hf
            refine vXrq_38_1 (pc := 29) hx hb hK hP e29_1 dX6_shelf_29 ?_
            refine lv_iconst (pc := 30) hx hb (v := 0) dX6_shelf_30 (by decide) ?_
            refine lv_iload_n (pc := 31) hx hb dX6_shelf_31 rfl (lv_at hl 3 rfl) ?_
            refine lv_iconst (pc := 32) hx hb (v := 0) dX6_shelf_32 (by decide) ?_
            obtain ⟨r33, hc33, hf⟩ := hf_b hf
            refine cl_V (pc := 33) (As := [.int 0, .int a3, .int 0]) (rest := []) hx hb hml hown hts (kX3_hold_40 l D A B _ S 0 a3 0 r33 hc33) (cwV 3 hts gwRX6_278 rfl rfl rfl hdX3_hold ⟨Nat.le_of_ble_eq_true rfl, Nat.le_of_ble_eq_true rfl⟩) hN hK hP hD hS hA (va_recv hK hP (ci := 3) (q0 := 40) rfl (eX_40 A B _)) rfl hl.1 rfl (Nat.le_of_ble_eq_true rfl) dX6_shelf_33 (st1 := []) rfl ⟨Nat.zero_le _, Nat.zero_le _⟩ (fun H locs hP hD hS => ?_)
            refine lv_iconst (pc := 36) hx hb (v := 1) dX6_shelf_36 (by decide) ?_
            obtain rfl := Option.some.inj hf
            exact hR H locs 37 ls hP hD hS dX6_shelf_37
          · have hf := hf_f e29_1 hf
            by_cases e29_2 : a1 = (2 : Int32)
            · have hf := hf_t e29_2 hf
              refine vXrq_38_2 (pc := 29) hx hb hK hP e29_2 dX6_shelf_29 ?_
              refine lv_iconst (pc := 30) hx hb (v := 0) dX6_shelf_30 (by decide) ?_
              refine lv_iload_n (pc := 31) hx hb dX6_shelf_31 rfl (lv_at hl 3 rfl) ?_
              refine lv_iconst (pc := 32) hx hb (v := 0) dX6_shelf_32 (by decide) ?_
              obtain ⟨r33, hc33, hf⟩ := hf_b hf
              refine cl_V (pc := 33) (As := [.int 0, .int a3, .int 0]) (rest := []) hx hb hml hown hts (kX3_hold_41 l D A B _ S 0 a3 0 r33 hc33) (cwV 3 hts gwRX6_278 rfl rfl rfl hdX3_hold ⟨Nat.le_of_ble_eq_true rfl, Nat.le_of_ble_eq_true rfl⟩) hN hK hP hD hS hA (va_recv hK hP (ci := 3) (q0 := 41) rfl (eX_41 A B _)) rfl hl.1 rfl (Nat.le_of_ble_eq_true rfl) dX6_shelf_33 (st1 := []) rfl ⟨Nat.zero_le _, Nat.zero_le _⟩ (fun H locs hP hD hS => ?_)
              refine lv_iconst (pc := 36) hx hb (v := 1) dX6_shelf_36 (by decide) ?_
              obtain rfl := Option.some.inj hf
              exact hR H locs 37 ls hP hD hS dX6_shelf_37
            · have hf := hf_f e29_2 hf
              by_cases e29_3 : a1 = (3 : Int32)
              · have hf := hf_t e29_3 hf
                refine vXrq_38_3 (pc := 29) hx hb hK hP e29_3 dX6_shelf_29 ?_
                refine lv_iconst (pc := 30) hx hb (v := 0) dX6_shelf_30 (by decide) ?_
                refine lv_iload_n (pc := 31) hx hb dX6_shelf_31 rfl (lv_at hl 3 rfl) ?_
                refine lv_iconst (pc := 32) hx hb (v := 0) dX6_shelf_32 (by decide) ?_
                obtain ⟨r33, hc33, hf⟩ := hf_b hf
                refine cl_V (pc := 33) (As := [.int 0, .int a3, .int 0]) (rest := []) hx hb hml hown hts (kX3_hold_42 l D A B _ S 0 a3 0 r33 hc33) (cwV 3 hts gwRX6_278 rfl rfl rfl hdX3_hold ⟨Nat.le_of_ble_eq_true rfl, Nat.le_of_ble_eq_true rfl⟩) hN hK hP hD hS hA (va_recv hK hP (ci := 3) (q0 := 42) rfl (eX_42 A B _)) rfl hl.1 rfl (Nat.le_of_ble_eq_true rfl) dX6_shelf_33 (st1 := []) rfl ⟨Nat.zero_le _, Nat.zero_le _⟩ (fun H locs hP hD hS => ?_)
                refine lv_iconst (pc := 36) hx hb (v := 1) dX6_shelf_36 (by decide) ?_
                obtain rfl := Option.some.inj hf
                exact hR H locs 37 ls hP hD hS dX6_shelf_37
              · have hf := hf_f e29_3 hf
                exact hf_0 hf
  · have hf := hf_t c_4 hf
    refine lv_iconst (pc := 7) hx hb (v := (-1)) dX6_shelf_7 (by decide) ?_
    obtain rfl := Option.some.inj hf
    exact hR H locs 8 ls hP hD hS dX6_shelf_8
set_option maxHeartbeats 4000000 in
set_option maxRecDepth 100000 in
theorem kX6_heldNow_39 (l : Launch) (D : va_G) (A : Nat → Nat) (B : Nat → ClassId) (sz : Nat) (S : w_S) (z : Int32) (hf : fX6_heldNow_39 S = some z) : MetW l yX6_heldNow (wsO yX6_heldNow cX6_heldNow 2 (some .int)) rm_X6_heldNow [.ref (A 0), .ref (A 39)] D (tyB B) (wX A B S) (wX A B S) sz (some (.int z)) := by
  refine MetW.mkI (cc := cX6_heldNow) (maxL := 2) (by decide) (Nat.le_of_ble_eq_true rfl) ?_
  intro p e s m args below meth c Ad Q hx hb hts hown hml hN hK hA hR H locs ls hP hD hS hl
  have hl : lv_has ls 2 [(0, .ref (A 0)), (1, .ref (A 39))] := hl
  rw [fX6_heldNow_39] at hf
  refine lv_aload_n (pc := 0) hx hb dX6_heldNow_0 rfl (lv_at hl 1 rfl) ?_
  refine vXgRX6_334_39 (pc := 1) hx hb hts mU_963 inU3 hown hK hP (x := (gI S 36)) rfl dX6_heldNow_1 ?_
  refine lv_if_ne (pc := 4) hx hb (tgt := 23) dX6_heldNow_4 (by decide) (fun c_4 => ?_) (fun c_4 => ?_)
  · have hf := hf_f c_4 hf
    refine lv_aload_n (pc := 23) hx hb dX6_heldNow_23 rfl (lv_at hl 1 rfl) ?_
    refine vXgRX6_334_39 (pc := 24) hx hb hts mU_963 inU3 hown hK hP (x := (gI S 36)) rfl dX6_heldNow_24 ?_
    obtain rfl := Option.some.inj hf
    exact hR H locs 27 ls hP hD hS dX6_heldNow_27
  · have hf := hf_t c_4 hf
    refine lv_aload_n (pc := 7) hx hb dX6_heldNow_7 rfl (lv_at hl 0 rfl) ?_
    refine vXgRX6_10_0 (pc := 8) hx hb hts mU_16 inU6 hown hK hP dX6_heldNow_8 ?_
    refine lv_aload_n (pc := 11) hx hb dX6_heldNow_11 rfl (lv_at hl 1 rfl) ?_
    refine vXgRX6_286_39 (pc := 12) hx hb hts mU_958 inU3 hown hK hP (x := (gI S 37)) rfl dX6_heldNow_12 ?_
    obtain ⟨r15, hc15, hf⟩ := hf_b hf
    refine cl_V (pc := 15) (As := [.int (gI S 37)]) (rest := []) hx hb hml hown hts (kX4_hasEquation_1 l D A B _ S (gI S 37) r15 hc15) (cwV 1 hts gwRX6_125 rfl rfl rfl hdX4_hasEquation ⟨Nat.le_of_ble_eq_true rfl, Nat.le_of_ble_eq_true rfl⟩) hN hK hP hD hS hA (va_recv hK hP (ci := 4) (q0 := 1) rfl (eX_1 A B _)) rfl hl.1 rfl (Nat.le_of_ble_eq_true rfl) dX6_heldNow_15 (st1 := [.int r15]) rfl ⟨Nat.zero_le _, Nat.zero_le _⟩ (fun H locs hP hD hS => ?_)
    refine lv_if_ne (pc := 18) hx hb (tgt := 23) dX6_heldNow_18 (by decide) (fun c_18 => ?_) (fun c_18 => ?_)
    · have hf := hf_f c_18 hf
      refine lv_aload_n (pc := 23) hx hb dX6_heldNow_23 rfl (lv_at hl 1 rfl) ?_
      refine vXgRX6_334_39 (pc := 24) hx hb hts mU_963 inU3 hown hK hP (x := (gI S 36)) rfl dX6_heldNow_24 ?_
      obtain rfl := Option.some.inj hf
      exact hR H locs 27 ls hP hD hS dX6_heldNow_27
    · have hf := hf_t c_18 hf
      refine lv_iconst (pc := 21) hx hb (v := 2) dX6_heldNow_21 (by decide) ?_
      obtain rfl := Option.some.inj hf
      exact hR H locs 22 ls hP hD hS dX6_heldNow_22
set_option maxHeartbeats 4000000 in
set_option maxRecDepth 100000 in
theorem kX6_heldNow_40 (l : Launch) (D : va_G) (A : Nat → Nat) (B : Nat → ClassId) (sz : Nat) (S : w_S) (z : Int32) (hf : fX6_heldNow_40 S = some z) : MetW l yX6_heldNow (wsO yX6_heldNow cX6_heldNow 2 (some .int)) rm_X6_heldNow [.ref (A 0), .ref (A 40)] D (tyB B) (wX A B S) (wX A B S) sz (some (.int z)) := by
  refine MetW.mkI (cc := cX6_heldNow) (maxL := 2) (by decide) (Nat.le_of_ble_eq_true rfl) ?_
  intro p e s m args below meth c Ad Q hx hb hts hown hml hN hK hA hR H locs ls hP hD hS hl
  have hl : lv_has ls 2 [(0, .ref (A 0)), (1, .ref (A 40))] := hl
  rw [fX6_heldNow_40] at hf
  refine lv_aload_n (pc := 0) hx hb dX6_heldNow_0 rfl (lv_at hl 1 rfl) ?_
  refine vXgRX6_334_40 (pc := 1) hx hb hts mU_963 inU3 hown hK hP (x := (gI S 39)) rfl dX6_heldNow_1 ?_
  refine lv_if_ne (pc := 4) hx hb (tgt := 23) dX6_heldNow_4 (by decide) (fun c_4 => ?_) (fun c_4 => ?_)
  · have hf := hf_f c_4 hf
    refine lv_aload_n (pc := 23) hx hb dX6_heldNow_23 rfl (lv_at hl 1 rfl) ?_
    refine vXgRX6_334_40 (pc := 24) hx hb hts mU_963 inU3 hown hK hP (x := (gI S 39)) rfl dX6_heldNow_24 ?_
    obtain rfl := Option.some.inj hf
    exact hR H locs 27 ls hP hD hS dX6_heldNow_27
  · have hf := hf_t c_4 hf
    refine lv_aload_n (pc := 7) hx hb dX6_heldNow_7 rfl (lv_at hl 0 rfl) ?_
    refine vXgRX6_10_0 (pc := 8) hx hb hts mU_16 inU6 hown hK hP dX6_heldNow_8 ?_
    refine lv_aload_n (pc := 11) hx hb dX6_heldNow_11 rfl (lv_at hl 1 rfl) ?_
    refine vXgRX6_286_40 (pc := 12) hx hb hts mU_958 inU3 hown hK hP (x := (gI S 40)) rfl dX6_heldNow_12 ?_
    obtain ⟨r15, hc15, hf⟩ := hf_b hf
    refine cl_V (pc := 15) (As := [.int (gI S 40)]) (rest := []) hx hb hml hown hts (kX4_hasEquation_1 l D A B _ S (gI S 40) r15 hc15) (cwV 1 hts gwRX6_125 rfl rfl rfl hdX4_hasEquation ⟨Nat.le_of_ble_eq_true rfl, Nat.le_of_ble_eq_true rfl⟩) hN hK hP hD hS hA (va_recv hK hP (ci := 4) (q0 := 1) rfl (eX_1 A B _)) rfl hl.1 rfl (Nat.le_of_ble_eq_true rfl) dX6_heldNow_15 (st1 := [.int r15]) rfl ⟨Nat.zero_le _, Nat.zero_le _⟩ (fun H locs hP hD hS => ?_)
    refine lv_if_ne (pc := 18) hx hb (tgt := 23) dX6_heldNow_18 (by decide) (fun c_18 => ?_) (fun c_18 => ?_)
    · have hf := hf_f c_18 hf
      refine lv_aload_n (pc := 23) hx hb dX6_heldNow_23 rfl (lv_at hl 1 rfl) ?_
      refine vXgRX6_334_40 (pc := 24) hx hb hts mU_963 inU3 hown hK hP (x := (gI S 39)) rfl dX6_heldNow_24 ?_
      obtain rfl := Option.some.inj hf
      exact hR H locs 27 ls hP hD hS dX6_heldNow_27
    · have hf := hf_t c_18 hf
      refine lv_iconst (pc := 21) hx hb (v := 2) dX6_heldNow_21 (by decide) ?_
      obtain rfl := Option.some.inj hf
      exact hR H locs 22 ls hP hD hS dX6_heldNow_22
set_option maxHeartbeats 4000000 in
set_option maxRecDepth 100000 in
theorem kX6_heldNow_41 (l : Launch) (D : va_G) (A : Nat → Nat) (B : Nat → ClassId) (sz : Nat) (S : w_S) (z : Int32) (hf : fX6_heldNow_41 S = some z) : MetW l yX6_heldNow (wsO yX6_heldNow cX6_heldNow 2 (some .int)) rm_X6_heldNow [.ref (A 0), .ref (A 41)] D (tyB B) (wX A B S) (wX A B S) sz (some (.int z)) := by
  refine MetW.mkI (cc := cX6_heldNow) (maxL := 2) (by decide) (Nat.le_of_ble_eq_true rfl) ?_
  intro p e s m args below meth c Ad Q hx hb hts hown hml hN hK hA hR H locs ls hP hD hS hl
  have hl : lv_has ls 2 [(0, .ref (A 0)), (1, .ref (A 41))] := hl
  rw [fX6_heldNow_41] at hf
  refine lv_aload_n (pc := 0) hx hb dX6_heldNow_0 rfl (lv_at hl 1 rfl) ?_
  refine vXgRX6_334_41 (pc := 1) hx hb hts mU_963 inU3 hown hK hP (x := (gI S 42)) rfl dX6_heldNow_1 ?_
  refine lv_if_ne (pc := 4) hx hb (tgt := 23) dX6_heldNow_4 (by decide) (fun c_4 => ?_) (fun c_4 => ?_)
  · have hf := hf_f c_4 hf
    refine lv_aload_n (pc := 23) hx hb dX6_heldNow_23 rfl (lv_at hl 1 rfl) ?_
    refine vXgRX6_334_41 (pc := 24) hx hb hts mU_963 inU3 hown hK hP (x := (gI S 42)) rfl dX6_heldNow_24 ?_
    obtain rfl := Option.some.inj hf
    exact hR H locs 27 ls hP hD hS dX6_heldNow_27
  · have hf := hf_t c_4 hf
    refine lv_aload_n (pc := 7) hx hb dX6_heldNow_7 rfl (lv_at hl 0 rfl) ?_
    refine vXgRX6_10_0 (pc := 8) hx hb hts mU_16 inU6 hown hK hP dX6_heldNow_8 ?_
    refine lv_aload_n (pc := 11) hx hb dX6_heldNow_11 rfl (lv_at hl 1 rfl) ?_
    refine vXgRX6_286_41 (pc := 12) hx hb hts mU_958 inU3 hown hK hP (x := (gI S 43)) rfl dX6_heldNow_12 ?_
    obtain ⟨r15, hc15, hf⟩ := hf_b hf
    refine cl_V (pc := 15) (As := [.int (gI S 43)]) (rest := []) hx hb hml hown hts (kX4_hasEquation_1 l D A B _ S (gI S 43) r15 hc15) (cwV 1 hts gwRX6_125 rfl rfl rfl hdX4_hasEquation ⟨Nat.le_of_ble_eq_true rfl, Nat.le_of_ble_eq_true rfl⟩) hN hK hP hD hS hA (va_recv hK hP (ci := 4) (q0 := 1) rfl (eX_1 A B _)) rfl hl.1 rfl (Nat.le_of_ble_eq_true rfl) dX6_heldNow_15 (st1 := [.int r15]) rfl ⟨Nat.zero_le _, Nat.zero_le _⟩ (fun H locs hP hD hS => ?_)
    refine lv_if_ne (pc := 18) hx hb (tgt := 23) dX6_heldNow_18 (by decide) (fun c_18 => ?_) (fun c_18 => ?_)
    · have hf := hf_f c_18 hf
      refine lv_aload_n (pc := 23) hx hb dX6_heldNow_23 rfl (lv_at hl 1 rfl) ?_
      refine vXgRX6_334_41 (pc := 24) hx hb hts mU_963 inU3 hown hK hP (x := (gI S 42)) rfl dX6_heldNow_24 ?_
      obtain rfl := Option.some.inj hf
      exact hR H locs 27 ls hP hD hS dX6_heldNow_27
    · have hf := hf_t c_18 hf
      refine lv_iconst (pc := 21) hx hb (v := 2) dX6_heldNow_21 (by decide) ?_
      obtain rfl := Option.some.inj hf
      exact hR H locs 22 ls hP hD hS dX6_heldNow_22
set_option maxHeartbeats 4000000 in
set_option maxRecDepth 100000 in
theorem kX6_heldNow_42 (l : Launch) (D : va_G) (A : Nat → Nat) (B : Nat → ClassId) (sz : Nat) (S : w_S) (z : Int32) (hf : fX6_heldNow_42 S = some z) : MetW l yX6_heldNow (wsO yX6_heldNow cX6_heldNow 2 (some .int)) rm_X6_heldNow [.ref (A 0), .ref (A 42)] D (tyB B) (wX A B S) (wX A B S) sz (some (.int z)) := by
  refine MetW.mkI (cc := cX6_heldNow) (maxL := 2) (by decide) (Nat.le_of_ble_eq_true rfl) ?_
  intro p e s m args below meth c Ad Q hx hb hts hown hml hN hK hA hR H locs ls hP hD hS hl
  have hl : lv_has ls 2 [(0, .ref (A 0)), (1, .ref (A 42))] := hl
  rw [fX6_heldNow_42] at hf
  refine lv_aload_n (pc := 0) hx hb dX6_heldNow_0 rfl (lv_at hl 1 rfl) ?_
  refine vXgRX6_334_42 (pc := 1) hx hb hts mU_963 inU3 hown hK hP (x := (gI S 45)) rfl dX6_heldNow_1 ?_
  refine lv_if_ne (pc := 4) hx hb (tgt := 23) dX6_heldNow_4 (by decide) (fun c_4 => ?_) (fun c_4 => ?_)
  · have hf := hf_f c_4 hf
    refine lv_aload_n (pc := 23) hx hb dX6_heldNow_23 rfl (lv_at hl 1 rfl) ?_
    refine vXgRX6_334_42 (pc := 24) hx hb hts mU_963 inU3 hown hK hP (x := (gI S 45)) rfl dX6_heldNow_24 ?_
    obtain rfl := Option.some.inj hf
    exact hR H locs 27 ls hP hD hS dX6_heldNow_27
  · have hf := hf_t c_4 hf
    refine lv_aload_n (pc := 7) hx hb dX6_heldNow_7 rfl (lv_at hl 0 rfl) ?_
    refine vXgRX6_10_0 (pc := 8) hx hb hts mU_16 inU6 hown hK hP dX6_heldNow_8 ?_
    refine lv_aload_n (pc := 11) hx hb dX6_heldNow_11 rfl (lv_at hl 1 rfl) ?_
    refine vXgRX6_286_42 (pc := 12) hx hb hts mU_958 inU3 hown hK hP (x := (gI S 46)) rfl dX6_heldNow_12 ?_
    obtain ⟨r15, hc15, hf⟩ := hf_b hf
    refine cl_V (pc := 15) (As := [.int (gI S 46)]) (rest := []) hx hb hml hown hts (kX4_hasEquation_1 l D A B _ S (gI S 46) r15 hc15) (cwV 1 hts gwRX6_125 rfl rfl rfl hdX4_hasEquation ⟨Nat.le_of_ble_eq_true rfl, Nat.le_of_ble_eq_true rfl⟩) hN hK hP hD hS hA (va_recv hK hP (ci := 4) (q0 := 1) rfl (eX_1 A B _)) rfl hl.1 rfl (Nat.le_of_ble_eq_true rfl) dX6_heldNow_15 (st1 := [.int r15]) rfl ⟨Nat.zero_le _, Nat.zero_le _⟩ (fun H locs hP hD hS => ?_)
    refine lv_if_ne (pc := 18) hx hb (tgt := 23) dX6_heldNow_18 (by decide) (fun c_18 => ?_) (fun c_18 => ?_)
    · have hf := hf_f c_18 hf
      refine lv_aload_n (pc := 23) hx hb dX6_heldNow_23 rfl (lv_at hl 1 rfl) ?_
      refine vXgRX6_334_42 (pc := 24) hx hb hts mU_963 inU3 hown hK hP (x := (gI S 45)) rfl dX6_heldNow_24 ?_
      obtain rfl := Option.some.inj hf
      exact hR H locs 27 ls hP hD hS dX6_heldNow_27
    · have hf := hf_t c_18 hf
      refine lv_iconst (pc := 21) hx hb (v := 2) dX6_heldNow_21 (by decide) ?_
      obtain rfl := Option.some.inj hf
      exact hR H locs 22 ls hP hD hS dX6_heldNow_22
