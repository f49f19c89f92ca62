theorem lw_lt {L i : Nat} (h : L < i + 6) (hi : i ≤ 2147483000) (hL : L ≤ 3072) : nI L - 6 < nI i := by
  rw [Int32.lt_iff_toInt_lt, nI_toInt (by omega), Int32.toInt_sub, nI_toInt (by omega), show (6 : Int32).toInt = 6 by decide, Int.bmod_eq_of_le (by omega) (by omega)]
  omega
set_option maxHeartbeats 4000000 in
set_option maxRecDepth 100000 in
theorem law_loop {p : Program} {l : Launch} {e : Env} {s : State} {m : MethodId} {below : List Frame} {meth : Method} {c : Code} {D : va_G} {A A2 : Nat → Nat} {B B2 : Nat → ClassId} {b L : Nat} {xs : Nat → Int32} {Rel : w_S → w_S → Prop} (E0 : E_size Rel) (E1 : E_set Rel) (E2 : E_at Rel) (E3 : E_det Rel) (E4 : E_diagonal Rel) (E5 : E_character Rel) (E6 : E_feed Rel) (E7 : E_text Rel) (E8 : E_equation Rel) (E9 : E_of Rel) (E10 : E_change Rel) (E11 : E_right Rel) (E12 : E_solution Rel) (E13 : E_base Rel) (E14 : E_witness Rel) (E15 : E_similar Rel) (E16 : E_whole Rel) (E17 : E_lower Rel) (E18 : E_swapped Rel) (E19 : E_stable Rel) (E20 : E_lay Rel) (E21 : E_judge Rel) (E22 : E_kinds Rel) (E23 : E_ratio Rel) (E24 : E_seed Rel) (E25 : E_lot Rel) (E26 : E_times Rel) (E27 : E_sheet Rel) (E28 : E_put Rel) (E29 : E_item Rel) (E30 : E_move Rel) (E31 : E_shelf Rel) (E32 : E_taken Rel) (E33 : E_act Rel) (E34 : E_trace Rel) (E35 : E_many Rel) (E36 : E_keep Rel) (E37 : E_again Rel) (hL : L ≤ 3072) (hr : meth.sig.returnType = ret) (hlocks : meth.locks = false) (C0 : lw_Cx p s m c b L xs D B B2) :
    ∀ (n i : Nat) (x3 : Int32), i ≤ L + 6 → L + 7 ≤ i + n → x3 = nI i → ∀ (X M : w_S) (H : Heap) (locs : List Loc) (ls : Array Slot), Rel X M → va_P D vwCl (wX A B X ++ wM A2 B2 M) H → va_D (lw_Ad s) (wX A B X ++ wM A2 B2 M) → va_S (lw_Ad s) s.heap H locs → lv_has ls 4 [(0, .ref b), (1, .ref (A 0)), (2, .ref (A2 0)), (3, .int x3)] → W p l e room_1 s m #[Value.ref b] below meth c H locs lwC lwS (lw_Z below #[Value.ref b] s) (F0 m 18 ls []) := by
  have C1 := C0
  obtain ⟨hx, hb, hts, hown, hml, hX, hbl, hN, hKX, hKM⟩ := C0
  have hbA : ¬ lw_Ad s b := Nat.not_le.mpr hbl
  intro n
  induction n with
  | zero =>
    intro i x3 h1 h2
    exact absurd h2 (by omega)
  | succ n ih =>
    intro i x3 hi hin ex3 X M H locs ls hR hP hD hS hl
    refine lv_iload_n (pc := 18) hx hb dL_law_18 rfl (lv_at hl 3 rfl) ?_
    refine lv_aload_n (pc := 19) hx hb dL_law_19 rfl (lv_at hl 0 rfl) ?_
    refine va_slen (pc := 20) hx hb hX hbl hbA hS dL_law_20 ?_
    refine lv_bipush (pc := 21) hx hb (v := 6) dL_law_21 (by decide) ?_
    refine lv_isub (pc := 23) hx hb dL_law_23 ?_
    refine lv_icmp_gt (pc := 24) hx hb (tgt := 1619) dL_law_24 (by decide) (fun c9 => ?_) (fun c9 => ?_)
    · refine lv_iconst (pc := 1619) hx hb (v := 1) dL_law_1619 (by decide) ?_
      refine va_forget (fun q hq => hS.2.2 q hq) ?_
      refine W.widen (k := 600000) (n := 7302250) (Nat.le_of_ble_eq_true rfl) (Nat.le_of_ble_eq_true rfl) ?_
      exact lw_ret hx hb hr hlocks dL_law_1620
    · have hlt : i + 6 ≤ L := by
        rcases Nat.lt_or_ge L (i + 6) with q | q
        · refine absurd ?_ c9
          rw [ex3]
          exact lw_lt q (by omega) (by omega)
        · exact q
      have g0 : vp_in x3 L := by rw [ex3]; exact vp_in_nI (by omega) (by omega)
      have g1 : vp_in (x3 + 1) L := by rw [ex3, show (1 : Int32) = nI 1 from rfl, nI_add]; exact vp_in_nI (by omega) (by omega)
      have g2 : vp_in (x3 + 2) L := by rw [ex3, show (2 : Int32) = nI 2 from rfl, nI_add]; exact vp_in_nI (by omega) (by omega)
      have g3 : vp_in (x3 + 3) L := by rw [ex3, show (3 : Int32) = nI 3 from rfl, nI_add]; exact vp_in_nI (by omega) (by omega)
      have g4 : vp_in (x3 + 4) L := by rw [ex3, show (4 : Int32) = nI 4 from rfl, nI_add]; exact vp_in_nI (by omega) (by omega)
      have g5 : vp_in (x3 + 5) L := by rw [ex3, show (5 : Int32) = nI 5 from rfl, nI_add]; exact vp_in_nI (by omega) (by omega)
      have kk : ∀ (X M : w_S) (H : Heap) (locs : List Loc) (ls : Array Slot), Rel X M → va_P D vwCl (wX A B X ++ wM A2 B2 M) H → va_D (lw_Ad s) (wX A B X ++ wM A2 B2 M) → va_S (lw_Ad s) s.heap H locs → lv_has ls 4 [(0, .ref b), (1, .ref (A 0)), (2, .ref (A2 0)), (3, .int x3)] → W p l e room_1 s m #[.ref b] below meth c H locs lwC lwS (lw_Z below #[Value.ref b] s) (F0 m 1613 ls []) := by
        intro X M H locs ls hR hP hD hS hl
        refine lv_iinc (pc := 1613) hx hb (v := x3 + 6) (lv' := [(3, .int (x3 + 6)), (0, .ref b), (1, .ref (A 0)), (2, .ref (A2 0))]) dL_law_1613 hl (k := 3) rfl rfl (by decide) rfl (fun ls hl => ?_)
        refine lv_goto (pc := 1616) hx hb (tgt := 18) dL_law_1616 (by decide) ?_
        exact ih (i + 6) (x3 + 6) (by omega) (by omega) (by rw [ex3, show (6 : Int32) = nI 6 from rfl, nI_add]) X M H locs ls hR hP hD hS (lv_sub hl [1, 2, 3, 0] rfl)
      refine lv_aload_n (pc := 27) hx hb dL_law_27 rfl (lv_at hl 0 rfl) ?_
      refine lv_iload_n (pc := 28) hx hb dL_law_28 rfl (lv_at hl 3 rfl) ?_
      refine va_sld (pc := 29) hx hb hX hbl hbA hS g0 dL_law_29 ?_
      refine lv_bipush (pc := 30) hx hb (v := 63) dL_law_30 (by decide) ?_
      refine lv_iand (pc := 32) hx hb dL_law_32 ?_
      refine lv_topi (fun y ey => ?_)
      by_cases y0 : y = (0 : Int32)
      · refine lv_tableIn (pc := 33) hx hb (off := 167) (tgt := 200) dL_law_33 (by rw [y0]; decide) (by rw [y0]; decide) (by rw [y0]; rfl) (by decide) ?_
        exact law_0 E0 C1 x3 g1 g2 g3 g4 g5 X M hR H locs ls hP hD hS hl kk
      by_cases y1 : y = (1 : Int32)
      · refine lv_tableIn (pc := 33) hx hb (off := 200) (tgt := 233) dL_law_33 (by rw [y1]; decide) (by rw [y1]; decide) (by rw [y1]; rfl) (by decide) ?_
        exact law_1 E1 C1 x3 g1 g2 g3 g4 g5 X M hR H locs ls hP hD hS hl kk
      by_cases y2 : y = (2 : Int32)
      · refine lv_tableIn (pc := 33) hx hb (off := 253) (tgt := 286) dL_law_33 (by rw [y2]; decide) (by rw [y2]; decide) (by rw [y2]; rfl) (by decide) ?_
        exact law_2 E2 C1 x3 g1 g2 g3 g4 g5 X M hR H locs ls hP hD hS hl kk
      by_cases y3 : y = (3 : Int32)
      · refine lv_tableIn (pc := 33) hx hb (off := 296) (tgt := 329) dL_law_33 (by rw [y3]; decide) (by rw [y3]; decide) (by rw [y3]; rfl) (by decide) ?_
        exact law_3 E3 C1 x3 g1 g2 g3 g4 g5 X M hR H locs ls hP hD hS hl kk
      by_cases y4 : y = (4 : Int32)
      · refine lv_tableIn (pc := 33) hx hb (off := 320) (tgt := 353) dL_law_33 (by rw [y4]; decide) (by rw [y4]; decide) (by rw [y4]; rfl) (by decide) ?_
        exact law_4 E4 C1 x3 g1 g2 g3 g4 g5 X M hR H locs ls hP hD hS hl kk
      by_cases y5 : y = (5 : Int32)
      · refine lv_tableIn (pc := 33) hx hb (off := 344) (tgt := 377) dL_law_33 (by rw [y5]; decide) (by rw [y5]; decide) (by rw [y5]; rfl) (by decide) ?_
        exact law_5 E5 C1 x3 g1 g2 g3 g4 g5 X M hR H locs ls hP hD hS hl kk
      by_cases y6 : y = (6 : Int32)
      · refine lv_tableIn (pc := 33) hx hb (off := 378) (tgt := 411) dL_law_33 (by rw [y6]; decide) (by rw [y6]; decide) (by rw [y6]; rfl) (by decide) ?_
        exact law_6 E6 C1 x3 g1 g2 g3 g4 g5 X M hR H locs ls hP hD hS hl kk
      by_cases y7 : y = (7 : Int32)
      · refine lv_tableIn (pc := 33) hx hb (off := 441) (tgt := 474) dL_law_33 (by rw [y7]; decide) (by rw [y7]; decide) (by rw [y7]; rfl) (by decide) ?_
        exact law_7 E7 C1 x3 g1 g2 g3 g4 g5 X M hR H locs ls hP hD hS hl kk
      by_cases y8 : y = (8 : Int32)
      · refine lv_tableIn (pc := 33) hx hb (off := 454) (tgt := 487) dL_law_33 (by rw [y8]; decide) (by rw [y8]; decide) (by rw [y8]; rfl) (by decide) ?_
        exact law_8 E8 C1 x3 g1 g2 g3 g4 g5 X M hR H locs ls hP hD hS hl kk
      by_cases y9 : y = (9 : Int32)
      · refine lv_tableIn (pc := 33) hx hb (off := 487) (tgt := 520) dL_law_33 (by rw [y9]; decide) (by rw [y9]; decide) (by rw [y9]; rfl) (by decide) ?_
        exact law_9 E9 C1 x3 g1 g2 g3 g4 g5 X M hR H locs ls hP hD hS hl kk
      by_cases y10 : y = (10 : Int32)
      · refine lv_tableIn (pc := 33) hx hb (off := 520) (tgt := 553) dL_law_33 (by rw [y10]; decide) (by rw [y10]; decide) (by rw [y10]; rfl) (by decide) ?_
        exact law_10 E10 C1 x3 g1 g2 g3 g4 g5 X M hR H locs ls hP hD hS hl kk
      by_cases y11 : y = (11 : Int32)
      · refine lv_tableIn (pc := 33) hx hb (off := 563) (tgt := 596) dL_law_33 (by rw [y11]; decide) (by rw [y11]; decide) (by rw [y11]; rfl) (by decide) ?_
        exact law_11 E11 C1 x3 g1 g2 g3 g4 g5 X M hR H locs ls hP hD hS hl kk
      by_cases y12 : y = (12 : Int32)
      · refine lv_tableIn (pc := 33) hx hb (off := 607) (tgt := 640) dL_law_33 (by rw [y12]; decide) (by rw [y12]; decide) (by rw [y12]; rfl) (by decide) ?_
        exact law_12 E12 C1 x3 g1 g2 g3 g4 g5 X M hR H locs ls hP hD hS hl kk
      by_cases y13 : y = (13 : Int32)
      · refine lv_tableIn (pc := 33) hx hb (off := 661) (tgt := 694) dL_law_33 (by rw [y13]; decide) (by rw [y13]; decide) (by rw [y13]; rfl) (by decide) ?_
        exact law_13 E13 C1 x3 g1 g2 g3 g4 g5 X M hR H locs ls hP hD hS hl kk
      by_cases y14 : y = (14 : Int32)
      · refine lv_tableIn (pc := 33) hx hb (off := 725) (tgt := 758) dL_law_33 (by rw [y14]; decide) (by rw [y14]; decide) (by rw [y14]; rfl) (by decide) ?_
        exact law_14 E14 C1 x3 g1 g2 g3 g4 g5 X M hR H locs ls hP hD hS hl kk
      by_cases y15 : y = (15 : Int32)
      · refine lv_tableIn (pc := 33) hx hb (off := 779) (tgt := 812) dL_law_33 (by rw [y15]; decide) (by rw [y15]; decide) (by rw [y15]; rfl) (by decide) ?_
        exact law_15 E15 C1 x3 g1 g2 g3 g4 g5 X M hR H locs ls hP hD hS hl kk
      by_cases y16 : y = (16 : Int32)
      · refine lv_tableIn (pc := 33) hx hb (off := 802) (tgt := 835) dL_law_33 (by rw [y16]; decide) (by rw [y16]; decide) (by rw [y16]; rfl) (by decide) ?_
        exact law_16 E16 C1 x3 g1 g2 g3 g4 g5 X M hR H locs ls hP hD hS hl kk
      by_cases y17 : y = (17 : Int32)
      · refine lv_tableIn (pc := 33) hx hb (off := 826) (tgt := 859) dL_law_33 (by rw [y17]; decide) (by rw [y17]; decide) (by rw [y17]; rfl) (by decide) ?_
        exact law_17 E17 C1 x3 g1 g2 g3 g4 g5 X M hR H locs ls hP hD hS hl kk
      by_cases y18 : y = (18 : Int32)
      · refine lv_tableIn (pc := 33) hx hb (off := 859) (tgt := 892) dL_law_33 (by rw [y18]; decide) (by rw [y18]; decide) (by rw [y18]; rfl) (by decide) ?_
        exact law_18 E18 C1 x3 g1 g2 g3 g4 g5 X M hR H locs ls hP hD hS hl kk
      by_cases y19 : y = (19 : Int32)
      · refine lv_tableIn (pc := 33) hx hb (off := 872) (tgt := 905) dL_law_33 (by rw [y19]; decide) (by rw [y19]; decide) (by rw [y19]; rfl) (by decide) ?_
        exact law_19 E19 C1 x3 g1 g2 g3 g4 g5 X M hR H locs ls hP hD hS hl kk
      by_cases y20 : y = (20 : Int32)
      · refine lv_tableIn (pc := 33) hx hb (off := 885) (tgt := 918) dL_law_33 (by rw [y20]; decide) (by rw [y20]; decide) (by rw [y20]; rfl) (by decide) ?_
        exact law_20 E20 C1 x3 g1 g2 g3 g4 g5 X M hR H locs ls hP hD hS hl kk
      by_cases y21 : y = (21 : Int32)
      · refine lv_tableIn (pc := 33) hx hb (off := 918) (tgt := 951) dL_law_33 (by rw [y21]; decide) (by rw [y21]; decide) (by rw [y21]; rfl) (by decide) ?_
        exact law_21 E21 C1 x3 g1 g2 g3 g4 g5 X M hR H locs ls hP hD hS hl kk
      by_cases y22 : y = (22 : Int32)
      · refine lv_tableIn (pc := 33) hx hb (off := 961) (tgt := 994) dL_law_33 (by rw [y22]; decide) (by rw [y22]; decide) (by rw [y22]; rfl) (by decide) ?_
        exact law_22 E22 C1 x3 g1 g2 g3 g4 g5 X M hR H locs ls hP hD hS hl kk
      by_cases y23 : y = (23 : Int32)
      · refine lv_tableIn (pc := 33) hx hb (off := 994) (tgt := 1027) dL_law_33 (by rw [y23]; decide) (by rw [y23]; decide) (by rw [y23]; rfl) (by decide) ?_
        exact law_23 E23 C1 x3 g1 g2 g3 g4 g5 X M hR H locs ls hP hD hS hl kk
      by_cases y24 : y = (24 : Int32)
      · refine lv_tableIn (pc := 33) hx hb (off := 1098) (tgt := 1131) dL_law_33 (by rw [y24]; decide) (by rw [y24]; decide) (by rw [y24]; rfl) (by decide) ?_
        exact law_24 E24 C1 x3 g1 g2 g3 g4 g5 X M hR H locs ls hP hD hS hl kk
      by_cases y25 : y = (25 : Int32)
      · refine lv_tableIn (pc := 33) hx hb (off := 1121) (tgt := 1154) dL_law_33 (by rw [y25]; decide) (by rw [y25]; decide) (by rw [y25]; rfl) (by decide) ?_
        exact law_25 E25 C1 x3 g1 g2 g3 g4 g5 X M hR H locs ls hP hD hS hl kk
      by_cases y26 : y = (26 : Int32)
      · refine lv_tableIn (pc := 33) hx hb (off := 1134) (tgt := 1167) dL_law_33 (by rw [y26]; decide) (by rw [y26]; decide) (by rw [y26]; rfl) (by decide) ?_
        exact law_26 E26 C1 x3 g1 g2 g3 g4 g5 X M hR H locs ls hP hD hS hl kk
      by_cases y27 : y = (27 : Int32)
      · refine lv_tableIn (pc := 33) hx hb (off := 1167) (tgt := 1200) dL_law_33 (by rw [y27]; decide) (by rw [y27]; decide) (by rw [y27]; rfl) (by decide) ?_
        exact law_27 E27 C1 x3 g1 g2 g3 g4 g5 X M hR H locs ls hP hD hS hl kk
      by_cases y28 : y = (28 : Int32)
      · refine lv_tableIn (pc := 33) hx hb (off := 1210) (tgt := 1243) dL_law_33 (by rw [y28]; decide) (by rw [y28]; decide) (by rw [y28]; rfl) (by decide) ?_
        exact law_28 E28 C1 x3 g1 g2 g3 g4 g5 X M hR H locs ls hP hD hS hl kk
      by_cases y29 : y = (29 : Int32)
      · refine lv_tableIn (pc := 33) hx hb (off := 1283) (tgt := 1316) dL_law_33 (by rw [y29]; decide) (by rw [y29]; decide) (by rw [y29]; rfl) (by decide) ?_
        exact law_29 E29 C1 x3 g1 g2 g3 g4 g5 X M hR H locs ls hP hD hS hl kk
      by_cases y30 : y = (30 : Int32)
      · refine lv_tableIn (pc := 33) hx hb (off := 1326) (tgt := 1359) dL_law_33 (by rw [y30]; decide) (by rw [y30]; decide) (by rw [y30]; rfl) (by decide) ?_
        exact law_30 E30 C1 x3 g1 g2 g3 g4 g5 X M hR H locs ls hP hD hS hl kk
      by_cases y31 : y = (31 : Int32)
      · refine lv_tableIn (pc := 33) hx hb (off := 1389) (tgt := 1422) dL_law_33 (by rw [y31]; decide) (by rw [y31]; decide) (by rw [y31]; rfl) (by decide) ?_
        exact law_31 E31 C1 x3 g1 g2 g3 g4 g5 X M hR H locs ls hP hD hS hl kk
      by_cases y32 : y = (32 : Int32)
      · refine lv_tableIn (pc := 33) hx hb (off := 1432) (tgt := 1465) dL_law_33 (by rw [y32]; decide) (by rw [y32]; decide) (by rw [y32]; rfl) (by decide) ?_
        exact law_32 E32 C1 x3 g1 g2 g3 g4 g5 X M hR H locs ls hP hD hS hl kk
      by_cases y33 : y = (33 : Int32)
      · refine lv_tableIn (pc := 33) hx hb (off := 1465) (tgt := 1498) dL_law_33 (by rw [y33]; decide) (by rw [y33]; decide) (by rw [y33]; rfl) (by decide) ?_
        exact law_33 E33 C1 x3 g1 g2 g3 g4 g5 X M hR H locs ls hP hD hS hl kk
      by_cases y34 : y = (34 : Int32)
      · refine lv_tableIn (pc := 33) hx hb (off := 1508) (tgt := 1541) dL_law_33 (by rw [y34]; decide) (by rw [y34]; decide) (by rw [y34]; rfl) (by decide) ?_
        exact law_34 E34 C1 x3 g1 g2 g3 g4 g5 X M hR H locs ls hP hD hS hl kk
      by_cases y35 : y = (35 : Int32)
      · refine lv_tableIn (pc := 33) hx hb (off := 1531) (tgt := 1564) dL_law_33 (by rw [y35]; decide) (by rw [y35]; decide) (by rw [y35]; rfl) (by decide) ?_
        exact law_35 E35 C1 x3 g1 g2 g3 g4 g5 X M hR H locs ls hP hD hS hl kk
      by_cases y36 : y = (36 : Int32)
      · refine lv_tableIn (pc := 33) hx hb (off := 1554) (tgt := 1587) dL_law_33 (by rw [y36]; decide) (by rw [y36]; decide) (by rw [y36]; rfl) (by decide) ?_
        exact law_36 E36 C1 x3 g1 g2 g3 g4 g5 X M hR H locs ls hP hD hS hl kk
      by_cases y37 : y = (37 : Int32)
      · refine lv_tableIn (pc := 33) hx hb (off := 1567) (tgt := 1600) dL_law_33 (by rw [y37]; decide) (by rw [y37]; decide) (by rw [y37]; rfl) (by decide) ?_
        exact law_37 E37 C1 x3 g1 g2 g3 g4 g5 X M hR H locs ls hP hD hS hl kk
      have n0 := lv_neT (a := 0) y0 rfl
      have n1 := lv_neT (a := 1) y1 rfl
      have n2 := lv_neT (a := 2) y2 rfl
      have n3 := lv_neT (a := 3) y3 rfl
      have n4 := lv_neT (a := 4) y4 rfl
      have n5 := lv_neT (a := 5) y5 rfl
      have n6 := lv_neT (a := 6) y6 rfl
      have n7 := lv_neT (a := 7) y7 rfl
      have n8 := lv_neT (a := 8) y8 rfl
      have n9 := lv_neT (a := 9) y9 rfl
      have n10 := lv_neT (a := 10) y10 rfl
      have n11 := lv_neT (a := 11) y11 rfl
      have n12 := lv_neT (a := 12) y12 rfl
      have n13 := lv_neT (a := 13) y13 rfl
      have n14 := lv_neT (a := 14) y14 rfl
      have n15 := lv_neT (a := 15) y15 rfl
      have n16 := lv_neT (a := 16) y16 rfl
      have n17 := lv_neT (a := 17) y17 rfl
      have n18 := lv_neT (a := 18) y18 rfl
      have n19 := lv_neT (a := 19) y19 rfl
      have n20 := lv_neT (a := 20) y20 rfl
      have n21 := lv_neT (a := 21) y21 rfl
      have n22 := lv_neT (a := 22) y22 rfl
      have n23 := lv_neT (a := 23) y23 rfl
      have n24 := lv_neT (a := 24) y24 rfl
      have n25 := lv_neT (a := 25) y25 rfl
      have n26 := lv_neT (a := 26) y26 rfl
      have n27 := lv_neT (a := 27) y27 rfl
      have n28 := lv_neT (a := 28) y28 rfl
      have n29 := lv_neT (a := 29) y29 rfl
      have n30 := lv_neT (a := 30) y30 rfl
      have n31 := lv_neT (a := 31) y31 rfl
      have n32 := lv_neT (a := 32) y32 rfl
      have n33 := lv_neT (a := 33) y33 rfl
      have n34 := lv_neT (a := 34) y34 rfl
      have n35 := lv_neT (a := 35) y35 rfl
      have n36 := lv_neT (a := 36) y36 rfl
      have n37 := lv_neT (a := 37) y37 rfl
      refine lv_tableOut (pc := 33) hx hb (tgt := 1613) dL_law_33 (by omega) (by decide) ?_
      exact kk X M H locs ls hR hP hD hS hl
