def lw_Ad (s : State) : Nat → Prop := fun q => s.heap.size ≤ q
abbrev lwC : Nat := 67
abbrev lwS : Nat := 1581
def lw_Cx (p : Program) (s : State) (m : MethodId) (c : Code) (b L : Nat) (xs : Nat → Int32) (D : va_G) (B B2 : Nat → ClassId) : Prop := p.tables.exec = Jvm.exec ∧ c.code = code ∧ (∀ w ∈ wsU, w.before #[Value.ref b] s = true) ∧ s.vm.findClass RL = some m.cls ∧ c.maxLocals = 4 ∧ va_X b L xs s s.heap ∧ b < s.heap.size ∧ nwX s ∧ va_K D vwCl (tyB B) s ∧ va_K D vwCl (tyB B2) s
theorem gwRL_13 : GoodIn wsU (wsV RL 13 RX6 yX6_size (wsO yX6_size cX6_size 4 (some .int))) := goL (m4 mU_107 mU_108 mU_109 mU_2) mU_110
theorem gwRL_17 : GoodIn wsU (wsV RL 17 RX7 yX7_size (wsO yX7_size cX7_size 5 (some .int))) := goL (m4 mU_121 mU_122 mU_123 mU_5) mU_124
theorem gwRL_18 : GoodIn wsU (wsV RL 18 RX6 yX6_set (wsO yX6_set cX6_set 6 (some .int))) := goL (m4 mU_129 mU_130 mU_131 mU_2) mU_132
theorem gwRL_22 : GoodIn wsU (wsV RL 22 RX7 yX7_set (wsO yX7_set cX7_set 6 (some .int))) := goL (m4 mU_159 mU_160 mU_161 mU_5) mU_162
theorem gwRL_23 : GoodIn wsU (wsV RL 23 RX6 yX6_at (wsO yX6_at cX6_at 4 (some .int))) := goL (m4 mU_187 mU_188 mU_189 mU_2) mU_190
theorem gwRL_27 : GoodIn wsU (wsV RL 27 RX7 yX7_at (wsO yX7_at cX7_at 4 (some .int))) := goL (m4 mU_191 mU_192 mU_193 mU_5) mU_194
theorem gwRL_28 : GoodIn wsU (wsV RL 28 RX6 yX6_det (wsO yX6_det cX6_det 2 (some .long))) := goL (m4 mU_195 mU_196 mU_197 mU_2) mU_198
theorem gwRL_32 : GoodIn wsU (wsV RL 32 RX7 yX7_det (wsO yX7_det cX7_det 2 (some .long))) := goL (m4 mU_217 mU_218 mU_219 mU_5) mU_220
theorem gwRL_33 : GoodIn wsU (wsV RL 33 RX6 yX6_diagonal (wsO yX6_diagonal cX6_diagonal 2 (some .long))) := goL (m4 mU_233 mU_234 mU_235 mU_2) mU_236
theorem gwRL_36 : GoodIn wsU (wsV RL 36 RX7 yX7_diagonal (wsO yX7_diagonal cX7_diagonal 2 (some .long))) := goL (m4 mU_237 mU_238 mU_239 mU_5) mU_240
theorem gwRL_37 : GoodIn wsU (wsV RL 37 RX6 yX6_character (wsO yX6_character cX6_character 6 (some .long))) := goL (m4 mU_245 mU_246 mU_247 mU_2) mU_248
theorem gwRL_41 : GoodIn wsU (wsV RL 41 RX7 yX7_character (wsO yX7_character cX7_character 4 (some .long))) := goL (m4 mU_249 mU_250 mU_251 mU_5) mU_252
theorem gwRL_44 : GoodIn wsU (wsV RL 44 RX6 yX6_feed (wsO yX6_feed cX6_feed 5 (some .int))) := goL (m4 mU_257 mU_258 mU_259 mU_2) mU_260
theorem gwRL_48 : GoodIn wsU (wsV RL 48 RX7 yX7_feed (wsO yX7_feed cX7_feed 5 (some .int))) := goL (m4 mU_267 mU_268 mU_269 mU_5) mU_270
theorem gwRL_49 : GoodIn wsU (wsV RL 49 RX6 yX6_text (wsO yX6_text cX6_text 2 (some .int))) := goL (m4 mU_273 mU_274 mU_275 mU_2) mU_276
theorem gwRL_53 : GoodIn wsU (wsV RL 53 RX7 yX7_text (wsO yX7_text cX7_text 1 (some .int))) := goL (m4 mU_322 mU_323 mU_324 mU_5) mU_325
theorem gwRL_54 : GoodIn wsU (wsV RL 54 RX6 yX6_equation (wsO yX6_equation cX6_equation 3 (some .int))) := goL (m4 mU_360 mU_361 mU_362 mU_2) mU_363
theorem gwRL_57 : GoodIn wsU (wsV RL 57 RX7 yX7_equation (wsO yX7_equation cX7_equation 3 (some .int))) := goL (m4 mU_379 mU_380 mU_381 mU_5) mU_382
theorem gwRL_58 : GoodIn wsU (wsV RL 58 RX6 yX6_of (wsO yX6_of cX6_of 4 (some .int))) := goL (m4 mU_389 mU_390 mU_391 mU_2) mU_392
theorem gwRL_61 : GoodIn wsU (wsV RL 61 RX7 yX7_of (wsO yX7_of cX7_of 4 (some .int))) := goL (m4 mU_512 mU_513 mU_514 mU_5) mU_515
theorem gwRL_62 : GoodIn wsU (wsV RL 62 RX6 yX6_change (wsO yX6_change cX6_change 5 (some .int))) := goL (m4 mU_583 mU_584 mU_585 mU_2) mU_586
theorem gwRL_65 : GoodIn wsU (wsV RL 65 RX7 yX7_change (wsO yX7_change cX7_change 5 (some .int))) := goL (m4 mU_587 mU_588 mU_589 mU_5) mU_590
theorem gwRL_66 : GoodIn wsU (wsV RL 66 RX6 yX6_right (wsO yX6_right cX6_right 4 (some .long))) := goL (m4 mU_591 mU_592 mU_593 mU_2) mU_594
theorem gwRL_70 : GoodIn wsU (wsV RL 70 RX7 yX7_right (wsO yX7_right cX7_right 4 (some .long))) := goL (m4 mU_595 mU_596 mU_597 mU_5) mU_598
theorem gwRL_71 : GoodIn wsU (wsV RL 71 RX6 yX6_solution (wsO yX6_solution cX6_solution 5 (some .long))) := goL (m4 mU_599 mU_600 mU_601 mU_2) mU_602
theorem gwRL_75 : GoodIn wsU (wsV RL 75 RX7 yX7_solution (wsO yX7_solution cX7_solution 5 (some .long))) := goL (m4 mU_627 mU_628 mU_629 mU_5) mU_630
theorem gwRL_76 : GoodIn wsU (wsV RL 76 RX6 yX6_base (wsO yX6_base cX6_base 9 (some .long))) := goL (m4 mU_645 mU_646 mU_647 mU_2) mU_648
theorem gwRL_80 : GoodIn wsU (wsV RL 80 RX7 yX7_base (wsO yX7_base cX7_base 6 (some .long))) := goL (m4 mU_654 mU_655 mU_656 mU_5) mU_657
theorem gwRL_81 : GoodIn wsU (wsV RL 81 RX6 yX6_witness (wsO yX6_witness cX6_witness 6 (some .long))) := goL (m4 mU_658 mU_659 mU_660 mU_2) mU_661
theorem gwRL_84 : GoodIn wsU (wsV RL 84 RX7 yX7_witness (wsO yX7_witness cX7_witness 11 (some .long))) := goL (m4 mU_667 mU_668 mU_669 mU_5) mU_670
theorem gwRL_85 : GoodIn wsU (wsV RL 85 RX6 yX6_similar (wsO yX6_similar cX6_similar 2 (some .int))) := goL (m4 mU_683 mU_684 mU_685 mU_2) mU_686
theorem gwRL_89 : GoodIn wsU (wsV RL 89 RX7 yX7_similar (wsO yX7_similar cX7_similar 2 (some .int))) := goL (m4 mU_691 mU_692 mU_693 mU_5) mU_694
theorem gwRL_90 : GoodIn wsU (wsV RL 90 RX6 yX6_whole (wsO yX6_whole cX6_whole 2 (some .long))) := goL (m4 mU_699 mU_700 mU_701 mU_2) mU_702
theorem gwRL_93 : GoodIn wsU (wsV RL 93 RX7 yX7_whole (wsO yX7_whole cX7_whole 2 (some .long))) := goL (m4 mU_707 mU_708 mU_709 mU_5) mU_710
theorem gwRL_94 : GoodIn wsU (wsV RL 94 RX6 yX6_lower (wsO yX6_lower cX6_lower 3 (some .int))) := goL (m4 mU_711 mU_712 mU_713 mU_2) mU_714
theorem gwRL_97 : GoodIn wsU (wsV RL 97 RX7 yX7_lower (wsO yX7_lower cX7_lower 3 (some .int))) := goL (m4 mU_719 mU_720 mU_721 mU_5) mU_722
theorem gwRL_98 : GoodIn wsU (wsV RL 98 RX6 yX6_swapped (wsO yX6_swapped cX6_swapped 1 (some .int))) := goL (m4 mU_727 mU_728 mU_729 mU_2) mU_730
theorem gwRL_101 : GoodIn wsU (wsV RL 101 RX7 yX7_swapped (wsO yX7_swapped cX7_swapped 1 (some .int))) := goL (m4 mU_731 mU_732 mU_733 mU_5) mU_734
theorem gwRL_102 : GoodIn wsU (wsV RL 102 RX6 yX6_stable (wsO yX6_stable cX6_stable 7 (some .int))) := goL (m4 mU_735 mU_736 mU_737 mU_2) mU_738
theorem gwRL_105 : GoodIn wsU (wsV RL 105 RX7 yX7_stable (wsO yX7_stable cX7_stable 8 (some .int))) := goL (m4 mU_739 mU_740 mU_741 mU_5) mU_742
theorem gwRL_106 : GoodIn wsU (wsV RL 106 RX6 yX6_lay (wsO yX6_lay cX6_lay 9 (some .int))) := goL (m4 mU_743 mU_744 mU_745 mU_2) mU_746
theorem gwRL_109 : GoodIn wsU (wsV RL 109 RX7 yX7_lay (wsO yX7_lay cX7_lay 10 (some .int))) := goL (m4 mU_777 mU_778 mU_779 mU_5) mU_780
theorem gwRL_110 : GoodIn wsU (wsV RL 110 RX6 yX6_judge (wsO yX6_judge cX6_judge 8 (some .int))) := goL (m4 mU_788 mU_789 mU_790 mU_2) mU_791
theorem gwRL_113 : GoodIn wsU (wsV RL 113 RX7 yX7_judge (wsO yX7_judge cX7_judge 5 (some .int))) := goL (m4 mU_814 mU_815 mU_816 mU_5) mU_817
theorem gwRL_114 : GoodIn wsU (wsV RL 114 RX6 yX6_kinds (wsO yX6_kinds cX6_kinds 7 (some .int))) := goL (m4 mU_830 mU_831 mU_832 mU_2) mU_833
theorem gwRL_117 : GoodIn wsU (wsV RL 117 RX7 yX7_kinds (wsO yX7_kinds cX7_kinds 5 (some .int))) := goL (m4 mU_834 mU_835 mU_836 mU_5) mU_837
theorem gwRL_118 : GoodIn wsU (wsV RL 118 RX6 yX6_ratio (wsO yX6_ratio cX6_ratio 6 (some .long))) := goL (m4 mU_838 mU_839 mU_840 mU_2) mU_841
theorem gwRL_122 : GoodIn wsU (wsV RL 122 RX7 yX7_ratio (wsO yX7_ratio cX7_ratio 17 (some .long))) := goL (m4 mU_842 mU_843 mU_844 mU_5) mU_845
theorem gwRL_123 : GoodIn wsU (wsV RL 123 RX6 yX6_seed (wsO yX6_seed cX6_seed 3 (some .int))) := goL (m4 mU_848 mU_849 mU_850 mU_2) mU_851
theorem gwRL_126 : GoodIn wsU (wsV RL 126 RX7 yX7_seed (wsO yX7_seed cX7_seed 3 (some .int))) := goL (m4 mU_853 mU_854 mU_855 mU_5) mU_856
theorem gwRL_127 : GoodIn wsU (wsV RL 127 RX6 yX6_lot (wsO yX6_lot cX6_lot 1 (some .int))) := goL (m4 mU_857 mU_858 mU_859 mU_2) mU_860
theorem gwRL_130 : GoodIn wsU (wsV RL 130 RX7 yX7_lot (wsO yX7_lot cX7_lot 1 (some .int))) := goL (m4 mU_871 mU_872 mU_873 mU_5) mU_874
theorem gwRL_131 : GoodIn wsU (wsV RL 131 RX6 yX6_times (wsO yX6_times cX6_times 5 (some .int))) := goL (m4 mU_880 mU_881 mU_882 mU_2) mU_883
theorem gwRL_134 : GoodIn wsU (wsV RL 134 RX7 yX7_times (wsO yX7_times cX7_times 5 (some .int))) := goL (m4 mU_884 mU_885 mU_886 mU_5) mU_887
theorem gwRL_135 : GoodIn wsU (wsV RL 135 RX6 yX6_sheet (wsO yX6_sheet cX6_sheet 4 (some .int))) := goL (m4 mU_889 mU_890 mU_891 mU_2) mU_892
theorem gwRL_138 : GoodIn wsU (wsV RL 138 RX7 yX7_sheet (wsO yX7_sheet cX7_sheet 5 (some .int))) := goL (m4 mU_896 mU_897 mU_898 mU_5) mU_899
theorem gwRL_139 : GoodIn wsU (wsV RL 139 RX6 yX6_put (wsO yX6_put cX6_put 6 (some .int))) := goL (m4 mU_900 mU_901 mU_902 mU_2) mU_903
theorem gwRL_143 : GoodIn wsU (wsV RL 143 RX7 yX7_put (wsO yX7_put cX7_put 5 (some .int))) := goL (m4 mU_904 mU_905 mU_906 mU_5) mU_907
theorem gwRL_144 : GoodIn wsU (wsV RL 144 RX6 yX6_item (wsO yX6_item cX6_item 5 (some .int))) := goL (m4 mU_911 mU_912 mU_913 mU_2) mU_914
theorem gwRL_147 : GoodIn wsU (wsV RL 147 RX7 yX7_item (wsO yX7_item cX7_item 4 (some .int))) := goL (m4 mU_915 mU_916 mU_917 mU_5) mU_918
theorem gwRL_148 : GoodIn wsU (wsV RL 148 RX6 yX6_move (wsO yX6_move cX6_move 8 (some .int))) := goL (m4 mU_919 mU_920 mU_921 mU_2) mU_922
theorem gwRL_152 : GoodIn wsU (wsV RL 152 RX7 yX7_move (wsO yX7_move cX7_move 7 (some .int))) := goL (m4 mU_929 mU_930 mU_931 mU_5) mU_932
theorem gwRL_153 : GoodIn wsU (wsV RL 153 RX6 yX6_shelf (wsO yX6_shelf cX6_shelf 5 (some .int))) := goL (m4 mU_933 mU_934 mU_935 mU_2) mU_936
theorem gwRL_156 : GoodIn wsU (wsV RL 156 RX7 yX7_shelf (wsO yX7_shelf cX7_shelf 4 (some .int))) := goL (m4 mU_946 mU_947 mU_948 mU_5) mU_949
theorem gwRL_157 : GoodIn wsU (wsV RL 157 RX6 yX6_taken (wsO yX6_taken cX6_taken 7 (some .int))) := goL (m4 mU_953 mU_954 mU_955 mU_2) mU_956
theorem gwRL_160 : GoodIn wsU (wsV RL 160 RX7 yX7_taken (wsO yX7_taken cX7_taken 4 (some .int))) := goL (m4 mU_970 mU_971 mU_972 mU_5) mU_973
theorem gwRL_161 : GoodIn wsU (wsV RL 161 RX6 yX6_act (wsO yX6_act cX6_act 5 (some .int))) := goL (m4 mU_983 mU_984 mU_985 mU_2) mU_986
theorem gwRL_164 : GoodIn wsU (wsV RL 164 RX7 yX7_act (wsO yX7_act cX7_act 5 (some .int))) := goL (m4 mU_1023 mU_1024 mU_1025 mU_5) mU_1026
theorem gwRL_165 : GoodIn wsU (wsV RL 165 RX6 yX6_trace (wsO yX6_trace cX6_trace 2 (some .int))) := goL (m4 mU_1076 mU_1077 mU_1078 mU_2) mU_1079
theorem gwRL_168 : GoodIn wsU (wsV RL 168 RX7 yX7_trace (wsO yX7_trace cX7_trace 2 (some .int))) := goL (m4 mU_1082 mU_1083 mU_1084 mU_5) mU_1085
theorem gwRL_169 : GoodIn wsU (wsV RL 169 RX6 yX6_many (wsO yX6_many cX6_many 2 (some .int))) := goL (m4 mU_1086 mU_1087 mU_1088 mU_2) mU_1089
theorem gwRL_172 : GoodIn wsU (wsV RL 172 RX7 yX7_many (wsO yX7_many cX7_many 2 (some .int))) := goL (m4 mU_1101 mU_1102 mU_1103 mU_5) mU_1104
theorem gwRL_173 : GoodIn wsU (wsV RL 173 RX6 yX6_keep (wsO yX6_keep cX6_keep 1 (some .int))) := goL (m4 mU_1113 mU_1114 mU_1115 mU_2) mU_1116
theorem gwRL_176 : GoodIn wsU (wsV RL 176 RX7 yX7_keep (wsO yX7_keep cX7_keep 2 (some .int))) := goL (m4 mU_1118 mU_1119 mU_1120 mU_5) mU_1121
theorem gwRL_177 : GoodIn wsU (wsV RL 177 RX6 yX6_again (wsO yX6_again cX6_again 1 (some .int))) := goL (m4 mU_1127 mU_1128 mU_1129 mU_2) mU_1130
theorem gwRL_180 : GoodIn wsU (wsV RL 180 RX7 yX7_again (wsO yX7_again cX7_again 2 (some .int))) := goL (m4 mU_1131 mU_1132 mU_1133 mU_5) mU_1134
set_option maxHeartbeats 4000000 in
set_option maxRecDepth 100000 in
theorem law_0 {p : Program} {l : Launch} {e : Env} {s : State} {m : MethodId} {below : List Frame} {meth : Method} {c : Code} {D : va_G} {A A2 : Nat → Nat} {B B2 : Nat → ClassId} {b L : Nat} {xs : Nat → Int32} {Q : State → Prop} {Rel : w_S → w_S → Prop} (E : E_size Rel) (C0 : lw_Cx p s m c b L xs D B B2) (x3 : Int32) (h1 : vp_in (x3 + 1) L) (h2 : vp_in (x3 + 2) L) (h3 : vp_in (x3 + 3) L) (h4 : vp_in (x3 + 4) L) (h5 : vp_in (x3 + 5) L) (X M : w_S) (hR : Rel X M) (H : Heap) (locs : List Loc) (ls : Array Slot) (hP : va_P D vwCl (wX A B X ++ wM A2 B2 M) H) (hD : va_D (lw_Ad s) (wX A B X ++ wM A2 B2 M)) (hS : va_S (lw_Ad s) s.heap H locs) (hl : lv_has ls 4 [(0, .ref b), (1, .ref (A 0)), (2, .ref (A2 0)), (3, .int x3)])
    (kk : ∀ (X M : w_S) (H : Heap) (locs : List Loc) (ls : Array Slot), Rel X M → va_P D vwCl (wX A B X ++ wM A2 B2 M) H → va_D (lw_Ad s) (wX A B X ++ wM A2 B2 M) → va_S (lw_Ad s) s.heap H locs → lv_has ls 4 [(0, .ref b), (1, .ref (A 0)), (2, .ref (A2 0)), (3, .int x3)] → W p l e room_1 s m #[.ref b] below meth c H locs lwC lwS Q (F0 m 1613 ls [])) : W p l e room_1 s m #[.ref b] below meth c H locs lwC lwS Q (F0 m 200 ls []) := by
  obtain ⟨hx, hb, hts, hown, hml, hX, hbl, hN, hKX, hKM⟩ := C0
  have hA : ∀ q : Nat, s.heap.size ≤ q → lw_Ad s q := fun _ h => h
  have hbA : ¬ lw_Ad s b := Nat.not_le.mpr hbl
  refine lv_aload_n (pc := 200) hx hb dL_law_200 rfl (lv_at hl 1 rfl) ?_
  refine lv_aload_n (pc := 201) hx hb dL_law_201 rfl (lv_at hl 0 rfl) ?_
  refine lv_iload_n (pc := 202) hx hb dL_law_202 rfl (lv_at hl 3 rfl) ?_
  refine lv_iconst (pc := 203) hx hb (v := 1) dL_law_203 (by decide) ?_
  refine lv_iadd (pc := 204) hx hb dL_law_204 ?_
  refine va_sld (pc := 205) hx hb hX hbl hbA hS h1 dL_law_205 ?_
  refine lv_aload_n (pc := 206) hx hb dL_law_206 rfl (lv_at hl 0 rfl) ?_
  refine lv_iload_n (pc := 207) hx hb dL_law_207 rfl (lv_at hl 3 rfl) ?_
  refine lv_iconst (pc := 208) hx hb (v := 2) dL_law_208 (by decide) ?_
  refine lv_iadd (pc := 209) hx hb dL_law_209 ?_
  refine va_sld (pc := 210) hx hb hX hbl hbA hS h2 dL_law_210 ?_
  obtain ⟨zx, zm, hfx, hfm, hrr, hR1⟩ := E X M hR (xs (x3 + 1).toNatClampNeg) (xs (x3 + 2).toNatClampNeg)
  refine cl_VF (pc := 211) (a := wX A B X) (r := wM A2 B2 M) (As := [.int (xs (x3 + 1).toNatClampNeg), .int (xs (x3 + 2).toNatClampNeg)]) (rest := []) hx hb hml hown hts (kX6_size l D A B _ X (xs (x3 + 1).toNatClampNeg) (xs (x3 + 2).toNatClampNeg) zx hfx) (cwV 2 hts gwRL_13 rfl rfl rfl hdX6_size ⟨Nat.le_of_ble_eq_true rfl, Nat.le_of_ble_eq_true rfl⟩) hN hKX hP hD hS hA (va_recv hKX hP.left (ci := 6) (q0 := 0) rfl (eX_0 A B X)) rfl hl.1 rfl (Nat.le_of_ble_eq_true rfl) dL_law_211 (st1 := [.int zx.1]) rfl ⟨Nat.le_of_ble_eq_true rfl, Nat.le_of_ble_eq_true rfl⟩ (fun H locs hP hD hS => ?_)
  refine lv_aload_n (pc := 214) hx hb dL_law_214 rfl (lv_at hl 2 rfl) ?_
  refine lv_aload_n (pc := 215) hx hb dL_law_215 rfl (lv_at hl 0 rfl) ?_
  refine lv_iload_n (pc := 216) hx hb dL_law_216 rfl (lv_at hl 3 rfl) ?_
  refine lv_iconst (pc := 217) hx hb (v := 1) dL_law_217 (by decide) ?_
  refine lv_iadd (pc := 218) hx hb dL_law_218 ?_
  refine va_sld (pc := 219) hx hb hX hbl hbA hS h1 dL_law_219 ?_
  refine lv_aload_n (pc := 220) hx hb dL_law_220 rfl (lv_at hl 0 rfl) ?_
  refine lv_iload_n (pc := 221) hx hb dL_law_221 rfl (lv_at hl 3 rfl) ?_
  refine lv_iconst (pc := 222) hx hb (v := 2) dL_law_222 (by decide) ?_
  refine lv_iadd (pc := 223) hx hb dL_law_223 ?_
  refine va_sld (pc := 224) hx hb hX hbl hbA hS h2 dL_law_224 ?_
  refine cl_VF (pc := 225) (a := wM A2 B2 M) (r := wX A B zx.2) (As := [.int (xs (x3 + 1).toNatClampNeg), .int (xs (x3 + 2).toNatClampNeg)]) (rest := [.int zx.1]) hx hb hml hown hts (kX7_size l D A2 B2 _ M (xs (x3 + 1).toNatClampNeg) (xs (x3 + 2).toNatClampNeg) zm hfm) (cwV 2 hts gwRL_17 rfl rfl rfl hdX7_size ⟨Nat.le_of_ble_eq_true rfl, Nat.le_of_ble_eq_true rfl⟩) hN hKM hP hD hS hA (va_recv hKM hP.left (ci := 7) (q0 := 0) rfl (eM_0 A2 B2 M)) rfl hl.1 rfl (Nat.le_of_ble_eq_true rfl) dL_law_225 (st1 := [.int zm.1, .int zx.1]) rfl ⟨Nat.le_of_ble_eq_true rfl, Nat.le_of_ble_eq_true rfl⟩ (fun H locs hP hD hS => ?_)
  refine lv_icmp_eq (pc := 228) hx hb (tgt := 1613) dL_law_228 (by decide) (fun c9 => ?_) (fun c9 => absurd hrr c9)
  exact kk zx.2 zm.2 H locs ls hR1 hP hD hS hl
set_option maxHeartbeats 4000000 in
set_option maxRecDepth 100000 in
theorem law_1 {p : Program} {l : Launch} {e : Env} {s : State} {m : MethodId} {below : List Frame} {meth : Method} {c : Code} {D : va_G} {A A2 : Nat → Nat} {B B2 : Nat → ClassId} {b L : Nat} {xs : Nat → Int32} {Q : State → Prop} {Rel : w_S → w_S → Prop} (E : E_set Rel) (C0 : lw_Cx p s m c b L xs D B B2) (x3 : Int32) (h1 : vp_in (x3 + 1) L) (h2 : vp_in (x3 + 2) L) (h3 : vp_in (x3 + 3) L) (h4 : vp_in (x3 + 4) L) (h5 : vp_in (x3 + 5) L) (X M : w_S) (hR : Rel X M) (H : Heap) (locs : List Loc) (ls : Array Slot) (hP : va_P D vwCl (wX A B X ++ wM A2 B2 M) H) (hD : va_D (lw_Ad s) (wX A B X ++ wM A2 B2 M)) (hS : va_S (lw_Ad s) s.heap H locs) (hl : lv_has ls 4 [(0, .ref b), (1, .ref (A 0)), (2, .ref (A2 0)), (3, .int x3)])
    (kk : ∀ (X M : w_S) (H : Heap) (locs : List Loc) (ls : Array Slot), Rel X M → va_P D vwCl (wX A B X ++ wM A2 B2 M) H → va_D (lw_Ad s) (wX A B X ++ wM A2 B2 M) → va_S (lw_Ad s) s.heap H locs → lv_has ls 4 [(0, .ref b), (1, .ref (A 0)), (2, .ref (A2 0)), (3, .int x3)] → W p l e room_1 s m #[.ref b] below meth c H locs lwC lwS Q (F0 m 1613 ls [])) : W p l e room_1 s m #[.ref b] below meth c H locs lwC lwS Q (F0 m 233 ls []) := by
  obtain ⟨hx, hb, hts, hown, hml, hX, hbl, hN, hKX, hKM⟩ := C0
  have hA : ∀ q : Nat, s.heap.size ≤ q → lw_Ad s q := fun _ h => h
  have hbA : ¬ lw_Ad s b := Nat.not_le.mpr hbl
  refine lv_aload_n (pc := 233) hx hb dL_law_233 rfl (lv_at hl 1 rfl) ?_
  refine lv_aload_n (pc := 234) hx hb dL_law_234 rfl (lv_at hl 0 rfl) ?_
  refine lv_iload_n (pc := 235) hx hb dL_law_235 rfl (lv_at hl 3 rfl) ?_
  refine lv_iconst (pc := 236) hx hb (v := 1) dL_law_236 (by decide) ?_
  refine lv_iadd (pc := 237) hx hb dL_law_237 ?_
  refine va_sld (pc := 238) hx hb hX hbl hbA hS h1 dL_law_238 ?_
  refine lv_aload_n (pc := 239) hx hb dL_law_239 rfl (lv_at hl 0 rfl) ?_
  refine lv_iload_n (pc := 240) hx hb dL_law_240 rfl (lv_at hl 3 rfl) ?_
  refine lv_iconst (pc := 241) hx hb (v := 2) dL_law_241 (by decide) ?_
  refine lv_iadd (pc := 242) hx hb dL_law_242 ?_
  refine va_sld (pc := 243) hx hb hX hbl hbA hS h2 dL_law_243 ?_
  refine lv_aload_n (pc := 244) hx hb dL_law_244 rfl (lv_at hl 0 rfl) ?_
  refine lv_iload_n (pc := 245) hx hb dL_law_245 rfl (lv_at hl 3 rfl) ?_
  refine lv_iconst (pc := 246) hx hb (v := 3) dL_law_246 (by decide) ?_
  refine lv_iadd (pc := 247) hx hb dL_law_247 ?_
  refine va_sld (pc := 248) hx hb hX hbl hbA hS h3 dL_law_248 ?_
  refine lv_aload_n (pc := 249) hx hb dL_law_249 rfl (lv_at hl 0 rfl) ?_
  refine lv_iload_n (pc := 250) hx hb dL_law_250 rfl (lv_at hl 3 rfl) ?_
  refine lv_iconst (pc := 251) hx hb (v := 4) dL_law_251 (by decide) ?_
  refine lv_iadd (pc := 252) hx hb dL_law_252 ?_
  refine va_sld (pc := 253) hx hb hX hbl hbA hS h4 dL_law_253 ?_
  obtain ⟨zx, zm, hfx, hfm, hrr, hR1⟩ := E X M hR (xs (x3 + 1).toNatClampNeg) (xs (x3 + 2).toNatClampNeg) (xs (x3 + 3).toNatClampNeg) (xs (x3 + 4).toNatClampNeg)
  refine cl_VF (pc := 254) (a := wX A B X) (r := wM A2 B2 M) (As := [.int (xs (x3 + 1).toNatClampNeg), .int (xs (x3 + 2).toNatClampNeg), .int (xs (x3 + 3).toNatClampNeg), .int (xs (x3 + 4).toNatClampNeg)]) (rest := []) hx hb hml hown hts (kX6_set l D A B _ X (xs (x3 + 1).toNatClampNeg) (xs (x3 + 2).toNatClampNeg) (xs (x3 + 3).toNatClampNeg) (xs (x3 + 4).toNatClampNeg) zx hfx) (cwV 4 hts gwRL_18 rfl rfl rfl hdX6_set ⟨Nat.le_of_ble_eq_true rfl, Nat.le_of_ble_eq_true rfl⟩) hN hKX hP hD hS hA (va_recv hKX hP.left (ci := 6) (q0 := 0) rfl (eX_0 A B X)) rfl hl.1 rfl (Nat.le_of_ble_eq_true rfl) dL_law_254 (st1 := [.int zx.1]) rfl ⟨Nat.le_of_ble_eq_true rfl, Nat.le_of_ble_eq_true rfl⟩ (fun H locs hP hD hS => ?_)
  refine lv_aload_n (pc := 257) hx hb dL_law_257 rfl (lv_at hl 2 rfl) ?_
  refine lv_aload_n (pc := 258) hx hb dL_law_258 rfl (lv_at hl 0 rfl) ?_
  refine lv_iload_n (pc := 259) hx hb dL_law_259 rfl (lv_at hl 3 rfl) ?_
  refine lv_iconst (pc := 260) hx hb (v := 1) dL_law_260 (by decide) ?_
  refine lv_iadd (pc := 261) hx hb dL_law_261 ?_
  refine va_sld (pc := 262) hx hb hX hbl hbA hS h1 dL_law_262 ?_
  refine lv_aload_n (pc := 263) hx hb dL_law_263 rfl (lv_at hl 0 rfl) ?_
  refine lv_iload_n (pc := 264) hx hb dL_law_264 rfl (lv_at hl 3 rfl) ?_
  refine lv_iconst (pc := 265) hx hb (v := 2) dL_law_265 (by decide) ?_
  refine lv_iadd (pc := 266) hx hb dL_law_266 ?_
  refine va_sld (pc := 267) hx hb hX hbl hbA hS h2 dL_law_267 ?_
  refine lv_aload_n (pc := 268) hx hb dL_law_268 rfl (lv_at hl 0 rfl) ?_
  refine lv_iload_n (pc := 269) hx hb dL_law_269 rfl (lv_at hl 3 rfl) ?_
  refine lv_iconst (pc := 270) hx hb (v := 3) dL_law_270 (by decide) ?_
  refine lv_iadd (pc := 271) hx hb dL_law_271 ?_
  refine va_sld (pc := 272) hx hb hX hbl hbA hS h3 dL_law_272 ?_
  refine lv_aload_n (pc := 273) hx hb dL_law_273 rfl (lv_at hl 0 rfl) ?_
  refine lv_iload_n (pc := 274) hx hb dL_law_274 rfl (lv_at hl 3 rfl) ?_
  refine lv_iconst (pc := 275) hx hb (v := 4) dL_law_275 (by decide) ?_
  refine lv_iadd (pc := 276) hx hb dL_law_276 ?_
  refine va_sld (pc := 277) hx hb hX hbl hbA hS h4 dL_law_277 ?_
  refine cl_VF (pc := 278) (a := wM A2 B2 M) (r := wX A B zx.2) (As := [.int (xs (x3 + 1).toNatClampNeg), .int (xs (x3 + 2).toNatClampNeg), .int (xs (x3 + 3).toNatClampNeg), .int (xs (x3 + 4).toNatClampNeg)]) (rest := [.int zx.1]) hx hb hml hown hts (kX7_set l D A2 B2 _ M (xs (x3 + 1).toNatClampNeg) (xs (x3 + 2).toNatClampNeg) (xs (x3 + 3).toNatClampNeg) (xs (x3 + 4).toNatClampNeg) zm hfm) (cwV 4 hts gwRL_22 rfl rfl rfl hdX7_set ⟨Nat.le_of_ble_eq_true rfl, Nat.le_of_ble_eq_true rfl⟩) hN hKM hP hD hS hA (va_recv hKM hP.left (ci := 7) (q0 := 0) rfl (eM_0 A2 B2 M)) rfl hl.1 rfl (Nat.le_of_ble_eq_true rfl) dL_law_278 (st1 := [.int zm.1, .int zx.1]) rfl ⟨Nat.le_of_ble_eq_true rfl, Nat.le_of_ble_eq_true rfl⟩ (fun H locs hP hD hS => ?_)
  refine lv_icmp_eq (pc := 281) hx hb (tgt := 1613) dL_law_281 (by decide) (fun c9 => ?_) (fun c9 => absurd hrr c9)
  exact kk zx.2 zm.2 H locs ls hR1 hP hD hS hl
set_option maxHeartbeats 4000000 in
set_option maxRecDepth 100000 in
theorem law_2 {p : Program} {l : Launch} {e : Env} {s : State} {m : MethodId} {below : List Frame} {meth : Method} {c : Code} {D : va_G} {A A2 : Nat → Nat} {B B2 : Nat → ClassId} {b L : Nat} {xs : Nat → Int32} {Q : State → Prop} {Rel : w_S → w_S → Prop} (E : E_at Rel) (C0 : lw_Cx p s m c b L xs D B B2) (x3 : Int32) (h1 : vp_in (x3 + 1) L) (h2 : vp_in (x3 + 2) L) (h3 : vp_in (x3 + 3) L) (h4 : vp_in (x3 + 4) L) (h5 : vp_in (x3 + 5) L) (X M : w_S) (hR : Rel X M) (H : Heap) (locs : List Loc) (ls : Array Slot) (hP : va_P D vwCl (wX A B X ++ wM A2 B2 M) H) (hD : va_D (lw_Ad s) (wX A B X ++ wM A2 B2 M)) (hS : va_S (lw_Ad s) s.heap H locs) (hl : lv_has ls 4 [(0, .ref b), (1, .ref (A 0)), (2, .ref (A2 0)), (3, .int x3)])
    (kk : ∀ (X M : w_S) (H : Heap) (locs : List Loc) (ls : Array Slot), Rel X M → va_P D vwCl (wX A B X ++ wM A2 B2 M) H → va_D (lw_Ad s) (wX A B X ++ wM A2 B2 M) → va_S (lw_Ad s) s.heap H locs → lv_has ls 4 [(0, .ref b), (1, .ref (A 0)), (2, .ref (A2 0)), (3, .int x3)] → W p l e room_1 s m #[.ref b] below meth c H locs lwC lwS Q (F0 m 1613 ls [])) : W p l e room_1 s m #[.ref b] below meth c H locs lwC lwS Q (F0 m 286 ls []) := by
  obtain ⟨hx, hb, hts, hown, hml, hX, hbl, hN, hKX, hKM⟩ := C0
  have hA : ∀ q : Nat, s.heap.size ≤ q → lw_Ad s q := fun _ h => h
  have hbA : ¬ lw_Ad s b := Nat.not_le.mpr hbl
  refine lv_aload_n (pc := 286) hx hb dL_law_286 rfl (lv_at hl 1 rfl) ?_
  refine lv_aload_n (pc := 287) hx hb dL_law_287 rfl (lv_at hl 0 rfl) ?_
  refine lv_iload_n (pc := 288) hx hb dL_law_288 rfl (lv_at hl 3 rfl) ?_
  refine lv_iconst (pc := 289) hx hb (v := 1) dL_law_289 (by decide) ?_
  refine lv_iadd (pc := 290) hx hb dL_law_290 ?_
  refine va_sld (pc := 291) hx hb hX hbl hbA hS h1 dL_law_291 ?_
  refine lv_aload_n (pc := 292) hx hb dL_law_292 rfl (lv_at hl 0 rfl) ?_
  refine lv_iload_n (pc := 293) hx hb dL_law_293 rfl (lv_at hl 3 rfl) ?_
  refine lv_iconst (pc := 294) hx hb (v := 2) dL_law_294 (by decide) ?_
  refine lv_iadd (pc := 295) hx hb dL_law_295 ?_
  refine va_sld (pc := 296) hx hb hX hbl hbA hS h2 dL_law_296 ?_
  refine lv_aload_n (pc := 297) hx hb dL_law_297 rfl (lv_at hl 0 rfl) ?_
  refine lv_iload_n (pc := 298) hx hb dL_law_298 rfl (lv_at hl 3 rfl) ?_
  refine lv_iconst (pc := 299) hx hb (v := 3) dL_law_299 (by decide) ?_
  refine lv_iadd (pc := 300) hx hb dL_law_300 ?_
  refine va_sld (pc := 301) hx hb hX hbl hbA hS h3 dL_law_301 ?_
  obtain ⟨zx, zm, hfx, hfm, hrr, hR1⟩ := E X M hR (xs (x3 + 1).toNatClampNeg) (xs (x3 + 2).toNatClampNeg) (xs (x3 + 3).toNatClampNeg)
  refine cl_VF (pc := 302) (a := wX A B X) (r := wM A2 B2 M) (As := [.int (xs (x3 + 1).toNatClampNeg), .int (xs (x3 + 2).toNatClampNeg), .int (xs (x3 + 3).toNatClampNeg)]) (rest := []) hx hb hml hown hts (kX6_at l D A B _ X (xs (x3 + 1).toNatClampNeg) (xs (x3 + 2).toNatClampNeg) (xs (x3 + 3).toNatClampNeg) zx hfx) (cwV 3 hts gwRL_23 rfl rfl rfl hdX6_at ⟨Nat.le_of_ble_eq_true rfl, Nat.le_of_ble_eq_true rfl⟩) hN hKX hP hD hS hA (va_recv hKX hP.left (ci := 6) (q0 := 0) rfl (eX_0 A B X)) rfl hl.1 rfl (Nat.le_of_ble_eq_true rfl) dL_law_302 (st1 := [.int zx]) rfl ⟨Nat.le_of_ble_eq_true rfl, Nat.le_of_ble_eq_true rfl⟩ (fun H locs hP hD hS => ?_)
  refine lv_aload_n (pc := 305) hx hb dL_law_305 rfl (lv_at hl 2 rfl) ?_
  refine lv_aload_n (pc := 306) hx hb dL_law_306 rfl (lv_at hl 0 rfl) ?_
  refine lv_iload_n (pc := 307) hx hb dL_law_307 rfl (lv_at hl 3 rfl) ?_
  refine lv_iconst (pc := 308) hx hb (v := 1) dL_law_308 (by decide) ?_
  refine lv_iadd (pc := 309) hx hb dL_law_309 ?_
  refine va_sld (pc := 310) hx hb hX hbl hbA hS h1 dL_law_310 ?_
  refine lv_aload_n (pc := 311) hx hb dL_law_311 rfl (lv_at hl 0 rfl) ?_
  refine lv_iload_n (pc := 312) hx hb dL_law_312 rfl (lv_at hl 3 rfl) ?_
  refine lv_iconst (pc := 313) hx hb (v := 2) dL_law_313 (by decide) ?_
  refine lv_iadd (pc := 314) hx hb dL_law_314 ?_
  refine va_sld (pc := 315) hx hb hX hbl hbA hS h2 dL_law_315 ?_
  refine lv_aload_n (pc := 316) hx hb dL_law_316 rfl (lv_at hl 0 rfl) ?_
  refine lv_iload_n (pc := 317) hx hb dL_law_317 rfl (lv_at hl 3 rfl) ?_
  refine lv_iconst (pc := 318) hx hb (v := 3) dL_law_318 (by decide) ?_
  refine lv_iadd (pc := 319) hx hb dL_law_319 ?_
  refine va_sld (pc := 320) hx hb hX hbl hbA hS h3 dL_law_320 ?_
  refine cl_VF (pc := 321) (a := wM A2 B2 M) (r := wX A B X) (As := [.int (xs (x3 + 1).toNatClampNeg), .int (xs (x3 + 2).toNatClampNeg), .int (xs (x3 + 3).toNatClampNeg)]) (rest := [.int zx]) hx hb hml hown hts (kX7_at l D A2 B2 _ M (xs (x3 + 1).toNatClampNeg) (xs (x3 + 2).toNatClampNeg) (xs (x3 + 3).toNatClampNeg) zm hfm) (cwV 3 hts gwRL_27 rfl rfl rfl hdX7_at ⟨Nat.le_of_ble_eq_true rfl, Nat.le_of_ble_eq_true rfl⟩) hN hKM hP hD hS hA (va_recv hKM hP.left (ci := 7) (q0 := 0) rfl (eM_0 A2 B2 M)) rfl hl.1 rfl (Nat.le_of_ble_eq_true rfl) dL_law_321 (st1 := [.int zm, .int zx]) rfl ⟨Nat.le_of_ble_eq_true rfl, Nat.le_of_ble_eq_true rfl⟩ (fun H locs hP hD hS => ?_)
  refine lv_icmp_eq (pc := 324) hx hb (tgt := 1613) dL_law_324 (by decide) (fun c9 => ?_) (fun c9 => absurd hrr c9)
  exact kk X M H locs ls hR1 hP hD hS hl
set_option maxHeartbeats 4000000 in
set_option maxRecDepth 100000 in
theorem law_3 {p : Program} {l : Launch} {e : Env} {s : State} {m : MethodId} {below : List Frame} {meth : Method} {c : Code} {D : va_G} {A A2 : Nat → Nat} {B B2 : Nat → ClassId} {b L : Nat} {xs : Nat → Int32} {Q : State → Prop} {Rel : w_S → w_S → Prop} (E : E_det Rel) (C0 : lw_Cx p s m c b L xs D B B2) (x3 : Int32) (h1 : vp_in (x3 + 1) L) (h2 : vp_in (x3 + 2) L) (h3 : vp_in (x3 + 3) L) (h4 : vp_in (x3 + 4) L) (h5 : vp_in (x3 + 5) L) (X M : w_S) (hR : Rel X M) (H : Heap) (locs : List Loc) (ls : Array Slot) (hP : va_P D vwCl (wX A B X ++ wM A2 B2 M) H) (hD : va_D (lw_Ad s) (wX A B X ++ wM A2 B2 M)) (hS : va_S (lw_Ad s) s.heap H locs) (hl : lv_has ls 4 [(0, .ref b), (1, .ref (A 0)), (2, .ref (A2 0)), (3, .int x3)])
    (kk : ∀ (X M : w_S) (H : Heap) (locs : List Loc) (ls : Array Slot), Rel X M → va_P D vwCl (wX A B X ++ wM A2 B2 M) H → va_D (lw_Ad s) (wX A B X ++ wM A2 B2 M) → va_S (lw_Ad s) s.heap H locs → lv_has ls 4 [(0, .ref b), (1, .ref (A 0)), (2, .ref (A2 0)), (3, .int x3)] → W p l e room_1 s m #[.ref b] below meth c H locs lwC lwS Q (F0 m 1613 ls [])) : W p l e room_1 s m #[.ref b] below meth c H locs lwC lwS Q (F0 m 329 ls []) := by
  obtain ⟨hx, hb, hts, hown, hml, hX, hbl, hN, hKX, hKM⟩ := C0
  have hA : ∀ q : Nat, s.heap.size ≤ q → lw_Ad s q := fun _ h => h
  have hbA : ¬ lw_Ad s b := Nat.not_le.mpr hbl
  refine lv_aload_n (pc := 329) hx hb dL_law_329 rfl (lv_at hl 1 rfl) ?_
  refine lv_aload_n (pc := 330) hx hb dL_law_330 rfl (lv_at hl 0 rfl) ?_
  refine lv_iload_n (pc := 331) hx hb dL_law_331 rfl (lv_at hl 3 rfl) ?_
  refine lv_iconst (pc := 332) hx hb (v := 1) dL_law_332 (by decide) ?_
  refine lv_iadd (pc := 333) hx hb dL_law_333 ?_
  refine va_sld (pc := 334) hx hb hX hbl hbA hS h1 dL_law_334 ?_
  obtain ⟨zx, zm, hfx, hfm, hrr, hR1⟩ := E X M hR (xs (x3 + 1).toNatClampNeg)
  refine cl_VF (pc := 335) (a := wX A B X) (r := wM A2 B2 M) (As := [.int (xs (x3 + 1).toNatClampNeg)]) (rest := []) hx hb hml hown hts (kX6_det l D A B _ X (xs (x3 + 1).toNatClampNeg) zx hfx) (cwV 1 hts gwRL_28 rfl rfl rfl hdX6_det ⟨Nat.le_of_ble_eq_true rfl, Nat.le_of_ble_eq_true rfl⟩) hN hKX hP hD hS hA (va_recv hKX hP.left (ci := 6) (q0 := 0) rfl (eX_0 A B X)) rfl hl.1 rfl (Nat.le_of_ble_eq_true rfl) dL_law_335 (st1 := [.long zx]) rfl ⟨Nat.le_of_ble_eq_true rfl, Nat.le_of_ble_eq_true rfl⟩ (fun H locs hP hD hS => ?_)
  refine lv_aload_n (pc := 338) hx hb dL_law_338 rfl (lv_at hl 2 rfl) ?_
  refine lv_aload_n (pc := 339) hx hb dL_law_339 rfl (lv_at hl 0 rfl) ?_
  refine lv_iload_n (pc := 340) hx hb dL_law_340 rfl (lv_at hl 3 rfl) ?_
  refine lv_iconst (pc := 341) hx hb (v := 1) dL_law_341 (by decide) ?_
  refine lv_iadd (pc := 342) hx hb dL_law_342 ?_
  refine va_sld (pc := 343) hx hb hX hbl hbA hS h1 dL_law_343 ?_
  refine cl_VF (pc := 344) (a := wM A2 B2 M) (r := wX A B X) (As := [.int (xs (x3 + 1).toNatClampNeg)]) (rest := [.long zx]) hx hb hml hown hts (kX7_det l D A2 B2 _ M (xs (x3 + 1).toNatClampNeg) zm hfm) (cwV 1 hts gwRL_32 rfl rfl rfl hdX7_det ⟨Nat.le_of_ble_eq_true rfl, Nat.le_of_ble_eq_true rfl⟩) hN hKM hP hD hS hA (va_recv hKM hP.left (ci := 7) (q0 := 0) rfl (eM_0 A2 B2 M)) rfl hl.1 rfl (Nat.le_of_ble_eq_true rfl) dL_law_344 (st1 := [.long zm, .long zx]) rfl ⟨Nat.le_of_ble_eq_true rfl, Nat.le_of_ble_eq_true rfl⟩ (fun H locs hP hD hS => ?_)
  refine W.lcmp (pc := 347) hx hb dL_law_347 ?_
  refine lv_if_eq (pc := 348) hx hb (tgt := 1613) dL_law_348 (by decide) (fun c9 => ?_) (fun c9 => absurd (lg_eq0.mpr hrr) c9)
  exact kk X M H locs ls hR1 hP hD hS hl
set_option maxHeartbeats 4000000 in
set_option maxRecDepth 100000 in
theorem law_4 {p : Program} {l : Launch} {e : Env} {s : State} {m : MethodId} {below : List Frame} {meth : Method} {c : Code} {D : va_G} {A A2 : Nat → Nat} {B B2 : Nat → ClassId} {b L : Nat} {xs : Nat → Int32} {Q : State → Prop} {Rel : w_S → w_S → Prop} (E : E_diagonal Rel) (C0 : lw_Cx p s m c b L xs D B B2) (x3 : Int32) (h1 : vp_in (x3 + 1) L) (h2 : vp_in (x3 + 2) L) (h3 : vp_in (x3 + 3) L) (h4 : vp_in (x3 + 4) L) (h5 : vp_in (x3 + 5) L) (X M : w_S) (hR : Rel X M) (H : Heap) (locs : List Loc) (ls : Array Slot) (hP : va_P D vwCl (wX A B X ++ wM A2 B2 M) H) (hD : va_D (lw_Ad s) (wX A B X ++ wM A2 B2 M)) (hS : va_S (lw_Ad s) s.heap H locs) (hl : lv_has ls 4 [(0, .ref b), (1, .ref (A 0)), (2, .ref (A2 0)), (3, .int x3)])
    (kk : ∀ (X M : w_S) (H : Heap) (locs : List Loc) (ls : Array Slot), Rel X M → va_P D vwCl (wX A B X ++ wM A2 B2 M) H → va_D (lw_Ad s) (wX A B X ++ wM A2 B2 M) → va_S (lw_Ad s) s.heap H locs → lv_has ls 4 [(0, .ref b), (1, .ref (A 0)), (2, .ref (A2 0)), (3, .int x3)] → W p l e room_1 s m #[.ref b] below meth c H locs lwC lwS Q (F0 m 1613 ls [])) : W p l e room_1 s m #[.ref b] below meth c H locs lwC lwS Q (F0 m 353 ls []) := by
  obtain ⟨hx, hb, hts, hown, hml, hX, hbl, hN, hKX, hKM⟩ := C0
  have hA : ∀ q : Nat, s.heap.size ≤ q → lw_Ad s q := fun _ h => h
  have hbA : ¬ lw_Ad s b := Nat.not_le.mpr hbl
  refine lv_aload_n (pc := 353) hx hb dL_law_353 rfl (lv_at hl 1 rfl) ?_
  refine lv_aload_n (pc := 354) hx hb dL_law_354 rfl (lv_at hl 0 rfl) ?_
  refine lv_iload_n (pc := 355) hx hb dL_law_355 rfl (lv_at hl 3 rfl) ?_
  refine lv_iconst (pc := 356) hx hb (v := 1) dL_law_356 (by decide) ?_
  refine lv_iadd (pc := 357) hx hb dL_law_357 ?_
  refine va_sld (pc := 358) hx hb hX hbl hbA hS h1 dL_law_358 ?_
  obtain ⟨zx, zm, hfx, hfm, hrr, hR1⟩ := E X M hR (xs (x3 + 1).toNatClampNeg)
  refine cl_VF (pc := 359) (a := wX A B X) (r := wM A2 B2 M) (As := [.int (xs (x3 + 1).toNatClampNeg)]) (rest := []) hx hb hml hown hts (kX6_diagonal l D A B _ X (xs (x3 + 1).toNatClampNeg) zx hfx) (cwV 1 hts gwRL_33 rfl rfl rfl hdX6_diagonal ⟨Nat.le_of_ble_eq_true rfl, Nat.le_of_ble_eq_true rfl⟩) hN hKX hP hD hS hA (va_recv hKX hP.left (ci := 6) (q0 := 0) rfl (eX_0 A B X)) rfl hl.1 rfl (Nat.le_of_ble_eq_true rfl) dL_law_359 (st1 := [.long zx]) rfl ⟨Nat.le_of_ble_eq_true rfl, Nat.le_of_ble_eq_true rfl⟩ (fun H locs hP hD hS => ?_)
  refine lv_aload_n (pc := 362) hx hb dL_law_362 rfl (lv_at hl 2 rfl) ?_
  refine lv_aload_n (pc := 363) hx hb dL_law_363 rfl (lv_at hl 0 rfl) ?_
  refine lv_iload_n (pc := 364) hx hb dL_law_364 rfl (lv_at hl 3 rfl) ?_
  refine lv_iconst (pc := 365) hx hb (v := 1) dL_law_365 (by decide) ?_
  refine lv_iadd (pc := 366) hx hb dL_law_366 ?_
  refine va_sld (pc := 367) hx hb hX hbl hbA hS h1 dL_law_367 ?_
  refine cl_VF (pc := 368) (a := wM A2 B2 M) (r := wX A B X) (As := [.int (xs (x3 + 1).toNatClampNeg)]) (rest := [.long zx]) hx hb hml hown hts (kX7_diagonal l D A2 B2 _ M (xs (x3 + 1).toNatClampNeg) zm hfm) (cwV 1 hts gwRL_36 rfl rfl rfl hdX7_diagonal ⟨Nat.le_of_ble_eq_true rfl, Nat.le_of_ble_eq_true rfl⟩) hN hKM hP hD hS hA (va_recv hKM hP.left (ci := 7) (q0 := 0) rfl (eM_0 A2 B2 M)) rfl hl.1 rfl (Nat.le_of_ble_eq_true rfl) dL_law_368 (st1 := [.long zm, .long zx]) rfl ⟨Nat.le_of_ble_eq_true rfl, Nat.le_of_ble_eq_true rfl⟩ (fun H locs hP hD hS => ?_)
  refine W.lcmp (pc := 371) hx hb dL_law_371 ?_
  refine lv_if_eq (pc := 372) hx hb (tgt := 1613) dL_law_372 (by decide) (fun c9 => ?_) (fun c9 => absurd (lg_eq0.mpr hrr) c9)
  exact kk X M H locs ls hR1 hP hD hS hl
set_option maxHeartbeats 4000000 in
set_option maxRecDepth 100000 in
theorem law_5 {p : Program} {l : Launch} {e : Env} {s : State} {m : MethodId} {below : List Frame} {meth : Method} {c : Code} {D : va_G} {A A2 : Nat → Nat} {B B2 : Nat → ClassId} {b L : Nat} {xs : Nat → Int32} {Q : State → Prop} {Rel : w_S → w_S → Prop} (E : E_character Rel) (C0 : lw_Cx p s m c b L xs D B B2) (x3 : Int32) (h1 : vp_in (x3 + 1) L) (h2 : vp_in (x3 + 2) L) (h3 : vp_in (x3 + 3) L) (h4 : vp_in (x3 + 4) L) (h5 : vp_in (x3 + 5) L) (X M : w_S) (hR : Rel X M) (H : Heap) (locs : List Loc) (ls : Array Slot) (hP : va_P D vwCl (wX A B X ++ wM A2 B2 M) H) (hD : va_D (lw_Ad s) (wX A B X ++ wM A2 B2 M)) (hS : va_S (lw_Ad s) s.heap H locs) (hl : lv_has ls 4 [(0, .ref b), (1, .ref (A 0)), (2, .ref (A2 0)), (3, .int x3)])
    (kk : ∀ (X M : w_S) (H : Heap) (locs : List Loc) (ls : Array Slot), Rel X M → va_P D vwCl (wX A B X ++ wM A2 B2 M) H → va_D (lw_Ad s) (wX A B X ++ wM A2 B2 M) → va_S (lw_Ad s) s.heap H locs → lv_has ls 4 [(0, .ref b), (1, .ref (A 0)), (2, .ref (A2 0)), (3, .int x3)] → W p l e room_1 s m #[.ref b] below meth c H locs lwC lwS Q (F0 m 1613 ls [])) : W p l e room_1 s m #[.ref b] below meth c H locs lwC lwS Q (F0 m 377 ls []) := by
  obtain ⟨hx, hb, hts, hown, hml, hX, hbl, hN, hKX, hKM⟩ := C0
  have hA : ∀ q : Nat, s.heap.size ≤ q → lw_Ad s q := fun _ h => h
  have hbA : ¬ lw_Ad s b := Nat.not_le.mpr hbl
  refine lv_aload_n (pc := 377) hx hb dL_law_377 rfl (lv_at hl 1 rfl) ?_
  refine lv_aload_n (pc := 378) hx hb dL_law_378 rfl (lv_at hl 0 rfl) ?_
  refine lv_iload_n (pc := 379) hx hb dL_law_379 rfl (lv_at hl 3 rfl) ?_
  refine lv_iconst (pc := 380) hx hb (v := 1) dL_law_380 (by decide) ?_
  refine lv_iadd (pc := 381) hx hb dL_law_381 ?_
  refine va_sld (pc := 382) hx hb hX hbl hbA hS h1 dL_law_382 ?_
  refine lv_aload_n (pc := 383) hx hb dL_law_383 rfl (lv_at hl 0 rfl) ?_
  refine lv_iload_n (pc := 384) hx hb dL_law_384 rfl (lv_at hl 3 rfl) ?_
  refine lv_iconst (pc := 385) hx hb (v := 2) dL_law_385 (by decide) ?_
  refine lv_iadd (pc := 386) hx hb dL_law_386 ?_
  refine va_sld (pc := 387) hx hb hX hbl hbA hS h2 dL_law_387 ?_
  obtain ⟨zx, zm, hfx, hfm, hrr, hR1⟩ := E X M hR (xs (x3 + 1).toNatClampNeg) (xs (x3 + 2).toNatClampNeg)
  refine cl_VF (pc := 388) (a := wX A B X) (r := wM A2 B2 M) (As := [.int (xs (x3 + 1).toNatClampNeg), .int (xs (x3 + 2).toNatClampNeg)]) (rest := []) hx hb hml hown hts (kX6_character l D A B _ X (xs (x3 + 1).toNatClampNeg) (xs (x3 + 2).toNatClampNeg) zx hfx) (cwV 2 hts gwRL_37 rfl rfl rfl hdX6_character ⟨Nat.le_of_ble_eq_true rfl, Nat.le_of_ble_eq_true rfl⟩) hN hKX hP hD hS hA (va_recv hKX hP.left (ci := 6) (q0 := 0) rfl (eX_0 A B X)) rfl hl.1 rfl (Nat.le_of_ble_eq_true rfl) dL_law_388 (st1 := [.long zx]) rfl ⟨Nat.le_of_ble_eq_true rfl, Nat.le_of_ble_eq_true rfl⟩ (fun H locs hP hD hS => ?_)
  refine lv_aload_n (pc := 391) hx hb dL_law_391 rfl (lv_at hl 2 rfl) ?_
  refine lv_aload_n (pc := 392) hx hb dL_law_392 rfl (lv_at hl 0 rfl) ?_
  refine lv_iload_n (pc := 393) hx hb dL_law_393 rfl (lv_at hl 3 rfl) ?_
  refine lv_iconst (pc := 394) hx hb (v := 1) dL_law_394 (by decide) ?_
  refine lv_iadd (pc := 395) hx hb dL_law_395 ?_
  refine va_sld (pc := 396) hx hb hX hbl hbA hS h1 dL_law_396 ?_
  refine lv_aload_n (pc := 397) hx hb dL_law_397 rfl (lv_at hl 0 rfl) ?_
  refine lv_iload_n (pc := 398) hx hb dL_law_398 rfl (lv_at hl 3 rfl) ?_
  refine lv_iconst (pc := 399) hx hb (v := 2) dL_law_399 (by decide) ?_
  refine lv_iadd (pc := 400) hx hb dL_law_400 ?_
  refine va_sld (pc := 401) hx hb hX hbl hbA hS h2 dL_law_401 ?_
  refine cl_VF (pc := 402) (a := wM A2 B2 M) (r := wX A B X) (As := [.int (xs (x3 + 1).toNatClampNeg), .int (xs (x3 + 2).toNatClampNeg)]) (rest := [.long zx]) hx hb hml hown hts (kX7_character l D A2 B2 _ M (xs (x3 + 1).toNatClampNeg) (xs (x3 + 2).toNatClampNeg) zm hfm) (cwV 2 hts gwRL_41 rfl rfl rfl hdX7_character ⟨Nat.le_of_ble_eq_true rfl, Nat.le_of_ble_eq_true rfl⟩) hN hKM hP hD hS hA (va_recv hKM hP.left (ci := 7) (q0 := 0) rfl (eM_0 A2 B2 M)) rfl hl.1 rfl (Nat.le_of_ble_eq_true rfl) dL_law_402 (st1 := [.long zm, .long zx]) rfl ⟨Nat.le_of_ble_eq_true rfl, Nat.le_of_ble_eq_true rfl⟩ (fun H locs hP hD hS => ?_)
  refine W.lcmp (pc := 405) hx hb dL_law_405 ?_
  refine lv_if_eq (pc := 406) hx hb (tgt := 1613) dL_law_406 (by decide) (fun c9 => ?_) (fun c9 => absurd (lg_eq0.mpr hrr) c9)
  exact kk X M H locs ls hR1 hP hD hS hl
set_option maxHeartbeats 4000000 in
set_option maxRecDepth 100000 in
theorem law_6 {p : Program} {l : Launch} {e : Env} {s : State} {m : MethodId} {below : List Frame} {meth : Method} {c : Code} {D : va_G} {A A2 : Nat → Nat} {B B2 : Nat → ClassId} {b L : Nat} {xs : Nat → Int32} {Q : State → Prop} {Rel : w_S → w_S → Prop} (E : E_feed Rel) (C0 : lw_Cx p s m c b L xs D B B2) (x3 : Int32) (h1 : vp_in (x3 + 1) L) (h2 : vp_in (x3 + 2) L) (h3 : vp_in (x3 + 3) L) (h4 : vp_in (x3 + 4) L) (h5 : vp_in (x3 + 5) L) (X M : w_S) (hR : Rel X M) (H : Heap) (locs : List Loc) (ls : Array Slot) (hP : va_P D vwCl (wX A B X ++ wM A2 B2 M) H) (hD : va_D (lw_Ad s) (wX A B X ++ wM A2 B2 M)) (hS : va_S (lw_Ad s) s.heap H locs) (hl : lv_has ls 4 [(0, .ref b), (1, .ref (A 0)), (2, .ref (A2 0)), (3, .int x3)])
    (kk : ∀ (X M : w_S) (H : Heap) (locs : List Loc) (ls : Array Slot), Rel X M → va_P D vwCl (wX A B X ++ wM A2 B2 M) H → va_D (lw_Ad s) (wX A B X ++ wM A2 B2 M) → va_S (lw_Ad s) s.heap H locs → lv_has ls 4 [(0, .ref b), (1, .ref (A 0)), (2, .ref (A2 0)), (3, .int x3)] → W p l e room_1 s m #[.ref b] below meth c H locs lwC lwS Q (F0 m 1613 ls [])) : W p l e room_1 s m #[.ref b] below meth c H locs lwC lwS Q (F0 m 411 ls []) := by
  obtain ⟨hx, hb, hts, hown, hml, hX, hbl, hN, hKX, hKM⟩ := C0
  have hA : ∀ q : Nat, s.heap.size ≤ q → lw_Ad s q := fun _ h => h
  have hbA : ¬ lw_Ad s b := Nat.not_le.mpr hbl
  refine lv_aload_n (pc := 411) hx hb dL_law_411 rfl (lv_at hl 1 rfl) ?_
  refine lv_aload_n (pc := 412) hx hb dL_law_412 rfl (lv_at hl 0 rfl) ?_
  refine lv_iload_n (pc := 413) hx hb dL_law_413 rfl (lv_at hl 3 rfl) ?_
  refine lv_iconst (pc := 414) hx hb (v := 1) dL_law_414 (by decide) ?_
  refine lv_iadd (pc := 415) hx hb dL_law_415 ?_
  refine va_sld (pc := 416) hx hb hX hbl hbA hS h1 dL_law_416 ?_
  refine lv_i2l (pc := 417) hx hb (v := (xs (x3 + 1).toNatClampNeg).toInt64) dL_law_417 rfl ?_
  refine lv_bipush (pc := 418) hx hb (v := 32) dL_law_418 (by decide) ?_
  refine lv_lshl (pc := 420) hx hb (v := ((xs (x3 + 1).toNatClampNeg).toInt64) <<< ((32 : Int32).toInt64 &&& 63)) dL_law_420 rfl ?_
  refine lv_aload_n (pc := 421) hx hb dL_law_421 rfl (lv_at hl 0 rfl) ?_
  refine lv_iload_n (pc := 422) hx hb dL_law_422 rfl (lv_at hl 3 rfl) ?_
  refine lv_iconst (pc := 423) hx hb (v := 2) dL_law_423 (by decide) ?_
  refine lv_iadd (pc := 424) hx hb dL_law_424 ?_
  refine va_sld (pc := 425) hx hb hX hbl hbA hS h2 dL_law_425 ?_
  refine lv_i2l (pc := 426) hx hb (v := (xs (x3 + 2).toNatClampNeg).toInt64) dL_law_426 rfl ?_
  refine lv_ldc2 (pc := 427) hx hb (v := 4294967295) hown (hts (.constantLong RL 42 (4294967295)) mU_6) dL_law_427 ?_
  refine lv_land (pc := 430) hx hb dL_law_430 ?_
  refine lv_lor (pc := 431) hx hb dL_law_431 ?_
  refine lv_aload_n (pc := 432) hx hb dL_law_432 rfl (lv_at hl 0 rfl) ?_
  refine lv_iload_n (pc := 433) hx hb dL_law_433 rfl (lv_at hl 3 rfl) ?_
  refine lv_iconst (pc := 434) hx hb (v := 3) dL_law_434 (by decide) ?_
  refine lv_iadd (pc := 435) hx hb dL_law_435 ?_
  refine va_sld (pc := 436) hx hb hX hbl hbA hS h3 dL_law_436 ?_
  obtain ⟨zx, zm, hfx, hfm, hrr, hR1⟩ := E X M hR ((((xs (x3 + 1).toNatClampNeg).toInt64) <<< ((32 : Int32).toInt64 &&& 63)) ||| (((xs (x3 + 2).toNatClampNeg).toInt64) &&& 4294967295)) (xs (x3 + 3).toNatClampNeg)
  refine cl_VF (pc := 437) (a := wX A B X) (r := wM A2 B2 M) (As := [.long ((((xs (x3 + 1).toNatClampNeg).toInt64) <<< ((32 : Int32).toInt64 &&& 63)) ||| (((xs (x3 + 2).toNatClampNeg).toInt64) &&& 4294967295)), .int (xs (x3 + 3).toNatClampNeg)]) (rest := []) hx hb hml hown hts (kX6_feed l D A B _ X ((((xs (x3 + 1).toNatClampNeg).toInt64) <<< ((32 : Int32).toInt64 &&& 63)) ||| (((xs (x3 + 2).toNatClampNeg).toInt64) &&& 4294967295)) (xs (x3 + 3).toNatClampNeg) zx hfx) (cwV 2 hts gwRL_44 rfl rfl rfl hdX6_feed ⟨Nat.le_of_ble_eq_true rfl, Nat.le_of_ble_eq_true rfl⟩) hN hKX hP hD hS hA (va_recv hKX hP.left (ci := 6) (q0 := 0) rfl (eX_0 A B X)) rfl hl.1 rfl (Nat.le_of_ble_eq_true rfl) dL_law_437 (st1 := [.int zx.1]) rfl ⟨Nat.le_of_ble_eq_true rfl, Nat.le_of_ble_eq_true rfl⟩ (fun H locs hP hD hS => ?_)
  refine lv_aload_n (pc := 440) hx hb dL_law_440 rfl (lv_at hl 2 rfl) ?_
  refine lv_aload_n (pc := 441) hx hb dL_law_441 rfl (lv_at hl 0 rfl) ?_
  refine lv_iload_n (pc := 442) hx hb dL_law_442 rfl (lv_at hl 3 rfl) ?_
  refine lv_iconst (pc := 443) hx hb (v := 1) dL_law_443 (by decide) ?_
  refine lv_iadd (pc := 444) hx hb dL_law_444 ?_
  refine va_sld (pc := 445) hx hb hX hbl hbA hS h1 dL_law_445 ?_
  refine lv_i2l (pc := 446) hx hb (v := (xs (x3 + 1).toNatClampNeg).toInt64) dL_law_446 rfl ?_
  refine lv_bipush (pc := 447) hx hb (v := 32) dL_law_447 (by decide) ?_
  refine lv_lshl (pc := 449) hx hb (v := ((xs (x3 + 1).toNatClampNeg).toInt64) <<< ((32 : Int32).toInt64 &&& 63)) dL_law_449 rfl ?_
  refine lv_aload_n (pc := 450) hx hb dL_law_450 rfl (lv_at hl 0 rfl) ?_
  refine lv_iload_n (pc := 451) hx hb dL_law_451 rfl (lv_at hl 3 rfl) ?_
  refine lv_iconst (pc := 452) hx hb (v := 2) dL_law_452 (by decide) ?_
  refine lv_iadd (pc := 453) hx hb dL_law_453 ?_
  refine va_sld (pc := 454) hx hb hX hbl hbA hS h2 dL_law_454 ?_
  refine lv_i2l (pc := 455) hx hb (v := (xs (x3 + 2).toNatClampNeg).toInt64) dL_law_455 rfl ?_
  refine lv_ldc2 (pc := 456) hx hb (v := 4294967295) hown (hts (.constantLong RL 42 (4294967295)) mU_6) dL_law_456 ?_
  refine lv_land (pc := 459) hx hb dL_law_459 ?_
  refine lv_lor (pc := 460) hx hb dL_law_460 ?_
  refine lv_aload_n (pc := 461) hx hb dL_law_461 rfl (lv_at hl 0 rfl) ?_
  refine lv_iload_n (pc := 462) hx hb dL_law_462 rfl (lv_at hl 3 rfl) ?_
  refine lv_iconst (pc := 463) hx hb (v := 3) dL_law_463 (by decide) ?_
  refine lv_iadd (pc := 464) hx hb dL_law_464 ?_
  refine va_sld (pc := 465) hx hb hX hbl hbA hS h3 dL_law_465 ?_
  refine cl_VF (pc := 466) (a := wM A2 B2 M) (r := wX A B zx.2) (As := [.long ((((xs (x3 + 1).toNatClampNeg).toInt64) <<< ((32 : Int32).toInt64 &&& 63)) ||| (((xs (x3 + 2).toNatClampNeg).toInt64) &&& 4294967295)), .int (xs (x3 + 3).toNatClampNeg)]) (rest := [.int zx.1]) hx hb hml hown hts (kX7_feed l D A2 B2 _ M ((((xs (x3 + 1).toNatClampNeg).toInt64) <<< ((32 : Int32).toInt64 &&& 63)) ||| (((xs (x3 + 2).toNatClampNeg).toInt64) &&& 4294967295)) (xs (x3 + 3).toNatClampNeg) zm hfm) (cwV 2 hts gwRL_48 rfl rfl rfl hdX7_feed ⟨Nat.le_of_ble_eq_true rfl, Nat.le_of_ble_eq_true rfl⟩) hN hKM hP hD hS hA (va_recv hKM hP.left (ci := 7) (q0 := 0) rfl (eM_0 A2 B2 M)) rfl hl.1 rfl (Nat.le_of_ble_eq_true rfl) dL_law_466 (st1 := [.int zm.1, .int zx.1]) rfl ⟨Nat.le_of_ble_eq_true rfl, Nat.le_of_ble_eq_true rfl⟩ (fun H locs hP hD hS => ?_)
  refine lv_icmp_eq (pc := 469) hx hb (tgt := 1613) dL_law_469 (by decide) (fun c9 => ?_) (fun c9 => absurd hrr c9)
  exact kk zx.2 zm.2 H locs ls hR1 hP hD hS hl
set_option maxHeartbeats 4000000 in
set_option maxRecDepth 100000 in
theorem law_7 {p : Program} {l : Launch} {e : Env} {s : State} {m : MethodId} {below : List Frame} {meth : Method} {c : Code} {D : va_G} {A A2 : Nat → Nat} {B B2 : Nat → ClassId} {b L : Nat} {xs : Nat → Int32} {Q : State → Prop} {Rel : w_S → w_S → Prop} (E : E_text Rel) (C0 : lw_Cx p s m c b L xs D B B2) (x3 : Int32) (h1 : vp_in (x3 + 1) L) (h2 : vp_in (x3 + 2) L) (h3 : vp_in (x3 + 3) L) (h4 : vp_in (x3 + 4) L) (h5 : vp_in (x3 + 5) L) (X M : w_S) (hR : Rel X M) (H : Heap) (locs : List Loc) (ls : Array Slot) (hP : va_P D vwCl (wX A B X ++ wM A2 B2 M) H) (hD : va_D (lw_Ad s) (wX A B X ++ wM A2 B2 M)) (hS : va_S (lw_Ad s) s.heap H locs) (hl : lv_has ls 4 [(0, .ref b), (1, .ref (A 0)), (2, .ref (A2 0)), (3, .int x3)])
    (kk : ∀ (X M : w_S) (H : Heap) (locs : List Loc) (ls : Array Slot), Rel X M → va_P D vwCl (wX A B X ++ wM A2 B2 M) H → va_D (lw_Ad s) (wX A B X ++ wM A2 B2 M) → va_S (lw_Ad s) s.heap H locs → lv_has ls 4 [(0, .ref b), (1, .ref (A 0)), (2, .ref (A2 0)), (3, .int x3)] → W p l e room_1 s m #[.ref b] below meth c H locs lwC lwS Q (F0 m 1613 ls [])) : W p l e room_1 s m #[.ref b] below meth c H locs lwC lwS Q (F0 m 474 ls []) := by
  obtain ⟨hx, hb, hts, hown, hml, hX, hbl, hN, hKX, hKM⟩ := C0
  have hA : ∀ q : Nat, s.heap.size ≤ q → lw_Ad s q := fun _ h => h
  have hbA : ¬ lw_Ad s b := Nat.not_le.mpr hbl
  refine lv_aload_n (pc := 474) hx hb dL_law_474 rfl (lv_at hl 1 rfl) ?_
  obtain ⟨zx, zm, hfx, hfm, hrr, hR1⟩ := E X M hR 
  refine cl_VF (pc := 475) (a := wX A B X) (r := wM A2 B2 M) (As := []) (rest := []) hx hb hml hown hts (kX6_text l D A B _ X zx hfx) (cwV 0 hts gwRL_49 rfl rfl rfl hdX6_text ⟨Nat.le_of_ble_eq_true rfl, Nat.le_of_ble_eq_true rfl⟩) hN hKX hP hD hS hA (va_recv hKX hP.left (ci := 6) (q0 := 0) rfl (eX_0 A B X)) rfl hl.1 rfl (Nat.le_of_ble_eq_true rfl) dL_law_475 (st1 := [.int zx.1]) rfl ⟨Nat.le_of_ble_eq_true rfl, Nat.le_of_ble_eq_true rfl⟩ (fun H locs hP hD hS => ?_)
  refine lv_aload_n (pc := 478) hx hb dL_law_478 rfl (lv_at hl 2 rfl) ?_
  refine cl_VF (pc := 479) (a := wM A2 B2 M) (r := wX A B zx.2) (As := []) (rest := [.int zx.1]) hx hb hml hown hts (kX7_text l D A2 B2 _ M zm hfm) (cwV 0 hts gwRL_53 rfl rfl rfl hdX7_text ⟨Nat.le_of_ble_eq_true rfl, Nat.le_of_ble_eq_true rfl⟩) hN hKM hP hD hS hA (va_recv hKM hP.left (ci := 7) (q0 := 0) rfl (eM_0 A2 B2 M)) rfl hl.1 rfl (Nat.le_of_ble_eq_true rfl) dL_law_479 (st1 := [.int zm.1, .int zx.1]) rfl ⟨Nat.le_of_ble_eq_true rfl, Nat.le_of_ble_eq_true rfl⟩ (fun H locs hP hD hS => ?_)
  refine lv_icmp_eq (pc := 482) hx hb (tgt := 1613) dL_law_482 (by decide) (fun c9 => ?_) (fun c9 => absurd hrr c9)
  exact kk zx.2 zm.2 H locs ls hR1 hP hD hS hl
set_option maxHeartbeats 4000000 in
set_option maxRecDepth 100000 in
theorem law_8 {p : Program} {l : Launch} {e : Env} {s : State} {m : MethodId} {below : List Frame} {meth : Method} {c : Code} {D : va_G} {A A2 : Nat → Nat} {B B2 : Nat → ClassId} {b L : Nat} {xs : Nat → Int32} {Q : State → Prop} {Rel : w_S → w_S → Prop} (E : E_equation Rel) (C0 : lw_Cx p s m c b L xs D B B2) (x3 : Int32) (h1 : vp_in (x3 + 1) L) (h2 : vp_in (x3 + 2) L) (h3 : vp_in (x3 + 3) L) (h4 : vp_in (x3 + 4) L) (h5 : vp_in (x3 + 5) L) (X M : w_S) (hR : Rel X M) (H : Heap) (locs : List Loc) (ls : Array Slot) (hP : va_P D vwCl (wX A B X ++ wM A2 B2 M) H) (hD : va_D (lw_Ad s) (wX A B X ++ wM A2 B2 M)) (hS : va_S (lw_Ad s) s.heap H locs) (hl : lv_has ls 4 [(0, .ref b), (1, .ref (A 0)), (2, .ref (A2 0)), (3, .int x3)])
    (kk : ∀ (X M : w_S) (H : Heap) (locs : List Loc) (ls : Array Slot), Rel X M → va_P D vwCl (wX A B X ++ wM A2 B2 M) H → va_D (lw_Ad s) (wX A B X ++ wM A2 B2 M) → va_S (lw_Ad s) s.heap H locs → lv_has ls 4 [(0, .ref b), (1, .ref (A 0)), (2, .ref (A2 0)), (3, .int x3)] → W p l e room_1 s m #[.ref b] below meth c H locs lwC lwS Q (F0 m 1613 ls [])) : W p l e room_1 s m #[.ref b] below meth c H locs lwC lwS Q (F0 m 487 ls []) := by
  obtain ⟨hx, hb, hts, hown, hml, hX, hbl, hN, hKX, hKM⟩ := C0
  have hA : ∀ q : Nat, s.heap.size ≤ q → lw_Ad s q := fun _ h => h
  have hbA : ¬ lw_Ad s b := Nat.not_le.mpr hbl
  refine lv_aload_n (pc := 487) hx hb dL_law_487 rfl (lv_at hl 1 rfl) ?_
  refine lv_aload_n (pc := 488) hx hb dL_law_488 rfl (lv_at hl 0 rfl) ?_
  refine lv_iload_n (pc := 489) hx hb dL_law_489 rfl (lv_at hl 3 rfl) ?_
  refine lv_iconst (pc := 490) hx hb (v := 1) dL_law_490 (by decide) ?_
  refine lv_iadd (pc := 491) hx hb dL_law_491 ?_
  refine va_sld (pc := 492) hx hb hX hbl hbA hS h1 dL_law_492 ?_
  refine lv_aload_n (pc := 493) hx hb dL_law_493 rfl (lv_at hl 0 rfl) ?_
  refine lv_iload_n (pc := 494) hx hb dL_law_494 rfl (lv_at hl 3 rfl) ?_
  refine lv_iconst (pc := 495) hx hb (v := 2) dL_law_495 (by decide) ?_
  refine lv_iadd (pc := 496) hx hb dL_law_496 ?_
  refine va_sld (pc := 497) hx hb hX hbl hbA hS h2 dL_law_497 ?_
  obtain ⟨zx, zm, hfx, hfm, hrr, hR1⟩ := E X M hR (xs (x3 + 1).toNatClampNeg) (xs (x3 + 2).toNatClampNeg)
  refine cl_VF (pc := 498) (a := wX A B X) (r := wM A2 B2 M) (As := [.int (xs (x3 + 1).toNatClampNeg), .int (xs (x3 + 2).toNatClampNeg)]) (rest := []) hx hb hml hown hts (kX6_equation l D A B _ X (xs (x3 + 1).toNatClampNeg) (xs (x3 + 2).toNatClampNeg) zx hfx) (cwV 2 hts gwRL_54 rfl rfl rfl hdX6_equation ⟨Nat.le_of_ble_eq_true rfl, Nat.le_of_ble_eq_true rfl⟩) hN hKX hP hD hS hA (va_recv hKX hP.left (ci := 6) (q0 := 0) rfl (eX_0 A B X)) rfl hl.1 rfl (Nat.le_of_ble_eq_true rfl) dL_law_498 (st1 := [.int zx.1]) rfl ⟨Nat.le_of_ble_eq_true rfl, Nat.le_of_ble_eq_true rfl⟩ (fun H locs hP hD hS => ?_)
  refine lv_aload_n (pc := 501) hx hb dL_law_501 rfl (lv_at hl 2 rfl) ?_
  refine lv_aload_n (pc := 502) hx hb dL_law_502 rfl (lv_at hl 0 rfl) ?_
  refine lv_iload_n (pc := 503) hx hb dL_law_503 rfl (lv_at hl 3 rfl) ?_
  refine lv_iconst (pc := 504) hx hb (v := 1) dL_law_504 (by decide) ?_
  refine lv_iadd (pc := 505) hx hb dL_law_505 ?_
  refine va_sld (pc := 506) hx hb hX hbl hbA hS h1 dL_law_506 ?_
  refine lv_aload_n (pc := 507) hx hb dL_law_507 rfl (lv_at hl 0 rfl) ?_
  refine lv_iload_n (pc := 508) hx hb dL_law_508 rfl (lv_at hl 3 rfl) ?_
  refine lv_iconst (pc := 509) hx hb (v := 2) dL_law_509 (by decide) ?_
  refine lv_iadd (pc := 510) hx hb dL_law_510 ?_
  refine va_sld (pc := 511) hx hb hX hbl hbA hS h2 dL_law_511 ?_
  refine cl_VF (pc := 512) (a := wM A2 B2 M) (r := wX A B zx.2) (As := [.int (xs (x3 + 1).toNatClampNeg), .int (xs (x3 + 2).toNatClampNeg)]) (rest := [.int zx.1]) hx hb hml hown hts (kX7_equation l D A2 B2 _ M (xs (x3 + 1).toNatClampNeg) (xs (x3 + 2).toNatClampNeg) zm hfm) (cwV 2 hts gwRL_57 rfl rfl rfl hdX7_equation ⟨Nat.le_of_ble_eq_true rfl, Nat.le_of_ble_eq_true rfl⟩) hN hKM hP hD hS hA (va_recv hKM hP.left (ci := 7) (q0 := 0) rfl (eM_0 A2 B2 M)) rfl hl.1 rfl (Nat.le_of_ble_eq_true rfl) dL_law_512 (st1 := [.int zm.1, .int zx.1]) rfl ⟨Nat.le_of_ble_eq_true rfl, Nat.le_of_ble_eq_true rfl⟩ (fun H locs hP hD hS => ?_)
  refine lv_icmp_eq (pc := 515) hx hb (tgt := 1613) dL_law_515 (by decide) (fun c9 => ?_) (fun c9 => absurd hrr c9)
  exact kk zx.2 zm.2 H locs ls hR1 hP hD hS hl
set_option maxHeartbeats 4000000 in
set_option maxRecDepth 100000 in
theorem law_9 {p : Program} {l : Launch} {e : Env} {s : State} {m : MethodId} {below : List Frame} {meth : Method} {c : Code} {D : va_G} {A A2 : Nat → Nat} {B B2 : Nat → ClassId} {b L : Nat} {xs : Nat → Int32} {Q : State → Prop} {Rel : w_S → w_S → Prop} (E : E_of Rel) (C0 : lw_Cx p s m c b L xs D B B2) (x3 : Int32) (h1 : vp_in (x3 + 1) L) (h2 : vp_in (x3 + 2) L) (h3 : vp_in (x3 + 3) L) (h4 : vp_in (x3 + 4) L) (h5 : vp_in (x3 + 5) L) (X M : w_S) (hR : Rel X M) (H : Heap) (locs : List Loc) (ls : Array Slot) (hP : va_P D vwCl (wX A B X ++ wM A2 B2 M) H) (hD : va_D (lw_Ad s) (wX A B X ++ wM A2 B2 M)) (hS : va_S (lw_Ad s) s.heap H locs) (hl : lv_has ls 4 [(0, .ref b), (1, .ref (A 0)), (2, .ref (A2 0)), (3, .int x3)])
    (kk : ∀ (X M : w_S) (H : Heap) (locs : List Loc) (ls : Array Slot), Rel X M → va_P D vwCl (wX A B X ++ wM A2 B2 M) H → va_D (lw_Ad s) (wX A B X ++ wM A2 B2 M) → va_S (lw_Ad s) s.heap H locs → lv_has ls 4 [(0, .ref b), (1, .ref (A 0)), (2, .ref (A2 0)), (3, .int x3)] → W p l e room_1 s m #[.ref b] below meth c H locs lwC lwS Q (F0 m 1613 ls [])) : W p l e room_1 s m #[.ref b] below meth c H locs lwC lwS Q (F0 m 520 ls []) := by
  obtain ⟨hx, hb, hts, hown, hml, hX, hbl, hN, hKX, hKM⟩ := C0
  have hA : ∀ q : Nat, s.heap.size ≤ q → lw_Ad s q := fun _ h => h
  have hbA : ¬ lw_Ad s b := Nat.not_le.mpr hbl
  refine lv_aload_n (pc := 520) hx hb dL_law_520 rfl (lv_at hl 1 rfl) ?_
  refine lv_aload_n (pc := 521) hx hb dL_law_521 rfl (lv_at hl 0 rfl) ?_
  refine lv_iload_n (pc := 522) hx hb dL_law_522 rfl (lv_at hl 3 rfl) ?_
  refine lv_iconst (pc := 523) hx hb (v := 1) dL_law_523 (by decide) ?_
  refine lv_iadd (pc := 524) hx hb dL_law_524 ?_
  refine va_sld (pc := 525) hx hb hX hbl hbA hS h1 dL_law_525 ?_
  refine lv_aload_n (pc := 526) hx hb dL_law_526 rfl (lv_at hl 0 rfl) ?_
  refine lv_iload_n (pc := 527) hx hb dL_law_527 rfl (lv_at hl 3 rfl) ?_
  refine lv_iconst (pc := 528) hx hb (v := 2) dL_law_528 (by decide) ?_
  refine lv_iadd (pc := 529) hx hb dL_law_529 ?_
  refine va_sld (pc := 530) hx hb hX hbl hbA hS h2 dL_law_530 ?_
  obtain ⟨zx, zm, hfx, hfm, hrr, hR1⟩ := E X M hR (xs (x3 + 1).toNatClampNeg) (xs (x3 + 2).toNatClampNeg)
  refine cl_VF (pc := 531) (a := wX A B X) (r := wM A2 B2 M) (As := [.int (xs (x3 + 1).toNatClampNeg), .int (xs (x3 + 2).toNatClampNeg)]) (rest := []) hx hb hml hown hts (kX6_of l D A B _ X (xs (x3 + 1).toNatClampNeg) (xs (x3 + 2).toNatClampNeg) zx hfx) (cwV 2 hts gwRL_58 rfl rfl rfl hdX6_of ⟨Nat.le_of_ble_eq_true rfl, Nat.le_of_ble_eq_true rfl⟩) hN hKX hP hD hS hA (va_recv hKX hP.left (ci := 6) (q0 := 0) rfl (eX_0 A B X)) rfl hl.1 rfl (Nat.le_of_ble_eq_true rfl) dL_law_531 (st1 := [.int zx.1]) rfl ⟨Nat.le_of_ble_eq_true rfl, Nat.le_of_ble_eq_true rfl⟩ (fun H locs hP hD hS => ?_)
  refine lv_aload_n (pc := 534) hx hb dL_law_534 rfl (lv_at hl 2 rfl) ?_
  refine lv_aload_n (pc := 535) hx hb dL_law_535 rfl (lv_at hl 0 rfl) ?_
  refine lv_iload_n (pc := 536) hx hb dL_law_536 rfl (lv_at hl 3 rfl) ?_
  refine lv_iconst (pc := 537) hx hb (v := 1) dL_law_537 (by decide) ?_
  refine lv_iadd (pc := 538) hx hb dL_law_538 ?_
  refine va_sld (pc := 539) hx hb hX hbl hbA hS h1 dL_law_539 ?_
  refine lv_aload_n (pc := 540) hx hb dL_law_540 rfl (lv_at hl 0 rfl) ?_
  refine lv_iload_n (pc := 541) hx hb dL_law_541 rfl (lv_at hl 3 rfl) ?_
  refine lv_iconst (pc := 542) hx hb (v := 2) dL_law_542 (by decide) ?_
  refine lv_iadd (pc := 543) hx hb dL_law_543 ?_
  refine va_sld (pc := 544) hx hb hX hbl hbA hS h2 dL_law_544 ?_
  refine cl_VF (pc := 545) (a := wM A2 B2 M) (r := wX A B zx.2) (As := [.int (xs (x3 + 1).toNatClampNeg), .int (xs (x3 + 2).toNatClampNeg)]) (rest := [.int zx.1]) hx hb hml hown hts (kX7_of l D A2 B2 _ M (xs (x3 + 1).toNatClampNeg) (xs (x3 + 2).toNatClampNeg) zm hfm) (cwV 2 hts gwRL_61 rfl rfl rfl hdX7_of ⟨Nat.le_of_ble_eq_true rfl, Nat.le_of_ble_eq_true rfl⟩) hN hKM hP hD hS hA (va_recv hKM hP.left (ci := 7) (q0 := 0) rfl (eM_0 A2 B2 M)) rfl hl.1 rfl (Nat.le_of_ble_eq_true rfl) dL_law_545 (st1 := [.int zm.1, .int zx.1]) rfl ⟨Nat.le_of_ble_eq_true rfl, Nat.le_of_ble_eq_true rfl⟩ (fun H locs hP hD hS => ?_)
  refine lv_icmp_eq (pc := 548) hx hb (tgt := 1613) dL_law_548 (by decide) (fun c9 => ?_) (fun c9 => absurd hrr c9)
  exact kk zx.2 zm.2 H locs ls hR1 hP hD hS hl
set_option maxHeartbeats 4000000 in
set_option maxRecDepth 100000 in
theorem law_10 {p : Program} {l : Launch} {e : Env} {s : State} {m : MethodId} {below : List Frame} {meth : Method} {c : Code} {D : va_G} {A A2 : Nat → Nat} {B B2 : Nat → ClassId} {b L : Nat} {xs : Nat → Int32} {Q : State → Prop} {Rel : w_S → w_S → Prop} (E : E_change Rel) (C0 : lw_Cx p s m c b L xs D B B2) (x3 : Int32) (h1 : vp_in (x3 + 1) L) (h2 : vp_in (x3 + 2) L) (h3 : vp_in (x3 + 3) L) (h4 : vp_in (x3 + 4) L) (h5 : vp_in (x3 + 5) L) (X M : w_S) (hR : Rel X M) (H : Heap) (locs : List Loc) (ls : Array Slot) (hP : va_P D vwCl (wX A B X ++ wM A2 B2 M) H) (hD : va_D (lw_Ad s) (wX A B X ++ wM A2 B2 M)) (hS : va_S (lw_Ad s) s.heap H locs) (hl : lv_has ls 4 [(0, .ref b), (1, .ref (A 0)), (2, .ref (A2 0)), (3, .int x3)])
    (kk : ∀ (X M : w_S) (H : Heap) (locs : List Loc) (ls : Array Slot), Rel X M → va_P D vwCl (wX A B X ++ wM A2 B2 M) H → va_D (lw_Ad s) (wX A B X ++ wM A2 B2 M) → va_S (lw_Ad s) s.heap H locs → lv_has ls 4 [(0, .ref b), (1, .ref (A 0)), (2, .ref (A2 0)), (3, .int x3)] → W p l e room_1 s m #[.ref b] below meth c H locs lwC lwS Q (F0 m 1613 ls [])) : W p l e room_1 s m #[.ref b] below meth c H locs lwC lwS Q (F0 m 553 ls []) := by
  obtain ⟨hx, hb, hts, hown, hml, hX, hbl, hN, hKX, hKM⟩ := C0
  have hA : ∀ q : Nat, s.heap.size ≤ q → lw_Ad s q := fun _ h => h
  have hbA : ¬ lw_Ad s b := Nat.not_le.mpr hbl
  refine lv_aload_n (pc := 553) hx hb dL_law_553 rfl (lv_at hl 1 rfl) ?_
  refine lv_aload_n (pc := 554) hx hb dL_law_554 rfl (lv_at hl 0 rfl) ?_
  refine lv_iload_n (pc := 555) hx hb dL_law_555 rfl (lv_at hl 3 rfl) ?_
  refine lv_iconst (pc := 556) hx hb (v := 1) dL_law_556 (by decide) ?_
  refine lv_iadd (pc := 557) hx hb dL_law_557 ?_
  refine va_sld (pc := 558) hx hb hX hbl hbA hS h1 dL_law_558 ?_
  refine lv_aload_n (pc := 559) hx hb dL_law_559 rfl (lv_at hl 0 rfl) ?_
  refine lv_iload_n (pc := 560) hx hb dL_law_560 rfl (lv_at hl 3 rfl) ?_
  refine lv_iconst (pc := 561) hx hb (v := 2) dL_law_561 (by decide) ?_
  refine lv_iadd (pc := 562) hx hb dL_law_562 ?_
  refine va_sld (pc := 563) hx hb hX hbl hbA hS h2 dL_law_563 ?_
  refine lv_aload_n (pc := 564) hx hb dL_law_564 rfl (lv_at hl 0 rfl) ?_
  refine lv_iload_n (pc := 565) hx hb dL_law_565 rfl (lv_at hl 3 rfl) ?_
  refine lv_iconst (pc := 566) hx hb (v := 3) dL_law_566 (by decide) ?_
  refine lv_iadd (pc := 567) hx hb dL_law_567 ?_
  refine va_sld (pc := 568) hx hb hX hbl hbA hS h3 dL_law_568 ?_
  obtain ⟨zx, zm, hfx, hfm, hrr, hR1⟩ := E X M hR (xs (x3 + 1).toNatClampNeg) (xs (x3 + 2).toNatClampNeg) (xs (x3 + 3).toNatClampNeg)
  refine cl_VF (pc := 569) (a := wX A B X) (r := wM A2 B2 M) (As := [.int (xs (x3 + 1).toNatClampNeg), .int (xs (x3 + 2).toNatClampNeg), .int (xs (x3 + 3).toNatClampNeg)]) (rest := []) hx hb hml hown hts (kX6_change l D A B _ X (xs (x3 + 1).toNatClampNeg) (xs (x3 + 2).toNatClampNeg) (xs (x3 + 3).toNatClampNeg) zx hfx) (cwV 3 hts gwRL_62 rfl rfl rfl hdX6_change ⟨Nat.le_of_ble_eq_true rfl, Nat.le_of_ble_eq_true rfl⟩) hN hKX hP hD hS hA (va_recv hKX hP.left (ci := 6) (q0 := 0) rfl (eX_0 A B X)) rfl hl.1 rfl (Nat.le_of_ble_eq_true rfl) dL_law_569 (st1 := [.int zx.1]) rfl ⟨Nat.le_of_ble_eq_true rfl, Nat.le_of_ble_eq_true rfl⟩ (fun H locs hP hD hS => ?_)
  refine lv_aload_n (pc := 572) hx hb dL_law_572 rfl (lv_at hl 2 rfl) ?_
  refine lv_aload_n (pc := 573) hx hb dL_law_573 rfl (lv_at hl 0 rfl) ?_
  refine lv_iload_n (pc := 574) hx hb dL_law_574 rfl (lv_at hl 3 rfl) ?_
  refine lv_iconst (pc := 575) hx hb (v := 1) dL_law_575 (by decide) ?_
  refine lv_iadd (pc := 576) hx hb dL_law_576 ?_
  refine va_sld (pc := 577) hx hb hX hbl hbA hS h1 dL_law_577 ?_
  refine lv_aload_n (pc := 578) hx hb dL_law_578 rfl (lv_at hl 0 rfl) ?_
  refine lv_iload_n (pc := 579) hx hb dL_law_579 rfl (lv_at hl 3 rfl) ?_
  refine lv_iconst (pc := 580) hx hb (v := 2) dL_law_580 (by decide) ?_
  refine lv_iadd (pc := 581) hx hb dL_law_581 ?_
  refine va_sld (pc := 582) hx hb hX hbl hbA hS h2 dL_law_582 ?_
  refine lv_aload_n (pc := 583) hx hb dL_law_583 rfl (lv_at hl 0 rfl) ?_
  refine lv_iload_n (pc := 584) hx hb dL_law_584 rfl (lv_at hl 3 rfl) ?_
  refine lv_iconst (pc := 585) hx hb (v := 3) dL_law_585 (by decide) ?_
  refine lv_iadd (pc := 586) hx hb dL_law_586 ?_
  refine va_sld (pc := 587) hx hb hX hbl hbA hS h3 dL_law_587 ?_
  refine cl_VF (pc := 588) (a := wM A2 B2 M) (r := wX A B zx.2) (As := [.int (xs (x3 + 1).toNatClampNeg), .int (xs (x3 + 2).toNatClampNeg), .int (xs (x3 + 3).toNatClampNeg)]) (rest := [.int zx.1]) hx hb hml hown hts (kX7_change l D A2 B2 _ M (xs (x3 + 1).toNatClampNeg) (xs (x3 + 2).toNatClampNeg) (xs (x3 + 3).toNatClampNeg) zm hfm) (cwV 3 hts gwRL_65 rfl rfl rfl hdX7_change ⟨Nat.le_of_ble_eq_true rfl, Nat.le_of_ble_eq_true rfl⟩) hN hKM hP hD hS hA (va_recv hKM hP.left (ci := 7) (q0 := 0) rfl (eM_0 A2 B2 M)) rfl hl.1 rfl (Nat.le_of_ble_eq_true rfl) dL_law_588 (st1 := [.int zm.1, .int zx.1]) rfl ⟨Nat.le_of_ble_eq_true rfl, Nat.le_of_ble_eq_true rfl⟩ (fun H locs hP hD hS => ?_)
  refine lv_icmp_eq (pc := 591) hx hb (tgt := 1613) dL_law_591 (by decide) (fun c9 => ?_) (fun c9 => absurd hrr c9)
  exact kk zx.2 zm.2 H locs ls hR1 hP hD hS hl
set_option maxHeartbeats 4000000 in
set_option maxRecDepth 100000 in
theorem law_11 {p : Program} {l : Launch} {e : Env} {s : State} {m : MethodId} {below : List Frame} {meth : Method} {c : Code} {D : va_G} {A A2 : Nat → Nat} {B B2 : Nat → ClassId} {b L : Nat} {xs : Nat → Int32} {Q : State → Prop} {Rel : w_S → w_S → Prop} (E : E_right Rel) (C0 : lw_Cx p s m c b L xs D B B2) (x3 : Int32) (h1 : vp_in (x3 + 1) L) (h2 : vp_in (x3 + 2) L) (h3 : vp_in (x3 + 3) L) (h4 : vp_in (x3 + 4) L) (h5 : vp_in (x3 + 5) L) (X M : w_S) (hR : Rel X M) (H : Heap) (locs : List Loc) (ls : Array Slot) (hP : va_P D vwCl (wX A B X ++ wM A2 B2 M) H) (hD : va_D (lw_Ad s) (wX A B X ++ wM A2 B2 M)) (hS : va_S (lw_Ad s) s.heap H locs) (hl : lv_has ls 4 [(0, .ref b), (1, .ref (A 0)), (2, .ref (A2 0)), (3, .int x3)])
    (kk : ∀ (X M : w_S) (H : Heap) (locs : List Loc) (ls : Array Slot), Rel X M → va_P D vwCl (wX A B X ++ wM A2 B2 M) H → va_D (lw_Ad s) (wX A B X ++ wM A2 B2 M) → va_S (lw_Ad s) s.heap H locs → lv_has ls 4 [(0, .ref b), (1, .ref (A 0)), (2, .ref (A2 0)), (3, .int x3)] → W p l e room_1 s m #[.ref b] below meth c H locs lwC lwS Q (F0 m 1613 ls [])) : W p l e room_1 s m #[.ref b] below meth c H locs lwC lwS Q (F0 m 596 ls []) := by
  obtain ⟨hx, hb, hts, hown, hml, hX, hbl, hN, hKX, hKM⟩ := C0
  have hA : ∀ q : Nat, s.heap.size ≤ q → lw_Ad s q := fun _ h => h
  have hbA : ¬ lw_Ad s b := Nat.not_le.mpr hbl
  refine lv_aload_n (pc := 596) hx hb dL_law_596 rfl (lv_at hl 1 rfl) ?_
  refine lv_aload_n (pc := 597) hx hb dL_law_597 rfl (lv_at hl 0 rfl) ?_
  refine lv_iload_n (pc := 598) hx hb dL_law_598 rfl (lv_at hl 3 rfl) ?_
  refine lv_iconst (pc := 599) hx hb (v := 1) dL_law_599 (by decide) ?_
  refine lv_iadd (pc := 600) hx hb dL_law_600 ?_
  refine va_sld (pc := 601) hx hb hX hbl hbA hS h1 dL_law_601 ?_
  refine lv_aload_n (pc := 602) hx hb dL_law_602 rfl (lv_at hl 0 rfl) ?_
  refine lv_iload_n (pc := 603) hx hb dL_law_603 rfl (lv_at hl 3 rfl) ?_
  refine lv_iconst (pc := 604) hx hb (v := 2) dL_law_604 (by decide) ?_
  refine lv_iadd (pc := 605) hx hb dL_law_605 ?_
  refine va_sld (pc := 606) hx hb hX hbl hbA hS h2 dL_law_606 ?_
  refine lv_aload_n (pc := 607) hx hb dL_law_607 rfl (lv_at hl 0 rfl) ?_
  refine lv_iload_n (pc := 608) hx hb dL_law_608 rfl (lv_at hl 3 rfl) ?_
  refine lv_iconst (pc := 609) hx hb (v := 3) dL_law_609 (by decide) ?_
  refine lv_iadd (pc := 610) hx hb dL_law_610 ?_
  refine va_sld (pc := 611) hx hb hX hbl hbA hS h3 dL_law_611 ?_
  obtain ⟨zx, zm, hfx, hfm, hrr, hR1⟩ := E X M hR (xs (x3 + 1).toNatClampNeg) (xs (x3 + 2).toNatClampNeg) (xs (x3 + 3).toNatClampNeg)
  refine cl_VF (pc := 612) (a := wX A B X) (r := wM A2 B2 M) (As := [.int (xs (x3 + 1).toNatClampNeg), .int (xs (x3 + 2).toNatClampNeg), .int (xs (x3 + 3).toNatClampNeg)]) (rest := []) hx hb hml hown hts (kX6_right l D A B _ X (xs (x3 + 1).toNatClampNeg) (xs (x3 + 2).toNatClampNeg) (xs (x3 + 3).toNatClampNeg) zx hfx) (cwV 3 hts gwRL_66 rfl rfl rfl hdX6_right ⟨Nat.le_of_ble_eq_true rfl, Nat.le_of_ble_eq_true rfl⟩) hN hKX hP hD hS hA (va_recv hKX hP.left (ci := 6) (q0 := 0) rfl (eX_0 A B X)) rfl hl.1 rfl (Nat.le_of_ble_eq_true rfl) dL_law_612 (st1 := [.long zx]) rfl ⟨Nat.le_of_ble_eq_true rfl, Nat.le_of_ble_eq_true rfl⟩ (fun H locs hP hD hS => ?_)
  refine lv_aload_n (pc := 615) hx hb dL_law_615 rfl (lv_at hl 2 rfl) ?_
  refine lv_aload_n (pc := 616) hx hb dL_law_616 rfl (lv_at hl 0 rfl) ?_
  refine lv_iload_n (pc := 617) hx hb dL_law_617 rfl (lv_at hl 3 rfl) ?_
  refine lv_iconst (pc := 618) hx hb (v := 1) dL_law_618 (by decide) ?_
  refine lv_iadd (pc := 619) hx hb dL_law_619 ?_
  refine va_sld (pc := 620) hx hb hX hbl hbA hS h1 dL_law_620 ?_
  refine lv_aload_n (pc := 621) hx hb dL_law_621 rfl (lv_at hl 0 rfl) ?_
  refine lv_iload_n (pc := 622) hx hb dL_law_622 rfl (lv_at hl 3 rfl) ?_
  refine lv_iconst (pc := 623) hx hb (v := 2) dL_law_623 (by decide) ?_
  refine lv_iadd (pc := 624) hx hb dL_law_624 ?_
  refine va_sld (pc := 625) hx hb hX hbl hbA hS h2 dL_law_625 ?_
  refine lv_aload_n (pc := 626) hx hb dL_law_626 rfl (lv_at hl 0 rfl) ?_
  refine lv_iload_n (pc := 627) hx hb dL_law_627 rfl (lv_at hl 3 rfl) ?_
  refine lv_iconst (pc := 628) hx hb (v := 3) dL_law_628 (by decide) ?_
  refine lv_iadd (pc := 629) hx hb dL_law_629 ?_
  refine va_sld (pc := 630) hx hb hX hbl hbA hS h3 dL_law_630 ?_
  refine cl_VF (pc := 631) (a := wM A2 B2 M) (r := wX A B X) (As := [.int (xs (x3 + 1).toNatClampNeg), .int (xs (x3 + 2).toNatClampNeg), .int (xs (x3 + 3).toNatClampNeg)]) (rest := [.long zx]) hx hb hml hown hts (kX7_right l D A2 B2 _ M (xs (x3 + 1).toNatClampNeg) (xs (x3 + 2).toNatClampNeg) (xs (x3 + 3).toNatClampNeg) zm hfm) (cwV 3 hts gwRL_70 rfl rfl rfl hdX7_right ⟨Nat.le_of_ble_eq_true rfl, Nat.le_of_ble_eq_true rfl⟩) hN hKM hP hD hS hA (va_recv hKM hP.left (ci := 7) (q0 := 0) rfl (eM_0 A2 B2 M)) rfl hl.1 rfl (Nat.le_of_ble_eq_true rfl) dL_law_631 (st1 := [.long zm, .long zx]) rfl ⟨Nat.le_of_ble_eq_true rfl, Nat.le_of_ble_eq_true rfl⟩ (fun H locs hP hD hS => ?_)
  refine W.lcmp (pc := 634) hx hb dL_law_634 ?_
  refine lv_if_eq (pc := 635) hx hb (tgt := 1613) dL_law_635 (by decide) (fun c9 => ?_) (fun c9 => absurd (lg_eq0.mpr hrr) c9)
  exact kk X M H locs ls hR1 hP hD hS hl
set_option maxHeartbeats 4000000 in
set_option maxRecDepth 100000 in
theorem law_12 {p : Program} {l : Launch} {e : Env} {s : State} {m : MethodId} {below : List Frame} {meth : Method} {c : Code} {D : va_G} {A A2 : Nat → Nat} {B B2 : Nat → ClassId} {b L : Nat} {xs : Nat → Int32} {Q : State → Prop} {Rel : w_S → w_S → Prop} (E : E_solution Rel) (C0 : lw_Cx p s m c b L xs D B B2) (x3 : Int32) (h1 : vp_in (x3 + 1) L) (h2 : vp_in (x3 + 2) L) (h3 : vp_in (x3 + 3) L) (h4 : vp_in (x3 + 4) L) (h5 : vp_in (x3 + 5) L) (X M : w_S) (hR : Rel X M) (H : Heap) (locs : List Loc) (ls : Array Slot) (hP : va_P D vwCl (wX A B X ++ wM A2 B2 M) H) (hD : va_D (lw_Ad s) (wX A B X ++ wM A2 B2 M)) (hS : va_S (lw_Ad s) s.heap H locs) (hl : lv_has ls 4 [(0, .ref b), (1, .ref (A 0)), (2, .ref (A2 0)), (3, .int x3)])
    (kk : ∀ (X M : w_S) (H : Heap) (locs : List Loc) (ls : Array Slot), Rel X M → va_P D vwCl (wX A B X ++ wM A2 B2 M) H → va_D (lw_Ad s) (wX A B X ++ wM A2 B2 M) → va_S (lw_Ad s) s.heap H locs → lv_has ls 4 [(0, .ref b), (1, .ref (A 0)), (2, .ref (A2 0)), (3, .int x3)] → W p l e room_1 s m #[.ref b] below meth c H locs lwC lwS Q (F0 m 1613 ls [])) : W p l e room_1 s m #[.ref b] below meth c H locs lwC lwS Q (F0 m 640 ls []) := by
  obtain ⟨hx, hb, hts, hown, hml, hX, hbl, hN, hKX, hKM⟩ := C0
  have hA : ∀ q : Nat, s.heap.size ≤ q → lw_Ad s q := fun _ h => h
  have hbA : ¬ lw_Ad s b := Nat.not_le.mpr hbl
  refine lv_aload_n (pc := 640) hx hb dL_law_640 rfl (lv_at hl 1 rfl) ?_
  refine lv_aload_n (pc := 641) hx hb dL_law_641 rfl (lv_at hl 0 rfl) ?_
  refine lv_iload_n (pc := 642) hx hb dL_law_642 rfl (lv_at hl 3 rfl) ?_
  refine lv_iconst (pc := 643) hx hb (v := 1) dL_law_643 (by decide) ?_
  refine lv_iadd (pc := 644) hx hb dL_law_644 ?_
  refine va_sld (pc := 645) hx hb hX hbl hbA hS h1 dL_law_645 ?_
  refine lv_aload_n (pc := 646) hx hb dL_law_646 rfl (lv_at hl 0 rfl) ?_
  refine lv_iload_n (pc := 647) hx hb dL_law_647 rfl (lv_at hl 3 rfl) ?_
  refine lv_iconst (pc := 648) hx hb (v := 2) dL_law_648 (by decide) ?_
  refine lv_iadd (pc := 649) hx hb dL_law_649 ?_
  refine va_sld (pc := 650) hx hb hX hbl hbA hS h2 dL_law_650 ?_
  refine lv_aload_n (pc := 651) hx hb dL_law_651 rfl (lv_at hl 0 rfl) ?_
  refine lv_iload_n (pc := 652) hx hb dL_law_652 rfl (lv_at hl 3 rfl) ?_
  refine lv_iconst (pc := 653) hx hb (v := 3) dL_law_653 (by decide) ?_
  refine lv_iadd (pc := 654) hx hb dL_law_654 ?_
  refine va_sld (pc := 655) hx hb hX hbl hbA hS h3 dL_law_655 ?_
  refine lv_aload_n (pc := 656) hx hb dL_law_656 rfl (lv_at hl 0 rfl) ?_
  refine lv_iload_n (pc := 657) hx hb dL_law_657 rfl (lv_at hl 3 rfl) ?_
  refine lv_iconst (pc := 658) hx hb (v := 4) dL_law_658 (by decide) ?_
  refine lv_iadd (pc := 659) hx hb dL_law_659 ?_
  refine va_sld (pc := 660) hx hb hX hbl hbA hS h4 dL_law_660 ?_
  obtain ⟨zx, zm, hfx, hfm, hrr, hR1⟩ := E X M hR (xs (x3 + 1).toNatClampNeg) (xs (x3 + 2).toNatClampNeg) (xs (x3 + 3).toNatClampNeg) (xs (x3 + 4).toNatClampNeg)
  refine cl_VF (pc := 661) (a := wX A B X) (r := wM A2 B2 M) (As := [.int (xs (x3 + 1).toNatClampNeg), .int (xs (x3 + 2).toNatClampNeg), .int (xs (x3 + 3).toNatClampNeg), .int (xs (x3 + 4).toNatClampNeg)]) (rest := []) hx hb hml hown hts (kX6_solution l D A B _ X (xs (x3 + 1).toNatClampNeg) (xs (x3 + 2).toNatClampNeg) (xs (x3 + 3).toNatClampNeg) (xs (x3 + 4).toNatClampNeg) zx hfx) (cwV 4 hts gwRL_71 rfl rfl rfl hdX6_solution ⟨Nat.le_of_ble_eq_true rfl, Nat.le_of_ble_eq_true rfl⟩) hN hKX hP hD hS hA (va_recv hKX hP.left (ci := 6) (q0 := 0) rfl (eX_0 A B X)) rfl hl.1 rfl (Nat.le_of_ble_eq_true rfl) dL_law_661 (st1 := [.long zx.1]) rfl ⟨Nat.le_of_ble_eq_true rfl, Nat.le_of_ble_eq_true rfl⟩ (fun H locs hP hD hS => ?_)
  refine lv_aload_n (pc := 664) hx hb dL_law_664 rfl (lv_at hl 2 rfl) ?_
  refine lv_aload_n (pc := 665) hx hb dL_law_665 rfl (lv_at hl 0 rfl) ?_
  refine lv_iload_n (pc := 666) hx hb dL_law_666 rfl (lv_at hl 3 rfl) ?_
  refine lv_iconst (pc := 667) hx hb (v := 1) dL_law_667 (by decide) ?_
  refine lv_iadd (pc := 668) hx hb dL_law_668 ?_
  refine va_sld (pc := 669) hx hb hX hbl hbA hS h1 dL_law_669 ?_
  refine lv_aload_n (pc := 670) hx hb dL_law_670 rfl (lv_at hl 0 rfl) ?_
  refine lv_iload_n (pc := 671) hx hb dL_law_671 rfl (lv_at hl 3 rfl) ?_
  refine lv_iconst (pc := 672) hx hb (v := 2) dL_law_672 (by decide) ?_
  refine lv_iadd (pc := 673) hx hb dL_law_673 ?_
  refine va_sld (pc := 674) hx hb hX hbl hbA hS h2 dL_law_674 ?_
  refine lv_aload_n (pc := 675) hx hb dL_law_675 rfl (lv_at hl 0 rfl) ?_
  refine lv_iload_n (pc := 676) hx hb dL_law_676 rfl (lv_at hl 3 rfl) ?_
  refine lv_iconst (pc := 677) hx hb (v := 3) dL_law_677 (by decide) ?_
  refine lv_iadd (pc := 678) hx hb dL_law_678 ?_
  refine va_sld (pc := 679) hx hb hX hbl hbA hS h3 dL_law_679 ?_
  refine lv_aload_n (pc := 680) hx hb dL_law_680 rfl (lv_at hl 0 rfl) ?_
  refine lv_iload_n (pc := 681) hx hb dL_law_681 rfl (lv_at hl 3 rfl) ?_
  refine lv_iconst (pc := 682) hx hb (v := 4) dL_law_682 (by decide) ?_
  refine lv_iadd (pc := 683) hx hb dL_law_683 ?_
  refine va_sld (pc := 684) hx hb hX hbl hbA hS h4 dL_law_684 ?_
  refine cl_VF (pc := 685) (a := wM A2 B2 M) (r := wX A B zx.2) (As := [.int (xs (x3 + 1).toNatClampNeg), .int (xs (x3 + 2).toNatClampNeg), .int (xs (x3 + 3).toNatClampNeg), .int (xs (x3 + 4).toNatClampNeg)]) (rest := [.long zx.1]) hx hb hml hown hts (kX7_solution l D A2 B2 _ M (xs (x3 + 1).toNatClampNeg) (xs (x3 + 2).toNatClampNeg) (xs (x3 + 3).toNatClampNeg) (xs (x3 + 4).toNatClampNeg) zm hfm) (cwV 4 hts gwRL_75 rfl rfl rfl hdX7_solution ⟨Nat.le_of_ble_eq_true rfl, Nat.le_of_ble_eq_true rfl⟩) hN hKM hP hD hS hA (va_recv hKM hP.left (ci := 7) (q0 := 0) rfl (eM_0 A2 B2 M)) rfl hl.1 rfl (Nat.le_of_ble_eq_true rfl) dL_law_685 (st1 := [.long zm.1, .long zx.1]) rfl ⟨Nat.le_of_ble_eq_true rfl, Nat.le_of_ble_eq_true rfl⟩ (fun H locs hP hD hS => ?_)
  refine W.lcmp (pc := 688) hx hb dL_law_688 ?_
  refine lv_if_eq (pc := 689) hx hb (tgt := 1613) dL_law_689 (by decide) (fun c9 => ?_) (fun c9 => absurd (lg_eq0.mpr hrr) c9)
  exact kk zx.2 zm.2 H locs ls hR1 hP hD hS hl
set_option maxHeartbeats 4000000 in
set_option maxRecDepth 100000 in
theorem law_13 {p : Program} {l : Launch} {e : Env} {s : State} {m : MethodId} {below : List Frame} {meth : Method} {c : Code} {D : va_G} {A A2 : Nat → Nat} {B B2 : Nat → ClassId} {b L : Nat} {xs : Nat → Int32} {Q : State → Prop} {Rel : w_S → w_S → Prop} (E : E_base Rel) (C0 : lw_Cx p s m c b L xs D B B2) (x3 : Int32) (h1 : vp_in (x3 + 1) L) (h2 : vp_in (x3 + 2) L) (h3 : vp_in (x3 + 3) L) (h4 : vp_in (x3 + 4) L) (h5 : vp_in (x3 + 5) L) (X M : w_S) (hR : Rel X M) (H : Heap) (locs : List Loc) (ls : Array Slot) (hP : va_P D vwCl (wX A B X ++ wM A2 B2 M) H) (hD : va_D (lw_Ad s) (wX A B X ++ wM A2 B2 M)) (hS : va_S (lw_Ad s) s.heap H locs) (hl : lv_has ls 4 [(0, .ref b), (1, .ref (A 0)), (2, .ref (A2 0)), (3, .int x3)])
    (kk : ∀ (X M : w_S) (H : Heap) (locs : List Loc) (ls : Array Slot), Rel X M → va_P D vwCl (wX A B X ++ wM A2 B2 M) H → va_D (lw_Ad s) (wX A B X ++ wM A2 B2 M) → va_S (lw_Ad s) s.heap H locs → lv_has ls 4 [(0, .ref b), (1, .ref (A 0)), (2, .ref (A2 0)), (3, .int x3)] → W p l e room_1 s m #[.ref b] below meth c H locs lwC lwS Q (F0 m 1613 ls [])) : W p l e room_1 s m #[.ref b] below meth c H locs lwC lwS Q (F0 m 694 ls []) := by
  obtain ⟨hx, hb, hts, hown, hml, hX, hbl, hN, hKX, hKM⟩ := C0
  have hA : ∀ q : Nat, s.heap.size ≤ q → lw_Ad s q := fun _ h => h
  have hbA : ¬ lw_Ad s b := Nat.not_le.mpr hbl
  refine lv_aload_n (pc := 694) hx hb dL_law_694 rfl (lv_at hl 1 rfl) ?_
  refine lv_aload_n (pc := 695) hx hb dL_law_695 rfl (lv_at hl 0 rfl) ?_
  refine lv_iload_n (pc := 696) hx hb dL_law_696 rfl (lv_at hl 3 rfl) ?_
  refine lv_iconst (pc := 697) hx hb (v := 1) dL_law_697 (by decide) ?_
  refine lv_iadd (pc := 698) hx hb dL_law_698 ?_
  refine va_sld (pc := 699) hx hb hX hbl hbA hS h1 dL_law_699 ?_
  refine lv_aload_n (pc := 700) hx hb dL_law_700 rfl (lv_at hl 0 rfl) ?_
  refine lv_iload_n (pc := 701) hx hb dL_law_701 rfl (lv_at hl 3 rfl) ?_
  refine lv_iconst (pc := 702) hx hb (v := 2) dL_law_702 (by decide) ?_
  refine lv_iadd (pc := 703) hx hb dL_law_703 ?_
  refine va_sld (pc := 704) hx hb hX hbl hbA hS h2 dL_law_704 ?_
  refine lv_aload_n (pc := 705) hx hb dL_law_705 rfl (lv_at hl 0 rfl) ?_
  refine lv_iload_n (pc := 706) hx hb dL_law_706 rfl (lv_at hl 3 rfl) ?_
  refine lv_iconst (pc := 707) hx hb (v := 3) dL_law_707 (by decide) ?_
  refine lv_iadd (pc := 708) hx hb dL_law_708 ?_
  refine va_sld (pc := 709) hx hb hX hbl hbA hS h3 dL_law_709 ?_
  refine lv_aload_n (pc := 710) hx hb dL_law_710 rfl (lv_at hl 0 rfl) ?_
  refine lv_iload_n (pc := 711) hx hb dL_law_711 rfl (lv_at hl 3 rfl) ?_
  refine lv_iconst (pc := 712) hx hb (v := 4) dL_law_712 (by decide) ?_
  refine lv_iadd (pc := 713) hx hb dL_law_713 ?_
  refine va_sld (pc := 714) hx hb hX hbl hbA hS h4 dL_law_714 ?_
  refine lv_aload_n (pc := 715) hx hb dL_law_715 rfl (lv_at hl 0 rfl) ?_
  refine lv_iload_n (pc := 716) hx hb dL_law_716 rfl (lv_at hl 3 rfl) ?_
  refine lv_iconst (pc := 717) hx hb (v := 5) dL_law_717 (by decide) ?_
  refine lv_iadd (pc := 718) hx hb dL_law_718 ?_
  refine va_sld (pc := 719) hx hb hX hbl hbA hS h5 dL_law_719 ?_
  obtain ⟨zx, zm, hfx, hfm, hrr, hR1⟩ := E X M hR (xs (x3 + 1).toNatClampNeg) (xs (x3 + 2).toNatClampNeg) (xs (x3 + 3).toNatClampNeg) (xs (x3 + 4).toNatClampNeg) (xs (x3 + 5).toNatClampNeg)
  refine cl_VF (pc := 720) (a := wX A B X) (r := wM A2 B2 M) (As := [.int (xs (x3 + 1).toNatClampNeg), .int (xs (x3 + 2).toNatClampNeg), .int (xs (x3 + 3).toNatClampNeg), .int (xs (x3 + 4).toNatClampNeg), .int (xs (x3 + 5).toNatClampNeg)]) (rest := []) hx hb hml hown hts (kX6_base l D A B _ X (xs (x3 + 1).toNatClampNeg) (xs (x3 + 2).toNatClampNeg) (xs (x3 + 3).toNatClampNeg) (xs (x3 + 4).toNatClampNeg) (xs (x3 + 5).toNatClampNeg) zx hfx) (cwV 5 hts gwRL_76 rfl rfl rfl hdX6_base ⟨Nat.le_of_ble_eq_true rfl, Nat.le_of_ble_eq_true rfl⟩) hN hKX hP hD hS hA (va_recv hKX hP.left (ci := 6) (q0 := 0) rfl (eX_0 A B X)) rfl hl.1 rfl (Nat.le_of_ble_eq_true rfl) dL_law_720 (st1 := [.long zx.1]) rfl ⟨Nat.le_of_ble_eq_true rfl, Nat.le_of_ble_eq_true rfl⟩ (fun H locs hP hD hS => ?_)
  refine lv_aload_n (pc := 723) hx hb dL_law_723 rfl (lv_at hl 2 rfl) ?_
  refine lv_aload_n (pc := 724) hx hb dL_law_724 rfl (lv_at hl 0 rfl) ?_
  refine lv_iload_n (pc := 725) hx hb dL_law_725 rfl (lv_at hl 3 rfl) ?_
  refine lv_iconst (pc := 726) hx hb (v := 1) dL_law_726 (by decide) ?_
  refine lv_iadd (pc := 727) hx hb dL_law_727 ?_
  refine va_sld (pc := 728) hx hb hX hbl hbA hS h1 dL_law_728 ?_
  refine lv_aload_n (pc := 729) hx hb dL_law_729 rfl (lv_at hl 0 rfl) ?_
  refine lv_iload_n (pc := 730) hx hb dL_law_730 rfl (lv_at hl 3 rfl) ?_
  refine lv_iconst (pc := 731) hx hb (v := 2) dL_law_731 (by decide) ?_
  refine lv_iadd (pc := 732) hx hb dL_law_732 ?_
  refine va_sld (pc := 733) hx hb hX hbl hbA hS h2 dL_law_733 ?_
  refine lv_aload_n (pc := 734) hx hb dL_law_734 rfl (lv_at hl 0 rfl) ?_
  refine lv_iload_n (pc := 735) hx hb dL_law_735 rfl (lv_at hl 3 rfl) ?_
  refine lv_iconst (pc := 736) hx hb (v := 3) dL_law_736 (by decide) ?_
  refine lv_iadd (pc := 737) hx hb dL_law_737 ?_
  refine va_sld (pc := 738) hx hb hX hbl hbA hS h3 dL_law_738 ?_
  refine lv_aload_n (pc := 739) hx hb dL_law_739 rfl (lv_at hl 0 rfl) ?_
  refine lv_iload_n (pc := 740) hx hb dL_law_740 rfl (lv_at hl 3 rfl) ?_
  refine lv_iconst (pc := 741) hx hb (v := 4) dL_law_741 (by decide) ?_
  refine lv_iadd (pc := 742) hx hb dL_law_742 ?_
  refine va_sld (pc := 743) hx hb hX hbl hbA hS h4 dL_law_743 ?_
  refine lv_aload_n (pc := 744) hx hb dL_law_744 rfl (lv_at hl 0 rfl) ?_
  refine lv_iload_n (pc := 745) hx hb dL_law_745 rfl (lv_at hl 3 rfl) ?_
  refine lv_iconst (pc := 746) hx hb (v := 5) dL_law_746 (by decide) ?_
  refine lv_iadd (pc := 747) hx hb dL_law_747 ?_
  refine va_sld (pc := 748) hx hb hX hbl hbA hS h5 dL_law_748 ?_
  refine cl_VF (pc := 749) (a := wM A2 B2 M) (r := wX A B zx.2) (As := [.int (xs (x3 + 1).toNatClampNeg), .int (xs (x3 + 2).toNatClampNeg), .int (xs (x3 + 3).toNatClampNeg), .int (xs (x3 + 4).toNatClampNeg), .int (xs (x3 + 5).toNatClampNeg)]) (rest := [.long zx.1]) hx hb hml hown hts (kX7_base l D A2 B2 _ M (xs (x3 + 1).toNatClampNeg) (xs (x3 + 2).toNatClampNeg) (xs (x3 + 3).toNatClampNeg) (xs (x3 + 4).toNatClampNeg) (xs (x3 + 5).toNatClampNeg) zm hfm) (cwV 5 hts gwRL_80 rfl rfl rfl hdX7_base ⟨Nat.le_of_ble_eq_true rfl, Nat.le_of_ble_eq_true rfl⟩) hN hKM hP hD hS hA (va_recv hKM hP.left (ci := 7) (q0 := 0) rfl (eM_0 A2 B2 M)) rfl hl.1 rfl (Nat.le_of_ble_eq_true rfl) dL_law_749 (st1 := [.long zm.1, .long zx.1]) rfl ⟨Nat.le_of_ble_eq_true rfl, Nat.le_of_ble_eq_true rfl⟩ (fun H locs hP hD hS => ?_)
  refine W.lcmp (pc := 752) hx hb dL_law_752 ?_
  refine lv_if_eq (pc := 753) hx hb (tgt := 1613) dL_law_753 (by decide) (fun c9 => ?_) (fun c9 => absurd (lg_eq0.mpr hrr) c9)
  exact kk zx.2 zm.2 H locs ls hR1 hP hD hS hl
set_option maxHeartbeats 4000000 in
set_option maxRecDepth 100000 in
theorem law_14 {p : Program} {l : Launch} {e : Env} {s : State} {m : MethodId} {below : List Frame} {meth : Method} {c : Code} {D : va_G} {A A2 : Nat → Nat} {B B2 : Nat → ClassId} {b L : Nat} {xs : Nat → Int32} {Q : State → Prop} {Rel : w_S → w_S → Prop} (E : E_witness Rel) (C0 : lw_Cx p s m c b L xs D B B2) (x3 : Int32) (h1 : vp_in (x3 + 1) L) (h2 : vp_in (x3 + 2) L) (h3 : vp_in (x3 + 3) L) (h4 : vp_in (x3 + 4) L) (h5 : vp_in (x3 + 5) L) (X M : w_S) (hR : Rel X M) (H : Heap) (locs : List Loc) (ls : Array Slot) (hP : va_P D vwCl (wX A B X ++ wM A2 B2 M) H) (hD : va_D (lw_Ad s) (wX A B X ++ wM A2 B2 M)) (hS : va_S (lw_Ad s) s.heap H locs) (hl : lv_has ls 4 [(0, .ref b), (1, .ref (A 0)), (2, .ref (A2 0)), (3, .int x3)])
    (kk : ∀ (X M : w_S) (H : Heap) (locs : List Loc) (ls : Array Slot), Rel X M → va_P D vwCl (wX A B X ++ wM A2 B2 M) H → va_D (lw_Ad s) (wX A B X ++ wM A2 B2 M) → va_S (lw_Ad s) s.heap H locs → lv_has ls 4 [(0, .ref b), (1, .ref (A 0)), (2, .ref (A2 0)), (3, .int x3)] → W p l e room_1 s m #[.ref b] below meth c H locs lwC lwS Q (F0 m 1613 ls [])) : W p l e room_1 s m #[.ref b] below meth c H locs lwC lwS Q (F0 m 758 ls []) := by
  obtain ⟨hx, hb, hts, hown, hml, hX, hbl, hN, hKX, hKM⟩ := C0
  have hA : ∀ q : Nat, s.heap.size ≤ q → lw_Ad s q := fun _ h => h
  have hbA : ¬ lw_Ad s b := Nat.not_le.mpr hbl
  refine lv_aload_n (pc := 758) hx hb dL_law_758 rfl (lv_at hl 1 rfl) ?_
  refine lv_aload_n (pc := 759) hx hb dL_law_759 rfl (lv_at hl 0 rfl) ?_
  refine lv_iload_n (pc := 760) hx hb dL_law_760 rfl (lv_at hl 3 rfl) ?_
  refine lv_iconst (pc := 761) hx hb (v := 1) dL_law_761 (by decide) ?_
  refine lv_iadd (pc := 762) hx hb dL_law_762 ?_
  refine va_sld (pc := 763) hx hb hX hbl hbA hS h1 dL_law_763 ?_
  refine lv_aload_n (pc := 764) hx hb dL_law_764 rfl (lv_at hl 0 rfl) ?_
  refine lv_iload_n (pc := 765) hx hb dL_law_765 rfl (lv_at hl 3 rfl) ?_
  refine lv_iconst (pc := 766) hx hb (v := 2) dL_law_766 (by decide) ?_
  refine lv_iadd (pc := 767) hx hb dL_law_767 ?_
  refine va_sld (pc := 768) hx hb hX hbl hbA hS h2 dL_law_768 ?_
  refine lv_aload_n (pc := 769) hx hb dL_law_769 rfl (lv_at hl 0 rfl) ?_
  refine lv_iload_n (pc := 770) hx hb dL_law_770 rfl (lv_at hl 3 rfl) ?_
  refine lv_iconst (pc := 771) hx hb (v := 3) dL_law_771 (by decide) ?_
  refine lv_iadd (pc := 772) hx hb dL_law_772 ?_
  refine va_sld (pc := 773) hx hb hX hbl hbA hS h3 dL_law_773 ?_
  refine lv_aload_n (pc := 774) hx hb dL_law_774 rfl (lv_at hl 0 rfl) ?_
  refine lv_iload_n (pc := 775) hx hb dL_law_775 rfl (lv_at hl 3 rfl) ?_
  refine lv_iconst (pc := 776) hx hb (v := 4) dL_law_776 (by decide) ?_
  refine lv_iadd (pc := 777) hx hb dL_law_777 ?_
  refine va_sld (pc := 778) hx hb hX hbl hbA hS h4 dL_law_778 ?_
  obtain ⟨zx, zm, hfx, hfm, hrr, hR1⟩ := E X M hR (xs (x3 + 1).toNatClampNeg) (xs (x3 + 2).toNatClampNeg) (xs (x3 + 3).toNatClampNeg) (xs (x3 + 4).toNatClampNeg)
  refine cl_VF (pc := 779) (a := wX A B X) (r := wM A2 B2 M) (As := [.int (xs (x3 + 1).toNatClampNeg), .int (xs (x3 + 2).toNatClampNeg), .int (xs (x3 + 3).toNatClampNeg), .int (xs (x3 + 4).toNatClampNeg)]) (rest := []) hx hb hml hown hts (kX6_witness l D A B _ X (xs (x3 + 1).toNatClampNeg) (xs (x3 + 2).toNatClampNeg) (xs (x3 + 3).toNatClampNeg) (xs (x3 + 4).toNatClampNeg) zx hfx) (cwV 4 hts gwRL_81 rfl rfl rfl hdX6_witness ⟨Nat.le_of_ble_eq_true rfl, Nat.le_of_ble_eq_true rfl⟩) hN hKX hP hD hS hA (va_recv hKX hP.left (ci := 6) (q0 := 0) rfl (eX_0 A B X)) rfl hl.1 rfl (Nat.le_of_ble_eq_true rfl) dL_law_779 (st1 := [.long zx.1]) rfl ⟨Nat.le_of_ble_eq_true rfl, Nat.le_of_ble_eq_true rfl⟩ (fun H locs hP hD hS => ?_)
  refine lv_aload_n (pc := 782) hx hb dL_law_782 rfl (lv_at hl 2 rfl) ?_
  refine lv_aload_n (pc := 783) hx hb dL_law_783 rfl (lv_at hl 0 rfl) ?_
  refine lv_iload_n (pc := 784) hx hb dL_law_784 rfl (lv_at hl 3 rfl) ?_
  refine lv_iconst (pc := 785) hx hb (v := 1) dL_law_785 (by decide) ?_
  refine lv_iadd (pc := 786) hx hb dL_law_786 ?_
  refine va_sld (pc := 787) hx hb hX hbl hbA hS h1 dL_law_787 ?_
  refine lv_aload_n (pc := 788) hx hb dL_law_788 rfl (lv_at hl 0 rfl) ?_
  refine lv_iload_n (pc := 789) hx hb dL_law_789 rfl (lv_at hl 3 rfl) ?_
  refine lv_iconst (pc := 790) hx hb (v := 2) dL_law_790 (by decide) ?_
  refine lv_iadd (pc := 791) hx hb dL_law_791 ?_
  refine va_sld (pc := 792) hx hb hX hbl hbA hS h2 dL_law_792 ?_
  refine lv_aload_n (pc := 793) hx hb dL_law_793 rfl (lv_at hl 0 rfl) ?_
  refine lv_iload_n (pc := 794) hx hb dL_law_794 rfl (lv_at hl 3 rfl) ?_
  refine lv_iconst (pc := 795) hx hb (v := 3) dL_law_795 (by decide) ?_
  refine lv_iadd (pc := 796) hx hb dL_law_796 ?_
  refine va_sld (pc := 797) hx hb hX hbl hbA hS h3 dL_law_797 ?_
  refine lv_aload_n (pc := 798) hx hb dL_law_798 rfl (lv_at hl 0 rfl) ?_
  refine lv_iload_n (pc := 799) hx hb dL_law_799 rfl (lv_at hl 3 rfl) ?_
  refine lv_iconst (pc := 800) hx hb (v := 4) dL_law_800 (by decide) ?_
  refine lv_iadd (pc := 801) hx hb dL_law_801 ?_
  refine va_sld (pc := 802) hx hb hX hbl hbA hS h4 dL_law_802 ?_
  refine cl_VF (pc := 803) (a := wM A2 B2 M) (r := wX A B zx.2) (As := [.int (xs (x3 + 1).toNatClampNeg), .int (xs (x3 + 2).toNatClampNeg), .int (xs (x3 + 3).toNatClampNeg), .int (xs (x3 + 4).toNatClampNeg)]) (rest := [.long zx.1]) hx hb hml hown hts (kX7_witness l D A2 B2 _ M (xs (x3 + 1).toNatClampNeg) (xs (x3 + 2).toNatClampNeg) (xs (x3 + 3).toNatClampNeg) (xs (x3 + 4).toNatClampNeg) zm hfm) (cwV 4 hts gwRL_84 rfl rfl rfl hdX7_witness ⟨Nat.le_of_ble_eq_true rfl, Nat.le_of_ble_eq_true rfl⟩) hN hKM hP hD hS hA (va_recv hKM hP.left (ci := 7) (q0 := 0) rfl (eM_0 A2 B2 M)) rfl hl.1 rfl (Nat.le_of_ble_eq_true rfl) dL_law_803 (st1 := [.long zm.1, .long zx.1]) rfl ⟨Nat.le_of_ble_eq_true rfl, Nat.le_of_ble_eq_true rfl⟩ (fun H locs hP hD hS => ?_)
  refine W.lcmp (pc := 806) hx hb dL_law_806 ?_
  refine lv_if_eq (pc := 807) hx hb (tgt := 1613) dL_law_807 (by decide) (fun c9 => ?_) (fun c9 => absurd (lg_eq0.mpr hrr) c9)
  exact kk zx.2 zm.2 H locs ls hR1 hP hD hS hl
set_option maxHeartbeats 4000000 in
set_option maxRecDepth 100000 in
theorem law_15 {p : Program} {l : Launch} {e : Env} {s : State} {m : MethodId} {below : List Frame} {meth : Method} {c : Code} {D : va_G} {A A2 : Nat → Nat} {B B2 : Nat → ClassId} {b L : Nat} {xs : Nat → Int32} {Q : State → Prop} {Rel : w_S → w_S → Prop} (E : E_similar Rel) (C0 : lw_Cx p s m c b L xs D B B2) (x3 : Int32) (h1 : vp_in (x3 + 1) L) (h2 : vp_in (x3 + 2) L) (h3 : vp_in (x3 + 3) L) (h4 : vp_in (x3 + 4) L) (h5 : vp_in (x3 + 5) L) (X M : w_S) (hR : Rel X M) (H : Heap) (locs : List Loc) (ls : Array Slot) (hP : va_P D vwCl (wX A B X ++ wM A2 B2 M) H) (hD : va_D (lw_Ad s) (wX A B X ++ wM A2 B2 M)) (hS : va_S (lw_Ad s) s.heap H locs) (hl : lv_has ls 4 [(0, .ref b), (1, .ref (A 0)), (2, .ref (A2 0)), (3, .int x3)])
    (kk : ∀ (X M : w_S) (H : Heap) (locs : List Loc) (ls : Array Slot), Rel X M → va_P D vwCl (wX A B X ++ wM A2 B2 M) H → va_D (lw_Ad s) (wX A B X ++ wM A2 B2 M) → va_S (lw_Ad s) s.heap H locs → lv_has ls 4 [(0, .ref b), (1, .ref (A 0)), (2, .ref (A2 0)), (3, .int x3)] → W p l e room_1 s m #[.ref b] below meth c H locs lwC lwS Q (F0 m 1613 ls [])) : W p l e room_1 s m #[.ref b] below meth c H locs lwC lwS Q (F0 m 812 ls []) := by
  obtain ⟨hx, hb, hts, hown, hml, hX, hbl, hN, hKX, hKM⟩ := C0
  have hA : ∀ q : Nat, s.heap.size ≤ q → lw_Ad s q := fun _ h => h
  have hbA : ¬ lw_Ad s b := Nat.not_le.mpr hbl
  refine lv_aload_n (pc := 812) hx hb dL_law_812 rfl (lv_at hl 1 rfl) ?_
  refine lv_aload_n (pc := 813) hx hb dL_law_813 rfl (lv_at hl 0 rfl) ?_
  refine lv_iload_n (pc := 814) hx hb dL_law_814 rfl (lv_at hl 3 rfl) ?_
  refine lv_iconst (pc := 815) hx hb (v := 1) dL_law_815 (by decide) ?_
  refine lv_iadd (pc := 816) hx hb dL_law_816 ?_
  refine va_sld (pc := 817) hx hb hX hbl hbA hS h1 dL_law_817 ?_
  obtain ⟨zx, zm, hfx, hfm, hrr, hR1⟩ := E X M hR (xs (x3 + 1).toNatClampNeg)
  refine cl_VF (pc := 818) (a := wX A B X) (r := wM A2 B2 M) (As := [.int (xs (x3 + 1).toNatClampNeg)]) (rest := []) hx hb hml hown hts (kX6_similar l D A B _ X (xs (x3 + 1).toNatClampNeg) zx hfx) (cwV 1 hts gwRL_85 rfl rfl rfl hdX6_similar ⟨Nat.le_of_ble_eq_true rfl, Nat.le_of_ble_eq_true rfl⟩) hN hKX hP hD hS hA (va_recv hKX hP.left (ci := 6) (q0 := 0) rfl (eX_0 A B X)) rfl hl.1 rfl (Nat.le_of_ble_eq_true rfl) dL_law_818 (st1 := [.int zx.1]) rfl ⟨Nat.le_of_ble_eq_true rfl, Nat.le_of_ble_eq_true rfl⟩ (fun H locs hP hD hS => ?_)
  refine lv_aload_n (pc := 821) hx hb dL_law_821 rfl (lv_at hl 2 rfl) ?_
  refine lv_aload_n (pc := 822) hx hb dL_law_822 rfl (lv_at hl 0 rfl) ?_
  refine lv_iload_n (pc := 823) hx hb dL_law_823 rfl (lv_at hl 3 rfl) ?_
  refine lv_iconst (pc := 824) hx hb (v := 1) dL_law_824 (by decide) ?_
  refine lv_iadd (pc := 825) hx hb dL_law_825 ?_
  refine va_sld (pc := 826) hx hb hX hbl hbA hS h1 dL_law_826 ?_
  refine cl_VF (pc := 827) (a := wM A2 B2 M) (r := wX A B zx.2) (As := [.int (xs (x3 + 1).toNatClampNeg)]) (rest := [.int zx.1]) hx hb hml hown hts (kX7_similar l D A2 B2 _ M (xs (x3 + 1).toNatClampNeg) zm hfm) (cwV 1 hts gwRL_89 rfl rfl rfl hdX7_similar ⟨Nat.le_of_ble_eq_true rfl, Nat.le_of_ble_eq_true rfl⟩) hN hKM hP hD hS hA (va_recv hKM hP.left (ci := 7) (q0 := 0) rfl (eM_0 A2 B2 M)) rfl hl.1 rfl (Nat.le_of_ble_eq_true rfl) dL_law_827 (st1 := [.int zm.1, .int zx.1]) rfl ⟨Nat.le_of_ble_eq_true rfl, Nat.le_of_ble_eq_true rfl⟩ (fun H locs hP hD hS => ?_)
  refine lv_icmp_eq (pc := 830) hx hb (tgt := 1613) dL_law_830 (by decide) (fun c9 => ?_) (fun c9 => absurd hrr c9)
  exact kk zx.2 zm.2 H locs ls hR1 hP hD hS hl
set_option maxHeartbeats 4000000 in
set_option maxRecDepth 100000 in
theorem law_16 {p : Program} {l : Launch} {e : Env} {s : State} {m : MethodId} {below : List Frame} {meth : Method} {c : Code} {D : va_G} {A A2 : Nat → Nat} {B B2 : Nat → ClassId} {b L : Nat} {xs : Nat → Int32} {Q : State → Prop} {Rel : w_S → w_S → Prop} (E : E_whole Rel) (C0 : lw_Cx p s m c b L xs D B B2) (x3 : Int32) (h1 : vp_in (x3 + 1) L) (h2 : vp_in (x3 + 2) L) (h3 : vp_in (x3 + 3) L) (h4 : vp_in (x3 + 4) L) (h5 : vp_in (x3 + 5) L) (X M : w_S) (hR : Rel X M) (H : Heap) (locs : List Loc) (ls : Array Slot) (hP : va_P D vwCl (wX A B X ++ wM A2 B2 M) H) (hD : va_D (lw_Ad s) (wX A B X ++ wM A2 B2 M)) (hS : va_S (lw_Ad s) s.heap H locs) (hl : lv_has ls 4 [(0, .ref b), (1, .ref (A 0)), (2, .ref (A2 0)), (3, .int x3)])
    (kk : ∀ (X M : w_S) (H : Heap) (locs : List Loc) (ls : Array Slot), Rel X M → va_P D vwCl (wX A B X ++ wM A2 B2 M) H → va_D (lw_Ad s) (wX A B X ++ wM A2 B2 M) → va_S (lw_Ad s) s.heap H locs → lv_has ls 4 [(0, .ref b), (1, .ref (A 0)), (2, .ref (A2 0)), (3, .int x3)] → W p l e room_1 s m #[.ref b] below meth c H locs lwC lwS Q (F0 m 1613 ls [])) : W p l e room_1 s m #[.ref b] below meth c H locs lwC lwS Q (F0 m 835 ls []) := by
  obtain ⟨hx, hb, hts, hown, hml, hX, hbl, hN, hKX, hKM⟩ := C0
  have hA : ∀ q : Nat, s.heap.size ≤ q → lw_Ad s q := fun _ h => h
  have hbA : ¬ lw_Ad s b := Nat.not_le.mpr hbl
  refine lv_aload_n (pc := 835) hx hb dL_law_835 rfl (lv_at hl 1 rfl) ?_
  refine lv_aload_n (pc := 836) hx hb dL_law_836 rfl (lv_at hl 0 rfl) ?_
  refine lv_iload_n (pc := 837) hx hb dL_law_837 rfl (lv_at hl 3 rfl) ?_
  refine lv_iconst (pc := 838) hx hb (v := 1) dL_law_838 (by decide) ?_
  refine lv_iadd (pc := 839) hx hb dL_law_839 ?_
  refine va_sld (pc := 840) hx hb hX hbl hbA hS h1 dL_law_840 ?_
  obtain ⟨zx, zm, hfx, hfm, hrr, hR1⟩ := E X M hR (xs (x3 + 1).toNatClampNeg)
  refine cl_VF (pc := 841) (a := wX A B X) (r := wM A2 B2 M) (As := [.int (xs (x3 + 1).toNatClampNeg)]) (rest := []) hx hb hml hown hts (kX6_whole l D A B _ X (xs (x3 + 1).toNatClampNeg) zx hfx) (cwV 1 hts gwRL_90 rfl rfl rfl hdX6_whole ⟨Nat.le_of_ble_eq_true rfl, Nat.le_of_ble_eq_true rfl⟩) hN hKX hP hD hS hA (va_recv hKX hP.left (ci := 6) (q0 := 0) rfl (eX_0 A B X)) rfl hl.1 rfl (Nat.le_of_ble_eq_true rfl) dL_law_841 (st1 := [.long zx.1]) rfl ⟨Nat.le_of_ble_eq_true rfl, Nat.le_of_ble_eq_true rfl⟩ (fun H locs hP hD hS => ?_)
  refine lv_aload_n (pc := 844) hx hb dL_law_844 rfl (lv_at hl 2 rfl) ?_
  refine lv_aload_n (pc := 845) hx hb dL_law_845 rfl (lv_at hl 0 rfl) ?_
  refine lv_iload_n (pc := 846) hx hb dL_law_846 rfl (lv_at hl 3 rfl) ?_
  refine lv_iconst (pc := 847) hx hb (v := 1) dL_law_847 (by decide) ?_
  refine lv_iadd (pc := 848) hx hb dL_law_848 ?_
  refine va_sld (pc := 849) hx hb hX hbl hbA hS h1 dL_law_849 ?_
  refine cl_VF (pc := 850) (a := wM A2 B2 M) (r := wX A B zx.2) (As := [.int (xs (x3 + 1).toNatClampNeg)]) (rest := [.long zx.1]) hx hb hml hown hts (kX7_whole l D A2 B2 _ M (xs (x3 + 1).toNatClampNeg) zm hfm) (cwV 1 hts gwRL_93 rfl rfl rfl hdX7_whole ⟨Nat.le_of_ble_eq_true rfl, Nat.le_of_ble_eq_true rfl⟩) hN hKM hP hD hS hA (va_recv hKM hP.left (ci := 7) (q0 := 0) rfl (eM_0 A2 B2 M)) rfl hl.1 rfl (Nat.le_of_ble_eq_true rfl) dL_law_850 (st1 := [.long zm.1, .long zx.1]) rfl ⟨Nat.le_of_ble_eq_true rfl, Nat.le_of_ble_eq_true rfl⟩ (fun H locs hP hD hS => ?_)
  refine W.lcmp (pc := 853) hx hb dL_law_853 ?_
  refine lv_if_eq (pc := 854) hx hb (tgt := 1613) dL_law_854 (by decide) (fun c9 => ?_) (fun c9 => absurd (lg_eq0.mpr hrr) c9)
  exact kk zx.2 zm.2 H locs ls hR1 hP hD hS hl
set_option maxHeartbeats 4000000 in
set_option maxRecDepth 100000 in
theorem law_17 {p : Program} {l : Launch} {e : Env} {s : State} {m : MethodId} {below : List Frame} {meth : Method} {c : Code} {D : va_G} {A A2 : Nat → Nat} {B B2 : Nat → ClassId} {b L : Nat} {xs : Nat → Int32} {Q : State → Prop} {Rel : w_S → w_S → Prop} (E : E_lower Rel) (C0 : lw_Cx p s m c b L xs D B B2) (x3 : Int32) (h1 : vp_in (x3 + 1) L) (h2 : vp_in (x3 + 2) L) (h3 : vp_in (x3 + 3) L) (h4 : vp_in (x3 + 4) L) (h5 : vp_in (x3 + 5) L) (X M : w_S) (hR : Rel X M) (H : Heap) (locs : List Loc) (ls : Array Slot) (hP : va_P D vwCl (wX A B X ++ wM A2 B2 M) H) (hD : va_D (lw_Ad s) (wX A B X ++ wM A2 B2 M)) (hS : va_S (lw_Ad s) s.heap H locs) (hl : lv_has ls 4 [(0, .ref b), (1, .ref (A 0)), (2, .ref (A2 0)), (3, .int x3)])
    (kk : ∀ (X M : w_S) (H : Heap) (locs : List Loc) (ls : Array Slot), Rel X M → va_P D vwCl (wX A B X ++ wM A2 B2 M) H → va_D (lw_Ad s) (wX A B X ++ wM A2 B2 M) → va_S (lw_Ad s) s.heap H locs → lv_has ls 4 [(0, .ref b), (1, .ref (A 0)), (2, .ref (A2 0)), (3, .int x3)] → W p l e room_1 s m #[.ref b] below meth c H locs lwC lwS Q (F0 m 1613 ls [])) : W p l e room_1 s m #[.ref b] below meth c H locs lwC lwS Q (F0 m 859 ls []) := by
  obtain ⟨hx, hb, hts, hown, hml, hX, hbl, hN, hKX, hKM⟩ := C0
  have hA : ∀ q : Nat, s.heap.size ≤ q → lw_Ad s q := fun _ h => h
  have hbA : ¬ lw_Ad s b := Nat.not_le.mpr hbl
  refine lv_aload_n (pc := 859) hx hb dL_law_859 rfl (lv_at hl 1 rfl) ?_
  refine lv_aload_n (pc := 860) hx hb dL_law_860 rfl (lv_at hl 0 rfl) ?_
  refine lv_iload_n (pc := 861) hx hb dL_law_861 rfl (lv_at hl 3 rfl) ?_
  refine lv_iconst (pc := 862) hx hb (v := 1) dL_law_862 (by decide) ?_
  refine lv_iadd (pc := 863) hx hb dL_law_863 ?_
  refine va_sld (pc := 864) hx hb hX hbl hbA hS h1 dL_law_864 ?_
  refine lv_aload_n (pc := 865) hx hb dL_law_865 rfl (lv_at hl 0 rfl) ?_
  refine lv_iload_n (pc := 866) hx hb dL_law_866 rfl (lv_at hl 3 rfl) ?_
  refine lv_iconst (pc := 867) hx hb (v := 2) dL_law_867 (by decide) ?_
  refine lv_iadd (pc := 868) hx hb dL_law_868 ?_
  refine va_sld (pc := 869) hx hb hX hbl hbA hS h2 dL_law_869 ?_
  obtain ⟨zx, zm, hfx, hfm, hrr, hR1⟩ := E X M hR (xs (x3 + 1).toNatClampNeg) (xs (x3 + 2).toNatClampNeg)
  refine cl_VF (pc := 870) (a := wX A B X) (r := wM A2 B2 M) (As := [.int (xs (x3 + 1).toNatClampNeg), .int (xs (x3 + 2).toNatClampNeg)]) (rest := []) hx hb hml hown hts (kX6_lower l D A B _ X (xs (x3 + 1).toNatClampNeg) (xs (x3 + 2).toNatClampNeg) zx hfx) (cwV 2 hts gwRL_94 rfl rfl rfl hdX6_lower ⟨Nat.le_of_ble_eq_true rfl, Nat.le_of_ble_eq_true rfl⟩) hN hKX hP hD hS hA (va_recv hKX hP.left (ci := 6) (q0 := 0) rfl (eX_0 A B X)) rfl hl.1 rfl (Nat.le_of_ble_eq_true rfl) dL_law_870 (st1 := [.int zx.1]) rfl ⟨Nat.le_of_ble_eq_true rfl, Nat.le_of_ble_eq_true rfl⟩ (fun H locs hP hD hS => ?_)
  refine lv_aload_n (pc := 873) hx hb dL_law_873 rfl (lv_at hl 2 rfl) ?_
  refine lv_aload_n (pc := 874) hx hb dL_law_874 rfl (lv_at hl 0 rfl) ?_
  refine lv_iload_n (pc := 875) hx hb dL_law_875 rfl (lv_at hl 3 rfl) ?_
  refine lv_iconst (pc := 876) hx hb (v := 1) dL_law_876 (by decide) ?_
  refine lv_iadd (pc := 877) hx hb dL_law_877 ?_
  refine va_sld (pc := 878) hx hb hX hbl hbA hS h1 dL_law_878 ?_
  refine lv_aload_n (pc := 879) hx hb dL_law_879 rfl (lv_at hl 0 rfl) ?_
  refine lv_iload_n (pc := 880) hx hb dL_law_880 rfl (lv_at hl 3 rfl) ?_
  refine lv_iconst (pc := 881) hx hb (v := 2) dL_law_881 (by decide) ?_
  refine lv_iadd (pc := 882) hx hb dL_law_882 ?_
  refine va_sld (pc := 883) hx hb hX hbl hbA hS h2 dL_law_883 ?_
  refine cl_VF (pc := 884) (a := wM A2 B2 M) (r := wX A B zx.2) (As := [.int (xs (x3 + 1).toNatClampNeg), .int (xs (x3 + 2).toNatClampNeg)]) (rest := [.int zx.1]) hx hb hml hown hts (kX7_lower l D A2 B2 _ M (xs (x3 + 1).toNatClampNeg) (xs (x3 + 2).toNatClampNeg) zm hfm) (cwV 2 hts gwRL_97 rfl rfl rfl hdX7_lower ⟨Nat.le_of_ble_eq_true rfl, Nat.le_of_ble_eq_true rfl⟩) hN hKM hP hD hS hA (va_recv hKM hP.left (ci := 7) (q0 := 0) rfl (eM_0 A2 B2 M)) rfl hl.1 rfl (Nat.le_of_ble_eq_true rfl) dL_law_884 (st1 := [.int zm.1, .int zx.1]) rfl ⟨Nat.le_of_ble_eq_true rfl, Nat.le_of_ble_eq_true rfl⟩ (fun H locs hP hD hS => ?_)
  refine lv_icmp_eq (pc := 887) hx hb (tgt := 1613) dL_law_887 (by decide) (fun c9 => ?_) (fun c9 => absurd hrr c9)
  exact kk zx.2 zm.2 H locs ls hR1 hP hD hS hl
set_option maxHeartbeats 4000000 in
set_option maxRecDepth 100000 in
theorem law_18 {p : Program} {l : Launch} {e : Env} {s : State} {m : MethodId} {below : List Frame} {meth : Method} {c : Code} {D : va_G} {A A2 : Nat → Nat} {B B2 : Nat → ClassId} {b L : Nat} {xs : Nat → Int32} {Q : State → Prop} {Rel : w_S → w_S → Prop} (E : E_swapped Rel) (C0 : lw_Cx p s m c b L xs D B B2) (x3 : Int32) (h1 : vp_in (x3 + 1) L) (h2 : vp_in (x3 + 2) L) (h3 : vp_in (x3 + 3) L) (h4 : vp_in (x3 + 4) L) (h5 : vp_in (x3 + 5) L) (X M : w_S) (hR : Rel X M) (H : Heap) (locs : List Loc) (ls : Array Slot) (hP : va_P D vwCl (wX A B X ++ wM A2 B2 M) H) (hD : va_D (lw_Ad s) (wX A B X ++ wM A2 B2 M)) (hS : va_S (lw_Ad s) s.heap H locs) (hl : lv_has ls 4 [(0, .ref b), (1, .ref (A 0)), (2, .ref (A2 0)), (3, .int x3)])
    (kk : ∀ (X M : w_S) (H : Heap) (locs : List Loc) (ls : Array Slot), Rel X M → va_P D vwCl (wX A B X ++ wM A2 B2 M) H → va_D (lw_Ad s) (wX A B X ++ wM A2 B2 M) → va_S (lw_Ad s) s.heap H locs → lv_has ls 4 [(0, .ref b), (1, .ref (A 0)), (2, .ref (A2 0)), (3, .int x3)] → W p l e room_1 s m #[.ref b] below meth c H locs lwC lwS Q (F0 m 1613 ls [])) : W p l e room_1 s m #[.ref b] below meth c H locs lwC lwS Q (F0 m 892 ls []) := by
  obtain ⟨hx, hb, hts, hown, hml, hX, hbl, hN, hKX, hKM⟩ := C0
  have hA : ∀ q : Nat, s.heap.size ≤ q → lw_Ad s q := fun _ h => h
  have hbA : ¬ lw_Ad s b := Nat.not_le.mpr hbl
  refine lv_aload_n (pc := 892) hx hb dL_law_892 rfl (lv_at hl 1 rfl) ?_
  obtain ⟨zx, zm, hfx, hfm, hrr, hR1⟩ := E X M hR 
  refine cl_VF (pc := 893) (a := wX A B X) (r := wM A2 B2 M) (As := []) (rest := []) hx hb hml hown hts (kX6_swapped l D A B _ X zx hfx) (cwV 0 hts gwRL_98 rfl rfl rfl hdX6_swapped ⟨Nat.le_of_ble_eq_true rfl, Nat.le_of_ble_eq_true rfl⟩) hN hKX hP hD hS hA (va_recv hKX hP.left (ci := 6) (q0 := 0) rfl (eX_0 A B X)) rfl hl.1 rfl (Nat.le_of_ble_eq_true rfl) dL_law_893 (st1 := [.int zx]) rfl ⟨Nat.le_of_ble_eq_true rfl, Nat.le_of_ble_eq_true rfl⟩ (fun H locs hP hD hS => ?_)
  refine lv_aload_n (pc := 896) hx hb dL_law_896 rfl (lv_at hl 2 rfl) ?_
  refine cl_VF (pc := 897) (a := wM A2 B2 M) (r := wX A B X) (As := []) (rest := [.int zx]) hx hb hml hown hts (kX7_swapped l D A2 B2 _ M zm hfm) (cwV 0 hts gwRL_101 rfl rfl rfl hdX7_swapped ⟨Nat.le_of_ble_eq_true rfl, Nat.le_of_ble_eq_true rfl⟩) hN hKM hP hD hS hA (va_recv hKM hP.left (ci := 7) (q0 := 0) rfl (eM_0 A2 B2 M)) rfl hl.1 rfl (Nat.le_of_ble_eq_true rfl) dL_law_897 (st1 := [.int zm, .int zx]) rfl ⟨Nat.le_of_ble_eq_true rfl, Nat.le_of_ble_eq_true rfl⟩ (fun H locs hP hD hS => ?_)
  refine lv_icmp_eq (pc := 900) hx hb (tgt := 1613) dL_law_900 (by decide) (fun c9 => ?_) (fun c9 => absurd hrr c9)
  exact kk X M H locs ls hR1 hP hD hS hl
set_option maxHeartbeats 4000000 in
set_option maxRecDepth 100000 in
theorem law_19 {p : Program} {l : Launch} {e : Env} {s : State} {m : MethodId} {below : List Frame} {meth : Method} {c : Code} {D : va_G} {A A2 : Nat → Nat} {B B2 : Nat → ClassId} {b L : Nat} {xs : Nat → Int32} {Q : State → Prop} {Rel : w_S → w_S → Prop} (E : E_stable Rel) (C0 : lw_Cx p s m c b L xs D B B2) (x3 : Int32) (h1 : vp_in (x3 + 1) L) (h2 : vp_in (x3 + 2) L) (h3 : vp_in (x3 + 3) L) (h4 : vp_in (x3 + 4) L) (h5 : vp_in (x3 + 5) L) (X M : w_S) (hR : Rel X M) (H : Heap) (locs : List Loc) (ls : Array Slot) (hP : va_P D vwCl (wX A B X ++ wM A2 B2 M) H) (hD : va_D (lw_Ad s) (wX A B X ++ wM A2 B2 M)) (hS : va_S (lw_Ad s) s.heap H locs) (hl : lv_has ls 4 [(0, .ref b), (1, .ref (A 0)), (2, .ref (A2 0)), (3, .int x3)])
    (kk : ∀ (X M : w_S) (H : Heap) (locs : List Loc) (ls : Array Slot), Rel X M → va_P D vwCl (wX A B X ++ wM A2 B2 M) H → va_D (lw_Ad s) (wX A B X ++ wM A2 B2 M) → va_S (lw_Ad s) s.heap H locs → lv_has ls 4 [(0, .ref b), (1, .ref (A 0)), (2, .ref (A2 0)), (3, .int x3)] → W p l e room_1 s m #[.ref b] below meth c H locs lwC lwS Q (F0 m 1613 ls [])) : W p l e room_1 s m #[.ref b] below meth c H locs lwC lwS Q (F0 m 905 ls []) := by
  obtain ⟨hx, hb, hts, hown, hml, hX, hbl, hN, hKX, hKM⟩ := C0
  have hA : ∀ q : Nat, s.heap.size ≤ q → lw_Ad s q := fun _ h => h
  have hbA : ¬ lw_Ad s b := Nat.not_le.mpr hbl
  refine lv_aload_n (pc := 905) hx hb dL_law_905 rfl (lv_at hl 1 rfl) ?_
  obtain ⟨zx, zm, hfx, hfm, hrr, hR1⟩ := E X M hR 
  refine cl_VF (pc := 906) (a := wX A B X) (r := wM A2 B2 M) (As := []) (rest := []) hx hb hml hown hts (kX6_stable l D A B _ X zx hfx) (cwV 0 hts gwRL_102 rfl rfl rfl hdX6_stable ⟨Nat.le_of_ble_eq_true rfl, Nat.le_of_ble_eq_true rfl⟩) hN hKX hP hD hS hA (va_recv hKX hP.left (ci := 6) (q0 := 0) rfl (eX_0 A B X)) rfl hl.1 rfl (Nat.le_of_ble_eq_true rfl) dL_law_906 (st1 := [.int zx]) rfl ⟨Nat.le_of_ble_eq_true rfl, Nat.le_of_ble_eq_true rfl⟩ (fun H locs hP hD hS => ?_)
  refine lv_aload_n (pc := 909) hx hb dL_law_909 rfl (lv_at hl 2 rfl) ?_
  refine cl_VF (pc := 910) (a := wM A2 B2 M) (r := wX A B X) (As := []) (rest := [.int zx]) hx hb hml hown hts (kX7_stable l D A2 B2 _ M zm hfm) (cwV 0 hts gwRL_105 rfl rfl rfl hdX7_stable ⟨Nat.le_of_ble_eq_true rfl, Nat.le_of_ble_eq_true rfl⟩) hN hKM hP hD hS hA (va_recv hKM hP.left (ci := 7) (q0 := 0) rfl (eM_0 A2 B2 M)) rfl hl.1 rfl (Nat.le_of_ble_eq_true rfl) dL_law_910 (st1 := [.int zm, .int zx]) rfl ⟨Nat.le_of_ble_eq_true rfl, Nat.le_of_ble_eq_true rfl⟩ (fun H locs hP hD hS => ?_)
  refine lv_icmp_eq (pc := 913) hx hb (tgt := 1613) dL_law_913 (by decide) (fun c9 => ?_) (fun c9 => absurd hrr c9)
  exact kk X M H locs ls hR1 hP hD hS hl
set_option maxHeartbeats 4000000 in
set_option maxRecDepth 100000 in
theorem law_20 {p : Program} {l : Launch} {e : Env} {s : State} {m : MethodId} {below : List Frame} {meth : Method} {c : Code} {D : va_G} {A A2 : Nat → Nat} {B B2 : Nat → ClassId} {b L : Nat} {xs : Nat → Int32} {Q : State → Prop} {Rel : w_S → w_S → Prop} (E : E_lay Rel) (C0 : lw_Cx p s m c b L xs D B B2) (x3 : Int32) (h1 : vp_in (x3 + 1) L) (h2 : vp_in (x3 + 2) L) (h3 : vp_in (x3 + 3) L) (h4 : vp_in (x3 + 4) L) (h5 : vp_in (x3 + 5) L) (X M : w_S) (hR : Rel X M) (H : Heap) (locs : List Loc) (ls : Array Slot) (hP : va_P D vwCl (wX A B X ++ wM A2 B2 M) H) (hD : va_D (lw_Ad s) (wX A B X ++ wM A2 B2 M)) (hS : va_S (lw_Ad s) s.heap H locs) (hl : lv_has ls 4 [(0, .ref b), (1, .ref (A 0)), (2, .ref (A2 0)), (3, .int x3)])
    (kk : ∀ (X M : w_S) (H : Heap) (locs : List Loc) (ls : Array Slot), Rel X M → va_P D vwCl (wX A B X ++ wM A2 B2 M) H → va_D (lw_Ad s) (wX A B X ++ wM A2 B2 M) → va_S (lw_Ad s) s.heap H locs → lv_has ls 4 [(0, .ref b), (1, .ref (A 0)), (2, .ref (A2 0)), (3, .int x3)] → W p l e room_1 s m #[.ref b] below meth c H locs lwC lwS Q (F0 m 1613 ls [])) : W p l e room_1 s m #[.ref b] below meth c H locs lwC lwS Q (F0 m 918 ls []) := by
  obtain ⟨hx, hb, hts, hown, hml, hX, hbl, hN, hKX, hKM⟩ := C0
  have hA : ∀ q : Nat, s.heap.size ≤ q → lw_Ad s q := fun _ h => h
  have hbA : ¬ lw_Ad s b := Nat.not_le.mpr hbl
  refine lv_aload_n (pc := 918) hx hb dL_law_918 rfl (lv_at hl 1 rfl) ?_
  refine lv_aload_n (pc := 919) hx hb dL_law_919 rfl (lv_at hl 0 rfl) ?_
  refine lv_iload_n (pc := 920) hx hb dL_law_920 rfl (lv_at hl 3 rfl) ?_
  refine lv_iconst (pc := 921) hx hb (v := 1) dL_law_921 (by decide) ?_
  refine lv_iadd (pc := 922) hx hb dL_law_922 ?_
  refine va_sld (pc := 923) hx hb hX hbl hbA hS h1 dL_law_923 ?_
  refine lv_aload_n (pc := 924) hx hb dL_law_924 rfl (lv_at hl 0 rfl) ?_
  refine lv_iload_n (pc := 925) hx hb dL_law_925 rfl (lv_at hl 3 rfl) ?_
  refine lv_iconst (pc := 926) hx hb (v := 2) dL_law_926 (by decide) ?_
  refine lv_iadd (pc := 927) hx hb dL_law_927 ?_
  refine va_sld (pc := 928) hx hb hX hbl hbA hS h2 dL_law_928 ?_
  obtain ⟨zx, zm, hfx, hfm, hrr, hR1⟩ := E X M hR (xs (x3 + 1).toNatClampNeg) (xs (x3 + 2).toNatClampNeg)
  refine cl_VF (pc := 929) (a := wX A B X) (r := wM A2 B2 M) (As := [.int (xs (x3 + 1).toNatClampNeg), .int (xs (x3 + 2).toNatClampNeg)]) (rest := []) hx hb hml hown hts (kX6_lay l D A B _ X (xs (x3 + 1).toNatClampNeg) (xs (x3 + 2).toNatClampNeg) zx hfx) (cwV 2 hts gwRL_106 rfl rfl rfl hdX6_lay ⟨Nat.le_of_ble_eq_true rfl, Nat.le_of_ble_eq_true rfl⟩) hN hKX hP hD hS hA (va_recv hKX hP.left (ci := 6) (q0 := 0) rfl (eX_0 A B X)) rfl hl.1 rfl (Nat.le_of_ble_eq_true rfl) dL_law_929 (st1 := [.int zx.1]) rfl ⟨Nat.le_of_ble_eq_true rfl, Nat.le_of_ble_eq_true rfl⟩ (fun H locs hP hD hS => ?_)
  refine lv_aload_n (pc := 932) hx hb dL_law_932 rfl (lv_at hl 2 rfl) ?_
  refine lv_aload_n (pc := 933) hx hb dL_law_933 rfl (lv_at hl 0 rfl) ?_
  refine lv_iload_n (pc := 934) hx hb dL_law_934 rfl (lv_at hl 3 rfl) ?_
  refine lv_iconst (pc := 935) hx hb (v := 1) dL_law_935 (by decide) ?_
  refine lv_iadd (pc := 936) hx hb dL_law_936 ?_
  refine va_sld (pc := 937) hx hb hX hbl hbA hS h1 dL_law_937 ?_
  refine lv_aload_n (pc := 938) hx hb dL_law_938 rfl (lv_at hl 0 rfl) ?_
  refine lv_iload_n (pc := 939) hx hb dL_law_939 rfl (lv_at hl 3 rfl) ?_
  refine lv_iconst (pc := 940) hx hb (v := 2) dL_law_940 (by decide) ?_
  refine lv_iadd (pc := 941) hx hb dL_law_941 ?_
  refine va_sld (pc := 942) hx hb hX hbl hbA hS h2 dL_law_942 ?_
  refine cl_VF (pc := 943) (a := wM A2 B2 M) (r := wX A B zx.2) (As := [.int (xs (x3 + 1).toNatClampNeg), .int (xs (x3 + 2).toNatClampNeg)]) (rest := [.int zx.1]) hx hb hml hown hts (kX7_lay l D A2 B2 _ M (xs (x3 + 1).toNatClampNeg) (xs (x3 + 2).toNatClampNeg) zm hfm) (cwV 2 hts gwRL_109 rfl rfl rfl hdX7_lay ⟨Nat.le_of_ble_eq_true rfl, Nat.le_of_ble_eq_true rfl⟩) hN hKM hP hD hS hA (va_recv hKM hP.left (ci := 7) (q0 := 0) rfl (eM_0 A2 B2 M)) rfl hl.1 rfl (Nat.le_of_ble_eq_true rfl) dL_law_943 (st1 := [.int zm.1, .int zx.1]) rfl ⟨Nat.le_of_ble_eq_true rfl, Nat.le_of_ble_eq_true rfl⟩ (fun H locs hP hD hS => ?_)
  refine lv_icmp_eq (pc := 946) hx hb (tgt := 1613) dL_law_946 (by decide) (fun c9 => ?_) (fun c9 => absurd hrr c9)
  exact kk zx.2 zm.2 H locs ls hR1 hP hD hS hl
set_option maxHeartbeats 4000000 in
set_option maxRecDepth 100000 in
theorem law_21 {p : Program} {l : Launch} {e : Env} {s : State} {m : MethodId} {below : List Frame} {meth : Method} {c : Code} {D : va_G} {A A2 : Nat → Nat} {B B2 : Nat → ClassId} {b L : Nat} {xs : Nat → Int32} {Q : State → Prop} {Rel : w_S → w_S → Prop} (E : E_judge Rel) (C0 : lw_Cx p s m c b L xs D B B2) (x3 : Int32) (h1 : vp_in (x3 + 1) L) (h2 : vp_in (x3 + 2) L) (h3 : vp_in (x3 + 3) L) (h4 : vp_in (x3 + 4) L) (h5 : vp_in (x3 + 5) L) (X M : w_S) (hR : Rel X M) (H : Heap) (locs : List Loc) (ls : Array Slot) (hP : va_P D vwCl (wX A B X ++ wM A2 B2 M) H) (hD : va_D (lw_Ad s) (wX A B X ++ wM A2 B2 M)) (hS : va_S (lw_Ad s) s.heap H locs) (hl : lv_has ls 4 [(0, .ref b), (1, .ref (A 0)), (2, .ref (A2 0)), (3, .int x3)])
    (kk : ∀ (X M : w_S) (H : Heap) (locs : List Loc) (ls : Array Slot), Rel X M → va_P D vwCl (wX A B X ++ wM A2 B2 M) H → va_D (lw_Ad s) (wX A B X ++ wM A2 B2 M) → va_S (lw_Ad s) s.heap H locs → lv_has ls 4 [(0, .ref b), (1, .ref (A 0)), (2, .ref (A2 0)), (3, .int x3)] → W p l e room_1 s m #[.ref b] below meth c H locs lwC lwS Q (F0 m 1613 ls [])) : W p l e room_1 s m #[.ref b] below meth c H locs lwC lwS Q (F0 m 951 ls []) := by
  obtain ⟨hx, hb, hts, hown, hml, hX, hbl, hN, hKX, hKM⟩ := C0
  have hA : ∀ q : Nat, s.heap.size ≤ q → lw_Ad s q := fun _ h => h
  have hbA : ¬ lw_Ad s b := Nat.not_le.mpr hbl
  refine lv_aload_n (pc := 951) hx hb dL_law_951 rfl (lv_at hl 1 rfl) ?_
  refine lv_aload_n (pc := 952) hx hb dL_law_952 rfl (lv_at hl 0 rfl) ?_
  refine lv_iload_n (pc := 953) hx hb dL_law_953 rfl (lv_at hl 3 rfl) ?_
  refine lv_iconst (pc := 954) hx hb (v := 1) dL_law_954 (by decide) ?_
  refine lv_iadd (pc := 955) hx hb dL_law_955 ?_
  refine va_sld (pc := 956) hx hb hX hbl hbA hS h1 dL_law_956 ?_
  refine lv_aload_n (pc := 957) hx hb dL_law_957 rfl (lv_at hl 0 rfl) ?_
  refine lv_iload_n (pc := 958) hx hb dL_law_958 rfl (lv_at hl 3 rfl) ?_
  refine lv_iconst (pc := 959) hx hb (v := 2) dL_law_959 (by decide) ?_
  refine lv_iadd (pc := 960) hx hb dL_law_960 ?_
  refine va_sld (pc := 961) hx hb hX hbl hbA hS h2 dL_law_961 ?_
  refine lv_aload_n (pc := 962) hx hb dL_law_962 rfl (lv_at hl 0 rfl) ?_
  refine lv_iload_n (pc := 963) hx hb dL_law_963 rfl (lv_at hl 3 rfl) ?_
  refine lv_iconst (pc := 964) hx hb (v := 3) dL_law_964 (by decide) ?_
  refine lv_iadd (pc := 965) hx hb dL_law_965 ?_
  refine va_sld (pc := 966) hx hb hX hbl hbA hS h3 dL_law_966 ?_
  obtain ⟨zx, zm, hfx, hfm, hrr, hR1⟩ := E X M hR (xs (x3 + 1).toNatClampNeg) (xs (x3 + 2).toNatClampNeg) (xs (x3 + 3).toNatClampNeg)
  refine cl_VF (pc := 967) (a := wX A B X) (r := wM A2 B2 M) (As := [.int (xs (x3 + 1).toNatClampNeg), .int (xs (x3 + 2).toNatClampNeg), .int (xs (x3 + 3).toNatClampNeg)]) (rest := []) hx hb hml hown hts (kX6_judge l D A B _ X (xs (x3 + 1).toNatClampNeg) (xs (x3 + 2).toNatClampNeg) (xs (x3 + 3).toNatClampNeg) zx hfx) (cwV 3 hts gwRL_110 rfl rfl rfl hdX6_judge ⟨Nat.le_of_ble_eq_true rfl, Nat.le_of_ble_eq_true rfl⟩) hN hKX hP hD hS hA (va_recv hKX hP.left (ci := 6) (q0 := 0) rfl (eX_0 A B X)) rfl hl.1 rfl (Nat.le_of_ble_eq_true rfl) dL_law_967 (st1 := [.int zx]) rfl ⟨Nat.le_of_ble_eq_true rfl, Nat.le_of_ble_eq_true rfl⟩ (fun H locs hP hD hS => ?_)
  refine lv_aload_n (pc := 970) hx hb dL_law_970 rfl (lv_at hl 2 rfl) ?_
  refine lv_aload_n (pc := 971) hx hb dL_law_971 rfl (lv_at hl 0 rfl) ?_
  refine lv_iload_n (pc := 972) hx hb dL_law_972 rfl (lv_at hl 3 rfl) ?_
  refine lv_iconst (pc := 973) hx hb (v := 1) dL_law_973 (by decide) ?_
  refine lv_iadd (pc := 974) hx hb dL_law_974 ?_
  refine va_sld (pc := 975) hx hb hX hbl hbA hS h1 dL_law_975 ?_
  refine lv_aload_n (pc := 976) hx hb dL_law_976 rfl (lv_at hl 0 rfl) ?_
  refine lv_iload_n (pc := 977) hx hb dL_law_977 rfl (lv_at hl 3 rfl) ?_
  refine lv_iconst (pc := 978) hx hb (v := 2) dL_law_978 (by decide) ?_
  refine lv_iadd (pc := 979) hx hb dL_law_979 ?_
  refine va_sld (pc := 980) hx hb hX hbl hbA hS h2 dL_law_980 ?_
  refine lv_aload_n (pc := 981) hx hb dL_law_981 rfl (lv_at hl 0 rfl) ?_
  refine lv_iload_n (pc := 982) hx hb dL_law_982 rfl (lv_at hl 3 rfl) ?_
  refine lv_iconst (pc := 983) hx hb (v := 3) dL_law_983 (by decide) ?_
  refine lv_iadd (pc := 984) hx hb dL_law_984 ?_
  refine va_sld (pc := 985) hx hb hX hbl hbA hS h3 dL_law_985 ?_
  refine cl_VF (pc := 986) (a := wM A2 B2 M) (r := wX A B X) (As := [.int (xs (x3 + 1).toNatClampNeg), .int (xs (x3 + 2).toNatClampNeg), .int (xs (x3 + 3).toNatClampNeg)]) (rest := [.int zx]) hx hb hml hown hts (kX7_judge l D A2 B2 _ M (xs (x3 + 1).toNatClampNeg) (xs (x3 + 2).toNatClampNeg) (xs (x3 + 3).toNatClampNeg) zm hfm) (cwV 3 hts gwRL_113 rfl rfl rfl hdX7_judge ⟨Nat.le_of_ble_eq_true rfl, Nat.le_of_ble_eq_true rfl⟩) hN hKM hP hD hS hA (va_recv hKM hP.left (ci := 7) (q0 := 0) rfl (eM_0 A2 B2 M)) rfl hl.1 rfl (Nat.le_of_ble_eq_true rfl) dL_law_986 (st1 := [.int zm, .int zx]) rfl ⟨Nat.le_of_ble_eq_true rfl, Nat.le_of_ble_eq_true rfl⟩ (fun H locs hP hD hS => ?_)
  refine lv_icmp_eq (pc := 989) hx hb (tgt := 1613) dL_law_989 (by decide) (fun c9 => ?_) (fun c9 => absurd hrr c9)
  exact kk X M H locs ls hR1 hP hD hS hl
set_option maxHeartbeats 4000000 in
set_option maxRecDepth 100000 in
theorem law_22 {p : Program} {l : Launch} {e : Env} {s : State} {m : MethodId} {below : List Frame} {meth : Method} {c : Code} {D : va_G} {A A2 : Nat → Nat} {B B2 : Nat → ClassId} {b L : Nat} {xs : Nat → Int32} {Q : State → Prop} {Rel : w_S → w_S → Prop} (E : E_kinds Rel) (C0 : lw_Cx p s m c b L xs D B B2) (x3 : Int32) (h1 : vp_in (x3 + 1) L) (h2 : vp_in (x3 + 2) L) (h3 : vp_in (x3 + 3) L) (h4 : vp_in (x3 + 4) L) (h5 : vp_in (x3 + 5) L) (X M : w_S) (hR : Rel X M) (H : Heap) (locs : List Loc) (ls : Array Slot) (hP : va_P D vwCl (wX A B X ++ wM A2 B2 M) H) (hD : va_D (lw_Ad s) (wX A B X ++ wM A2 B2 M)) (hS : va_S (lw_Ad s) s.heap H locs) (hl : lv_has ls 4 [(0, .ref b), (1, .ref (A 0)), (2, .ref (A2 0)), (3, .int x3)])
    (kk : ∀ (X M : w_S) (H : Heap) (locs : List Loc) (ls : Array Slot), Rel X M → va_P D vwCl (wX A B X ++ wM A2 B2 M) H → va_D (lw_Ad s) (wX A B X ++ wM A2 B2 M) → va_S (lw_Ad s) s.heap H locs → lv_has ls 4 [(0, .ref b), (1, .ref (A 0)), (2, .ref (A2 0)), (3, .int x3)] → W p l e room_1 s m #[.ref b] below meth c H locs lwC lwS Q (F0 m 1613 ls [])) : W p l e room_1 s m #[.ref b] below meth c H locs lwC lwS Q (F0 m 994 ls []) := by
  obtain ⟨hx, hb, hts, hown, hml, hX, hbl, hN, hKX, hKM⟩ := C0
  have hA : ∀ q : Nat, s.heap.size ≤ q → lw_Ad s q := fun _ h => h
  have hbA : ¬ lw_Ad s b := Nat.not_le.mpr hbl
  refine lv_aload_n (pc := 994) hx hb dL_law_994 rfl (lv_at hl 1 rfl) ?_
  refine lv_aload_n (pc := 995) hx hb dL_law_995 rfl (lv_at hl 0 rfl) ?_
  refine lv_iload_n (pc := 996) hx hb dL_law_996 rfl (lv_at hl 3 rfl) ?_
  refine lv_iconst (pc := 997) hx hb (v := 1) dL_law_997 (by decide) ?_
  refine lv_iadd (pc := 998) hx hb dL_law_998 ?_
  refine va_sld (pc := 999) hx hb hX hbl hbA hS h1 dL_law_999 ?_
  refine lv_aload_n (pc := 1000) hx hb dL_law_1000 rfl (lv_at hl 0 rfl) ?_
  refine lv_iload_n (pc := 1001) hx hb dL_law_1001 rfl (lv_at hl 3 rfl) ?_
  refine lv_iconst (pc := 1002) hx hb (v := 2) dL_law_1002 (by decide) ?_
  refine lv_iadd (pc := 1003) hx hb dL_law_1003 ?_
  refine va_sld (pc := 1004) hx hb hX hbl hbA hS h2 dL_law_1004 ?_
  obtain ⟨zx, zm, hfx, hfm, hrr, hR1⟩ := E X M hR (xs (x3 + 1).toNatClampNeg) (xs (x3 + 2).toNatClampNeg)
  refine cl_VF (pc := 1005) (a := wX A B X) (r := wM A2 B2 M) (As := [.int (xs (x3 + 1).toNatClampNeg), .int (xs (x3 + 2).toNatClampNeg)]) (rest := []) hx hb hml hown hts (kX6_kinds l D A B _ X (xs (x3 + 1).toNatClampNeg) (xs (x3 + 2).toNatClampNeg) zx hfx) (cwV 2 hts gwRL_114 rfl rfl rfl hdX6_kinds ⟨Nat.le_of_ble_eq_true rfl, Nat.le_of_ble_eq_true rfl⟩) hN hKX hP hD hS hA (va_recv hKX hP.left (ci := 6) (q0 := 0) rfl (eX_0 A B X)) rfl hl.1 rfl (Nat.le_of_ble_eq_true rfl) dL_law_1005 (st1 := [.int zx]) rfl ⟨Nat.le_of_ble_eq_true rfl, Nat.le_of_ble_eq_true rfl⟩ (fun H locs hP hD hS => ?_)
  refine lv_aload_n (pc := 1008) hx hb dL_law_1008 rfl (lv_at hl 2 rfl) ?_
  refine lv_aload_n (pc := 1009) hx hb dL_law_1009 rfl (lv_at hl 0 rfl) ?_
  refine lv_iload_n (pc := 1010) hx hb dL_law_1010 rfl (lv_at hl 3 rfl) ?_
  refine lv_iconst (pc := 1011) hx hb (v := 1) dL_law_1011 (by decide) ?_
  refine lv_iadd (pc := 1012) hx hb dL_law_1012 ?_
  refine va_sld (pc := 1013) hx hb hX hbl hbA hS h1 dL_law_1013 ?_
  refine lv_aload_n (pc := 1014) hx hb dL_law_1014 rfl (lv_at hl 0 rfl) ?_
  refine lv_iload_n (pc := 1015) hx hb dL_law_1015 rfl (lv_at hl 3 rfl) ?_
  refine lv_iconst (pc := 1016) hx hb (v := 2) dL_law_1016 (by decide) ?_
  refine lv_iadd (pc := 1017) hx hb dL_law_1017 ?_
  refine va_sld (pc := 1018) hx hb hX hbl hbA hS h2 dL_law_1018 ?_
  refine cl_VF (pc := 1019) (a := wM A2 B2 M) (r := wX A B X) (As := [.int (xs (x3 + 1).toNatClampNeg), .int (xs (x3 + 2).toNatClampNeg)]) (rest := [.int zx]) hx hb hml hown hts (kX7_kinds l D A2 B2 _ M (xs (x3 + 1).toNatClampNeg) (xs (x3 + 2).toNatClampNeg) zm hfm) (cwV 2 hts gwRL_117 rfl rfl rfl hdX7_kinds ⟨Nat.le_of_ble_eq_true rfl, Nat.le_of_ble_eq_true rfl⟩) hN hKM hP hD hS hA (va_recv hKM hP.left (ci := 7) (q0 := 0) rfl (eM_0 A2 B2 M)) rfl hl.1 rfl (Nat.le_of_ble_eq_true rfl) dL_law_1019 (st1 := [.int zm, .int zx]) rfl ⟨Nat.le_of_ble_eq_true rfl, Nat.le_of_ble_eq_true rfl⟩ (fun H locs hP hD hS => ?_)
  refine lv_icmp_eq (pc := 1022) hx hb (tgt := 1613) dL_law_1022 (by decide) (fun c9 => ?_) (fun c9 => absurd hrr c9)
  exact kk X M H locs ls hR1 hP hD hS hl
set_option maxHeartbeats 4000000 in
set_option maxRecDepth 100000 in
theorem law_23 {p : Program} {l : Launch} {e : Env} {s : State} {m : MethodId} {below : List Frame} {meth : Method} {c : Code} {D : va_G} {A A2 : Nat → Nat} {B B2 : Nat → ClassId} {b L : Nat} {xs : Nat → Int32} {Q : State → Prop} {Rel : w_S → w_S → Prop} (E : E_ratio Rel) (C0 : lw_Cx p s m c b L xs D B B2) (x3 : Int32) (h1 : vp_in (x3 + 1) L) (h2 : vp_in (x3 + 2) L) (h3 : vp_in (x3 + 3) L) (h4 : vp_in (x3 + 4) L) (h5 : vp_in (x3 + 5) L) (X M : w_S) (hR : Rel X M) (H : Heap) (locs : List Loc) (ls : Array Slot) (hP : va_P D vwCl (wX A B X ++ wM A2 B2 M) H) (hD : va_D (lw_Ad s) (wX A B X ++ wM A2 B2 M)) (hS : va_S (lw_Ad s) s.heap H locs) (hl : lv_has ls 4 [(0, .ref b), (1, .ref (A 0)), (2, .ref (A2 0)), (3, .int x3)])
    (kk : ∀ (X M : w_S) (H : Heap) (locs : List Loc) (ls : Array Slot), Rel X M → va_P D vwCl (wX A B X ++ wM A2 B2 M) H → va_D (lw_Ad s) (wX A B X ++ wM A2 B2 M) → va_S (lw_Ad s) s.heap H locs → lv_has ls 4 [(0, .ref b), (1, .ref (A 0)), (2, .ref (A2 0)), (3, .int x3)] → W p l e room_1 s m #[.ref b] below meth c H locs lwC lwS Q (F0 m 1613 ls [])) : W p l e room_1 s m #[.ref b] below meth c H locs lwC lwS Q (F0 m 1027 ls []) := by
  obtain ⟨hx, hb, hts, hown, hml, hX, hbl, hN, hKX, hKM⟩ := C0
  have hA : ∀ q : Nat, s.heap.size ≤ q → lw_Ad s q := fun _ h => h
  have hbA : ¬ lw_Ad s b := Nat.not_le.mpr hbl
  refine lv_aload_n (pc := 1027) hx hb dL_law_1027 rfl (lv_at hl 1 rfl) ?_
  refine lv_aload_n (pc := 1028) hx hb dL_law_1028 rfl (lv_at hl 0 rfl) ?_
  refine lv_iload_n (pc := 1029) hx hb dL_law_1029 rfl (lv_at hl 3 rfl) ?_
  refine lv_iconst (pc := 1030) hx hb (v := 1) dL_law_1030 (by decide) ?_
  refine lv_iadd (pc := 1031) hx hb dL_law_1031 ?_
  refine va_sld (pc := 1032) hx hb hX hbl hbA hS h1 dL_law_1032 ?_
  refine lv_i2l (pc := 1033) hx hb (v := (xs (x3 + 1).toNatClampNeg).toInt64) dL_law_1033 rfl ?_
  refine lv_bipush (pc := 1034) hx hb (v := 32) dL_law_1034 (by decide) ?_
  refine lv_lshl (pc := 1036) hx hb (v := ((xs (x3 + 1).toNatClampNeg).toInt64) <<< ((32 : Int32).toInt64 &&& 63)) dL_law_1036 rfl ?_
  refine lv_aload_n (pc := 1037) hx hb dL_law_1037 rfl (lv_at hl 0 rfl) ?_
  refine lv_iload_n (pc := 1038) hx hb dL_law_1038 rfl (lv_at hl 3 rfl) ?_
  refine lv_iconst (pc := 1039) hx hb (v := 2) dL_law_1039 (by decide) ?_
  refine lv_iadd (pc := 1040) hx hb dL_law_1040 ?_
  refine va_sld (pc := 1041) hx hb hX hbl hbA hS h2 dL_law_1041 ?_
  refine lv_i2l (pc := 1042) hx hb (v := (xs (x3 + 2).toNatClampNeg).toInt64) dL_law_1042 rfl ?_
  refine lv_ldc2 (pc := 1043) hx hb (v := 4294967295) hown (hts (.constantLong RL 42 (4294967295)) mU_6) dL_law_1043 ?_
  refine lv_land (pc := 1046) hx hb dL_law_1046 ?_
  refine lv_lor (pc := 1047) hx hb dL_law_1047 ?_
  refine lv_aload_n (pc := 1048) hx hb dL_law_1048 rfl (lv_at hl 0 rfl) ?_
  refine lv_iload_n (pc := 1049) hx hb dL_law_1049 rfl (lv_at hl 3 rfl) ?_
  refine lv_iconst (pc := 1050) hx hb (v := 3) dL_law_1050 (by decide) ?_
  refine lv_iadd (pc := 1051) hx hb dL_law_1051 ?_
  refine va_sld (pc := 1052) hx hb hX hbl hbA hS h3 dL_law_1052 ?_
  refine lv_i2l (pc := 1053) hx hb (v := (xs (x3 + 3).toNatClampNeg).toInt64) dL_law_1053 rfl ?_
  refine lv_bipush (pc := 1054) hx hb (v := 32) dL_law_1054 (by decide) ?_
  refine lv_lshl (pc := 1056) hx hb (v := ((xs (x3 + 3).toNatClampNeg).toInt64) <<< ((32 : Int32).toInt64 &&& 63)) dL_law_1056 rfl ?_
  refine lv_aload_n (pc := 1057) hx hb dL_law_1057 rfl (lv_at hl 0 rfl) ?_
  refine lv_iload_n (pc := 1058) hx hb dL_law_1058 rfl (lv_at hl 3 rfl) ?_
  refine lv_iconst (pc := 1059) hx hb (v := 4) dL_law_1059 (by decide) ?_
  refine lv_iadd (pc := 1060) hx hb dL_law_1060 ?_
  refine va_sld (pc := 1061) hx hb hX hbl hbA hS h4 dL_law_1061 ?_
  refine lv_i2l (pc := 1062) hx hb (v := (xs (x3 + 4).toNatClampNeg).toInt64) dL_law_1062 rfl ?_
  refine lv_ldc2 (pc := 1063) hx hb (v := 4294967295) hown (hts (.constantLong RL 42 (4294967295)) mU_6) dL_law_1063 ?_
  refine lv_land (pc := 1066) hx hb dL_law_1066 ?_
  refine lv_lor (pc := 1067) hx hb dL_law_1067 ?_
  refine lv_aload_n (pc := 1068) hx hb dL_law_1068 rfl (lv_at hl 0 rfl) ?_
  refine lv_iload_n (pc := 1069) hx hb dL_law_1069 rfl (lv_at hl 3 rfl) ?_
  refine lv_iconst (pc := 1070) hx hb (v := 5) dL_law_1070 (by decide) ?_
  refine lv_iadd (pc := 1071) hx hb dL_law_1071 ?_
  refine va_sld (pc := 1072) hx hb hX hbl hbA hS h5 dL_law_1072 ?_
  obtain ⟨zx, zm, hfx, hfm, hrr, hR1⟩ := E X M hR ((((xs (x3 + 1).toNatClampNeg).toInt64) <<< ((32 : Int32).toInt64 &&& 63)) ||| (((xs (x3 + 2).toNatClampNeg).toInt64) &&& 4294967295)) ((((xs (x3 + 3).toNatClampNeg).toInt64) <<< ((32 : Int32).toInt64 &&& 63)) ||| (((xs (x3 + 4).toNatClampNeg).toInt64) &&& 4294967295)) (xs (x3 + 5).toNatClampNeg)
  refine cl_VF (pc := 1073) (a := wX A B X) (r := wM A2 B2 M) (As := [.long ((((xs (x3 + 1).toNatClampNeg).toInt64) <<< ((32 : Int32).toInt64 &&& 63)) ||| (((xs (x3 + 2).toNatClampNeg).toInt64) &&& 4294967295)), .long ((((xs (x3 + 3).toNatClampNeg).toInt64) <<< ((32 : Int32).toInt64 &&& 63)) ||| (((xs (x3 + 4).toNatClampNeg).toInt64) &&& 4294967295)), .int (xs (x3 + 5).toNatClampNeg)]) (rest := []) hx hb hml hown hts (kX6_ratio l D A B _ X ((((xs (x3 + 1).toNatClampNeg).toInt64) <<< ((32 : Int32).toInt64 &&& 63)) ||| (((xs (x3 + 2).toNatClampNeg).toInt64) &&& 4294967295)) ((((xs (x3 + 3).toNatClampNeg).toInt64) <<< ((32 : Int32).toInt64 &&& 63)) ||| (((xs (x3 + 4).toNatClampNeg).toInt64) &&& 4294967295)) (xs (x3 + 5).toNatClampNeg) zx hfx) (cwV 3 hts gwRL_118 rfl rfl rfl hdX6_ratio ⟨Nat.le_of_ble_eq_true rfl, Nat.le_of_ble_eq_true rfl⟩) hN hKX hP hD hS hA (va_recv hKX hP.left (ci := 6) (q0 := 0) rfl (eX_0 A B X)) rfl hl.1 rfl (Nat.le_of_ble_eq_true rfl) dL_law_1073 (st1 := [.long zx]) rfl ⟨Nat.le_of_ble_eq_true rfl, Nat.le_of_ble_eq_true rfl⟩ (fun H locs hP hD hS => ?_)
  refine lv_aload_n (pc := 1076) hx hb dL_law_1076 rfl (lv_at hl 2 rfl) ?_
  refine lv_aload_n (pc := 1077) hx hb dL_law_1077 rfl (lv_at hl 0 rfl) ?_
  refine lv_iload_n (pc := 1078) hx hb dL_law_1078 rfl (lv_at hl 3 rfl) ?_
  refine lv_iconst (pc := 1079) hx hb (v := 1) dL_law_1079 (by decide) ?_
  refine lv_iadd (pc := 1080) hx hb dL_law_1080 ?_
  refine va_sld (pc := 1081) hx hb hX hbl hbA hS h1 dL_law_1081 ?_
  refine lv_i2l (pc := 1082) hx hb (v := (xs (x3 + 1).toNatClampNeg).toInt64) dL_law_1082 rfl ?_
  refine lv_bipush (pc := 1083) hx hb (v := 32) dL_law_1083 (by decide) ?_
  refine lv_lshl (pc := 1085) hx hb (v := ((xs (x3 + 1).toNatClampNeg).toInt64) <<< ((32 : Int32).toInt64 &&& 63)) dL_law_1085 rfl ?_
  refine lv_aload_n (pc := 1086) hx hb dL_law_1086 rfl (lv_at hl 0 rfl) ?_
  refine lv_iload_n (pc := 1087) hx hb dL_law_1087 rfl (lv_at hl 3 rfl) ?_
  refine lv_iconst (pc := 1088) hx hb (v := 2) dL_law_1088 (by decide) ?_
  refine lv_iadd (pc := 1089) hx hb dL_law_1089 ?_
  refine va_sld (pc := 1090) hx hb hX hbl hbA hS h2 dL_law_1090 ?_
  refine lv_i2l (pc := 1091) hx hb (v := (xs (x3 + 2).toNatClampNeg).toInt64) dL_law_1091 rfl ?_
  refine lv_ldc2 (pc := 1092) hx hb (v := 4294967295) hown (hts (.constantLong RL 42 (4294967295)) mU_6) dL_law_1092 ?_
  refine lv_land (pc := 1095) hx hb dL_law_1095 ?_
  refine lv_lor (pc := 1096) hx hb dL_law_1096 ?_
  refine lv_aload_n (pc := 1097) hx hb dL_law_1097 rfl (lv_at hl 0 rfl) ?_
  refine lv_iload_n (pc := 1098) hx hb dL_law_1098 rfl (lv_at hl 3 rfl) ?_
  refine lv_iconst (pc := 1099) hx hb (v := 3) dL_law_1099 (by decide) ?_
  refine lv_iadd (pc := 1100) hx hb dL_law_1100 ?_
  refine va_sld (pc := 1101) hx hb hX hbl hbA hS h3 dL_law_1101 ?_
  refine lv_i2l (pc := 1102) hx hb (v := (xs (x3 + 3).toNatClampNeg).toInt64) dL_law_1102 rfl ?_
  refine lv_bipush (pc := 1103) hx hb (v := 32) dL_law_1103 (by decide) ?_
  refine lv_lshl (pc := 1105) hx hb (v := ((xs (x3 + 3).toNatClampNeg).toInt64) <<< ((32 : Int32).toInt64 &&& 63)) dL_law_1105 rfl ?_
  refine lv_aload_n (pc := 1106) hx hb dL_law_1106 rfl (lv_at hl 0 rfl) ?_
  refine lv_iload_n (pc := 1107) hx hb dL_law_1107 rfl (lv_at hl 3 rfl) ?_
  refine lv_iconst (pc := 1108) hx hb (v := 4) dL_law_1108 (by decide) ?_
  refine lv_iadd (pc := 1109) hx hb dL_law_1109 ?_
  refine va_sld (pc := 1110) hx hb hX hbl hbA hS h4 dL_law_1110 ?_
  refine lv_i2l (pc := 1111) hx hb (v := (xs (x3 + 4).toNatClampNeg).toInt64) dL_law_1111 rfl ?_
  refine lv_ldc2 (pc := 1112) hx hb (v := 4294967295) hown (hts (.constantLong RL 42 (4294967295)) mU_6) dL_law_1112 ?_
  refine lv_land (pc := 1115) hx hb dL_law_1115 ?_
  refine lv_lor (pc := 1116) hx hb dL_law_1116 ?_
  refine lv_aload_n (pc := 1117) hx hb dL_law_1117 rfl (lv_at hl 0 rfl) ?_
  refine lv_iload_n (pc := 1118) hx hb dL_law_1118 rfl (lv_at hl 3 rfl) ?_
  refine lv_iconst (pc := 1119) hx hb (v := 5) dL_law_1119 (by decide) ?_
  refine lv_iadd (pc := 1120) hx hb dL_law_1120 ?_
  refine va_sld (pc := 1121) hx hb hX hbl hbA hS h5 dL_law_1121 ?_
  refine cl_VF (pc := 1122) (a := wM A2 B2 M) (r := wX A B X) (As := [.long ((((xs (x3 + 1).toNatClampNeg).toInt64) <<< ((32 : Int32).toInt64 &&& 63)) ||| (((xs (x3 + 2).toNatClampNeg).toInt64) &&& 4294967295)), .long ((((xs (x3 + 3).toNatClampNeg).toInt64) <<< ((32 : Int32).toInt64 &&& 63)) ||| (((xs (x3 + 4).toNatClampNeg).toInt64) &&& 4294967295)), .int (xs (x3 + 5).toNatClampNeg)]) (rest := [.long zx]) hx hb hml hown hts (kX7_ratio l D A2 B2 _ M ((((xs (x3 + 1).toNatClampNeg).toInt64) <<< ((32 : Int32).toInt64 &&& 63)) ||| (((xs (x3 + 2).toNatClampNeg).toInt64) &&& 4294967295)) ((((xs (x3 + 3).toNatClampNeg).toInt64) <<< ((32 : Int32).toInt64 &&& 63)) ||| (((xs (x3 + 4).toNatClampNeg).toInt64) &&& 4294967295)) (xs (x3 + 5).toNatClampNeg) zm hfm) (cwV 3 hts gwRL_122 rfl rfl rfl hdX7_ratio ⟨Nat.le_of_ble_eq_true rfl, Nat.le_of_ble_eq_true rfl⟩) hN hKM hP hD hS hA (va_recv hKM hP.left (ci := 7) (q0 := 0) rfl (eM_0 A2 B2 M)) rfl hl.1 rfl (Nat.le_of_ble_eq_true rfl) dL_law_1122 (st1 := [.long zm, .long zx]) rfl ⟨Nat.le_of_ble_eq_true rfl, Nat.le_of_ble_eq_true rfl⟩ (fun H locs hP hD hS => ?_)
  refine W.lcmp (pc := 1125) hx hb dL_law_1125 ?_
  refine lv_if_eq (pc := 1126) hx hb (tgt := 1613) dL_law_1126 (by decide) (fun c9 => ?_) (fun c9 => absurd (lg_eq0.mpr hrr) c9)
  exact kk X M H locs ls hR1 hP hD hS hl
set_option maxHeartbeats 4000000 in
set_option maxRecDepth 100000 in
theorem law_24 {p : Program} {l : Launch} {e : Env} {s : State} {m : MethodId} {below : List Frame} {meth : Method} {c : Code} {D : va_G} {A A2 : Nat → Nat} {B B2 : Nat → ClassId} {b L : Nat} {xs : Nat → Int32} {Q : State → Prop} {Rel : w_S → w_S → Prop} (E : E_seed Rel) (C0 : lw_Cx p s m c b L xs D B B2) (x3 : Int32) (h1 : vp_in (x3 + 1) L) (h2 : vp_in (x3 + 2) L) (h3 : vp_in (x3 + 3) L) (h4 : vp_in (x3 + 4) L) (h5 : vp_in (x3 + 5) L) (X M : w_S) (hR : Rel X M) (H : Heap) (locs : List Loc) (ls : Array Slot) (hP : va_P D vwCl (wX A B X ++ wM A2 B2 M) H) (hD : va_D (lw_Ad s) (wX A B X ++ wM A2 B2 M)) (hS : va_S (lw_Ad s) s.heap H locs) (hl : lv_has ls 4 [(0, .ref b), (1, .ref (A 0)), (2, .ref (A2 0)), (3, .int x3)])
    (kk : ∀ (X M : w_S) (H : Heap) (locs : List Loc) (ls : Array Slot), Rel X M → va_P D vwCl (wX A B X ++ wM A2 B2 M) H → va_D (lw_Ad s) (wX A B X ++ wM A2 B2 M) → va_S (lw_Ad s) s.heap H locs → lv_has ls 4 [(0, .ref b), (1, .ref (A 0)), (2, .ref (A2 0)), (3, .int x3)] → W p l e room_1 s m #[.ref b] below meth c H locs lwC lwS Q (F0 m 1613 ls [])) : W p l e room_1 s m #[.ref b] below meth c H locs lwC lwS Q (F0 m 1131 ls []) := by
  obtain ⟨hx, hb, hts, hown, hml, hX, hbl, hN, hKX, hKM⟩ := C0
  have hA : ∀ q : Nat, s.heap.size ≤ q → lw_Ad s q := fun _ h => h
  have hbA : ¬ lw_Ad s b := Nat.not_le.mpr hbl
  refine lv_aload_n (pc := 1131) hx hb dL_law_1131 rfl (lv_at hl 1 rfl) ?_
  refine lv_aload_n (pc := 1132) hx hb dL_law_1132 rfl (lv_at hl 0 rfl) ?_
  refine lv_iload_n (pc := 1133) hx hb dL_law_1133 rfl (lv_at hl 3 rfl) ?_
  refine lv_iconst (pc := 1134) hx hb (v := 1) dL_law_1134 (by decide) ?_
  refine lv_iadd (pc := 1135) hx hb dL_law_1135 ?_
  refine va_sld (pc := 1136) hx hb hX hbl hbA hS h1 dL_law_1136 ?_
  obtain ⟨zx, zm, hfx, hfm, hrr, hR1⟩ := E X M hR (xs (x3 + 1).toNatClampNeg)
  refine cl_VF (pc := 1137) (a := wX A B X) (r := wM A2 B2 M) (As := [.int (xs (x3 + 1).toNatClampNeg)]) (rest := []) hx hb hml hown hts (kX6_seed l D A B _ X (xs (x3 + 1).toNatClampNeg) zx hfx) (cwV 1 hts gwRL_123 rfl rfl rfl hdX6_seed ⟨Nat.le_of_ble_eq_true rfl, Nat.le_of_ble_eq_true rfl⟩) hN hKX hP hD hS hA (va_recv hKX hP.left (ci := 6) (q0 := 0) rfl (eX_0 A B X)) rfl hl.1 rfl (Nat.le_of_ble_eq_true rfl) dL_law_1137 (st1 := [.int zx.1]) rfl ⟨Nat.le_of_ble_eq_true rfl, Nat.le_of_ble_eq_true rfl⟩ (fun H locs hP hD hS => ?_)
  refine lv_aload_n (pc := 1140) hx hb dL_law_1140 rfl (lv_at hl 2 rfl) ?_
  refine lv_aload_n (pc := 1141) hx hb dL_law_1141 rfl (lv_at hl 0 rfl) ?_
  refine lv_iload_n (pc := 1142) hx hb dL_law_1142 rfl (lv_at hl 3 rfl) ?_
  refine lv_iconst (pc := 1143) hx hb (v := 1) dL_law_1143 (by decide) ?_
  refine lv_iadd (pc := 1144) hx hb dL_law_1144 ?_
  refine va_sld (pc := 1145) hx hb hX hbl hbA hS h1 dL_law_1145 ?_
  refine cl_VF (pc := 1146) (a := wM A2 B2 M) (r := wX A B zx.2) (As := [.int (xs (x3 + 1).toNatClampNeg)]) (rest := [.int zx.1]) hx hb hml hown hts (kX7_seed l D A2 B2 _ M (xs (x3 + 1).toNatClampNeg) zm hfm) (cwV 1 hts gwRL_126 rfl rfl rfl hdX7_seed ⟨Nat.le_of_ble_eq_true rfl, Nat.le_of_ble_eq_true rfl⟩) hN hKM hP hD hS hA (va_recv hKM hP.left (ci := 7) (q0 := 0) rfl (eM_0 A2 B2 M)) rfl hl.1 rfl (Nat.le_of_ble_eq_true rfl) dL_law_1146 (st1 := [.int zm.1, .int zx.1]) rfl ⟨Nat.le_of_ble_eq_true rfl, Nat.le_of_ble_eq_true rfl⟩ (fun H locs hP hD hS => ?_)
  refine lv_icmp_eq (pc := 1149) hx hb (tgt := 1613) dL_law_1149 (by decide) (fun c9 => ?_) (fun c9 => absurd hrr c9)
  exact kk zx.2 zm.2 H locs ls hR1 hP hD hS hl
set_option maxHeartbeats 4000000 in
set_option maxRecDepth 100000 in
theorem law_25 {p : Program} {l : Launch} {e : Env} {s : State} {m : MethodId} {below : List Frame} {meth : Method} {c : Code} {D : va_G} {A A2 : Nat → Nat} {B B2 : Nat → ClassId} {b L : Nat} {xs : Nat → Int32} {Q : State → Prop} {Rel : w_S → w_S → Prop} (E : E_lot Rel) (C0 : lw_Cx p s m c b L xs D B B2) (x3 : Int32) (h1 : vp_in (x3 + 1) L) (h2 : vp_in (x3 + 2) L) (h3 : vp_in (x3 + 3) L) (h4 : vp_in (x3 + 4) L) (h5 : vp_in (x3 + 5) L) (X M : w_S) (hR : Rel X M) (H : Heap) (locs : List Loc) (ls : Array Slot) (hP : va_P D vwCl (wX A B X ++ wM A2 B2 M) H) (hD : va_D (lw_Ad s) (wX A B X ++ wM A2 B2 M)) (hS : va_S (lw_Ad s) s.heap H locs) (hl : lv_has ls 4 [(0, .ref b), (1, .ref (A 0)), (2, .ref (A2 0)), (3, .int x3)])
    (kk : ∀ (X M : w_S) (H : Heap) (locs : List Loc) (ls : Array Slot), Rel X M → va_P D vwCl (wX A B X ++ wM A2 B2 M) H → va_D (lw_Ad s) (wX A B X ++ wM A2 B2 M) → va_S (lw_Ad s) s.heap H locs → lv_has ls 4 [(0, .ref b), (1, .ref (A 0)), (2, .ref (A2 0)), (3, .int x3)] → W p l e room_1 s m #[.ref b] below meth c H locs lwC lwS Q (F0 m 1613 ls [])) : W p l e room_1 s m #[.ref b] below meth c H locs lwC lwS Q (F0 m 1154 ls []) := by
  obtain ⟨hx, hb, hts, hown, hml, hX, hbl, hN, hKX, hKM⟩ := C0
  have hA : ∀ q : Nat, s.heap.size ≤ q → lw_Ad s q := fun _ h => h
  have hbA : ¬ lw_Ad s b := Nat.not_le.mpr hbl
  refine lv_aload_n (pc := 1154) hx hb dL_law_1154 rfl (lv_at hl 1 rfl) ?_
  obtain ⟨zx, zm, hfx, hfm, hrr, hR1⟩ := E X M hR 
  refine cl_VF (pc := 1155) (a := wX A B X) (r := wM A2 B2 M) (As := []) (rest := []) hx hb hml hown hts (kX6_lot l D A B _ X zx hfx) (cwV 0 hts gwRL_127 rfl rfl rfl hdX6_lot ⟨Nat.le_of_ble_eq_true rfl, Nat.le_of_ble_eq_true rfl⟩) hN hKX hP hD hS hA (va_recv hKX hP.left (ci := 6) (q0 := 0) rfl (eX_0 A B X)) rfl hl.1 rfl (Nat.le_of_ble_eq_true rfl) dL_law_1155 (st1 := [.int zx.1]) rfl ⟨Nat.le_of_ble_eq_true rfl, Nat.le_of_ble_eq_true rfl⟩ (fun H locs hP hD hS => ?_)
  refine lv_aload_n (pc := 1158) hx hb dL_law_1158 rfl (lv_at hl 2 rfl) ?_
  refine cl_VF (pc := 1159) (a := wM A2 B2 M) (r := wX A B zx.2) (As := []) (rest := [.int zx.1]) hx hb hml hown hts (kX7_lot l D A2 B2 _ M zm hfm) (cwV 0 hts gwRL_130 rfl rfl rfl hdX7_lot ⟨Nat.le_of_ble_eq_true rfl, Nat.le_of_ble_eq_true rfl⟩) hN hKM hP hD hS hA (va_recv hKM hP.left (ci := 7) (q0 := 0) rfl (eM_0 A2 B2 M)) rfl hl.1 rfl (Nat.le_of_ble_eq_true rfl) dL_law_1159 (st1 := [.int zm.1, .int zx.1]) rfl ⟨Nat.le_of_ble_eq_true rfl, Nat.le_of_ble_eq_true rfl⟩ (fun H locs hP hD hS => ?_)
  refine lv_icmp_eq (pc := 1162) hx hb (tgt := 1613) dL_law_1162 (by decide) (fun c9 => ?_) (fun c9 => absurd hrr c9)
  exact kk zx.2 zm.2 H locs ls hR1 hP hD hS hl
set_option maxHeartbeats 4000000 in
set_option maxRecDepth 100000 in
theorem law_26 {p : Program} {l : Launch} {e : Env} {s : State} {m : MethodId} {below : List Frame} {meth : Method} {c : Code} {D : va_G} {A A2 : Nat → Nat} {B B2 : Nat → ClassId} {b L : Nat} {xs : Nat → Int32} {Q : State → Prop} {Rel : w_S → w_S → Prop} (E : E_times Rel) (C0 : lw_Cx p s m c b L xs D B B2) (x3 : Int32) (h1 : vp_in (x3 + 1) L) (h2 : vp_in (x3 + 2) L) (h3 : vp_in (x3 + 3) L) (h4 : vp_in (x3 + 4) L) (h5 : vp_in (x3 + 5) L) (X M : w_S) (hR : Rel X M) (H : Heap) (locs : List Loc) (ls : Array Slot) (hP : va_P D vwCl (wX A B X ++ wM A2 B2 M) H) (hD : va_D (lw_Ad s) (wX A B X ++ wM A2 B2 M)) (hS : va_S (lw_Ad s) s.heap H locs) (hl : lv_has ls 4 [(0, .ref b), (1, .ref (A 0)), (2, .ref (A2 0)), (3, .int x3)])
    (kk : ∀ (X M : w_S) (H : Heap) (locs : List Loc) (ls : Array Slot), Rel X M → va_P D vwCl (wX A B X ++ wM A2 B2 M) H → va_D (lw_Ad s) (wX A B X ++ wM A2 B2 M) → va_S (lw_Ad s) s.heap H locs → lv_has ls 4 [(0, .ref b), (1, .ref (A 0)), (2, .ref (A2 0)), (3, .int x3)] → W p l e room_1 s m #[.ref b] below meth c H locs lwC lwS Q (F0 m 1613 ls [])) : W p l e room_1 s m #[.ref b] below meth c H locs lwC lwS Q (F0 m 1167 ls []) := by
  obtain ⟨hx, hb, hts, hown, hml, hX, hbl, hN, hKX, hKM⟩ := C0
  have hA : ∀ q : Nat, s.heap.size ≤ q → lw_Ad s q := fun _ h => h
  have hbA : ¬ lw_Ad s b := Nat.not_le.mpr hbl
  refine lv_aload_n (pc := 1167) hx hb dL_law_1167 rfl (lv_at hl 1 rfl) ?_
  refine lv_aload_n (pc := 1168) hx hb dL_law_1168 rfl (lv_at hl 0 rfl) ?_
  refine lv_iload_n (pc := 1169) hx hb dL_law_1169 rfl (lv_at hl 3 rfl) ?_
  refine lv_iconst (pc := 1170) hx hb (v := 1) dL_law_1170 (by decide) ?_
  refine lv_iadd (pc := 1171) hx hb dL_law_1171 ?_
  refine va_sld (pc := 1172) hx hb hX hbl hbA hS h1 dL_law_1172 ?_
  refine lv_aload_n (pc := 1173) hx hb dL_law_1173 rfl (lv_at hl 0 rfl) ?_
  refine lv_iload_n (pc := 1174) hx hb dL_law_1174 rfl (lv_at hl 3 rfl) ?_
  refine lv_iconst (pc := 1175) hx hb (v := 2) dL_law_1175 (by decide) ?_
  refine lv_iadd (pc := 1176) hx hb dL_law_1176 ?_
  refine va_sld (pc := 1177) hx hb hX hbl hbA hS h2 dL_law_1177 ?_
  obtain ⟨zx, zm, hfx, hfm, hrr, hR1⟩ := E X M hR (xs (x3 + 1).toNatClampNeg) (xs (x3 + 2).toNatClampNeg)
  refine cl_VF (pc := 1178) (a := wX A B X) (r := wM A2 B2 M) (As := [.int (xs (x3 + 1).toNatClampNeg), .int (xs (x3 + 2).toNatClampNeg)]) (rest := []) hx hb hml hown hts (kX6_times l D A B _ X (xs (x3 + 1).toNatClampNeg) (xs (x3 + 2).toNatClampNeg) zx hfx) (cwV 2 hts gwRL_131 rfl rfl rfl hdX6_times ⟨Nat.le_of_ble_eq_true rfl, Nat.le_of_ble_eq_true rfl⟩) hN hKX hP hD hS hA (va_recv hKX hP.left (ci := 6) (q0 := 0) rfl (eX_0 A B X)) rfl hl.1 rfl (Nat.le_of_ble_eq_true rfl) dL_law_1178 (st1 := [.int zx.1]) rfl ⟨Nat.le_of_ble_eq_true rfl, Nat.le_of_ble_eq_true rfl⟩ (fun H locs hP hD hS => ?_)
  refine lv_aload_n (pc := 1181) hx hb dL_law_1181 rfl (lv_at hl 2 rfl) ?_
  refine lv_aload_n (pc := 1182) hx hb dL_law_1182 rfl (lv_at hl 0 rfl) ?_
  refine lv_iload_n (pc := 1183) hx hb dL_law_1183 rfl (lv_at hl 3 rfl) ?_
  refine lv_iconst (pc := 1184) hx hb (v := 1) dL_law_1184 (by decide) ?_
  refine lv_iadd (pc := 1185) hx hb dL_law_1185 ?_
  refine va_sld (pc := 1186) hx hb hX hbl hbA hS h1 dL_law_1186 ?_
  refine lv_aload_n (pc := 1187) hx hb dL_law_1187 rfl (lv_at hl 0 rfl) ?_
  refine lv_iload_n (pc := 1188) hx hb dL_law_1188 rfl (lv_at hl 3 rfl) ?_
  refine lv_iconst (pc := 1189) hx hb (v := 2) dL_law_1189 (by decide) ?_
  refine lv_iadd (pc := 1190) hx hb dL_law_1190 ?_
  refine va_sld (pc := 1191) hx hb hX hbl hbA hS h2 dL_law_1191 ?_
  refine cl_VF (pc := 1192) (a := wM A2 B2 M) (r := wX A B zx.2) (As := [.int (xs (x3 + 1).toNatClampNeg), .int (xs (x3 + 2).toNatClampNeg)]) (rest := [.int zx.1]) hx hb hml hown hts (kX7_times l D A2 B2 _ M (xs (x3 + 1).toNatClampNeg) (xs (x3 + 2).toNatClampNeg) zm hfm) (cwV 2 hts gwRL_134 rfl rfl rfl hdX7_times ⟨Nat.le_of_ble_eq_true rfl, Nat.le_of_ble_eq_true rfl⟩) hN hKM hP hD hS hA (va_recv hKM hP.left (ci := 7) (q0 := 0) rfl (eM_0 A2 B2 M)) rfl hl.1 rfl (Nat.le_of_ble_eq_true rfl) dL_law_1192 (st1 := [.int zm.1, .int zx.1]) rfl ⟨Nat.le_of_ble_eq_true rfl, Nat.le_of_ble_eq_true rfl⟩ (fun H locs hP hD hS => ?_)
  refine lv_icmp_eq (pc := 1195) hx hb (tgt := 1613) dL_law_1195 (by decide) (fun c9 => ?_) (fun c9 => absurd hrr c9)
  exact kk zx.2 zm.2 H locs ls hR1 hP hD hS hl
set_option maxHeartbeats 4000000 in
set_option maxRecDepth 100000 in
theorem law_27 {p : Program} {l : Launch} {e : Env} {s : State} {m : MethodId} {below : List Frame} {meth : Method} {c : Code} {D : va_G} {A A2 : Nat → Nat} {B B2 : Nat → ClassId} {b L : Nat} {xs : Nat → Int32} {Q : State → Prop} {Rel : w_S → w_S → Prop} (E : E_sheet Rel) (C0 : lw_Cx p s m c b L xs D B B2) (x3 : Int32) (h1 : vp_in (x3 + 1) L) (h2 : vp_in (x3 + 2) L) (h3 : vp_in (x3 + 3) L) (h4 : vp_in (x3 + 4) L) (h5 : vp_in (x3 + 5) L) (X M : w_S) (hR : Rel X M) (H : Heap) (locs : List Loc) (ls : Array Slot) (hP : va_P D vwCl (wX A B X ++ wM A2 B2 M) H) (hD : va_D (lw_Ad s) (wX A B X ++ wM A2 B2 M)) (hS : va_S (lw_Ad s) s.heap H locs) (hl : lv_has ls 4 [(0, .ref b), (1, .ref (A 0)), (2, .ref (A2 0)), (3, .int x3)])
    (kk : ∀ (X M : w_S) (H : Heap) (locs : List Loc) (ls : Array Slot), Rel X M → va_P D vwCl (wX A B X ++ wM A2 B2 M) H → va_D (lw_Ad s) (wX A B X ++ wM A2 B2 M) → va_S (lw_Ad s) s.heap H locs → lv_has ls 4 [(0, .ref b), (1, .ref (A 0)), (2, .ref (A2 0)), (3, .int x3)] → W p l e room_1 s m #[.ref b] below meth c H locs lwC lwS Q (F0 m 1613 ls [])) : W p l e room_1 s m #[.ref b] below meth c H locs lwC lwS Q (F0 m 1200 ls []) := by
  obtain ⟨hx, hb, hts, hown, hml, hX, hbl, hN, hKX, hKM⟩ := C0
  have hA : ∀ q : Nat, s.heap.size ≤ q → lw_Ad s q := fun _ h => h
  have hbA : ¬ lw_Ad s b := Nat.not_le.mpr hbl
  refine lv_aload_n (pc := 1200) hx hb dL_law_1200 rfl (lv_at hl 1 rfl) ?_
  refine lv_aload_n (pc := 1201) hx hb dL_law_1201 rfl (lv_at hl 0 rfl) ?_
  refine lv_iload_n (pc := 1202) hx hb dL_law_1202 rfl (lv_at hl 3 rfl) ?_
  refine lv_iconst (pc := 1203) hx hb (v := 1) dL_law_1203 (by decide) ?_
  refine lv_iadd (pc := 1204) hx hb dL_law_1204 ?_
  refine va_sld (pc := 1205) hx hb hX hbl hbA hS h1 dL_law_1205 ?_
  refine lv_aload_n (pc := 1206) hx hb dL_law_1206 rfl (lv_at hl 0 rfl) ?_
  refine lv_iload_n (pc := 1207) hx hb dL_law_1207 rfl (lv_at hl 3 rfl) ?_
  refine lv_iconst (pc := 1208) hx hb (v := 2) dL_law_1208 (by decide) ?_
  refine lv_iadd (pc := 1209) hx hb dL_law_1209 ?_
  refine va_sld (pc := 1210) hx hb hX hbl hbA hS h2 dL_law_1210 ?_
  refine lv_aload_n (pc := 1211) hx hb dL_law_1211 rfl (lv_at hl 0 rfl) ?_
  refine lv_iload_n (pc := 1212) hx hb dL_law_1212 rfl (lv_at hl 3 rfl) ?_
  refine lv_iconst (pc := 1213) hx hb (v := 3) dL_law_1213 (by decide) ?_
  refine lv_iadd (pc := 1214) hx hb dL_law_1214 ?_
  refine va_sld (pc := 1215) hx hb hX hbl hbA hS h3 dL_law_1215 ?_
  obtain ⟨zx, zm, hfx, hfm, hrr, hR1⟩ := E X M hR (xs (x3 + 1).toNatClampNeg) (xs (x3 + 2).toNatClampNeg) (xs (x3 + 3).toNatClampNeg)
  refine cl_VF (pc := 1216) (a := wX A B X) (r := wM A2 B2 M) (As := [.int (xs (x3 + 1).toNatClampNeg), .int (xs (x3 + 2).toNatClampNeg), .int (xs (x3 + 3).toNatClampNeg)]) (rest := []) hx hb hml hown hts (kX6_sheet l D A B _ X (xs (x3 + 1).toNatClampNeg) (xs (x3 + 2).toNatClampNeg) (xs (x3 + 3).toNatClampNeg) zx hfx) (cwV 3 hts gwRL_135 rfl rfl rfl hdX6_sheet ⟨Nat.le_of_ble_eq_true rfl, Nat.le_of_ble_eq_true rfl⟩) hN hKX hP hD hS hA (va_recv hKX hP.left (ci := 6) (q0 := 0) rfl (eX_0 A B X)) rfl hl.1 rfl (Nat.le_of_ble_eq_true rfl) dL_law_1216 (st1 := [.int zx.1]) rfl ⟨Nat.le_of_ble_eq_true rfl, Nat.le_of_ble_eq_true rfl⟩ (fun H locs hP hD hS => ?_)
  refine lv_aload_n (pc := 1219) hx hb dL_law_1219 rfl (lv_at hl 2 rfl) ?_
  refine lv_aload_n (pc := 1220) hx hb dL_law_1220 rfl (lv_at hl 0 rfl) ?_
  refine lv_iload_n (pc := 1221) hx hb dL_law_1221 rfl (lv_at hl 3 rfl) ?_
  refine lv_iconst (pc := 1222) hx hb (v := 1) dL_law_1222 (by decide) ?_
  refine lv_iadd (pc := 1223) hx hb dL_law_1223 ?_
  refine va_sld (pc := 1224) hx hb hX hbl hbA hS h1 dL_law_1224 ?_
  refine lv_aload_n (pc := 1225) hx hb dL_law_1225 rfl (lv_at hl 0 rfl) ?_
  refine lv_iload_n (pc := 1226) hx hb dL_law_1226 rfl (lv_at hl 3 rfl) ?_
  refine lv_iconst (pc := 1227) hx hb (v := 2) dL_law_1227 (by decide) ?_
  refine lv_iadd (pc := 1228) hx hb dL_law_1228 ?_
  refine va_sld (pc := 1229) hx hb hX hbl hbA hS h2 dL_law_1229 ?_
  refine lv_aload_n (pc := 1230) hx hb dL_law_1230 rfl (lv_at hl 0 rfl) ?_
  refine lv_iload_n (pc := 1231) hx hb dL_law_1231 rfl (lv_at hl 3 rfl) ?_
  refine lv_iconst (pc := 1232) hx hb (v := 3) dL_law_1232 (by decide) ?_
  refine lv_iadd (pc := 1233) hx hb dL_law_1233 ?_
  refine va_sld (pc := 1234) hx hb hX hbl hbA hS h3 dL_law_1234 ?_
  refine cl_VF (pc := 1235) (a := wM A2 B2 M) (r := wX A B zx.2) (As := [.int (xs (x3 + 1).toNatClampNeg), .int (xs (x3 + 2).toNatClampNeg), .int (xs (x3 + 3).toNatClampNeg)]) (rest := [.int zx.1]) hx hb hml hown hts (kX7_sheet l D A2 B2 _ M (xs (x3 + 1).toNatClampNeg) (xs (x3 + 2).toNatClampNeg) (xs (x3 + 3).toNatClampNeg) zm hfm) (cwV 3 hts gwRL_138 rfl rfl rfl hdX7_sheet ⟨Nat.le_of_ble_eq_true rfl, Nat.le_of_ble_eq_true rfl⟩) hN hKM hP hD hS hA (va_recv hKM hP.left (ci := 7) (q0 := 0) rfl (eM_0 A2 B2 M)) rfl hl.1 rfl (Nat.le_of_ble_eq_true rfl) dL_law_1235 (st1 := [.int zm.1, .int zx.1]) rfl ⟨Nat.le_of_ble_eq_true rfl, Nat.le_of_ble_eq_true rfl⟩ (fun H locs hP hD hS => ?_)
  refine lv_icmp_eq (pc := 1238) hx hb (tgt := 1613) dL_law_1238 (by decide) (fun c9 => ?_) (fun c9 => absurd hrr c9)
  exact kk zx.2 zm.2 H locs ls hR1 hP hD hS hl
set_option maxHeartbeats 4000000 in
set_option maxRecDepth 100000 in
theorem law_28 {p : Program} {l : Launch} {e : Env} {s : State} {m : MethodId} {below : List Frame} {meth : Method} {c : Code} {D : va_G} {A A2 : Nat → Nat} {B B2 : Nat → ClassId} {b L : Nat} {xs : Nat → Int32} {Q : State → Prop} {Rel : w_S → w_S → Prop} (E : E_put Rel) (C0 : lw_Cx p s m c b L xs D B B2) (x3 : Int32) (h1 : vp_in (x3 + 1) L) (h2 : vp_in (x3 + 2) L) (h3 : vp_in (x3 + 3) L) (h4 : vp_in (x3 + 4) L) (h5 : vp_in (x3 + 5) L) (X M : w_S) (hR : Rel X M) (H : Heap) (locs : List Loc) (ls : Array Slot) (hP : va_P D vwCl (wX A B X ++ wM A2 B2 M) H) (hD : va_D (lw_Ad s) (wX A B X ++ wM A2 B2 M)) (hS : va_S (lw_Ad s) s.heap H locs) (hl : lv_has ls 4 [(0, .ref b), (1, .ref (A 0)), (2, .ref (A2 0)), (3, .int x3)])
    (kk : ∀ (X M : w_S) (H : Heap) (locs : List Loc) (ls : Array Slot), Rel X M → va_P D vwCl (wX A B X ++ wM A2 B2 M) H → va_D (lw_Ad s) (wX A B X ++ wM A2 B2 M) → va_S (lw_Ad s) s.heap H locs → lv_has ls 4 [(0, .ref b), (1, .ref (A 0)), (2, .ref (A2 0)), (3, .int x3)] → W p l e room_1 s m #[.ref b] below meth c H locs lwC lwS Q (F0 m 1613 ls [])) : W p l e room_1 s m #[.ref b] below meth c H locs lwC lwS Q (F0 m 1243 ls []) := by
  obtain ⟨hx, hb, hts, hown, hml, hX, hbl, hN, hKX, hKM⟩ := C0
  have hA : ∀ q : Nat, s.heap.size ≤ q → lw_Ad s q := fun _ h => h
  have hbA : ¬ lw_Ad s b := Nat.not_le.mpr hbl
  refine lv_aload_n (pc := 1243) hx hb dL_law_1243 rfl (lv_at hl 1 rfl) ?_
  refine lv_aload_n (pc := 1244) hx hb dL_law_1244 rfl (lv_at hl 0 rfl) ?_
  refine lv_iload_n (pc := 1245) hx hb dL_law_1245 rfl (lv_at hl 3 rfl) ?_
  refine lv_iconst (pc := 1246) hx hb (v := 1) dL_law_1246 (by decide) ?_
  refine lv_iadd (pc := 1247) hx hb dL_law_1247 ?_
  refine va_sld (pc := 1248) hx hb hX hbl hbA hS h1 dL_law_1248 ?_
  refine lv_aload_n (pc := 1249) hx hb dL_law_1249 rfl (lv_at hl 0 rfl) ?_
  refine lv_iload_n (pc := 1250) hx hb dL_law_1250 rfl (lv_at hl 3 rfl) ?_
  refine lv_iconst (pc := 1251) hx hb (v := 2) dL_law_1251 (by decide) ?_
  refine lv_iadd (pc := 1252) hx hb dL_law_1252 ?_
  refine va_sld (pc := 1253) hx hb hX hbl hbA hS h2 dL_law_1253 ?_
  refine lv_aload_n (pc := 1254) hx hb dL_law_1254 rfl (lv_at hl 0 rfl) ?_
  refine lv_iload_n (pc := 1255) hx hb dL_law_1255 rfl (lv_at hl 3 rfl) ?_
  refine lv_iconst (pc := 1256) hx hb (v := 3) dL_law_1256 (by decide) ?_
  refine lv_iadd (pc := 1257) hx hb dL_law_1257 ?_
  refine va_sld (pc := 1258) hx hb hX hbl hbA hS h3 dL_law_1258 ?_
  refine lv_i2l (pc := 1259) hx hb (v := (xs (x3 + 3).toNatClampNeg).toInt64) dL_law_1259 rfl ?_
  refine lv_bipush (pc := 1260) hx hb (v := 32) dL_law_1260 (by decide) ?_
  refine lv_lshl (pc := 1262) hx hb (v := ((xs (x3 + 3).toNatClampNeg).toInt64) <<< ((32 : Int32).toInt64 &&& 63)) dL_law_1262 rfl ?_
  refine lv_aload_n (pc := 1263) hx hb dL_law_1263 rfl (lv_at hl 0 rfl) ?_
  refine lv_iload_n (pc := 1264) hx hb dL_law_1264 rfl (lv_at hl 3 rfl) ?_
  refine lv_iconst (pc := 1265) hx hb (v := 4) dL_law_1265 (by decide) ?_
  refine lv_iadd (pc := 1266) hx hb dL_law_1266 ?_
  refine va_sld (pc := 1267) hx hb hX hbl hbA hS h4 dL_law_1267 ?_
  refine lv_i2l (pc := 1268) hx hb (v := (xs (x3 + 4).toNatClampNeg).toInt64) dL_law_1268 rfl ?_
  refine lv_ldc2 (pc := 1269) hx hb (v := 4294967295) hown (hts (.constantLong RL 42 (4294967295)) mU_6) dL_law_1269 ?_
  refine lv_land (pc := 1272) hx hb dL_law_1272 ?_
  refine lv_lor (pc := 1273) hx hb dL_law_1273 ?_
  obtain ⟨zx, zm, hfx, hfm, hrr, hR1⟩ := E X M hR (xs (x3 + 1).toNatClampNeg) (xs (x3 + 2).toNatClampNeg) ((((xs (x3 + 3).toNatClampNeg).toInt64) <<< ((32 : Int32).toInt64 &&& 63)) ||| (((xs (x3 + 4).toNatClampNeg).toInt64) &&& 4294967295))
  refine cl_VF (pc := 1274) (a := wX A B X) (r := wM A2 B2 M) (As := [.int (xs (x3 + 1).toNatClampNeg), .int (xs (x3 + 2).toNatClampNeg), .long ((((xs (x3 + 3).toNatClampNeg).toInt64) <<< ((32 : Int32).toInt64 &&& 63)) ||| (((xs (x3 + 4).toNatClampNeg).toInt64) &&& 4294967295))]) (rest := []) hx hb hml hown hts (kX6_put l D A B _ X (xs (x3 + 1).toNatClampNeg) (xs (x3 + 2).toNatClampNeg) ((((xs (x3 + 3).toNatClampNeg).toInt64) <<< ((32 : Int32).toInt64 &&& 63)) ||| (((xs (x3 + 4).toNatClampNeg).toInt64) &&& 4294967295)) zx hfx) (cwV 3 hts gwRL_139 rfl rfl rfl hdX6_put ⟨Nat.le_of_ble_eq_true rfl, Nat.le_of_ble_eq_true rfl⟩) hN hKX hP hD hS hA (va_recv hKX hP.left (ci := 6) (q0 := 0) rfl (eX_0 A B X)) rfl hl.1 rfl (Nat.le_of_ble_eq_true rfl) dL_law_1274 (st1 := [.int zx.1]) rfl ⟨Nat.le_of_ble_eq_true rfl, Nat.le_of_ble_eq_true rfl⟩ (fun H locs hP hD hS => ?_)
  refine lv_aload_n (pc := 1277) hx hb dL_law_1277 rfl (lv_at hl 2 rfl) ?_
  refine lv_aload_n (pc := 1278) hx hb dL_law_1278 rfl (lv_at hl 0 rfl) ?_
  refine lv_iload_n (pc := 1279) hx hb dL_law_1279 rfl (lv_at hl 3 rfl) ?_
  refine lv_iconst (pc := 1280) hx hb (v := 1) dL_law_1280 (by decide) ?_
  refine lv_iadd (pc := 1281) hx hb dL_law_1281 ?_
  refine va_sld (pc := 1282) hx hb hX hbl hbA hS h1 dL_law_1282 ?_
  refine lv_aload_n (pc := 1283) hx hb dL_law_1283 rfl (lv_at hl 0 rfl) ?_
  refine lv_iload_n (pc := 1284) hx hb dL_law_1284 rfl (lv_at hl 3 rfl) ?_
  refine lv_iconst (pc := 1285) hx hb (v := 2) dL_law_1285 (by decide) ?_
  refine lv_iadd (pc := 1286) hx hb dL_law_1286 ?_
  refine va_sld (pc := 1287) hx hb hX hbl hbA hS h2 dL_law_1287 ?_
  refine lv_aload_n (pc := 1288) hx hb dL_law_1288 rfl (lv_at hl 0 rfl) ?_
  refine lv_iload_n (pc := 1289) hx hb dL_law_1289 rfl (lv_at hl 3 rfl) ?_
  refine lv_iconst (pc := 1290) hx hb (v := 3) dL_law_1290 (by decide) ?_
  refine lv_iadd (pc := 1291) hx hb dL_law_1291 ?_
  refine va_sld (pc := 1292) hx hb hX hbl hbA hS h3 dL_law_1292 ?_
  refine lv_i2l (pc := 1293) hx hb (v := (xs (x3 + 3).toNatClampNeg).toInt64) dL_law_1293 rfl ?_
  refine lv_bipush (pc := 1294) hx hb (v := 32) dL_law_1294 (by decide) ?_
  refine lv_lshl (pc := 1296) hx hb (v := ((xs (x3 + 3).toNatClampNeg).toInt64) <<< ((32 : Int32).toInt64 &&& 63)) dL_law_1296 rfl ?_
  refine lv_aload_n (pc := 1297) hx hb dL_law_1297 rfl (lv_at hl 0 rfl) ?_
  refine lv_iload_n (pc := 1298) hx hb dL_law_1298 rfl (lv_at hl 3 rfl) ?_
  refine lv_iconst (pc := 1299) hx hb (v := 4) dL_law_1299 (by decide) ?_
  refine lv_iadd (pc := 1300) hx hb dL_law_1300 ?_
  refine va_sld (pc := 1301) hx hb hX hbl hbA hS h4 dL_law_1301 ?_
  refine lv_i2l (pc := 1302) hx hb (v := (xs (x3 + 4).toNatClampNeg).toInt64) dL_law_1302 rfl ?_
  refine lv_ldc2 (pc := 1303) hx hb (v := 4294967295) hown (hts (.constantLong RL 42 (4294967295)) mU_6) dL_law_1303 ?_
  refine lv_land (pc := 1306) hx hb dL_law_1306 ?_
  refine lv_lor (pc := 1307) hx hb dL_law_1307 ?_
  refine cl_VF (pc := 1308) (a := wM A2 B2 M) (r := wX A B zx.2) (As := [.int (xs (x3 + 1).toNatClampNeg), .int (xs (x3 + 2).toNatClampNeg), .long ((((xs (x3 + 3).toNatClampNeg).toInt64) <<< ((32 : Int32).toInt64 &&& 63)) ||| (((xs (x3 + 4).toNatClampNeg).toInt64) &&& 4294967295))]) (rest := [.int zx.1]) hx hb hml hown hts (kX7_put l D A2 B2 _ M (xs (x3 + 1).toNatClampNeg) (xs (x3 + 2).toNatClampNeg) ((((xs (x3 + 3).toNatClampNeg).toInt64) <<< ((32 : Int32).toInt64 &&& 63)) ||| (((xs (x3 + 4).toNatClampNeg).toInt64) &&& 4294967295)) zm hfm) (cwV 3 hts gwRL_143 rfl rfl rfl hdX7_put ⟨Nat.le_of_ble_eq_true rfl, Nat.le_of_ble_eq_true rfl⟩) hN hKM hP hD hS hA (va_recv hKM hP.left (ci := 7) (q0 := 0) rfl (eM_0 A2 B2 M)) rfl hl.1 rfl (Nat.le_of_ble_eq_true rfl) dL_law_1308 (st1 := [.int zm.1, .int zx.1]) rfl ⟨Nat.le_of_ble_eq_true rfl, Nat.le_of_ble_eq_true rfl⟩ (fun H locs hP hD hS => ?_)
  refine lv_icmp_eq (pc := 1311) hx hb (tgt := 1613) dL_law_1311 (by decide) (fun c9 => ?_) (fun c9 => absurd hrr c9)
  exact kk zx.2 zm.2 H locs ls hR1 hP hD hS hl
set_option maxHeartbeats 4000000 in
set_option maxRecDepth 100000 in
theorem law_29 {p : Program} {l : Launch} {e : Env} {s : State} {m : MethodId} {below : List Frame} {meth : Method} {c : Code} {D : va_G} {A A2 : Nat → Nat} {B B2 : Nat → ClassId} {b L : Nat} {xs : Nat → Int32} {Q : State → Prop} {Rel : w_S → w_S → Prop} (E : E_item Rel) (C0 : lw_Cx p s m c b L xs D B B2) (x3 : Int32) (h1 : vp_in (x3 + 1) L) (h2 : vp_in (x3 + 2) L) (h3 : vp_in (x3 + 3) L) (h4 : vp_in (x3 + 4) L) (h5 : vp_in (x3 + 5) L) (X M : w_S) (hR : Rel X M) (H : Heap) (locs : List Loc) (ls : Array Slot) (hP : va_P D vwCl (wX A B X ++ wM A2 B2 M) H) (hD : va_D (lw_Ad s) (wX A B X ++ wM A2 B2 M)) (hS : va_S (lw_Ad s) s.heap H locs) (hl : lv_has ls 4 [(0, .ref b), (1, .ref (A 0)), (2, .ref (A2 0)), (3, .int x3)])
    (kk : ∀ (X M : w_S) (H : Heap) (locs : List Loc) (ls : Array Slot), Rel X M → va_P D vwCl (wX A B X ++ wM A2 B2 M) H → va_D (lw_Ad s) (wX A B X ++ wM A2 B2 M) → va_S (lw_Ad s) s.heap H locs → lv_has ls 4 [(0, .ref b), (1, .ref (A 0)), (2, .ref (A2 0)), (3, .int x3)] → W p l e room_1 s m #[.ref b] below meth c H locs lwC lwS Q (F0 m 1613 ls [])) : W p l e room_1 s m #[.ref b] below meth c H locs lwC lwS Q (F0 m 1316 ls []) := by
  obtain ⟨hx, hb, hts, hown, hml, hX, hbl, hN, hKX, hKM⟩ := C0
  have hA : ∀ q : Nat, s.heap.size ≤ q → lw_Ad s q := fun _ h => h
  have hbA : ¬ lw_Ad s b := Nat.not_le.mpr hbl
  refine lv_aload_n (pc := 1316) hx hb dL_law_1316 rfl (lv_at hl 1 rfl) ?_
  refine lv_aload_n (pc := 1317) hx hb dL_law_1317 rfl (lv_at hl 0 rfl) ?_
  refine lv_iload_n (pc := 1318) hx hb dL_law_1318 rfl (lv_at hl 3 rfl) ?_
  refine lv_iconst (pc := 1319) hx hb (v := 1) dL_law_1319 (by decide) ?_
  refine lv_iadd (pc := 1320) hx hb dL_law_1320 ?_
  refine va_sld (pc := 1321) hx hb hX hbl hbA hS h1 dL_law_1321 ?_
  refine lv_aload_n (pc := 1322) hx hb dL_law_1322 rfl (lv_at hl 0 rfl) ?_
  refine lv_iload_n (pc := 1323) hx hb dL_law_1323 rfl (lv_at hl 3 rfl) ?_
  refine lv_iconst (pc := 1324) hx hb (v := 2) dL_law_1324 (by decide) ?_
  refine lv_iadd (pc := 1325) hx hb dL_law_1325 ?_
  refine va_sld (pc := 1326) hx hb hX hbl hbA hS h2 dL_law_1326 ?_
  refine lv_aload_n (pc := 1327) hx hb dL_law_1327 rfl (lv_at hl 0 rfl) ?_
  refine lv_iload_n (pc := 1328) hx hb dL_law_1328 rfl (lv_at hl 3 rfl) ?_
  refine lv_iconst (pc := 1329) hx hb (v := 3) dL_law_1329 (by decide) ?_
  refine lv_iadd (pc := 1330) hx hb dL_law_1330 ?_
  refine va_sld (pc := 1331) hx hb hX hbl hbA hS h3 dL_law_1331 ?_
  obtain ⟨zx, zm, hfx, hfm, hrr, hR1⟩ := E X M hR (xs (x3 + 1).toNatClampNeg) (xs (x3 + 2).toNatClampNeg) (xs (x3 + 3).toNatClampNeg)
  refine cl_VF (pc := 1332) (a := wX A B X) (r := wM A2 B2 M) (As := [.int (xs (x3 + 1).toNatClampNeg), .int (xs (x3 + 2).toNatClampNeg), .int (xs (x3 + 3).toNatClampNeg)]) (rest := []) hx hb hml hown hts (kX6_item l D A B _ X (xs (x3 + 1).toNatClampNeg) (xs (x3 + 2).toNatClampNeg) (xs (x3 + 3).toNatClampNeg) zx hfx) (cwV 3 hts gwRL_144 rfl rfl rfl hdX6_item ⟨Nat.le_of_ble_eq_true rfl, Nat.le_of_ble_eq_true rfl⟩) hN hKX hP hD hS hA (va_recv hKX hP.left (ci := 6) (q0 := 0) rfl (eX_0 A B X)) rfl hl.1 rfl (Nat.le_of_ble_eq_true rfl) dL_law_1332 (st1 := [.int zx]) rfl ⟨Nat.le_of_ble_eq_true rfl, Nat.le_of_ble_eq_true rfl⟩ (fun H locs hP hD hS => ?_)
  refine lv_aload_n (pc := 1335) hx hb dL_law_1335 rfl (lv_at hl 2 rfl) ?_
  refine lv_aload_n (pc := 1336) hx hb dL_law_1336 rfl (lv_at hl 0 rfl) ?_
  refine lv_iload_n (pc := 1337) hx hb dL_law_1337 rfl (lv_at hl 3 rfl) ?_
  refine lv_iconst (pc := 1338) hx hb (v := 1) dL_law_1338 (by decide) ?_
  refine lv_iadd (pc := 1339) hx hb dL_law_1339 ?_
  refine va_sld (pc := 1340) hx hb hX hbl hbA hS h1 dL_law_1340 ?_
  refine lv_aload_n (pc := 1341) hx hb dL_law_1341 rfl (lv_at hl 0 rfl) ?_
  refine lv_iload_n (pc := 1342) hx hb dL_law_1342 rfl (lv_at hl 3 rfl) ?_
  refine lv_iconst (pc := 1343) hx hb (v := 2) dL_law_1343 (by decide) ?_
  refine lv_iadd (pc := 1344) hx hb dL_law_1344 ?_
  refine va_sld (pc := 1345) hx hb hX hbl hbA hS h2 dL_law_1345 ?_
  refine lv_aload_n (pc := 1346) hx hb dL_law_1346 rfl (lv_at hl 0 rfl) ?_
  refine lv_iload_n (pc := 1347) hx hb dL_law_1347 rfl (lv_at hl 3 rfl) ?_
  refine lv_iconst (pc := 1348) hx hb (v := 3) dL_law_1348 (by decide) ?_
  refine lv_iadd (pc := 1349) hx hb dL_law_1349 ?_
  refine va_sld (pc := 1350) hx hb hX hbl hbA hS h3 dL_law_1350 ?_
  refine cl_VF (pc := 1351) (a := wM A2 B2 M) (r := wX A B X) (As := [.int (xs (x3 + 1).toNatClampNeg), .int (xs (x3 + 2).toNatClampNeg), .int (xs (x3 + 3).toNatClampNeg)]) (rest := [.int zx]) hx hb hml hown hts (kX7_item l D A2 B2 _ M (xs (x3 + 1).toNatClampNeg) (xs (x3 + 2).toNatClampNeg) (xs (x3 + 3).toNatClampNeg) zm hfm) (cwV 3 hts gwRL_147 rfl rfl rfl hdX7_item ⟨Nat.le_of_ble_eq_true rfl, Nat.le_of_ble_eq_true rfl⟩) hN hKM hP hD hS hA (va_recv hKM hP.left (ci := 7) (q0 := 0) rfl (eM_0 A2 B2 M)) rfl hl.1 rfl (Nat.le_of_ble_eq_true rfl) dL_law_1351 (st1 := [.int zm, .int zx]) rfl ⟨Nat.le_of_ble_eq_true rfl, Nat.le_of_ble_eq_true rfl⟩ (fun H locs hP hD hS => ?_)
  refine lv_icmp_eq (pc := 1354) hx hb (tgt := 1613) dL_law_1354 (by decide) (fun c9 => ?_) (fun c9 => absurd hrr c9)
  exact kk X M H locs ls hR1 hP hD hS hl
set_option maxHeartbeats 4000000 in
set_option maxRecDepth 100000 in
theorem law_30 {p : Program} {l : Launch} {e : Env} {s : State} {m : MethodId} {below : List Frame} {meth : Method} {c : Code} {D : va_G} {A A2 : Nat → Nat} {B B2 : Nat → ClassId} {b L : Nat} {xs : Nat → Int32} {Q : State → Prop} {Rel : w_S → w_S → Prop} (E : E_move Rel) (C0 : lw_Cx p s m c b L xs D B B2) (x3 : Int32) (h1 : vp_in (x3 + 1) L) (h2 : vp_in (x3 + 2) L) (h3 : vp_in (x3 + 3) L) (h4 : vp_in (x3 + 4) L) (h5 : vp_in (x3 + 5) L) (X M : w_S) (hR : Rel X M) (H : Heap) (locs : List Loc) (ls : Array Slot) (hP : va_P D vwCl (wX A B X ++ wM A2 B2 M) H) (hD : va_D (lw_Ad s) (wX A B X ++ wM A2 B2 M)) (hS : va_S (lw_Ad s) s.heap H locs) (hl : lv_has ls 4 [(0, .ref b), (1, .ref (A 0)), (2, .ref (A2 0)), (3, .int x3)])
    (kk : ∀ (X M : w_S) (H : Heap) (locs : List Loc) (ls : Array Slot), Rel X M → va_P D vwCl (wX A B X ++ wM A2 B2 M) H → va_D (lw_Ad s) (wX A B X ++ wM A2 B2 M) → va_S (lw_Ad s) s.heap H locs → lv_has ls 4 [(0, .ref b), (1, .ref (A 0)), (2, .ref (A2 0)), (3, .int x3)] → W p l e room_1 s m #[.ref b] below meth c H locs lwC lwS Q (F0 m 1613 ls [])) : W p l e room_1 s m #[.ref b] below meth c H locs lwC lwS Q (F0 m 1359 ls []) := by
  obtain ⟨hx, hb, hts, hown, hml, hX, hbl, hN, hKX, hKM⟩ := C0
  have hA : ∀ q : Nat, s.heap.size ≤ q → lw_Ad s q := fun _ h => h
  have hbA : ¬ lw_Ad s b := Nat.not_le.mpr hbl
  refine lv_aload_n (pc := 1359) hx hb dL_law_1359 rfl (lv_at hl 1 rfl) ?_
  refine lv_aload_n (pc := 1360) hx hb dL_law_1360 rfl (lv_at hl 0 rfl) ?_
  refine lv_iload_n (pc := 1361) hx hb dL_law_1361 rfl (lv_at hl 3 rfl) ?_
  refine lv_iconst (pc := 1362) hx hb (v := 1) dL_law_1362 (by decide) ?_
  refine lv_iadd (pc := 1363) hx hb dL_law_1363 ?_
  refine va_sld (pc := 1364) hx hb hX hbl hbA hS h1 dL_law_1364 ?_
  refine lv_aload_n (pc := 1365) hx hb dL_law_1365 rfl (lv_at hl 0 rfl) ?_
  refine lv_iload_n (pc := 1366) hx hb dL_law_1366 rfl (lv_at hl 3 rfl) ?_
  refine lv_iconst (pc := 1367) hx hb (v := 2) dL_law_1367 (by decide) ?_
  refine lv_iadd (pc := 1368) hx hb dL_law_1368 ?_
  refine va_sld (pc := 1369) hx hb hX hbl hbA hS h2 dL_law_1369 ?_
  refine lv_aload_n (pc := 1370) hx hb dL_law_1370 rfl (lv_at hl 0 rfl) ?_
  refine lv_iload_n (pc := 1371) hx hb dL_law_1371 rfl (lv_at hl 3 rfl) ?_
  refine lv_iconst (pc := 1372) hx hb (v := 3) dL_law_1372 (by decide) ?_
  refine lv_iadd (pc := 1373) hx hb dL_law_1373 ?_
  refine va_sld (pc := 1374) hx hb hX hbl hbA hS h3 dL_law_1374 ?_
  refine lv_aload_n (pc := 1375) hx hb dL_law_1375 rfl (lv_at hl 0 rfl) ?_
  refine lv_iload_n (pc := 1376) hx hb dL_law_1376 rfl (lv_at hl 3 rfl) ?_
  refine lv_iconst (pc := 1377) hx hb (v := 4) dL_law_1377 (by decide) ?_
  refine lv_iadd (pc := 1378) hx hb dL_law_1378 ?_
  refine va_sld (pc := 1379) hx hb hX hbl hbA hS h4 dL_law_1379 ?_
  refine lv_aload_n (pc := 1380) hx hb dL_law_1380 rfl (lv_at hl 0 rfl) ?_
  refine lv_iload_n (pc := 1381) hx hb dL_law_1381 rfl (lv_at hl 3 rfl) ?_
  refine lv_iconst (pc := 1382) hx hb (v := 5) dL_law_1382 (by decide) ?_
  refine lv_iadd (pc := 1383) hx hb dL_law_1383 ?_
  refine va_sld (pc := 1384) hx hb hX hbl hbA hS h5 dL_law_1384 ?_
  obtain ⟨zx, zm, hfx, hfm, hrr, hR1⟩ := E X M hR (xs (x3 + 1).toNatClampNeg) (xs (x3 + 2).toNatClampNeg) (xs (x3 + 3).toNatClampNeg) (xs (x3 + 4).toNatClampNeg) (xs (x3 + 5).toNatClampNeg)
  refine cl_VF (pc := 1385) (a := wX A B X) (r := wM A2 B2 M) (As := [.int (xs (x3 + 1).toNatClampNeg), .int (xs (x3 + 2).toNatClampNeg), .int (xs (x3 + 3).toNatClampNeg), .int (xs (x3 + 4).toNatClampNeg), .int (xs (x3 + 5).toNatClampNeg)]) (rest := []) hx hb hml hown hts (kX6_move l D A B _ X (xs (x3 + 1).toNatClampNeg) (xs (x3 + 2).toNatClampNeg) (xs (x3 + 3).toNatClampNeg) (xs (x3 + 4).toNatClampNeg) (xs (x3 + 5).toNatClampNeg) zx hfx) (cwV 5 hts gwRL_148 rfl rfl rfl hdX6_move ⟨Nat.le_of_ble_eq_true rfl, Nat.le_of_ble_eq_true rfl⟩) hN hKX hP hD hS hA (va_recv hKX hP.left (ci := 6) (q0 := 0) rfl (eX_0 A B X)) rfl hl.1 rfl (Nat.le_of_ble_eq_true rfl) dL_law_1385 (st1 := [.int zx.1]) rfl ⟨Nat.le_of_ble_eq_true rfl, Nat.le_of_ble_eq_true rfl⟩ (fun H locs hP hD hS => ?_)
  refine lv_aload_n (pc := 1388) hx hb dL_law_1388 rfl (lv_at hl 2 rfl) ?_
  refine lv_aload_n (pc := 1389) hx hb dL_law_1389 rfl (lv_at hl 0 rfl) ?_
  refine lv_iload_n (pc := 1390) hx hb dL_law_1390 rfl (lv_at hl 3 rfl) ?_
  refine lv_iconst (pc := 1391) hx hb (v := 1) dL_law_1391 (by decide) ?_
  refine lv_iadd (pc := 1392) hx hb dL_law_1392 ?_
  refine va_sld (pc := 1393) hx hb hX hbl hbA hS h1 dL_law_1393 ?_
  refine lv_aload_n (pc := 1394) hx hb dL_law_1394 rfl (lv_at hl 0 rfl) ?_
  refine lv_iload_n (pc := 1395) hx hb dL_law_1395 rfl (lv_at hl 3 rfl) ?_
  refine lv_iconst (pc := 1396) hx hb (v := 2) dL_law_1396 (by decide) ?_
  refine lv_iadd (pc := 1397) hx hb dL_law_1397 ?_
  refine va_sld (pc := 1398) hx hb hX hbl hbA hS h2 dL_law_1398 ?_
  refine lv_aload_n (pc := 1399) hx hb dL_law_1399 rfl (lv_at hl 0 rfl) ?_
  refine lv_iload_n (pc := 1400) hx hb dL_law_1400 rfl (lv_at hl 3 rfl) ?_
  refine lv_iconst (pc := 1401) hx hb (v := 3) dL_law_1401 (by decide) ?_
  refine lv_iadd (pc := 1402) hx hb dL_law_1402 ?_
  refine va_sld (pc := 1403) hx hb hX hbl hbA hS h3 dL_law_1403 ?_
  refine lv_aload_n (pc := 1404) hx hb dL_law_1404 rfl (lv_at hl 0 rfl) ?_
  refine lv_iload_n (pc := 1405) hx hb dL_law_1405 rfl (lv_at hl 3 rfl) ?_
  refine lv_iconst (pc := 1406) hx hb (v := 4) dL_law_1406 (by decide) ?_
  refine lv_iadd (pc := 1407) hx hb dL_law_1407 ?_
  refine va_sld (pc := 1408) hx hb hX hbl hbA hS h4 dL_law_1408 ?_
  refine lv_aload_n (pc := 1409) hx hb dL_law_1409 rfl (lv_at hl 0 rfl) ?_
  refine lv_iload_n (pc := 1410) hx hb dL_law_1410 rfl (lv_at hl 3 rfl) ?_
  refine lv_iconst (pc := 1411) hx hb (v := 5) dL_law_1411 (by decide) ?_
  refine lv_iadd (pc := 1412) hx hb dL_law_1412 ?_
  refine va_sld (pc := 1413) hx hb hX hbl hbA hS h5 dL_law_1413 ?_
  refine cl_VF (pc := 1414) (a := wM A2 B2 M) (r := wX A B zx.2) (As := [.int (xs (x3 + 1).toNatClampNeg), .int (xs (x3 + 2).toNatClampNeg), .int (xs (x3 + 3).toNatClampNeg), .int (xs (x3 + 4).toNatClampNeg), .int (xs (x3 + 5).toNatClampNeg)]) (rest := [.int zx.1]) hx hb hml hown hts (kX7_move l D A2 B2 _ M (xs (x3 + 1).toNatClampNeg) (xs (x3 + 2).toNatClampNeg) (xs (x3 + 3).toNatClampNeg) (xs (x3 + 4).toNatClampNeg) (xs (x3 + 5).toNatClampNeg) zm hfm) (cwV 5 hts gwRL_152 rfl rfl rfl hdX7_move ⟨Nat.le_of_ble_eq_true rfl, Nat.le_of_ble_eq_true rfl⟩) hN hKM hP hD hS hA (va_recv hKM hP.left (ci := 7) (q0 := 0) rfl (eM_0 A2 B2 M)) rfl hl.1 rfl (Nat.le_of_ble_eq_true rfl) dL_law_1414 (st1 := [.int zm.1, .int zx.1]) rfl ⟨Nat.le_of_ble_eq_true rfl, Nat.le_of_ble_eq_true rfl⟩ (fun H locs hP hD hS => ?_)
  refine lv_icmp_eq (pc := 1417) hx hb (tgt := 1613) dL_law_1417 (by decide) (fun c9 => ?_) (fun c9 => absurd hrr c9)
  exact kk zx.2 zm.2 H locs ls hR1 hP hD hS hl
set_option maxHeartbeats 4000000 in
set_option maxRecDepth 100000 in
theorem law_31 {p : Program} {l : Launch} {e : Env} {s : State} {m : MethodId} {below : List Frame} {meth : Method} {c : Code} {D : va_G} {A A2 : Nat → Nat} {B B2 : Nat → ClassId} {b L : Nat} {xs : Nat → Int32} {Q : State → Prop} {Rel : w_S → w_S → Prop} (E : E_shelf Rel) (C0 : lw_Cx p s m c b L xs D B B2) (x3 : Int32) (h1 : vp_in (x3 + 1) L) (h2 : vp_in (x3 + 2) L) (h3 : vp_in (x3 + 3) L) (h4 : vp_in (x3 + 4) L) (h5 : vp_in (x3 + 5) L) (X M : w_S) (hR : Rel X M) (H : Heap) (locs : List Loc) (ls : Array Slot) (hP : va_P D vwCl (wX A B X ++ wM A2 B2 M) H) (hD : va_D (lw_Ad s) (wX A B X ++ wM A2 B2 M)) (hS : va_S (lw_Ad s) s.heap H locs) (hl : lv_has ls 4 [(0, .ref b), (1, .ref (A 0)), (2, .ref (A2 0)), (3, .int x3)])
    (kk : ∀ (X M : w_S) (H : Heap) (locs : List Loc) (ls : Array Slot), Rel X M → va_P D vwCl (wX A B X ++ wM A2 B2 M) H → va_D (lw_Ad s) (wX A B X ++ wM A2 B2 M) → va_S (lw_Ad s) s.heap H locs → lv_has ls 4 [(0, .ref b), (1, .ref (A 0)), (2, .ref (A2 0)), (3, .int x3)] → W p l e room_1 s m #[.ref b] below meth c H locs lwC lwS Q (F0 m 1613 ls [])) : W p l e room_1 s m #[.ref b] below meth c H locs lwC lwS Q (F0 m 1422 ls []) := by
  obtain ⟨hx, hb, hts, hown, hml, hX, hbl, hN, hKX, hKM⟩ := C0
  have hA : ∀ q : Nat, s.heap.size ≤ q → lw_Ad s q := fun _ h => h
  have hbA : ¬ lw_Ad s b := Nat.not_le.mpr hbl
  refine lv_aload_n (pc := 1422) hx hb dL_law_1422 rfl (lv_at hl 1 rfl) ?_
  refine lv_aload_n (pc := 1423) hx hb dL_law_1423 rfl (lv_at hl 0 rfl) ?_
  refine lv_iload_n (pc := 1424) hx hb dL_law_1424 rfl (lv_at hl 3 rfl) ?_
  refine lv_iconst (pc := 1425) hx hb (v := 1) dL_law_1425 (by decide) ?_
  refine lv_iadd (pc := 1426) hx hb dL_law_1426 ?_
  refine va_sld (pc := 1427) hx hb hX hbl hbA hS h1 dL_law_1427 ?_
  refine lv_aload_n (pc := 1428) hx hb dL_law_1428 rfl (lv_at hl 0 rfl) ?_
  refine lv_iload_n (pc := 1429) hx hb dL_law_1429 rfl (lv_at hl 3 rfl) ?_
  refine lv_iconst (pc := 1430) hx hb (v := 2) dL_law_1430 (by decide) ?_
  refine lv_iadd (pc := 1431) hx hb dL_law_1431 ?_
  refine va_sld (pc := 1432) hx hb hX hbl hbA hS h2 dL_law_1432 ?_
  refine lv_aload_n (pc := 1433) hx hb dL_law_1433 rfl (lv_at hl 0 rfl) ?_
  refine lv_iload_n (pc := 1434) hx hb dL_law_1434 rfl (lv_at hl 3 rfl) ?_
  refine lv_iconst (pc := 1435) hx hb (v := 3) dL_law_1435 (by decide) ?_
  refine lv_iadd (pc := 1436) hx hb dL_law_1436 ?_
  refine va_sld (pc := 1437) hx hb hX hbl hbA hS h3 dL_law_1437 ?_
  obtain ⟨zx, zm, hfx, hfm, hrr, hR1⟩ := E X M hR (xs (x3 + 1).toNatClampNeg) (xs (x3 + 2).toNatClampNeg) (xs (x3 + 3).toNatClampNeg)
  refine cl_VF (pc := 1438) (a := wX A B X) (r := wM A2 B2 M) (As := [.int (xs (x3 + 1).toNatClampNeg), .int (xs (x3 + 2).toNatClampNeg), .int (xs (x3 + 3).toNatClampNeg)]) (rest := []) hx hb hml hown hts (kX6_shelf l D A B _ X (xs (x3 + 1).toNatClampNeg) (xs (x3 + 2).toNatClampNeg) (xs (x3 + 3).toNatClampNeg) zx hfx) (cwV 3 hts gwRL_153 rfl rfl rfl hdX6_shelf ⟨Nat.le_of_ble_eq_true rfl, Nat.le_of_ble_eq_true rfl⟩) hN hKX hP hD hS hA (va_recv hKX hP.left (ci := 6) (q0 := 0) rfl (eX_0 A B X)) rfl hl.1 rfl (Nat.le_of_ble_eq_true rfl) dL_law_1438 (st1 := [.int zx.1]) rfl ⟨Nat.le_of_ble_eq_true rfl, Nat.le_of_ble_eq_true rfl⟩ (fun H locs hP hD hS => ?_)
  refine lv_aload_n (pc := 1441) hx hb dL_law_1441 rfl (lv_at hl 2 rfl) ?_
  refine lv_aload_n (pc := 1442) hx hb dL_law_1442 rfl (lv_at hl 0 rfl) ?_
  refine lv_iload_n (pc := 1443) hx hb dL_law_1443 rfl (lv_at hl 3 rfl) ?_
  refine lv_iconst (pc := 1444) hx hb (v := 1) dL_law_1444 (by decide) ?_
  refine lv_iadd (pc := 1445) hx hb dL_law_1445 ?_
  refine va_sld (pc := 1446) hx hb hX hbl hbA hS h1 dL_law_1446 ?_
  refine lv_aload_n (pc := 1447) hx hb dL_law_1447 rfl (lv_at hl 0 rfl) ?_
  refine lv_iload_n (pc := 1448) hx hb dL_law_1448 rfl (lv_at hl 3 rfl) ?_
  refine lv_iconst (pc := 1449) hx hb (v := 2) dL_law_1449 (by decide) ?_
  refine lv_iadd (pc := 1450) hx hb dL_law_1450 ?_
  refine va_sld (pc := 1451) hx hb hX hbl hbA hS h2 dL_law_1451 ?_
  refine lv_aload_n (pc := 1452) hx hb dL_law_1452 rfl (lv_at hl 0 rfl) ?_
  refine lv_iload_n (pc := 1453) hx hb dL_law_1453 rfl (lv_at hl 3 rfl) ?_
  refine lv_iconst (pc := 1454) hx hb (v := 3) dL_law_1454 (by decide) ?_
  refine lv_iadd (pc := 1455) hx hb dL_law_1455 ?_
  refine va_sld (pc := 1456) hx hb hX hbl hbA hS h3 dL_law_1456 ?_
  refine cl_VF (pc := 1457) (a := wM A2 B2 M) (r := wX A B zx.2) (As := [.int (xs (x3 + 1).toNatClampNeg), .int (xs (x3 + 2).toNatClampNeg), .int (xs (x3 + 3).toNatClampNeg)]) (rest := [.int zx.1]) hx hb hml hown hts (kX7_shelf l D A2 B2 _ M (xs (x3 + 1).toNatClampNeg) (xs (x3 + 2).toNatClampNeg) (xs (x3 + 3).toNatClampNeg) zm hfm) (cwV 3 hts gwRL_156 rfl rfl rfl hdX7_shelf ⟨Nat.le_of_ble_eq_true rfl, Nat.le_of_ble_eq_true rfl⟩) hN hKM hP hD hS hA (va_recv hKM hP.left (ci := 7) (q0 := 0) rfl (eM_0 A2 B2 M)) rfl hl.1 rfl (Nat.le_of_ble_eq_true rfl) dL_law_1457 (st1 := [.int zm.1, .int zx.1]) rfl ⟨Nat.le_of_ble_eq_true rfl, Nat.le_of_ble_eq_true rfl⟩ (fun H locs hP hD hS => ?_)
  refine lv_icmp_eq (pc := 1460) hx hb (tgt := 1613) dL_law_1460 (by decide) (fun c9 => ?_) (fun c9 => absurd hrr c9)
  exact kk zx.2 zm.2 H locs ls hR1 hP hD hS hl
set_option maxHeartbeats 4000000 in
set_option maxRecDepth 100000 in
theorem law_32 {p : Program} {l : Launch} {e : Env} {s : State} {m : MethodId} {below : List Frame} {meth : Method} {c : Code} {D : va_G} {A A2 : Nat → Nat} {B B2 : Nat → ClassId} {b L : Nat} {xs : Nat → Int32} {Q : State → Prop} {Rel : w_S → w_S → Prop} (E : E_taken Rel) (C0 : lw_Cx p s m c b L xs D B B2) (x3 : Int32) (h1 : vp_in (x3 + 1) L) (h2 : vp_in (x3 + 2) L) (h3 : vp_in (x3 + 3) L) (h4 : vp_in (x3 + 4) L) (h5 : vp_in (x3 + 5) L) (X M : w_S) (hR : Rel X M) (H : Heap) (locs : List Loc) (ls : Array Slot) (hP : va_P D vwCl (wX A B X ++ wM A2 B2 M) H) (hD : va_D (lw_Ad s) (wX A B X ++ wM A2 B2 M)) (hS : va_S (lw_Ad s) s.heap H locs) (hl : lv_has ls 4 [(0, .ref b), (1, .ref (A 0)), (2, .ref (A2 0)), (3, .int x3)])
    (kk : ∀ (X M : w_S) (H : Heap) (locs : List Loc) (ls : Array Slot), Rel X M → va_P D vwCl (wX A B X ++ wM A2 B2 M) H → va_D (lw_Ad s) (wX A B X ++ wM A2 B2 M) → va_S (lw_Ad s) s.heap H locs → lv_has ls 4 [(0, .ref b), (1, .ref (A 0)), (2, .ref (A2 0)), (3, .int x3)] → W p l e room_1 s m #[.ref b] below meth c H locs lwC lwS Q (F0 m 1613 ls [])) : W p l e room_1 s m #[.ref b] below meth c H locs lwC lwS Q (F0 m 1465 ls []) := by
  obtain ⟨hx, hb, hts, hown, hml, hX, hbl, hN, hKX, hKM⟩ := C0
  have hA : ∀ q : Nat, s.heap.size ≤ q → lw_Ad s q := fun _ h => h
  have hbA : ¬ lw_Ad s b := Nat.not_le.mpr hbl
  refine lv_aload_n (pc := 1465) hx hb dL_law_1465 rfl (lv_at hl 1 rfl) ?_
  refine lv_aload_n (pc := 1466) hx hb dL_law_1466 rfl (lv_at hl 0 rfl) ?_
  refine lv_iload_n (pc := 1467) hx hb dL_law_1467 rfl (lv_at hl 3 rfl) ?_
  refine lv_iconst (pc := 1468) hx hb (v := 1) dL_law_1468 (by decide) ?_
  refine lv_iadd (pc := 1469) hx hb dL_law_1469 ?_
  refine va_sld (pc := 1470) hx hb hX hbl hbA hS h1 dL_law_1470 ?_
  refine lv_aload_n (pc := 1471) hx hb dL_law_1471 rfl (lv_at hl 0 rfl) ?_
  refine lv_iload_n (pc := 1472) hx hb dL_law_1472 rfl (lv_at hl 3 rfl) ?_
  refine lv_iconst (pc := 1473) hx hb (v := 2) dL_law_1473 (by decide) ?_
  refine lv_iadd (pc := 1474) hx hb dL_law_1474 ?_
  refine va_sld (pc := 1475) hx hb hX hbl hbA hS h2 dL_law_1475 ?_
  obtain ⟨zx, zm, hfx, hfm, hrr, hR1⟩ := E X M hR (xs (x3 + 1).toNatClampNeg) (xs (x3 + 2).toNatClampNeg)
  refine cl_VF (pc := 1476) (a := wX A B X) (r := wM A2 B2 M) (As := [.int (xs (x3 + 1).toNatClampNeg), .int (xs (x3 + 2).toNatClampNeg)]) (rest := []) hx hb hml hown hts (kX6_taken l D A B _ X (xs (x3 + 1).toNatClampNeg) (xs (x3 + 2).toNatClampNeg) zx hfx) (cwV 2 hts gwRL_157 rfl rfl rfl hdX6_taken ⟨Nat.le_of_ble_eq_true rfl, Nat.le_of_ble_eq_true rfl⟩) hN hKX hP hD hS hA (va_recv hKX hP.left (ci := 6) (q0 := 0) rfl (eX_0 A B X)) rfl hl.1 rfl (Nat.le_of_ble_eq_true rfl) dL_law_1476 (st1 := [.int zx]) rfl ⟨Nat.le_of_ble_eq_true rfl, Nat.le_of_ble_eq_true rfl⟩ (fun H locs hP hD hS => ?_)
  refine lv_aload_n (pc := 1479) hx hb dL_law_1479 rfl (lv_at hl 2 rfl) ?_
  refine lv_aload_n (pc := 1480) hx hb dL_law_1480 rfl (lv_at hl 0 rfl) ?_
  refine lv_iload_n (pc := 1481) hx hb dL_law_1481 rfl (lv_at hl 3 rfl) ?_
  refine lv_iconst (pc := 1482) hx hb (v := 1) dL_law_1482 (by decide) ?_
  refine lv_iadd (pc := 1483) hx hb dL_law_1483 ?_
  refine va_sld (pc := 1484) hx hb hX hbl hbA hS h1 dL_law_1484 ?_
  refine lv_aload_n (pc := 1485) hx hb dL_law_1485 rfl (lv_at hl 0 rfl) ?_
  refine lv_iload_n (pc := 1486) hx hb dL_law_1486 rfl (lv_at hl 3 rfl) ?_
  refine lv_iconst (pc := 1487) hx hb (v := 2) dL_law_1487 (by decide) ?_
  refine lv_iadd (pc := 1488) hx hb dL_law_1488 ?_
  refine va_sld (pc := 1489) hx hb hX hbl hbA hS h2 dL_law_1489 ?_
  refine cl_VF (pc := 1490) (a := wM A2 B2 M) (r := wX A B X) (As := [.int (xs (x3 + 1).toNatClampNeg), .int (xs (x3 + 2).toNatClampNeg)]) (rest := [.int zx]) hx hb hml hown hts (kX7_taken l D A2 B2 _ M (xs (x3 + 1).toNatClampNeg) (xs (x3 + 2).toNatClampNeg) zm hfm) (cwV 2 hts gwRL_160 rfl rfl rfl hdX7_taken ⟨Nat.le_of_ble_eq_true rfl, Nat.le_of_ble_eq_true rfl⟩) hN hKM hP hD hS hA (va_recv hKM hP.left (ci := 7) (q0 := 0) rfl (eM_0 A2 B2 M)) rfl hl.1 rfl (Nat.le_of_ble_eq_true rfl) dL_law_1490 (st1 := [.int zm, .int zx]) rfl ⟨Nat.le_of_ble_eq_true rfl, Nat.le_of_ble_eq_true rfl⟩ (fun H locs hP hD hS => ?_)
  refine lv_icmp_eq (pc := 1493) hx hb (tgt := 1613) dL_law_1493 (by decide) (fun c9 => ?_) (fun c9 => absurd hrr c9)
  exact kk X M H locs ls hR1 hP hD hS hl
set_option maxHeartbeats 4000000 in
set_option maxRecDepth 100000 in
theorem law_33 {p : Program} {l : Launch} {e : Env} {s : State} {m : MethodId} {below : List Frame} {meth : Method} {c : Code} {D : va_G} {A A2 : Nat → Nat} {B B2 : Nat → ClassId} {b L : Nat} {xs : Nat → Int32} {Q : State → Prop} {Rel : w_S → w_S → Prop} (E : E_act Rel) (C0 : lw_Cx p s m c b L xs D B B2) (x3 : Int32) (h1 : vp_in (x3 + 1) L) (h2 : vp_in (x3 + 2) L) (h3 : vp_in (x3 + 3) L) (h4 : vp_in (x3 + 4) L) (h5 : vp_in (x3 + 5) L) (X M : w_S) (hR : Rel X M) (H : Heap) (locs : List Loc) (ls : Array Slot) (hP : va_P D vwCl (wX A B X ++ wM A2 B2 M) H) (hD : va_D (lw_Ad s) (wX A B X ++ wM A2 B2 M)) (hS : va_S (lw_Ad s) s.heap H locs) (hl : lv_has ls 4 [(0, .ref b), (1, .ref (A 0)), (2, .ref (A2 0)), (3, .int x3)])
    (kk : ∀ (X M : w_S) (H : Heap) (locs : List Loc) (ls : Array Slot), Rel X M → va_P D vwCl (wX A B X ++ wM A2 B2 M) H → va_D (lw_Ad s) (wX A B X ++ wM A2 B2 M) → va_S (lw_Ad s) s.heap H locs → lv_has ls 4 [(0, .ref b), (1, .ref (A 0)), (2, .ref (A2 0)), (3, .int x3)] → W p l e room_1 s m #[.ref b] below meth c H locs lwC lwS Q (F0 m 1613 ls [])) : W p l e room_1 s m #[.ref b] below meth c H locs lwC lwS Q (F0 m 1498 ls []) := by
  obtain ⟨hx, hb, hts, hown, hml, hX, hbl, hN, hKX, hKM⟩ := C0
  have hA : ∀ q : Nat, s.heap.size ≤ q → lw_Ad s q := fun _ h => h
  have hbA : ¬ lw_Ad s b := Nat.not_le.mpr hbl
  refine lv_aload_n (pc := 1498) hx hb dL_law_1498 rfl (lv_at hl 1 rfl) ?_
  refine lv_aload_n (pc := 1499) hx hb dL_law_1499 rfl (lv_at hl 0 rfl) ?_
  refine lv_iload_n (pc := 1500) hx hb dL_law_1500 rfl (lv_at hl 3 rfl) ?_
  refine lv_iconst (pc := 1501) hx hb (v := 1) dL_law_1501 (by decide) ?_
  refine lv_iadd (pc := 1502) hx hb dL_law_1502 ?_
  refine va_sld (pc := 1503) hx hb hX hbl hbA hS h1 dL_law_1503 ?_
  refine lv_aload_n (pc := 1504) hx hb dL_law_1504 rfl (lv_at hl 0 rfl) ?_
  refine lv_iload_n (pc := 1505) hx hb dL_law_1505 rfl (lv_at hl 3 rfl) ?_
  refine lv_iconst (pc := 1506) hx hb (v := 2) dL_law_1506 (by decide) ?_
  refine lv_iadd (pc := 1507) hx hb dL_law_1507 ?_
  refine va_sld (pc := 1508) hx hb hX hbl hbA hS h2 dL_law_1508 ?_
  refine lv_aload_n (pc := 1509) hx hb dL_law_1509 rfl (lv_at hl 0 rfl) ?_
  refine lv_iload_n (pc := 1510) hx hb dL_law_1510 rfl (lv_at hl 3 rfl) ?_
  refine lv_iconst (pc := 1511) hx hb (v := 3) dL_law_1511 (by decide) ?_
  refine lv_iadd (pc := 1512) hx hb dL_law_1512 ?_
  refine va_sld (pc := 1513) hx hb hX hbl hbA hS h3 dL_law_1513 ?_
  obtain ⟨zx, zm, hfx, hfm, hrr, hR1⟩ := E X M hR (xs (x3 + 1).toNatClampNeg) (xs (x3 + 2).toNatClampNeg) (xs (x3 + 3).toNatClampNeg)
  refine cl_VF (pc := 1514) (a := wX A B X) (r := wM A2 B2 M) (As := [.int (xs (x3 + 1).toNatClampNeg), .int (xs (x3 + 2).toNatClampNeg), .int (xs (x3 + 3).toNatClampNeg)]) (rest := []) hx hb hml hown hts (kX6_act l D A B _ X (xs (x3 + 1).toNatClampNeg) (xs (x3 + 2).toNatClampNeg) (xs (x3 + 3).toNatClampNeg) zx hfx) (cwV 3 hts gwRL_161 rfl rfl rfl hdX6_act ⟨Nat.le_of_ble_eq_true rfl, Nat.le_of_ble_eq_true rfl⟩) hN hKX hP hD hS hA (va_recv hKX hP.left (ci := 6) (q0 := 0) rfl (eX_0 A B X)) rfl hl.1 rfl (Nat.le_of_ble_eq_true rfl) dL_law_1514 (st1 := [.int zx.1]) rfl ⟨Nat.le_of_ble_eq_true rfl, Nat.le_of_ble_eq_true rfl⟩ (fun H locs hP hD hS => ?_)
  refine lv_aload_n (pc := 1517) hx hb dL_law_1517 rfl (lv_at hl 2 rfl) ?_
  refine lv_aload_n (pc := 1518) hx hb dL_law_1518 rfl (lv_at hl 0 rfl) ?_
  refine lv_iload_n (pc := 1519) hx hb dL_law_1519 rfl (lv_at hl 3 rfl) ?_
  refine lv_iconst (pc := 1520) hx hb (v := 1) dL_law_1520 (by decide) ?_
  refine lv_iadd (pc := 1521) hx hb dL_law_1521 ?_
  refine va_sld (pc := 1522) hx hb hX hbl hbA hS h1 dL_law_1522 ?_
  refine lv_aload_n (pc := 1523) hx hb dL_law_1523 rfl (lv_at hl 0 rfl) ?_
  refine lv_iload_n (pc := 1524) hx hb dL_law_1524 rfl (lv_at hl 3 rfl) ?_
  refine lv_iconst (pc := 1525) hx hb (v := 2) dL_law_1525 (by decide) ?_
  refine lv_iadd (pc := 1526) hx hb dL_law_1526 ?_
  refine va_sld (pc := 1527) hx hb hX hbl hbA hS h2 dL_law_1527 ?_
  refine lv_aload_n (pc := 1528) hx hb dL_law_1528 rfl (lv_at hl 0 rfl) ?_
  refine lv_iload_n (pc := 1529) hx hb dL_law_1529 rfl (lv_at hl 3 rfl) ?_
  refine lv_iconst (pc := 1530) hx hb (v := 3) dL_law_1530 (by decide) ?_
  refine lv_iadd (pc := 1531) hx hb dL_law_1531 ?_
  refine va_sld (pc := 1532) hx hb hX hbl hbA hS h3 dL_law_1532 ?_
  refine cl_VF (pc := 1533) (a := wM A2 B2 M) (r := wX A B zx.2) (As := [.int (xs (x3 + 1).toNatClampNeg), .int (xs (x3 + 2).toNatClampNeg), .int (xs (x3 + 3).toNatClampNeg)]) (rest := [.int zx.1]) hx hb hml hown hts (kX7_act l D A2 B2 _ M (xs (x3 + 1).toNatClampNeg) (xs (x3 + 2).toNatClampNeg) (xs (x3 + 3).toNatClampNeg) zm hfm) (cwV 3 hts gwRL_164 rfl rfl rfl hdX7_act ⟨Nat.le_of_ble_eq_true rfl, Nat.le_of_ble_eq_true rfl⟩) hN hKM hP hD hS hA (va_recv hKM hP.left (ci := 7) (q0 := 0) rfl (eM_0 A2 B2 M)) rfl hl.1 rfl (Nat.le_of_ble_eq_true rfl) dL_law_1533 (st1 := [.int zm.1, .int zx.1]) rfl ⟨Nat.le_of_ble_eq_true rfl, Nat.le_of_ble_eq_true rfl⟩ (fun H locs hP hD hS => ?_)
  refine lv_icmp_eq (pc := 1536) hx hb (tgt := 1613) dL_law_1536 (by decide) (fun c9 => ?_) (fun c9 => absurd hrr c9)
  exact kk zx.2 zm.2 H locs ls hR1 hP hD hS hl
set_option maxHeartbeats 4000000 in
set_option maxRecDepth 100000 in
theorem law_34 {p : Program} {l : Launch} {e : Env} {s : State} {m : MethodId} {below : List Frame} {meth : Method} {c : Code} {D : va_G} {A A2 : Nat → Nat} {B B2 : Nat → ClassId} {b L : Nat} {xs : Nat → Int32} {Q : State → Prop} {Rel : w_S → w_S → Prop} (E : E_trace Rel) (C0 : lw_Cx p s m c b L xs D B B2) (x3 : Int32) (h1 : vp_in (x3 + 1) L) (h2 : vp_in (x3 + 2) L) (h3 : vp_in (x3 + 3) L) (h4 : vp_in (x3 + 4) L) (h5 : vp_in (x3 + 5) L) (X M : w_S) (hR : Rel X M) (H : Heap) (locs : List Loc) (ls : Array Slot) (hP : va_P D vwCl (wX A B X ++ wM A2 B2 M) H) (hD : va_D (lw_Ad s) (wX A B X ++ wM A2 B2 M)) (hS : va_S (lw_Ad s) s.heap H locs) (hl : lv_has ls 4 [(0, .ref b), (1, .ref (A 0)), (2, .ref (A2 0)), (3, .int x3)])
    (kk : ∀ (X M : w_S) (H : Heap) (locs : List Loc) (ls : Array Slot), Rel X M → va_P D vwCl (wX A B X ++ wM A2 B2 M) H → va_D (lw_Ad s) (wX A B X ++ wM A2 B2 M) → va_S (lw_Ad s) s.heap H locs → lv_has ls 4 [(0, .ref b), (1, .ref (A 0)), (2, .ref (A2 0)), (3, .int x3)] → W p l e room_1 s m #[.ref b] below meth c H locs lwC lwS Q (F0 m 1613 ls [])) : W p l e room_1 s m #[.ref b] below meth c H locs lwC lwS Q (F0 m 1541 ls []) := by
  obtain ⟨hx, hb, hts, hown, hml, hX, hbl, hN, hKX, hKM⟩ := C0
  have hA : ∀ q : Nat, s.heap.size ≤ q → lw_Ad s q := fun _ h => h
  have hbA : ¬ lw_Ad s b := Nat.not_le.mpr hbl
  refine lv_aload_n (pc := 1541) hx hb dL_law_1541 rfl (lv_at hl 1 rfl) ?_
  refine lv_aload_n (pc := 1542) hx hb dL_law_1542 rfl (lv_at hl 0 rfl) ?_
  refine lv_iload_n (pc := 1543) hx hb dL_law_1543 rfl (lv_at hl 3 rfl) ?_
  refine lv_iconst (pc := 1544) hx hb (v := 1) dL_law_1544 (by decide) ?_
  refine lv_iadd (pc := 1545) hx hb dL_law_1545 ?_
  refine va_sld (pc := 1546) hx hb hX hbl hbA hS h1 dL_law_1546 ?_
  obtain ⟨zx, zm, hfx, hfm, hrr, hR1⟩ := E X M hR (xs (x3 + 1).toNatClampNeg)
  refine cl_VF (pc := 1547) (a := wX A B X) (r := wM A2 B2 M) (As := [.int (xs (x3 + 1).toNatClampNeg)]) (rest := []) hx hb hml hown hts (kX6_trace l D A B _ X (xs (x3 + 1).toNatClampNeg) zx hfx) (cwV 1 hts gwRL_165 rfl rfl rfl hdX6_trace ⟨Nat.le_of_ble_eq_true rfl, Nat.le_of_ble_eq_true rfl⟩) hN hKX hP hD hS hA (va_recv hKX hP.left (ci := 6) (q0 := 0) rfl (eX_0 A B X)) rfl hl.1 rfl (Nat.le_of_ble_eq_true rfl) dL_law_1547 (st1 := [.int zx]) rfl ⟨Nat.le_of_ble_eq_true rfl, Nat.le_of_ble_eq_true rfl⟩ (fun H locs hP hD hS => ?_)
  refine lv_aload_n (pc := 1550) hx hb dL_law_1550 rfl (lv_at hl 2 rfl) ?_
  refine lv_aload_n (pc := 1551) hx hb dL_law_1551 rfl (lv_at hl 0 rfl) ?_
  refine lv_iload_n (pc := 1552) hx hb dL_law_1552 rfl (lv_at hl 3 rfl) ?_
  refine lv_iconst (pc := 1553) hx hb (v := 1) dL_law_1553 (by decide) ?_
  refine lv_iadd (pc := 1554) hx hb dL_law_1554 ?_
  refine va_sld (pc := 1555) hx hb hX hbl hbA hS h1 dL_law_1555 ?_
  refine cl_VF (pc := 1556) (a := wM A2 B2 M) (r := wX A B X) (As := [.int (xs (x3 + 1).toNatClampNeg)]) (rest := [.int zx]) hx hb hml hown hts (kX7_trace l D A2 B2 _ M (xs (x3 + 1).toNatClampNeg) zm hfm) (cwV 1 hts gwRL_168 rfl rfl rfl hdX7_trace ⟨Nat.le_of_ble_eq_true rfl, Nat.le_of_ble_eq_true rfl⟩) hN hKM hP hD hS hA (va_recv hKM hP.left (ci := 7) (q0 := 0) rfl (eM_0 A2 B2 M)) rfl hl.1 rfl (Nat.le_of_ble_eq_true rfl) dL_law_1556 (st1 := [.int zm, .int zx]) rfl ⟨Nat.le_of_ble_eq_true rfl, Nat.le_of_ble_eq_true rfl⟩ (fun H locs hP hD hS => ?_)
  refine lv_icmp_eq (pc := 1559) hx hb (tgt := 1613) dL_law_1559 (by decide) (fun c9 => ?_) (fun c9 => absurd hrr c9)
  exact kk X M H locs ls hR1 hP hD hS hl
set_option maxHeartbeats 4000000 in
set_option maxRecDepth 100000 in
theorem law_35 {p : Program} {l : Launch} {e : Env} {s : State} {m : MethodId} {below : List Frame} {meth : Method} {c : Code} {D : va_G} {A A2 : Nat → Nat} {B B2 : Nat → ClassId} {b L : Nat} {xs : Nat → Int32} {Q : State → Prop} {Rel : w_S → w_S → Prop} (E : E_many Rel) (C0 : lw_Cx p s m c b L xs D B B2) (x3 : Int32) (h1 : vp_in (x3 + 1) L) (h2 : vp_in (x3 + 2) L) (h3 : vp_in (x3 + 3) L) (h4 : vp_in (x3 + 4) L) (h5 : vp_in (x3 + 5) L) (X M : w_S) (hR : Rel X M) (H : Heap) (locs : List Loc) (ls : Array Slot) (hP : va_P D vwCl (wX A B X ++ wM A2 B2 M) H) (hD : va_D (lw_Ad s) (wX A B X ++ wM A2 B2 M)) (hS : va_S (lw_Ad s) s.heap H locs) (hl : lv_has ls 4 [(0, .ref b), (1, .ref (A 0)), (2, .ref (A2 0)), (3, .int x3)])
    (kk : ∀ (X M : w_S) (H : Heap) (locs : List Loc) (ls : Array Slot), Rel X M → va_P D vwCl (wX A B X ++ wM A2 B2 M) H → va_D (lw_Ad s) (wX A B X ++ wM A2 B2 M) → va_S (lw_Ad s) s.heap H locs → lv_has ls 4 [(0, .ref b), (1, .ref (A 0)), (2, .ref (A2 0)), (3, .int x3)] → W p l e room_1 s m #[.ref b] below meth c H locs lwC lwS Q (F0 m 1613 ls [])) : W p l e room_1 s m #[.ref b] below meth c H locs lwC lwS Q (F0 m 1564 ls []) := by
  obtain ⟨hx, hb, hts, hown, hml, hX, hbl, hN, hKX, hKM⟩ := C0
  have hA : ∀ q : Nat, s.heap.size ≤ q → lw_Ad s q := fun _ h => h
  have hbA : ¬ lw_Ad s b := Nat.not_le.mpr hbl
  refine lv_aload_n (pc := 1564) hx hb dL_law_1564 rfl (lv_at hl 1 rfl) ?_
  refine lv_aload_n (pc := 1565) hx hb dL_law_1565 rfl (lv_at hl 0 rfl) ?_
  refine lv_iload_n (pc := 1566) hx hb dL_law_1566 rfl (lv_at hl 3 rfl) ?_
  refine lv_iconst (pc := 1567) hx hb (v := 1) dL_law_1567 (by decide) ?_
  refine lv_iadd (pc := 1568) hx hb dL_law_1568 ?_
  refine va_sld (pc := 1569) hx hb hX hbl hbA hS h1 dL_law_1569 ?_
  obtain ⟨zx, zm, hfx, hfm, hrr, hR1⟩ := E X M hR (xs (x3 + 1).toNatClampNeg)
  refine cl_VF (pc := 1570) (a := wX A B X) (r := wM A2 B2 M) (As := [.int (xs (x3 + 1).toNatClampNeg)]) (rest := []) hx hb hml hown hts (kX6_many l D A B _ X (xs (x3 + 1).toNatClampNeg) zx hfx) (cwV 1 hts gwRL_169 rfl rfl rfl hdX6_many ⟨Nat.le_of_ble_eq_true rfl, Nat.le_of_ble_eq_true rfl⟩) hN hKX hP hD hS hA (va_recv hKX hP.left (ci := 6) (q0 := 0) rfl (eX_0 A B X)) rfl hl.1 rfl (Nat.le_of_ble_eq_true rfl) dL_law_1570 (st1 := [.int zx]) rfl ⟨Nat.le_of_ble_eq_true rfl, Nat.le_of_ble_eq_true rfl⟩ (fun H locs hP hD hS => ?_)
  refine lv_aload_n (pc := 1573) hx hb dL_law_1573 rfl (lv_at hl 2 rfl) ?_
  refine lv_aload_n (pc := 1574) hx hb dL_law_1574 rfl (lv_at hl 0 rfl) ?_
  refine lv_iload_n (pc := 1575) hx hb dL_law_1575 rfl (lv_at hl 3 rfl) ?_
  refine lv_iconst (pc := 1576) hx hb (v := 1) dL_law_1576 (by decide) ?_
  refine lv_iadd (pc := 1577) hx hb dL_law_1577 ?_
  refine va_sld (pc := 1578) hx hb hX hbl hbA hS h1 dL_law_1578 ?_
  refine cl_VF (pc := 1579) (a := wM A2 B2 M) (r := wX A B X) (As := [.int (xs (x3 + 1).toNatClampNeg)]) (rest := [.int zx]) hx hb hml hown hts (kX7_many l D A2 B2 _ M (xs (x3 + 1).toNatClampNeg) zm hfm) (cwV 1 hts gwRL_172 rfl rfl rfl hdX7_many ⟨Nat.le_of_ble_eq_true rfl, Nat.le_of_ble_eq_true rfl⟩) hN hKM hP hD hS hA (va_recv hKM hP.left (ci := 7) (q0 := 0) rfl (eM_0 A2 B2 M)) rfl hl.1 rfl (Nat.le_of_ble_eq_true rfl) dL_law_1579 (st1 := [.int zm.1, .int zx]) rfl ⟨Nat.le_of_ble_eq_true rfl, Nat.le_of_ble_eq_true rfl⟩ (fun H locs hP hD hS => ?_)
  refine lv_icmp_eq (pc := 1582) hx hb (tgt := 1613) dL_law_1582 (by decide) (fun c9 => ?_) (fun c9 => absurd hrr c9)
  exact kk X zm.2 H locs ls hR1 hP hD hS hl
set_option maxHeartbeats 4000000 in
set_option maxRecDepth 100000 in
theorem law_36 {p : Program} {l : Launch} {e : Env} {s : State} {m : MethodId} {below : List Frame} {meth : Method} {c : Code} {D : va_G} {A A2 : Nat → Nat} {B B2 : Nat → ClassId} {b L : Nat} {xs : Nat → Int32} {Q : State → Prop} {Rel : w_S → w_S → Prop} (E : E_keep Rel) (C0 : lw_Cx p s m c b L xs D B B2) (x3 : Int32) (h1 : vp_in (x3 + 1) L) (h2 : vp_in (x3 + 2) L) (h3 : vp_in (x3 + 3) L) (h4 : vp_in (x3 + 4) L) (h5 : vp_in (x3 + 5) L) (X M : w_S) (hR : Rel X M) (H : Heap) (locs : List Loc) (ls : Array Slot) (hP : va_P D vwCl (wX A B X ++ wM A2 B2 M) H) (hD : va_D (lw_Ad s) (wX A B X ++ wM A2 B2 M)) (hS : va_S (lw_Ad s) s.heap H locs) (hl : lv_has ls 4 [(0, .ref b), (1, .ref (A 0)), (2, .ref (A2 0)), (3, .int x3)])
    (kk : ∀ (X M : w_S) (H : Heap) (locs : List Loc) (ls : Array Slot), Rel X M → va_P D vwCl (wX A B X ++ wM A2 B2 M) H → va_D (lw_Ad s) (wX A B X ++ wM A2 B2 M) → va_S (lw_Ad s) s.heap H locs → lv_has ls 4 [(0, .ref b), (1, .ref (A 0)), (2, .ref (A2 0)), (3, .int x3)] → W p l e room_1 s m #[.ref b] below meth c H locs lwC lwS Q (F0 m 1613 ls [])) : W p l e room_1 s m #[.ref b] below meth c H locs lwC lwS Q (F0 m 1587 ls []) := by
  obtain ⟨hx, hb, hts, hown, hml, hX, hbl, hN, hKX, hKM⟩ := C0
  have hA : ∀ q : Nat, s.heap.size ≤ q → lw_Ad s q := fun _ h => h
  have hbA : ¬ lw_Ad s b := Nat.not_le.mpr hbl
  refine lv_aload_n (pc := 1587) hx hb dL_law_1587 rfl (lv_at hl 1 rfl) ?_
  obtain ⟨zx, zm, hfx, hfm, hrr, hR1⟩ := E X M hR 
  refine cl_VF (pc := 1588) (a := wX A B X) (r := wM A2 B2 M) (As := []) (rest := []) hx hb hml hown hts (kX6_keep l D A B _ X zx hfx) (cwV 0 hts gwRL_173 rfl rfl rfl hdX6_keep ⟨Nat.le_of_ble_eq_true rfl, Nat.le_of_ble_eq_true rfl⟩) hN hKX hP hD hS hA (va_recv hKX hP.left (ci := 6) (q0 := 0) rfl (eX_0 A B X)) rfl hl.1 rfl (Nat.le_of_ble_eq_true rfl) dL_law_1588 (st1 := [.int zx.1]) rfl ⟨Nat.le_of_ble_eq_true rfl, Nat.le_of_ble_eq_true rfl⟩ (fun H locs hP hD hS => ?_)
  refine lv_aload_n (pc := 1591) hx hb dL_law_1591 rfl (lv_at hl 2 rfl) ?_
  refine cl_VF (pc := 1592) (a := wM A2 B2 M) (r := wX A B zx.2) (As := []) (rest := [.int zx.1]) hx hb hml hown hts (kX7_keep l D A2 B2 _ M zm hfm) (cwV 0 hts gwRL_176 rfl rfl rfl hdX7_keep ⟨Nat.le_of_ble_eq_true rfl, Nat.le_of_ble_eq_true rfl⟩) hN hKM hP hD hS hA (va_recv hKM hP.left (ci := 7) (q0 := 0) rfl (eM_0 A2 B2 M)) rfl hl.1 rfl (Nat.le_of_ble_eq_true rfl) dL_law_1592 (st1 := [.int zm.1, .int zx.1]) rfl ⟨Nat.le_of_ble_eq_true rfl, Nat.le_of_ble_eq_true rfl⟩ (fun H locs hP hD hS => ?_)
  refine lv_icmp_eq (pc := 1595) hx hb (tgt := 1613) dL_law_1595 (by decide) (fun c9 => ?_) (fun c9 => absurd hrr c9)
  exact kk zx.2 zm.2 H locs ls hR1 hP hD hS hl
set_option maxHeartbeats 4000000 in
set_option maxRecDepth 100000 in
theorem law_37 {p : Program} {l : Launch} {e : Env} {s : State} {m : MethodId} {below : List Frame} {meth : Method} {c : Code} {D : va_G} {A A2 : Nat → Nat} {B B2 : Nat → ClassId} {b L : Nat} {xs : Nat → Int32} {Q : State → Prop} {Rel : w_S → w_S → Prop} (E : E_again Rel) (C0 : lw_Cx p s m c b L xs D B B2) (x3 : Int32) (h1 : vp_in (x3 + 1) L) (h2 : vp_in (x3 + 2) L) (h3 : vp_in (x3 + 3) L) (h4 : vp_in (x3 + 4) L) (h5 : vp_in (x3 + 5) L) (X M : w_S) (hR : Rel X M) (H : Heap) (locs : List Loc) (ls : Array Slot) (hP : va_P D vwCl (wX A B X ++ wM A2 B2 M) H) (hD : va_D (lw_Ad s) (wX A B X ++ wM A2 B2 M)) (hS : va_S (lw_Ad s) s.heap H locs) (hl : lv_has ls 4 [(0, .ref b), (1, .ref (A 0)), (2, .ref (A2 0)), (3, .int x3)])
    (kk : ∀ (X M : w_S) (H : Heap) (locs : List Loc) (ls : Array Slot), Rel X M → va_P D vwCl (wX A B X ++ wM A2 B2 M) H → va_D (lw_Ad s) (wX A B X ++ wM A2 B2 M) → va_S (lw_Ad s) s.heap H locs → lv_has ls 4 [(0, .ref b), (1, .ref (A 0)), (2, .ref (A2 0)), (3, .int x3)] → W p l e room_1 s m #[.ref b] below meth c H locs lwC lwS Q (F0 m 1613 ls [])) : W p l e room_1 s m #[.ref b] below meth c H locs lwC lwS Q (F0 m 1600 ls []) := by
  obtain ⟨hx, hb, hts, hown, hml, hX, hbl, hN, hKX, hKM⟩ := C0
  have hA : ∀ q : Nat, s.heap.size ≤ q → lw_Ad s q := fun _ h => h
  have hbA : ¬ lw_Ad s b := Nat.not_le.mpr hbl
  refine lv_aload_n (pc := 1600) hx hb dL_law_1600 rfl (lv_at hl 1 rfl) ?_
  obtain ⟨zx, zm, hfx, hfm, hrr, hR1⟩ := E X M hR 
  refine cl_VF (pc := 1601) (a := wX A B X) (r := wM A2 B2 M) (As := []) (rest := []) hx hb hml hown hts (kX6_again l D A B _ X zx hfx) (cwV 0 hts gwRL_177 rfl rfl rfl hdX6_again ⟨Nat.le_of_ble_eq_true rfl, Nat.le_of_ble_eq_true rfl⟩) hN hKX hP hD hS hA (va_recv hKX hP.left (ci := 6) (q0 := 0) rfl (eX_0 A B X)) rfl hl.1 rfl (Nat.le_of_ble_eq_true rfl) dL_law_1601 (st1 := [.int zx.1]) rfl ⟨Nat.le_of_ble_eq_true rfl, Nat.le_of_ble_eq_true rfl⟩ (fun H locs hP hD hS => ?_)
  refine lv_aload_n (pc := 1604) hx hb dL_law_1604 rfl (lv_at hl 2 rfl) ?_
  refine cl_VF (pc := 1605) (a := wM A2 B2 M) (r := wX A B zx.2) (As := []) (rest := [.int zx.1]) hx hb hml hown hts (kX7_again l D A2 B2 _ M zm hfm) (cwV 0 hts gwRL_180 rfl rfl rfl hdX7_again ⟨Nat.le_of_ble_eq_true rfl, Nat.le_of_ble_eq_true rfl⟩) hN hKM hP hD hS hA (va_recv hKM hP.left (ci := 7) (q0 := 0) rfl (eM_0 A2 B2 M)) rfl hl.1 rfl (Nat.le_of_ble_eq_true rfl) dL_law_1605 (st1 := [.int zm.1, .int zx.1]) rfl ⟨Nat.le_of_ble_eq_true rfl, Nat.le_of_ble_eq_true rfl⟩ (fun H locs hP hD hS => ?_)
  refine lv_icmp_eq (pc := 1608) hx hb (tgt := 1613) dL_law_1608 (by decide) (fun c9 => ?_) (fun c9 => absurd hrr c9)
  exact kk zx.2 zm.2 H locs ls hR1 hP hD hS hl
