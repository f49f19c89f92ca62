theorem ctorX_blind {av : List Value} {D : va_G} {B : Nat → ClassId} {v : va_W} {sz : Nat} : FrameBlind (va_Pc av (fun U => U.heap.size = sz ∧ va_P D vwCl v U.heap ∧ va_K D vwCl (tyB B) U ∧ va_D (fun _ => True) v ∧ nwC U)) := fun a U g mk q => by
  obtain ⟨q0, q1, qP, qK, qD, h1, h2, h3, h4, h5, h6, h7, h8⟩ := q
  have hv : U.vm = (U.calling g mk a).vm := rfl
  exact ⟨q0, q1, qP, va_K.moved (u := U) (U := U.calling g mk a) (Vm.Alike.refl U.vm) qK, qD, va_Nw.same rfl hv h1, va_Nw.same rfl hv h2, va_Nw.same rfl hv h3, va_Nw.same rfl hv h4, va_Nw.same rfl hv h5, va_Nw.same rfl hv h6, va_AO.moved (u := U) (U := U.calling g mk a) (Vm.Alike.refl U.vm) h7, va_AO.moved (u := U) (U := U.calling g mk a) (Vm.Alike.refl U.vm) h8⟩
theorem nwC_warm {s U : State} (hW : s.WarmedH U.vm) (h : nwC s) : nwC U := by
  obtain ⟨h1, h2, h3, h4, h5, h6, h7, h8⟩ := h
  exact ⟨va_Nw.warmM hW h1, va_Nw.warmM hW h2, va_Nw.warmM hW h3, va_Nw.warmM hW h4, va_Nw.warmM hW h5, va_Nw.warmM hW h6, va_AO.moved hW.alike h7, va_AO.moved hW.alike h8⟩
set_option maxHeartbeats 8000000 in
set_option maxRecDepth 100000 in
theorem start_open {Rel : w_S → w_S → Prop} (h00 : Rel s0X s0M) (E0 : E_size Rel) (E1 : E_set Rel) (E2 : E_at Rel) (E3 : E_det Rel) (E4 : E_diagonal Rel) (E5 : E_character Rel) (E6 : E_feed Rel) (E7 : E_text Rel) (E8 : E_equation Rel) (E9 : E_of Rel) (E10 : E_change Rel) (E11 : E_right Rel) (E12 : E_solution Rel) (E13 : E_base Rel) (E14 : E_witness Rel) (E15 : E_similar Rel) (E16 : E_whole Rel) (E17 : E_lower Rel) (E18 : E_swapped Rel) (E19 : E_stable Rel) (E20 : E_lay Rel) (E21 : E_judge Rel) (E22 : E_kinds Rel) (E23 : E_ratio Rel) (E24 : E_seed Rel) (E25 : E_lot Rel) (E26 : E_times Rel) (E27 : E_sheet Rel) (E28 : E_put Rel) (E29 : E_item Rel) (E30 : E_move Rel) (E31 : E_shelf Rel) (E32 : E_taken Rel) (E33 : E_act Rel) (E34 : E_trace Rel) (E35 : E_many Rel) (E36 : E_keep Rel) (E37 : E_again Rel) {p : Program} {e : Env} {s : State} {m : MethodId} {below : List Frame} {meth : Method} {c : Code} (l : Launch) {b L : Nat} {xs : Nat → Int32} (hL : L ≤ 3072) (C0 : lw_At p s m meth c b L xs) : W p l e room_1 s m #[Value.ref b] below meth c s.heap [] 0 0 (lw_Z below #[Value.ref b] s) (entryFrame m ([Value.ref b] : List Value).toArray 4) := by
  obtain ⟨hx, hb, hr, hml, hown, hts0, hX, hbl, hlocks, hgv⟩ := C0
  have hown : s.vm.findClass RL = some m.cls := hown
  have hts : ∀ w ∈ wsU, w.before #[Value.ref b] s = true := fun w h => hts0 w (wsU_in w h)
  have hA : ∀ q : Nat, s.heap.size ≤ q → lw_Ad s q := fun _ h => h
  obtain ⟨c0, iS0, hKn0⟩ := u_known (C := RX0) (T := TX0) (N := 6) (n := 6) hts0 inX0 (hts (.instantiable RX0 6) mU_29)
  obtain ⟨c1, iS1, hKn1⟩ := u_known (C := RX1) (T := TX1) (N := 7) (n := 7) hts0 inX1 (hts (.instantiable RX1 7) mU_20)
  obtain ⟨c2, iS2, hKn2⟩ := u_known (C := RX2) (T := TX2) (N := 3) (n := 3) hts0 inX2 (hts (.instantiable RX2 3) mU_36)
  obtain ⟨c3, iS3, hKn3⟩ := u_known (C := RX3) (T := TX3) (N := 3) (n := 3) hts0 inX3 (hts (.instantiable RX3 3) mU_38)
  obtain ⟨c4, iS4, hKn4⟩ := u_known (C := RX4) (T := TX4) (N := 9) (n := 9) hts0 inX4 (hts (.instantiable RX4 9) mU_14)
  obtain ⟨c5, iS5, hKn5⟩ := u_known (C := RX5) (T := TX5) (N := 3) (n := 3) hts0 inX5 (hts (.instantiable RX5 3) mU_25)
  obtain ⟨c6, iS6, hKn6⟩ := u_known (C := RX6) (T := TX6) (N := 10) (n := 10) hts0 inX6 (hts (.instantiable RX6 10) mU_1)
  obtain ⟨c7, iS7, hKn7⟩ := u_known (C := RX7) (T := TX7) (N := 47) (n := 47) hts0 inX7 (hts (.instantiable RX7 47) mU_4)
  obtain ⟨D, hKc⟩ : ∃ D : va_G, ∀ (k : Nat) (q : vw_C), vwCl[k]? = some q → u_Kn s q.1 q.2.1 q.2.2 (D.1 k) (D.2 k) := by
    refine ⟨(fun k => if k = 0 then c0 else if k = 1 then c1 else if k = 2 then c2 else if k = 3 then c3 else if k = 4 then c4 else if k = 5 then c5 else if k = 6 then c6 else c7, fun k => if k = 0 then iS0 else if k = 1 then iS1 else if k = 2 then iS2 else if k = 3 then iS3 else if k = 4 then iS4 else if k = 5 then iS5 else if k = 6 then iS6 else iS7), ?_⟩
    intro k q hq
    match k, hq with
    | 0, hq => cases hq; exact hKn0
    | 1, hq => cases hq; exact hKn1
    | 2, hq => cases hq; exact hKn2
    | 3, hq => cases hq; exact hKn3
    | 4, hq => cases hq; exact hKn4
    | 5, hq => cases hq; exact hKn5
    | 6, hq => cases hq; exact hKn6
    | 7, hq => cases hq; exact hKn7
    | k + 8, hq => simp [vwCl] at hq
  have hK0 : va_K D vwCl [] s := ⟨hKc, fun k q h => by simp at h⟩
  have hw3 : (Cond.arrayOver (.object "TwoSidedTables$Sheet")).before #[Value.ref b] s = true := (hts0 (.arrayOver (.object "TwoSidedTables$Sheet")) (by decide +kernel))
  have hw4 : (Cond.arrayOver (.object "TwoSidedTables$Shelf")).before #[Value.ref b] s = true := (hts0 (.arrayOver (.object "TwoSidedTables$Shelf")) (by decide +kernel))
  obtain ⟨B, hK⟩ := tyB_of hK0 (hts (.arrayClass .byte) mU_62) (hts (.arrayClass .int) mU_46) (hts (.arrayClass .long) mU_56) hw3 hw4
  have hN : nwX s := va_Nw.of rfl (hts0 (.methodLinkNest RX5 57 yX6_reach "TwoSidedTables") (by decide +kernel))
  have hNC : nwC s := ⟨va_Nw.of rfl (hts0 (.methodLinkNest RX6 9 yX4_init "TwoSidedTables") (by decide +kernel)), va_Nw.of rfl (hts0 (.methodLinkNest RX6 24 yX1_init "TwoSidedTables") (by decide +kernel)), va_Nw.of rfl (hts0 (.methodLinkNest RX6 34 yX5_init "TwoSidedTables") (by decide +kernel)), va_Nw.of rfl (hts0 (.methodLinkNest RX6 41 yX0_init "TwoSidedTables") (by decide +kernel)), va_Nw.of rfl (hts0 (.methodLinkNest RX6 58 yX2_init "TwoSidedTables") (by decide +kernel)), va_Nw.of rfl (hts0 (.methodLinkNest RX6 59 yX3_init "TwoSidedTables") (by decide +kernel)), va_AO.of hw3, va_AO.of hw4⟩
  have hS : va_S (lw_Ad s) s.heap s.heap [] := va_S.rf
  have hP : va_P D vwCl [] s.heap := fun k q h => by simp at h
  have hD : va_D (lw_Ad s) [] := ⟨fun i j p q h => by simp at h, fun k q h => by simp at h⟩
  have hl := lv_entry ([.ref b]) (n := 4) (Nat.le_of_ble_eq_true rfl)
  rw [lg_entry_eq]
  generalize (lg_sl ([.ref b]) ++ List.replicate (4 - (lg_sl ([.ref b])).length) Slot.unset).toArray = ls at hl ⊢
  have hl : lv_has ls 4 [(0, .ref b)] := hl
  refine va_new (pc := 0) (ci := 6) (fs := [.null, .null, .null, .int 0, .null, .null, .null, .null, .null, .null]) (C := RX6) (T := TX6) (N := 10) hx hb hts0 inX6 tyX6 tyX6_ok hown (hts (.classLink RL 7 RX6) mU_0) (hts (.instantiable RX6 10) mU_1) (hts (.initialized RX6) mU_2) hK hP hD hS hA rfl (fun j hj => by rcases (show j = 0 ∨ j = 1 ∨ j = 2 ∨ j = 3 ∨ j = 4 ∨ j = 5 ∨ j = 6 ∨ j = 7 ∨ j = 8 ∨ j = 9 by omega) with rfl | rfl | rfl | rfl | rfl | rfl | rfl | rfl | rfl | rfl <;> rfl) (Nat.le_of_ble_eq_true rfl) (Nat.le_of_ble_eq_true rfl) dL_law_0 (fun qx H hP hD hS => ?_)
  have hP : va_P D vwCl [(qx, .inr (6, [.null, .null, .null, .int 0, .null, .null, .null, .null, .null, .null]))] H := hP
  have hD : va_D (lw_Ad s) [(qx, .inr (6, [.null, .null, .null, .int 0, .null, .null, .null, .null, .null, .null]))] := hD
  refine lv_dup (pc := 3) hx hb dL_law_3 rfl ?_
  refine cl_ctor (N := nwC) (wr := []) (va_runI (As := []) (rest := [.ref qx]) (g := F0 m 4 ls [.ref qx, .ref qx]) ⟨hx, hb, hml, hown, hts⟩ (kX6_init l D B qx H.size) (cwI 0 hts (goL m0 mU_9) rfl rfl rfl (hts (.initialized RX6) mU_2) (hts (.methodLink RL 9 yX6_init) mU_7) (hts (.instanceMethod yX6_init) mU_8) rfl (by decide +kernel) ⟨Nat.le_of_ble_eq_true rfl, Nat.le_of_ble_eq_true rfl⟩) ⟨ctorX_blind, fun U hU hW => ⟨rfl, by rw [hU], by rw [hU]; exact hP, va_K.moved hW.alike hK, hD.weaken (fun _ _ _ _ => trivial), nwC_warm hW hNC⟩⟩ rfl rfl hl.1 rfl (lv_room (Nat.le_of_ble_eq_true rfl)) dL_law_4 ⟨Nat.le_of_ble_eq_true rfl, Nat.le_of_ble_eq_true rfl⟩) hP hD hS hA [0] [] rfl rfl (by decide) (by decide) (fun A H locs hA0 hP hD hS => ?_)
  have hP : va_P D vwCl (wX A B s0X) H := hP
  have hD : va_D (lw_Ad s) (wX A B s0X) := hD
  rw [← hA0]
  refine lv_astore_n (pc := 7) hx hb (lv' := [(1, .ref (A 0)), (0, .ref b)]) dL_law_7 rfl hl (by decide) rfl (fun ls hl => ?_)
  refine va_new (pc := 8) (ci := 7) (fs := [.null, .null, .null, .int 0, .int 0, .int 0, .int 0, .int 0, .int 0, .int 0, .int 0, .null, .null, .null, .null, .int 0, .null, .int 0, .int 0, .int 0, .int 0, .int 0, .null, .null, .null, .null, .int 0, .int 0, .int 0, .int 0, .long 0, .null, .null, .null, .null, .null, .null, .null, .null, .null, .null, .null, .int 0, .int 0, .int 0, .int 0, .int 0]) (C := RX7) (T := TX7) (N := 47) hx hb hts0 inX7 tyX7 tyX7_ok hown (hts (.classLink RL 10 RX7) mU_3) (hts (.instantiable RX7 47) mU_4) (hts (.initialized RX7) mU_5) hK hP hD hS hA rfl (fun j hj => by rcases (show j = 0 ∨ j = 1 ∨ j = 2 ∨ j = 3 ∨ j = 4 ∨ j = 5 ∨ j = 6 ∨ j = 7 ∨ j = 8 ∨ j = 9 ∨ j = 10 ∨ j = 11 ∨ j = 12 ∨ j = 13 ∨ j = 14 ∨ j = 15 ∨ j = 16 ∨ j = 17 ∨ j = 18 ∨ j = 19 ∨ j = 20 ∨ j = 21 ∨ j = 22 ∨ j = 23 ∨ j = 24 ∨ j = 25 ∨ j = 26 ∨ j = 27 ∨ j = 28 ∨ j = 29 ∨ j = 30 ∨ j = 31 ∨ j = 32 ∨ j = 33 ∨ j = 34 ∨ j = 35 ∨ j = 36 ∨ j = 37 ∨ j = 38 ∨ j = 39 ∨ j = 40 ∨ j = 41 ∨ j = 42 ∨ j = 43 ∨ j = 44 ∨ j = 45 ∨ j = 46 by omega) with rfl | rfl | rfl | rfl | rfl | rfl | rfl | rfl | rfl | rfl | rfl | rfl | rfl | rfl | rfl | rfl | rfl | rfl | rfl | rfl | rfl | rfl | rfl | rfl | rfl | rfl | rfl | rfl | rfl | rfl | rfl | rfl | rfl | rfl | rfl | rfl | rfl | rfl | rfl | rfl | rfl | rfl | rfl | rfl | rfl | rfl | rfl <;> rfl) (Nat.le_of_ble_eq_true rfl) (Nat.le_of_ble_eq_true rfl) dL_law_8 (fun qm H hP hD hS => ?_)
  refine lv_dup (pc := 11) hx hb dL_law_11 rfl ?_
  refine cl_ctor (N := fun _ => True) (wr := wX A B s0X) (va_runI (As := []) (rest := [.ref qm]) (g := F0 m 12 ls [.ref qm, .ref qm]) ⟨hx, hb, hml, hown, hts⟩ (kX7_init l D B qm H.size) (cwI 0 hts (goL m0 mU_79) rfl rfl rfl (hts (.initialized RX7) mU_5) (hts (.methodLink RL 12 yX7_init) mU_77) (hts (.instanceMethod yX7_init) mU_78) rfl (by decide +kernel) ⟨Nat.le_of_ble_eq_true rfl, Nat.le_of_ble_eq_true rfl⟩) ⟨ctor_blind, fun U hU hW => ⟨rfl, by rw [hU], by rw [hU]; exact hP.sub [43] rfl, va_K.moved hW.alike hK, (hD.sub [43] (by decide) rfl).weaken (fun _ _ _ _ => trivial), trivial⟩⟩ rfl rfl hl.1 rfl (lv_room (Nat.le_of_ble_eq_true rfl)) dL_law_12 ⟨Nat.le_of_ble_eq_true rfl, Nat.le_of_ble_eq_true rfl⟩) hP hD hS hA [43] [0, 1, 2, 3, 4, 5, 6, 7, 8, 9, 10, 11, 12, 13, 14, 15, 16, 17, 18, 19, 20, 21, 22, 23, 24, 25, 26, 27, 28, 29, 30, 31, 32, 33, 34, 35, 36, 37, 38, 39, 40, 41, 42] rfl rfl (by decide) (by decide) (fun A2 H locs hA0 hP hD hS => ?_)
  rw [← hA0]
  refine lv_astore_n (pc := 15) hx hb (lv' := [(2, .ref (A2 0)), (1, .ref (A 0)), (0, .ref b)]) dL_law_15 rfl hl (by decide) rfl (fun ls hl => ?_)
  refine lv_iconst (pc := 16) hx hb (v := 0) dL_law_16 (by decide) ?_
  refine lv_istore_n (pc := 17) hx hb (lv' := [(3, .int 0), (2, .ref (A2 0)), (1, .ref (A 0)), (0, .ref b)]) dL_law_17 rfl hl (by decide) rfl (fun ls hl => ?_)
  exact law_loop E0 E1 E2 E3 E4 E5 E6 E7 E8 E9 E10 E11 E12 E13 E14 E15 E16 E17 E18 E19 E20 E21 E22 E23 E24 E25 E26 E27 E28 E29 E30 E31 E32 E33 E34 E35 E36 E37 hL hr hlocks ⟨hx, hb, hts, hown, hml, hX, hbl, hN, hK, hK⟩ (L + 7) 0 0 (by omega) (by omega) nI_0.symm s0X s0M H locs ls h00 hP hD hS (lv_sub hl [3, 2, 1, 0] rfl)
