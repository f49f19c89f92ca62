def tyB (B : Nat → ClassId) : List (ClassId × FieldType) := [(B 0, .byte), (B 1, .int), (B 2, .long), (B 3, .object "TwoSidedTables$Sheet"), (B 4, .object "TwoSidedTables$Shelf")]
theorem lg_eq0 {x y : Int64} : lg_cmp x y = 0 ↔ x = y := by
  unfold lg_cmp
  by_cases h1 : x > y
  · rw [if_pos h1]
    exact ⟨fun h => absurd h (by decide), fun h => by subst h; exact absurd h1 (Int64.lt_irrefl)⟩
  · rw [if_neg h1]
    by_cases h2 : x = y
    · rw [if_pos h2]; exact ⟨fun _ => h2, fun _ => rfl⟩
    · rw [if_neg h2]; exact ⟨fun h => absurd h (by decide), fun h => absurd h h2⟩
theorem lg_gt0 {x y : Int64} : 0 < lg_cmp x y ↔ y < x := by
  unfold lg_cmp
  by_cases h1 : x > y
  · rw [if_pos h1]; exact ⟨fun _ => h1, fun _ => by decide⟩
  · rw [if_neg h1]
    by_cases h2 : x = y
    · rw [if_pos h2]; exact ⟨fun h => absurd h (by decide), fun h => absurd h h1⟩
    · rw [if_neg h2]; exact ⟨fun h => absurd h (by decide), fun h => absurd h h1⟩
theorem lg_lt0 {x y : Int64} : lg_cmp x y < 0 ↔ x < y := by
  unfold lg_cmp
  by_cases h1 : x > y
  · rw [if_pos h1]; exact ⟨fun h => absurd h (by decide), fun h => absurd (Int64.lt_trans h1 h) Int64.lt_irrefl⟩
  · rw [if_neg h1]
    by_cases h2 : x = y
    · rw [if_pos h2]; exact ⟨fun h => absurd h (by decide), fun h => absurd (h2 ▸ h) Int64.lt_irrefl⟩
    · rw [if_neg h2]
      refine ⟨fun _ => ?_, fun _ => by decide⟩
      rcases Int64.le_total x y with h | h
      · rcases Int64.lt_or_eq_of_le h with h | h
        · exact h
        · exact absurd h h2
      · rcases Int64.lt_or_eq_of_le h with h | h
        · exact absurd h h1
        · exact absurd h.symm h2
theorem lg_le0 {x y : Int64} : lg_cmp x y ≤ 0 ↔ ¬ y < x := by rw [← lg_gt0, Int32.not_lt]
theorem lg_ge0 {x y : Int64} : 0 ≤ lg_cmp x y ↔ ¬ x < y := by rw [← lg_lt0, Int32.not_lt]
/-! ===== contracts over a whole world: the world w S becomes w S1, the answer is o ===== -/
def nwX (U : State) : Prop := va_Nw (.methodLinkNest RX5 57 yX6_reach "TwoSidedTables") U
def okW (D : va_G) (ty : List (ClassId × FieldType)) (v : va_W) (U : State) : Prop := va_P D vwCl v U.heap ∧ va_K D vwCl ty U ∧ va_D (fun _ => True) v ∧ nwX U
def atW (D : va_G) (ty : List (ClassId × FieldType)) (A : Nat → Prop) (v : va_W) (U : State) : Prop := va_P D vwCl v U.heap ∧ va_K D vwCl ty U ∧ va_D A v
def MetW (l : Launch) (y : MethodName) (ws : List Cond) (rm : Room) (av : List Value) (D : va_G) (ty : List (ClassId × FieldType)) (v v1 : va_W) (sz : Nat) (o : Option Value) : Prop :=
  Met l y ws rm (va_Pc av (fun U => U.heap.size = sz ∧ okW D ty v U)) (fun _ st oc t => oc = .returned o ∧ atW D ty (va_A v sz) v1 t ∧ va_F (va_A v sz) st t) 0 0 (va_A v sz)
theorem okW_blind {av : List Value} {D : va_G} {ty : List (ClassId × FieldType)} {v : va_W} {sz : Nat} : FrameBlind (va_Pc av (fun U => U.heap.size = sz ∧ okW D ty v U)) := fun a U g mk q => by
  obtain ⟨q0, q1, qP, qK, qD, qN⟩ := q
  exact ⟨q0, q1, qP, va_K.moved (u := U) (U := U.calling g mk a) (Vm.Alike.refl U.vm) qK, qD, va_Nw.same rfl (rfl : U.vm = (U.calling g mk a).vm) qN⟩
theorem nz_of {x : Int32} (h : x = 0 ∨ x = 1) : narrow .boolean (.int x) = .int x := by rcases h with rfl | rfl <;> rfl
theorem in_of {big ws : List Cond} (ps : List Nat) (hp : ws = ps.filterMap (fun i => big[i]?)) : ∀ w ∈ ws, w ∈ big := by
  intro w hw
  rw [hp] at hw
  obtain ⟨i, -, hi⟩ := List.mem_filterMap.mp hw
  exact List.mem_of_getElem? hi
section MW
variable {l : Launch} {y : MethodName} {ws ws' : List Cond} {rm : Room} {av : List Value} {D : va_G} {ty : List (ClassId × FieldType)} {v v1 : va_W} {sz : Nat} {cc : ByteArray} {maxL : Nat}
theorem MetW.mkI {r : Int32} (hy : plainName y.cls = true) (hlen : (lg_sl av).length ≤ maxL)
    (body : ∀ (p : Program) (e : Env) (s : State) (m : MethodId) (args : Array Value) (below : List Frame) (meth : Method) (c : Code) (A : Nat → Prop) (Q : State → Prop), p.tables.exec = Jvm.exec → c.code = cc → (∀ w ∈ wsU, w.before args s = true) → s.vm.findClass y.cls = some m.cls → c.maxLocals = maxL → nwX s → va_K D vwCl ty s → (∀ q, s.heap.size ≤ q → A q) →
      (∀ (H : Heap) (locs : List Loc) (pc : Nat) (ls : Array Slot), va_P D vwCl v1 H → va_D A v1 → va_S A s.heap H locs → decode cc pc = .ok (.ireturn, 1) → W p l e rm s m args below meth c H locs 0 0 Q (F0 m pc ls [.int r])) →
      ∀ (H : Heap) (locs : List Loc) (ls : Array Slot), va_P D vwCl v H → va_D A v → va_S A s.heap H locs → lv_has ls maxL (lv_args 0 av) → W p l e rm s m args below meth c H locs 0 0 Q (F0 m 0 ls [])) : MetW l y (wsO y cc maxL (some .int)) rm av D ty v v1 sz (some (.int r)) := by
  refine Met.ofW (cc := cc) (maxL := maxL) (ret := some .int) hy rfl ?_
  intro p e s m args below meth c s₁ B hml hv
  obtain ⟨rfl, hsz, hP, hK, hD0, hN⟩ := hv
  subst hsz
  have hl := lv_entry av (n := maxL) hlen
  rw [lg_entry_eq]
  exact body p e s m _ below meth c (va_A v s.heap.size) _ B.exec B.bytes (fun w h => atoms_spec (ws := wsO y cc maxL _) B.pre w (List.mem_cons_of_mem _ h)) (findClass_of_methodNamed B.named) hml hN hK (fun q h => Or.inr h)
    (fun H locs pc ls hP1 hD1 hS hdg => W.iret B.exec B.bytes B.returns (fun t ht hW => ⟨rfl, ⟨by rw [ht]; exact hP1, va_K.moved hW.alike hK, hD1⟩, hS.F ht⟩) hS.2.2 hdg B.notSynchronized) _ _ _ hP hD0.self va_S.rf hl
theorem MetW.mkZ {r : Int32} (hy : plainName y.cls = true) (hlen : (lg_sl av).length ≤ maxL)
    (body : ∀ (p : Program) (e : Env) (s : State) (m : MethodId) (args : Array Value) (below : List Frame) (meth : Method) (c : Code) (A : Nat → Prop) (Q : State → Prop), p.tables.exec = Jvm.exec → c.code = cc → (∀ w ∈ wsU, w.before args s = true) → s.vm.findClass y.cls = some m.cls → c.maxLocals = maxL → nwX s → va_K D vwCl ty s → (∀ q, s.heap.size ≤ q → A q) →
      (∀ (H : Heap) (locs : List Loc) (pc : Nat) (ls : Array Slot), va_P D vwCl v1 H → va_D A v1 → va_S A s.heap H locs → narrow .boolean (.int r) = .int r → decode cc pc = .ok (.ireturn, 1) → W p l e rm s m args below meth c H locs 0 0 Q (F0 m pc ls [.int r])) →
      ∀ (H : Heap) (locs : List Loc) (ls : Array Slot), va_P D vwCl v H → va_D A v → va_S A s.heap H locs → lv_has ls maxL (lv_args 0 av) → W p l e rm s m args below meth c H locs 0 0 Q (F0 m 0 ls [])) : MetW l y (wsO y cc maxL (some .boolean)) rm av D ty v v1 sz (some (.int r)) := by
  refine Met.ofW (cc := cc) (maxL := maxL) (ret := some .boolean) hy rfl ?_
  intro p e s m args below meth c s₁ B hml hv
  obtain ⟨rfl, hsz, hP, hK, hD0, hN⟩ := hv
  subst hsz
  have hl := lv_entry av (n := maxL) hlen
  rw [lg_entry_eq]
  exact body p e s m _ below meth c (va_A v s.heap.size) _ B.exec B.bytes (fun w h => atoms_spec (ws := wsO y cc maxL _) B.pre w (List.mem_cons_of_mem _ h)) (findClass_of_methodNamed B.named) hml hN hK (fun q h => Or.inr h)
    (fun H locs pc ls hP1 hD1 hS hn hdg => W.zret (ty := .boolean) B.exec B.bytes B.returns hn (fun t ht hW => ⟨rfl, ⟨by rw [ht]; exact hP1, va_K.moved hW.alike hK, hD1⟩, hS.F ht⟩) hS.2.2 hdg B.notSynchronized) _ _ _ hP hD0.self va_S.rf hl
theorem MetW.mkL {r : Int64} (hy : plainName y.cls = true) (hlen : (lg_sl av).length ≤ maxL)
    (body : ∀ (p : Program) (e : Env) (s : State) (m : MethodId) (args : Array Value) (below : List Frame) (meth : Method) (c : Code) (A : Nat → Prop) (Q : State → Prop), p.tables.exec = Jvm.exec → c.code = cc → (∀ w ∈ wsU, w.before args s = true) → s.vm.findClass y.cls = some m.cls → c.maxLocals = maxL → nwX s → va_K D vwCl ty s → (∀ q, s.heap.size ≤ q → A q) →
      (∀ (H : Heap) (locs : List Loc) (pc : Nat) (ls : Array Slot), va_P D vwCl v1 H → va_D A v1 → va_S A s.heap H locs → decode cc pc = .ok (.lreturn, 1) → W p l e rm s m args below meth c H locs 0 0 Q (F0 m pc ls [.long r])) →
      ∀ (H : Heap) (locs : List Loc) (ls : Array Slot), va_P D vwCl v H → va_D A v → va_S A s.heap H locs → lv_has ls maxL (lv_args 0 av) → W p l e rm s m args below meth c H locs 0 0 Q (F0 m 0 ls [])) : MetW l y (wsO y cc maxL (some .long)) rm av D ty v v1 sz (some (.long r)) := by
  refine Met.ofW (cc := cc) (maxL := maxL) (ret := some .long) hy rfl ?_
  intro p e s m args below meth c s₁ B hml hv
  obtain ⟨rfl, hsz, hP, hK, hD0, hN⟩ := hv
  subst hsz
  have hl := lv_entry av (n := maxL) hlen
  rw [lg_entry_eq]
  exact body p e s m _ below meth c (va_A v s.heap.size) _ B.exec B.bytes (fun w h => atoms_spec (ws := wsO y cc maxL _) B.pre w (List.mem_cons_of_mem _ h)) (findClass_of_methodNamed B.named) hml hN hK (fun q h => Or.inr h)
    (fun H locs pc ls hP1 hD1 hS hdg => W.lret B.exec B.bytes B.returns (fun t ht hW => ⟨rfl, ⟨by rw [ht]; exact hP1, va_K.moved hW.alike hK, hD1⟩, hS.F ht⟩) hS.2.2 hdg B.notSynchronized) _ _ _ hP hD0.self va_S.rf hl
theorem MetW.mkV (hy : plainName y.cls = true) (hlen : (lg_sl av).length ≤ maxL)
    (body : ∀ (p : Program) (e : Env) (s : State) (m : MethodId) (args : Array Value) (below : List Frame) (meth : Method) (c : Code) (A : Nat → Prop) (Q : State → Prop), p.tables.exec = Jvm.exec → c.code = cc → (∀ w ∈ wsU, w.before args s = true) → s.vm.findClass y.cls = some m.cls → c.maxLocals = maxL → nwX s → va_K D vwCl ty s → (∀ q, s.heap.size ≤ q → A q) →
      (∀ (H : Heap) (locs : List Loc) (pc : Nat) (ls : Array Slot), va_P D vwCl v1 H → va_D A v1 → va_S A s.heap H locs → decode cc pc = .ok (.return_, 1) → W p l e rm s m args below meth c H locs 0 0 Q (F0 m pc ls [])) →
      ∀ (H : Heap) (locs : List Loc) (ls : Array Slot), va_P D vwCl v H → va_D A v → va_S A s.heap H locs → lv_has ls maxL (lv_args 0 av) → W p l e rm s m args below meth c H locs 0 0 Q (F0 m 0 ls [])) : MetW l y (wsO y cc maxL none) rm av D ty v v1 sz none := by
  refine Met.ofW (cc := cc) (maxL := maxL) (ret := none) hy rfl ?_
  intro p e s m args below meth c s₁ B hml hv
  obtain ⟨rfl, hsz, hP, hK, hD0, hN⟩ := hv
  subst hsz
  have hl := lv_entry av (n := maxL) hlen
  rw [lg_entry_eq]
  exact body p e s m _ below meth c (va_A v s.heap.size) _ B.exec B.bytes (fun w h => atoms_spec (ws := wsO y cc maxL _) B.pre w (List.mem_cons_of_mem _ h)) (findClass_of_methodNamed B.named) hml hN hK (fun q h => Or.inr h)
    (fun H locs pc ls hP1 hD1 hS hdg => W.vret B.exec B.bytes B.returns (fun t ht hW => ⟨rfl, ⟨by rw [ht]; exact hP1, va_K.moved hW.alike hK, hD1⟩, hS.F ht⟩) hS.2.2 hdg B.notSynchronized) _ _ _ hP hD0.self va_S.rf hl
end MW
/-! ===== calls over a whole world ===== -/
section CL
variable {p : Program} {l : Launch} {e : Env} {R : Room} {s : State} {m : MethodId} {args : Array Value} {below : List Frame} {meth : Method} {c : Code} {H H0 : Heap} {locs : List Loc} {cells slots : Nat} {Q : State → Prop}
variable {cc bytes : ByteArray} {pc pc1 nL maxL index n : Nat} {ls : Array Slot} {st st1 rest As : List Value} {D : va_G} {Ad : Nat → Prop} {ty : List (ClassId × FieldType)} {v v1 : va_W} {Ts ws : List Cond} {own C host : String} {y : MethodName} {ret : Option FieldType} {rm : Room} {b : Nat} {o : Option Value}
theorem cl_any (hr : va_Run p l e R s m args below meth c H locs cells slots 0 0 (F0 m pc ls st) rest (fun st oc t => oc = .returned o ∧ atW D ty (va_A v H.size) v1 t ∧ va_F (va_A v H.size) st t) (va_A v H.size))
    (hD : va_D Ad v) (hS : va_S Ad H0 H locs) (hA : ∀ q, H0.size ≤ q → Ad q) (hst1 : o.toList ++ rest = st1)
    (kk : ∀ (H1 : Heap) (locs1 : List Loc), va_P D vwCl v1 H1 → va_D Ad v1 → va_S Ad H0 H1 locs1 → W p l e R s m args below meth c H1 locs1 cells slots Q (F0 m (pc + 3) ls st1)) : W p l e R s m args below meth c H locs cells slots Q (F0 m pc ls st) := by
  subst hst1
  intro T hT X
  obtain ⟨v', st₀, t, T', L, h0, X', hL, e1, e2, ⟨hv, ⟨hP1, hK1, hD1⟩, hz, hk⟩, stp⟩ := hr T hT X
  cases hv
  rw [h0] at hz hk
  have hF : ∀ q, va_A v H.size q → Ad q := fun q h => by
    rcases h with ⟨k, e9, h⟩ | h
    · exact hD.2 k _ h
    · exact hA q (Nat.le_trans hS.1 h)
  obtain ⟨t2, a1, b1⟩ := kk T'.heap (locs ++ L) (by rw [e1]; exact hP1) (hD1.weaken (fun k q _ h => hF q.1 h))
    ⟨Nat.le_trans hS.1 (by rw [e1]; exact hz), fun q h1 h2 => by rw [e1, hk q (Nat.lt_of_lt_of_le h1 hS.1) (fun z => h2 (hF q z))]; exact hS.2.1 q h1 h2, fun q hq => by
      rcases List.mem_append.mp hq with h | h
      · exact hS.2.2 q h
      · exact hF _ (hL q h)⟩ T' rfl X'
  exact ⟨t2, stp t2 a1, b1⟩
theorem cl_pre (hN : nwX s) (hK : va_K D vwCl ty s) (hP : va_P D vwCl v H) (hD : va_D Ad v) : ∀ U : State, U.heap = H → s.WarmedH U.vm → va_Pc As (fun U => U.heap.size = H.size ∧ okW D ty v U) As.toArray U :=
  fun U hU hW => ⟨rfl, by rw [hU], by rw [hU]; exact hP, va_K.moved hW.alike hK, hD.weaken (fun _ _ _ _ => trivial), va_Nw.warmM hW hN⟩
/-- a call of a method of an object of the world -/
theorem cl_V (hx : p.tables.exec = Jvm.exec) (hb : c.code = cc) (hml : c.maxLocals = nL) (hown : s.vm.findClass own = some m.cls) (hts : ∀ w ∈ Ts, w.before args s = true)
    (hM : MetW l y ws rm (.ref b :: As) D ty v v1 H.size o) (cw : CallW R s args own C index y bytes maxL ret ws rm 0 0 n) (hN : nwX s) (hK : va_K D vwCl ty s) (hP : va_P D vwCl v H) (hD : va_D Ad v) (hS : va_S Ad H0 H locs) (hA : ∀ q, H0.size ≤ q → Ad q)
    (hrecv : ∃ cell : Cell, H[b]? = some cell ∧ cell.vm.isStatics = false ∧ s.vm.findClass C = some cell.cls) (hn : As.length = n) (hsize : ls.size = nL) (hst : st = As.reverse ++ .ref b :: rest) (hroom : (rest.map fun v => v.category).sum ≤ 8) (hdg : decode cc pc = .ok (.invokevirtual index, 3)) (hst1 : o.toList ++ rest = st1) (hf : cells + 0 ≤ R.cells ∧ slots + 0 ≤ R.slots)
    (kk : ∀ (H1 : Heap) (locs1 : List Loc), va_P D vwCl v1 H1 → va_D Ad v1 → va_S Ad H0 H1 locs1 → W p l e R s m args below meth c H1 locs1 cells slots Q (F0 m (pc + 3) ls st1)) : W p l e R s m args below meth c H locs cells slots Q (F0 m pc ls st) :=
  cl_any (va_runV (As := As) (rest := rest) (g := F0 m pc ls st) ⟨hx, hb, hml, hown, hts⟩ hM cw ⟨okW_blind, hrecv, cl_pre hN hK hP hD⟩ rfl hn hsize hst (lv_room hroom) hdg hf) hD hS hA hst1 kk
/-- a call of a static method -/
theorem cl_S (hx : p.tables.exec = Jvm.exec) (hb : c.code = cc) (hml : c.maxLocals = nL) (hown : s.vm.findClass own = some m.cls) (hts : ∀ w ∈ Ts, w.before args s = true)
    (hM : MetW l y ws rm As D ty v v1 H.size o) (cw : CallB R s args own index y bytes maxL ret ws rm 0 0 n ∧ (Cond.static y).before args s = true) (hN : nwX s) (hK : va_K D vwCl ty s) (hP : va_P D vwCl v H) (hD : va_D Ad v) (hS : va_S Ad H0 H locs) (hA : ∀ q, H0.size ≤ q → Ad q)
    (hn : As.length = n) (hsize : ls.size = nL) (hst : st = As.reverse ++ rest) (hroom : (rest.map fun v => v.category).sum ≤ 8) (hdg : decode cc pc = .ok (.invokestatic index, 3)) (hst1 : o.toList ++ rest = st1) (hf : cells + 0 ≤ R.cells ∧ slots + 0 ≤ R.slots)
    (kk : ∀ (H1 : Heap) (locs1 : List Loc), va_P D vwCl v1 H1 → va_D Ad v1 → va_S Ad H0 H1 locs1 → W p l e R s m args below meth c H1 locs1 cells slots Q (F0 m (pc + 3) ls st1)) : W p l e R s m args below meth c H locs cells slots Q (F0 m pc ls st) :=
  cl_any (va_runS (As := As) (rest := rest) (g := F0 m pc ls st) ⟨hx, hb, hml, hown, hts⟩ hM cw ⟨okW_blind, cl_pre hN hK hP hD⟩ rfl hn hsize hst (lv_room hroom) hdg hf) hD hS hA hst1 kk
/-- a call of a nest mate's private static method -/
theorem cl_SN (hx : p.tables.exec = Jvm.exec) (hb : c.code = cc) (hml : c.maxLocals = nL) (hown : s.vm.findClass own = some m.cls) (hts : ∀ w ∈ Ts, w.before args s = true)
    (hM : MetW l y ws rm As D ty v v1 H.size o) (cw : va_CN R s args own index y host bytes maxL ret ws rm 0 0 n ∧ (Cond.static y).before args s = true ∧ True) (hN : nwX s) (hK : va_K D vwCl ty s) (hP : va_P D vwCl v H) (hD : va_D Ad v) (hS : va_S Ad H0 H locs) (hA : ∀ q, H0.size ≤ q → Ad q)
    (hn : As.length = n) (hsize : ls.size = nL) (hst : st = As.reverse ++ rest) (hroom : (rest.map fun v => v.category).sum ≤ 8) (hdg : decode cc pc = .ok (.invokestatic index, 3)) (hst1 : o.toList ++ rest = st1) (hf : cells + 0 ≤ R.cells ∧ slots + 0 ≤ R.slots)
    (kk : ∀ (H1 : Heap) (locs1 : List Loc), va_P D vwCl v1 H1 → va_D Ad v1 → va_S Ad H0 H1 locs1 → W p l e R s m args below meth c H1 locs1 cells slots Q (F0 m (pc + 3) ls st1)) : W p l e R s m args below meth c H locs cells slots Q (F0 m pc ls st) :=
  cl_any (va_runSN (As := As) (rest := rest) (g := F0 m pc ls st) ⟨hx, hb, hml, hown, hts⟩ hM cw ⟨okW_blind, cl_pre hN hK hP hD⟩ rfl hn hsize hst (lv_room hroom) hdg hf) hD hS hA hst1 kk
end CL
/-! ===== constructors: the array classes are known; a constructor's world is its object alone ===== -/
theorem tyB_of {args : Array Value} {s : State} {D : va_G} {cl : List vw_C} (hK : va_K D cl [] s) (h0 : (Cond.arrayClass .byte).before args s = true) (h1 : (Cond.arrayClass .int).before args s = true) (h2 : (Cond.arrayClass .long).before args s = true) (h3 : (Cond.arrayOver (.object "TwoSidedTables$Sheet")).before args s = true) (h4 : (Cond.arrayOver (.object "TwoSidedTables$Shelf")).before args s = true) : ∃ B : Nat → ClassId, va_K D cl (tyB B) s := by
  obtain ⟨c0, k0, p0, a0, b0, d0⟩ := Cond.arrayClass_spec h0
  obtain ⟨c1, k1, p1, a1, b1, d1⟩ := Cond.arrayClass_spec h1
  obtain ⟨c2, k2, p2, a2, b2, d2⟩ := Cond.arrayClass_spec h2
  obtain ⟨p3, c3, k3, a3, e3, b3, d3, f3⟩ := Cond.arrayOver_spec h3
  obtain ⟨p4, c4, k4, a4, e4, b4, d4, f4⟩ := Cond.arrayOver_spec h4
  refine ⟨fun k => if k = 0 then c0 else if k = 1 then c1 else if k = 2 then c2 else if k = 3 then c3 else c4, hK.1, fun k q hq => ?_⟩
  match k, hq with
  | 0, hq => cases hq; exact ⟨fun n z => ⟨fun k h => (by cases h), k0, b0, p0, d0⟩, a0⟩
  | 1, hq => cases hq; exact ⟨fun n z => ⟨fun k h => (by cases h), k1, b1, p1, d1⟩, a1⟩
  | 2, hq => cases hq; exact ⟨fun n z => ⟨fun k h => (by cases h), k2, b2, p2, d2⟩, a2⟩
  | 3, hq => cases hq; exact ⟨fun n z => ⟨fun k h => (by cases h), k3, b3, p3, d3⟩, k3, p3, b3, d3, a3, f3⟩
  | 4, hq => cases hq; exact ⟨fun n z => ⟨fun k h => (by cases h), k4, b4, p4, d4⟩, k4, p4, b4, d4, a4, f4⟩
  | k + 5, hq => simp [tyB] at hq
section CT
variable {p : Program} {l : Launch} {e : Env} {R : Room} {s : State} {m : MethodId} {args : Array Value} {below : List Frame} {meth : Method} {c : Code} {H H0 : Heap} {locs : List Loc} {cells slots mc ms : Nat} {Q : State → Prop}
variable {cc bytes : ByteArray} {pc nL maxL index : Nat} {ls : Array Slot} {st rest : List Value} {D : va_G} {Ad : Nat → Prop} {B : Nat → ClassId} {v wc wr : va_W} {Ts ws : List Cond} {own host : String} {y : MethodName} {rm : Room} {b : Nat} {T : Type} {v1 : T → va_W}
/-- a new array whose class is among those known -/
theorem va_newB (hx : p.tables.exec = Jvm.exec) (hb : c.code = cc) {atype : ArrayType} (harr : (Cond.arrayClass (newarray.typeOf atype)).before args s = true) {ty : FieldType} (hty : newarray.typeOf atype = ty) (i : Nat) (hi : (tyB B)[i]? = some (B i, ty)) (hprim : ∀ C, ty ≠ .object C) (hK : va_K D vwCl (tyB B) s) (hP : va_P D vwCl v H) (hD : va_D Ad v) (hS : va_S Ad H0 H locs) (hA : ∀ q, H0.size ≤ q → Ad q)
    {n : Int32} {N' : Nat} {a0 : vp_A} (ha : ∀ cA : ClassId, vp_cell cA a0 = arrV cA N' (fun _ => defaultValue ty)) (hn : ¬ n < 0) (hN : n.toNatClampNeg = N') (hbytes : N' * componentBytes ty ≤ 536870912) (hcells : cells + 1 ≤ R.cells) (hslots : slots + N' ≤ R.slots) (hdg : decode cc pc = .ok (.newarray atype, 2))
    (kk : ∀ (q : Nat) (H1 : Heap), va_P D vwCl (v ++ [(q, .inl (B i, a0))]) H1 → va_D Ad (v ++ [(q, .inl (B i, a0))]) → va_S Ad H0 H1 locs →
      W p l e R s m args below meth c H1 locs (cells + 1) (slots + N') Q (F0 m (pc + 2) ls (.ref q :: rest))) : W p l e R s m args below meth c H locs cells slots Q (F0 m pc ls (.int n :: rest)) := by
  refine va_newa hx hb harr hty hK hP hD hS hA ha hn hN hbytes hcells hslots hdg (fun q cA H1 k1 k2 k3 k4 => ?_)
  have e1 := (k1.2 5 (cA, ty) rfl).2
  have e2 := (hK.2 i _ hi).2
  have e3 : cA = B i := by
    cases ty with
    | object C => exact absurd rfl (hprim C)
    | _ => exact Option.some.inj (Eq.trans (Eq.symm e1) e2)
  subst e3
  exact kk q H1 k2 k3 k4
theorem va_newqB (hx : p.tables.exec = Jvm.exec) (hb : c.code = cc) {C : String} (hown : s.vm.findClass own = some m.cls) (hclink : (Cond.classLink own index C).before args s = true) (hover : va_AO C s) (i : Nat) (hi : (tyB B)[i]? = some (B i, .object C)) (hK : va_K D vwCl (tyB B) s) (hP : va_P D vwCl v H) (hD : va_D Ad v) (hS : va_S Ad H0 H locs) (hA : ∀ q, H0.size ≤ q → Ad q)
    {n : Int32} {N' : Nat} (hn : ¬ n < 0) (hN : n.toNatClampNeg = N') (hbytes : N' * 4 ≤ 536870912) (hcells : cells + 1 ≤ R.cells) (hslots : slots + N' ≤ R.slots) (hdg : decode cc pc = .ok (.anewarray index, 3))
    (kk : ∀ (q : Nat) (H1 : Heap), va_P D vwCl (v ++ [(q, .inl (B i, N', .inr (.inr (.inr (.inr (fun _ => none))))))]) H1 → va_D Ad (v ++ [(q, .inl (B i, N', .inr (.inr (.inr (.inr (fun _ => none))))))]) → va_S Ad H0 H1 locs →
      W p l e R s m args below meth c H1 locs (cells + 1) (slots + N') Q (F0 m (pc + 3) ls (.ref q :: rest))) : W p l e R s m args below meth c H locs cells slots Q (F0 m pc ls (.int n :: rest)) := by
  refine va_newq hx hb hown hclink hover hK hP hD hS hA hn hN hbytes hcells hslots hdg (fun q cA H1 k1 k2 k3 k4 => ?_)
  obtain ⟨-, kA, comp, x1, x2, x3, x4⟩ := k1.2 5 (cA, .object C) rfl
  obtain ⟨-, kB, comp2, y1, y2, y3, y4⟩ := hK.2 i _ hi
  have e3 : cA = B i := Option.some.inj (Eq.trans (Eq.symm x4) y4)
  subst e3
  exact kk q H1 k2 k3 k4
def MetC (l : Launch) (y : MethodName) (ws : List Cond) (rm : Room) (h0 : Nat) (D : va_G) (B : Nat → ClassId) (N : State → Prop) (v : va_W) {T : Type} (po : T → Prop) (v1 : T → va_W) (sz mc ms : Nat) : Prop :=
  Met l y ws rm (va_Pc [.ref h0] (fun U => U.heap.size = sz ∧ va_P D vwCl v U.heap ∧ va_K D vwCl (tyB B) U ∧ va_D (fun _ => True) v ∧ N U)) (va_Qv po (fun u t => atW D (tyB B) (va_A v sz) (v1 u) t) (va_A v sz)) mc ms (va_A v sz)
theorem cl_ctor {N : State → Prop} {po : T → Prop} {args' : Array Value} (hr : va_Run p l e R s m args below meth c H locs cells slots mc ms (F0 m pc ls st) rest (va_Qv po (fun u t => atW D (tyB B) (va_A wc H.size) (v1 u) t) (va_A wc H.size) args') (va_A wc H.size))
    (hP : va_P D vwCl v H) (hD : va_D Ad v) (hS : va_S Ad H0 H locs) (hA : ∀ q, H0.size ≤ q → Ad q) (isC isR : List Nat) (hC : isC.map (fun i => v[i]?) = wc.map some) (hR : isR.map (fun i => v[i]?) = wr.map some) (hn : va_nd isR = true) (hdis : ∀ i ∈ isR, i ∉ isC)
    (kk : ∀ (u : T) (H1 : Heap) (locs1 : List Loc), po u → va_P D vwCl (wr ++ v1 u) H1 → va_D Ad (wr ++ v1 u) → va_S Ad H0 H1 locs1 → W p l e R s m args below meth c H1 locs1 (cells + mc) (slots + ms) Q (F0 m (pc + 3) ls rest)) : W p l e R s m args below meth c H locs cells slots Q (F0 m pc ls st) := by
  have hF := va_free (wc := wc) hD hS hA isC hC
  refine va_callv hr hS (fun q _ h => hF q h) hF (fun u t H1 locs1 ht hvm hw hB hz1 hk1 hS1 => ?_)
  obtain ⟨hP1, hK1, hD1⟩ := hB
  rw [ht] at hP1
  obtain ⟨a1, a2⟩ := va_join hP hD isC isR hC hR hn hdis hk1 hF hP1 hD1
  exact kk u H1 locs1 hw a1 a2 hS1
end CT
/-! ===== two worlds side by side: a call works on the first, which goes behind the second ===== -/
theorem ap_C (a r : va_W) : (List.range a.length).map (fun i => (a ++ r)[i]?) = a.map some := by
  refine List.ext_getElem? fun k => ?_
  by_cases h : k < a.length
  · simp [h]
    rw [List.getElem?_append_left h, List.getElem?_eq_getElem h]
  · simp [h]
theorem ap_R (a r : va_W) : ((List.range r.length).map (fun i => i + a.length)).map (fun i => (a ++ r)[i]?) = r.map some := by
  refine List.ext_getElem? fun k => ?_
  by_cases h : k < r.length
  · simp [h]
    rw [List.getElem?_append_right (by omega), Nat.add_sub_cancel, List.getElem?_eq_getElem h]
  · simp [h]
theorem nd_of : ∀ (l : List Nat), l.Nodup → va_nd l = true
  | [], _ => rfl
  | a :: l, h => by
    rw [List.nodup_cons] at h
    simp [va_nd, h.1, nd_of l h.2]
theorem nd_R (a r : va_W) : va_nd ((List.range r.length).map (fun i => i + a.length)) = true := by
  refine nd_of _ ?_
  refine List.Pairwise.map _ (fun x y h => ?_) List.nodup_range
  omega
theorem dis_R (a r : va_W) : ∀ i ∈ (List.range r.length).map (fun i => i + a.length), i ∉ List.range a.length := by
  intro i h
  simp only [List.mem_map, List.mem_range] at h ⊢
  obtain ⟨x, -, rfl⟩ := h
  omega
theorem va_P.left {D : va_G} {cl : List vw_C} {a r : va_W} {H : Heap} (h : va_P D cl (a ++ r) H) : va_P D cl a H := fun k q hk => h k q (by
  rw [List.getElem?_append_left (List.getElem?_eq_some_iff.mp hk).1]; exact hk)
theorem va_D.left {A : Nat → Prop} {a r : va_W} (h : va_D A (a ++ r)) : va_D A a := by
  have e : ∀ (k : Nat) (q : Nat × va_E), a[k]? = some q → (a ++ r)[k]? = some q := fun k q hk => by
    rw [List.getElem?_append_left (List.getElem?_eq_some_iff.mp hk).1]; exact hk
  exact ⟨fun i j p q hp hq => h.1 i j p q (e i p hp) (e j q hq), fun k q hk => h.2 k q (e k q hk)⟩
section CF
variable {p : Program} {l : Launch} {e : Env} {R : Room} {s : State} {m : MethodId} {args : Array Value} {below : List Frame} {meth : Method} {c : Code} {H H0 : Heap} {locs : List Loc} {cells slots : Nat} {Q : State → Prop}
variable {cc bytes : ByteArray} {pc nL maxL index n : Nat} {ls : Array Slot} {st st1 rest As : List Value} {D : va_G} {Ad : Nat → Prop} {ty : List (ClassId × FieldType)} {a a1 r : va_W} {Ts ws : List Cond} {own C : String} {y : MethodName} {ret : Option FieldType} {rm : Room} {b : Nat} {o : Option Value}
theorem cl_anyF (hr : va_Run p l e R s m args below meth c H locs cells slots 0 0 (F0 m pc ls st) rest (fun st oc t => oc = .returned o ∧ atW D ty (va_A a H.size) a1 t ∧ va_F (va_A a H.size) st t) (va_A a H.size))
    (hP : va_P D vwCl (a ++ r) H) (hD : va_D Ad (a ++ r)) (hS : va_S Ad H0 H locs) (hA : ∀ q, H0.size ≤ q → Ad q) (hst1 : o.toList ++ rest = st1)
    (kk : ∀ (H1 : Heap) (locs1 : List Loc), va_P D vwCl (r ++ a1) H1 → va_D Ad (r ++ a1) → va_S Ad H0 H1 locs1 → W p l e R s m args below meth c H1 locs1 cells slots Q (F0 m (pc + 3) ls st1)) : W p l e R s m args below meth c H locs cells slots Q (F0 m pc ls st) := by
  subst hst1
  intro T hT X
  obtain ⟨v', st₀, t, T', L, h0, X', hL, e1, e2, ⟨hv, ⟨hP1, hK1, hD1⟩, hz, hk⟩, stp⟩ := hr T hT X
  cases hv
  rw [h0] at hz hk
  have hF := va_free (wc := a) hD hS hA (List.range a.length) (ap_C a r)
  obtain ⟨j1, j2⟩ := va_join (wc := a) (wr := r) (H1 := t.heap) hP hD (List.range a.length) ((List.range r.length).map (fun i => i + a.length)) (ap_C a r) (ap_R a r) (nd_R a r) (dis_R a r) hk hF hP1 hD1
  obtain ⟨t2, x1, y1⟩ := kk T'.heap (locs ++ L) (by rw [e1]; exact j1) j2
    ⟨Nat.le_trans hS.1 (by rw [e1]; exact hz), fun q h1 h2 => by rw [e1, hk q (Nat.lt_of_lt_of_le h1 hS.1) (fun z => h2 (hF q z))]; exact hS.2.1 q h1 h2, fun q hq => by
      rcases List.mem_append.mp hq with h | h
      · exact hS.2.2 q h
      · exact hF _ (hL q h)⟩ T' rfl X'
  exact ⟨t2, stp t2 x1, y1⟩
theorem cl_VF (hx : p.tables.exec = Jvm.exec) (hb : c.code = cc) (hml : c.maxLocals = nL) (hown : s.vm.findClass own = some m.cls) (hts : ∀ w ∈ Ts, w.before args s = true)
    (hM : MetW l y ws rm (.ref b :: As) D ty a a1 H.size o) (cw : CallW R s args own C index y bytes maxL ret ws rm 0 0 n) (hN : nwX s) (hK : va_K D vwCl ty s) (hP : va_P D vwCl (a ++ r) H) (hD : va_D Ad (a ++ r)) (hS : va_S Ad H0 H locs) (hA : ∀ q, H0.size ≤ q → Ad q)
    (hrecv : ∃ cell : Cell, H[b]? = some cell ∧ cell.vm.isStatics = false ∧ s.vm.findClass C = some cell.cls) (hn : As.length = n) (hsize : ls.size = nL) (hst : st = As.reverse ++ .ref b :: rest) (hroom : (rest.map fun v => v.category).sum ≤ 8) (hdg : decode cc pc = .ok (.invokevirtual index, 3)) (hst1 : o.toList ++ rest = st1) (hf : cells + 0 ≤ R.cells ∧ slots + 0 ≤ R.slots)
    (kk : ∀ (H1 : Heap) (locs1 : List Loc), va_P D vwCl (r ++ a1) H1 → va_D Ad (r ++ a1) → va_S Ad H0 H1 locs1 → W p l e R s m args below meth c H1 locs1 cells slots Q (F0 m (pc + 3) ls st1)) : W p l e R s m args below meth c H locs cells slots Q (F0 m pc ls st) :=
  cl_anyF (va_runV (As := As) (rest := rest) (g := F0 m pc ls st) ⟨hx, hb, hml, hown, hts⟩ hM cw ⟨okW_blind, hrecv, cl_pre hN hK hP.left hD.left⟩ rfl hn hsize hst (lv_room hroom) hdg hf) hP hD hS hA hst1 kk
end CF
