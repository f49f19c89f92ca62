/-! ===== the cells of an elimination are determinants ===== -/
def Dec : List Nat → Nat → Prop
  | [], _ => True
  | c :: cs, k => c < k ∧ Dec cs c
theorem Dec_mono : ∀ {cs : List Nat} {k k' : Nat}, Dec cs k → k ≤ k' → Dec cs k'
  | [], _, _, _, _ => trivial
  | c :: cs, k, k', h, hk => ⟨by have := h.1; omega, h.2⟩
theorem Dec_lt : ∀ {cs : List Nat} {k q : Nat}, Dec cs k → q ∈ cs → q < k
  | c :: cs, k, q, h, hq => by
    rcases List.mem_cons.1 hq with e | e
    · rw [e]; exact h.1
    · have := Dec_lt h.2 e; have := h.1; omega
theorem Dec_nm {cs : List Nat} {c : Nat} (h : Dec cs c) : c ∉ cs := fun e => by have := Dec_lt h e; omega
theorem Dec_len : ∀ {cs : List Nat} {k : Nat}, Dec cs k → cs.length ≤ k
  | [], _, _ => Nat.zero_le _
  | c :: cs, k, h => by have := Dec_len h.2; have := h.1; simp only [List.length_cons]; omega
/-- the rows' numbers, newest first -/
def idx (π : Nat → Nat) : Nat → List Nat
  | 0 => []
  | r + 1 => π r :: idx π r
theorem idx_len (π : Nat → Nat) : ∀ r, (idx π r).length = r
  | 0 => rfl
  | r + 1 => by simp [idx, idx_len π r]
theorem idx_c {π π' : Nat → Nat} : ∀ r, (∀ i, i < r → π i = π' i) → idx π r = idx π' r
  | 0, _ => rfl
  | r + 1, h => by rw [idx, idx, idx_c r (fun i hi => h i (by omega)), h r (by omega)]
theorem idx_mem {π : Nat → Nat} : ∀ {r q : Nat}, q ∈ idx π r → ∃ i, i < r ∧ q = π i
  | r + 1, q, h => by
    rcases List.mem_cons.1 h with e | e
    · exact ⟨r, by omega, e⟩
    · obtain ⟨i, h1, h2⟩ := idx_mem e
      exact ⟨i, by omega, h2⟩
theorem idx_in {π : Nat → Nat} : ∀ {r i : Nat}, i < r → π i ∈ idx π r
  | r + 1, i, h => by
    by_cases e : i = r
    · rw [e]; exact List.mem_cons_self
    · exact List.mem_cons_of_mem _ (idx_in (by omega))
theorem idx_nd {π : Nat → Nat} {h : Nat} (hi : ∀ i j, i < h → j < h → π i = π j → i = j) : ∀ r, r ≤ h → (idx π r).Nodup
  | 0, _ => List.nodup_nil
  | r + 1, hr => by
    rw [idx, List.nodup_cons]
    refine ⟨fun e => ?_, idx_nd hi r (by omega)⟩
    obtain ⟨i, h1, h2⟩ := idx_mem e
    have := hi r i (by omega) (by omega) h2
    omega
def HB1 (V : Nat → dV) (h w : Nat) : Prop := ∀ (cs L : List Nat) (c p u j : Nat), Dec (c :: cs) w → (u :: p :: L).Nodup → (∀ i ∈ u :: p :: L, i < h) → L.length = cs.length → j ≤ w → (dt cs (L.map V) * dt (j :: c :: cs) ((u :: p :: L).map V)).natAbs < 9223372036854775808
def HB2 (V : Nat → dV) (h w : Nat) : Prop := ∀ (cs L : List Nat) (c p k j : Nat), Dec (c :: cs) w → (p :: L).Nodup → (∀ i ∈ p :: L, i < h) → L.length = cs.length → j ≤ w → k < (c :: cs).length → (dt cs (L.map V) * dt ((c :: cs).set k j) ((p :: L).map V)).natAbs < 9223372036854775808
/-- what an elimination's state is, with π telling which row is which, cs the pivots' columns -/
def EI (V : Nat → dV) (h w k : Nat) (E : eT) (π : Nat → Nat) (cs : List Nat) : Prop :=
  cs.length = E.1 ∧ E.1 ≤ h ∧ (∀ i, i < h → π i < h) ∧ (∀ i j, i < h → j < h → π i = π j → i = j) ∧ Dec cs k ∧
  dt cs ((idx π E.1).map V) = E.2.1.toInt ∧ E.2.1.toInt ≠ 0 ∧
  (∀ i j, E.1 ≤ i → i < h → j ≤ w → (E.2.2.2.2 i j).toInt = lft cs ((idx π E.1).map V) (V (π i)) j) ∧
  (∀ i j, i < E.1 → j ≤ w → (E.2.2.2.2 i j).toInt = dt (cs.set (E.1 - 1 - i) j) ((idx π E.1).map V)) ∧
  (∀ c, c < k → (E.2.2.2.1 c = -1 ∧ c ∉ cs) ∨ ∃ i, i < E.1 ∧ E.2.2.2.1 c = nI i ∧ cs.getD (E.1 - 1 - i) 0 = c) ∧
  (∀ i c, E.1 ≤ i → i < h → c < k → E.2.2.2.2 i c = 0) ∧
  (∀ i c, i < E.1 → c < cs.getD (E.1 - 1 - i) 0 → E.2.2.2.2 i c = 0)
theorem num64 {a b c e d : Int64} {W : Int} (h : d.toInt * W = a.toInt * b.toInt - c.toInt * e.toInt) (hb : (d.toInt * W).natAbs < 9223372036854775808) (hd : d.toInt ≠ 0) : ((a * b - c * e) / d).toInt = W := by
  have hn : (a * b - c * e).toInt = d.toInt * W := by
    rw [Int64.toInt_sub, Int64.toInt_mul, Int64.toInt_mul, Int.sub_bmod_bmod, Int.bmod_sub_bmod, ← h]
    exact fb_bmodL (by omega) (by omega)
  rw [div64 (fun f => by rw [hn] at f; omega), hn]
  exact Int.mul_tdiv_cancel_left W hd
theorem ei_0 {V : Nat → dV} {h w : Nat} {g : eM} (hg : ∀ i j, i < h → j ≤ w → (g i j).toInt = V i j) : EI V h w 0 (e0 g) (fun i => i) [] := by
  refine ⟨rfl, Nat.zero_le _, fun i hi => hi, fun i j _ _ e => e, trivial, rfl, (show (1 : Int64).toInt ≠ 0 by decide), fun i j _ hi hj => ?_, fun i j hi => absurd hi (Nat.not_lt_zero _), fun c hc => absurd hc (Nat.not_lt_zero _), fun i c _ _ hc => absurd hc (Nat.not_lt_zero _), fun i c hi => absurd hi (Nat.not_lt_zero _)⟩
  show (g i j).toInt = dt [j] [V i]
  rw [hg i j hi hj]
  show V i j = V i j * 1 - 0
  omega
theorem mSw_inv (p r i : Nat) : mSw p r (mSw p r i) = i := by
  by_cases a : i = p
  · rw [a, mSw_a, mSw_b]
  · by_cases b : i = r
    · rw [b, mSw_b, mSw_a]
    · rw [mSw_o a b, mSw_o a b]
theorem ei_step {V : Nat → dV} {h w k : Nat} {E : eT} {π : Nat → Nat} {cs : List Nat} (b1 : HB1 V h w) (b2 : HB2 V h w) (hk : k < w) (H : EI V h w k E π cs) : ∃ π' cs', EI V h w (k + 1) (eStep h k E) π' cs' := by
  obtain ⟨r, d, f, pv, g⟩ := E
  obtain ⟨h1, h2, h3, h4, h5, h6, h7, h8, h9, h10, h11, h12⟩ := H
  simp only at *
  have hff := ff_rng g k (h - r) r
  have hE : eStep h k (r, d, f, pv, g) = if ff g k (h - r) r = h then (r, d, f, upd pv k (-1), g) else (r + 1, g (ff g k (h - r) r) k, f + (if ff g k (h - r) r = r then 0 else 1), upd pv k (nI r), mSwe r k d (mSwp (ff g k (h - r) r) r g)) := rfl
  rw [hE]
  have hkc : k ∉ cs := Dec_nm h5
  by_cases c : ff g k (h - r) r = h
  · rw [if_pos c]
    refine ⟨π, cs, h1, h2, h3, h4, Dec_mono h5 (by omega), h6, h7, h8, h9, fun q hq => ?_, fun i q hi hi2 hq => ?_, h12⟩
    · show (upd pv k (-1) q = -1 ∧ q ∉ cs) ∨ ∃ i, i < r ∧ upd pv k (-1) q = nI i ∧ cs.getD (r - 1 - i) 0 = q
      rw [upd_ap]
      by_cases e : q = k
      · rw [if_pos e, e]; exact Or.inl ⟨rfl, hkc⟩
      · rw [if_neg e]; exact h10 q (by omega)
    · by_cases e : q = k
      · rw [e]; exact ff_0 g k (h - r) r i hi (by omega)
      · exact h11 i q hi hi2 (by omega)
  · rw [if_neg c]
    have hpn := ff_ne g k (h - r) r (by omega)
    generalize hp : ff g k (h - r) r = p at *
    have hrh : r < h := by omega
    have hph : p < h := by omega
    -- the new order of the rows
    have s_lt : ∀ i, i < h → mSw p r i < h := fun i hi => by unfold mSw; split <;> (try split) <;> omega
    have s_inj : ∀ i j, mSw p r i = mSw p r j → i = j := fun i j e => by
      have := congrArg (mSw p r) e
      rw [mSw_inv, mSw_inv] at this
      exact this
    have s_lo : ∀ i, i < r → mSw p r i = i := fun i hi => mSw_o (by omega) (by omega)
    have s_hi : ∀ i, r ≤ i → r ≤ mSw p r i := fun i hi => by unfold mSw; split <;> (try split) <;> omega
    have s_r : mSw p r r = p := mSw_b p r
    have hidx : idx (fun i => π (mSw p r i)) r = idx π r := idx_c r (fun i hi => by rw [s_lo i hi])
    have hidx1 : idx (fun i => π (mSw p r i)) (r + 1) = π p :: idx π r := by rw [idx, hidx, s_r]
    have hdec : Dec (k :: cs) (k + 1) := ⟨by omega, h5⟩
    have hdecw : Dec (k :: cs) w := ⟨hk, h5⟩
    have hP : dt (k :: cs) ((π p :: idx π r).map V) = (g p k).toInt := by
      show dt (k :: cs) (V (π p) :: (idx π r).map V) = _
      rw [lft_piv, ← h8 p k (by omega) hph (by omega)]
    have hP0 : (g p k).toInt ≠ 0 := fun e => hpn (l0.2 e)
    have hd0 : dt cs ((idx π r).map V) ≠ 0 := by rw [h6]; exact h7
    have nd1 : (π p :: idx π r).Nodup := by
      rw [List.nodup_cons]
      refine ⟨fun e => ?_, idx_nd h4 r h2⟩
      obtain ⟨i, e1, e2⟩ := idx_mem e
      have := h4 p i hph (by omega) e2
      omega
    have lt1 : ∀ q ∈ π p :: idx π r, q < h := fun q hq => by
      rcases List.mem_cons.1 hq with e | e
      · rw [e]; exact h3 p hph
      · obtain ⟨i, e1, e2⟩ := idx_mem e
        rw [e2]; exact h3 i (by omega)
    -- waiting rows
    have wait : ∀ i j, r + 1 ≤ i → i < h → j ≤ w → (mSwe r k d (mSwp p r g) i j).toInt = lft (k :: cs) ((π p :: idx π r).map V) (V (π (mSw p r i))) j := by
      intro i j hi hih hj
      have nr : i ≠ r := by omega
      have hm1 := s_hi i (by omega)
      have hm2 := s_lt i hih
      have hne : mSw p r i ≠ p := fun e => nr (s_inj i r (by rw [e, s_r]))
      unfold mSwe mSwp
      rw [if_neg nr, s_r]
      have st := left_step (cs := cs) (R := (idx π r).map V) (u := V (π (mSw p r i))) (p := V (π p)) (c := k) hd0 j
      rw [h6, ← h8 _ j hm1 hm2 hj, ← h8 _ k hm1 hm2 (by omega), ← h8 p k (by omega) hph (by omega), ← h8 p j (by omega) hph hj] at st
      refine num64 st ?_ h7
      have nd2 : (π (mSw p r i) :: π p :: idx π r).Nodup := by
        rw [List.nodup_cons]
        refine ⟨fun e => ?_, nd1⟩
        rcases List.mem_cons.1 e with e1 | e1
        · exact hne (h4 _ _ hm2 hph e1)
        · obtain ⟨i', e2, e3⟩ := idx_mem e1
          have := h4 _ _ hm2 (by omega) e3
          omega
      have := b1 cs (idx π r) k (π p) (π (mSw p r i)) j hdecw nd2 (fun q hq => by
        rcases List.mem_cons.1 hq with e | e
        · rw [e]; exact h3 _ hm2
        · exact lt1 q e) (by rw [idx_len, h1]) hj
      rw [h6] at this
      exact this
    -- pivots' rows
    have piv : ∀ i j, i < r → j ≤ w → (mSwe r k d (mSwp p r g) i j).toInt = dt ((k :: cs).set (r - i) j) ((π p :: idx π r).map V) := by
      intro i j hi hj
      have nr : i ≠ r := by omega
      unfold mSwe mSwp
      rw [if_neg nr, s_r, s_lo i hi]
      have hkl : r - 1 - i < cs.length := by omega
      have st := set_step (cs := cs) (R := (idx π r).map V) (p := V (π p)) (c := k) (k := r - 1 - i) hkl hd0 (by
        have e : dt (k :: cs) (V (π p) :: (idx π r).map V) = (g p k).toInt := hP
        rw [e]; exact hP0) hkc j
      rw [h6, ← h9 i j hi hj, ← h9 i k hi (by omega), ← h8 p k (by omega) hph (by omega), ← h8 p j (by omega) hph hj, show r - 1 - i + 1 = r - i by omega] at st
      refine num64 st ?_ h7
      have := b2 cs (idx π r) k (π p) (r - i) j hdecw nd1 lt1 (by rw [idx_len, h1]) hj (by simp only [List.length_cons]; omega)
      rw [h6] at this
      exact this
    have new : ∀ j, j ≤ w → (mSwe r k d (mSwp p r g) r j).toInt = dt ((k :: cs).set 0 j) ((π p :: idx π r).map V) := by
      intro j hj
      unfold mSwe mSwp
      rw [if_pos rfl, s_r]
      exact h8 p j (by omega) hph hj
    have zero_of : ∀ {x : Int64} {y : Int}, x.toInt = y → y = 0 → x = 0 := fun e1 e2 => l0.2 (by rw [e1, e2])
    refine ⟨fun i => π (mSw p r i), k :: cs, by simp [h1], by show r + 1 ≤ h; omega, fun i hi => h3 _ (s_lt i hi), fun i j hi hj e => s_inj _ _ (h4 _ _ (s_lt i hi) (s_lt j hj) e), hdec, ?_, hP0, fun i j hi hih hj => ?_, fun i j hi hj => ?_, fun q hq => ?_, fun i q hi hih hq => ?_, fun i q hi hq => ?_⟩
    · show dt (k :: cs) ((idx (fun i => π (mSw p r i)) (r + 1)).map V) = _
      rw [hidx1]; exact hP
    · show (mSwe r k d (mSwp p r g) i j).toInt = lft (k :: cs) ((idx (fun i => π (mSw p r i)) (r + 1)).map V) _ j
      rw [hidx1]; exact wait i j hi hih hj
    · show (mSwe r k d (mSwp p r g) i j).toInt = dt ((k :: cs).set (r + 1 - 1 - i) j) ((idx (fun i => π (mSw p r i)) (r + 1)).map V)
      rw [hidx1, show r + 1 - 1 - i = r - i by omega]
      by_cases e : i = r
      · rw [e, Nat.sub_self]; exact new j hj
      · exact piv i j (by have : i < r + 1 := hi; omega) hj
    · show (upd pv k (nI r) q = -1 ∧ q ∉ k :: cs) ∨ ∃ i, i < r + 1 ∧ upd pv k (nI r) q = nI i ∧ (k :: cs).getD (r + 1 - 1 - i) 0 = q
      rw [upd_ap]
      by_cases e : q = k
      · rw [if_pos e]; exact Or.inr ⟨r, by omega, rfl, by rw [show r + 1 - 1 - r = 0 by omega, e]; rfl⟩
      · rw [if_neg e]
        rcases h10 q (by omega) with ⟨e1, e2⟩ | ⟨i, e1, e2, e3⟩
        · exact Or.inl ⟨e1, fun hm => by
            rcases List.mem_cons.1 hm with x | x
            · exact e x
            · exact e2 x⟩
        · refine Or.inr ⟨i, by omega, e2, ?_⟩
          rw [show r + 1 - 1 - i = (r - 1 - i) + 1 by omega]; exact e3
    · have hi' : r + 1 ≤ i := hi
      show mSwe r k d (mSwp p r g) i q = 0
      by_cases e : q = k
      · exact zero_of (wait i q hi' hih (by omega)) (by rw [e]; exact lft_0 List.mem_cons_self _ _)
      · have a1 := h11 (mSw p r i) q (s_hi i (by omega)) (s_lt i hih) (by omega)
        have a2 := h11 p q (by omega) hph (by omega)
        unfold mSwe mSwp
        rw [if_neg (by omega), s_r, a1, a2]
        rw [l0, num64 (W := 0) (by rw [tl_0]; simp) (by simp) h7]
    · show mSwe r k d (mSwp p r g) i q = 0
      have hq' : q < (k :: cs).getD (r + 1 - 1 - i) 0 := hq
      by_cases e : i = r
      · rw [e, show r + 1 - 1 - r = 0 by omega] at hq'
        have hqk : q < k := hq'
        rw [e]; unfold mSwe mSwp
        rw [if_pos rfl, s_r]
        exact h11 p q (by omega) hph hqk
      · have hi' : i < r := by have : i < r + 1 := hi; omega
        rw [show r + 1 - 1 - i = (r - 1 - i) + 1 by omega] at hq'
        have hq2 : q < cs.getD (r - 1 - i) 0 := hq'
        have hm : cs.getD (r - 1 - i) 0 ∈ cs := by
          have hl : r - 1 - i < cs.length := by omega
          rw [List.getD_eq_getElem?_getD, List.getElem?_eq_getElem hl]
          exact List.getElem_mem hl
        have hlt := Dec_lt h5 hm
        have a1 := h12 i q hi' hq2
        have a2 := h11 p q (by omega) hph (by omega)
        unfold mSwe mSwp
        rw [if_neg e, s_r, s_lo i hi', a1, a2]
        rw [l0, num64 (W := 0) (by rw [tl_0]; simp) (by simp) h7]
theorem ei_run {V : Nat → dV} {h w : Nat} {g : eM} (b1 : HB1 V h w) (b2 : HB2 V h w) (hg : ∀ i j, i < h → j ≤ w → (g i j).toInt = V i j) : ∀ k, k ≤ w → ∃ π cs, EI V h w k (eRun h k (e0 g)) π cs
  | 0, _ => ⟨_, _, ei_0 hg⟩
  | k + 1, hk => by
    obtain ⟨π, cs, H⟩ := ei_run b1 b2 hg k (by omega)
    exact ei_step b1 b2 (by omega) H
