/-! ===== kinds ===== -/
def kok (X : w_S) (k : Nat) (sh : Int32) (m n s : Nat) : Prop := (s ≤ 1 ∨ m = n) ∧ fb (msh s n (gB X (2 + k))) (m * n) 0 = m * n ∧ fb (wrg (TX X) (nI s) sh m n (gB X (2 + k)) 1) (m * n) 0 = m * n
theorem kok_d (X : w_S) (k : Nat) (sh : Int32) (m n s : Nat) : kok X k sh m n s ∨ ¬ kok X k sh m n s := Classical.em _
noncomputable def kst (X : w_S) (k : Nat) (sh : Int32) (m n : Nat) : Nat → Int32
  | 0 => 0
  | s + 1 => kst X k sh m n s ||| (if (s ≤ 1 ∨ m = n) ∧ fb (msh s n (gB X (2 + k))) (m * n) 0 = m * n ∧ fb (wrg (TX X) (nI s) sh m n (gB X (2 + k)) 1) (m * n) 0 = m * n then 1 <<< (nI s &&& 31) else 0)
theorem kst_0 {X : w_S} {k : Nat} {sh : Int32} {m n s : Nat} (h : ¬ ((s ≤ 1 ∨ m = n) ∧ fb (msh s n (gB X (2 + k))) (m * n) 0 = m * n ∧ fb (wrg (TX X) (nI s) sh m n (gB X (2 + k)) 1) (m * n) 0 = m * n)) : kst X k sh m n (s + 1) = kst X k sh m n s := by
  rw [kst, if_neg h, Int32.or_zero]
theorem kst_1 {X : w_S} {k : Nat} {sh : Int32} {m n s : Nat} (h : ((s ≤ 1 ∨ m = n) ∧ fb (msh s n (gB X (2 + k))) (m * n) 0 = m * n ∧ fb (wrg (TX X) (nI s) sh m n (gB X (2 + k)) 1) (m * n) 0 = m * n)) : kst X k sh m n (s + 1) = kst X k sh m n s ||| (1 <<< (nI s &&& 31)) := by
  rw [kst, if_pos h]
theorem x_kset30 (S : w_S) (sh : Int32) {m n : Nat} (h : Sid S m n) (hL : gI S 29 = nI (m * n)) : fX6_kinds_L44_30 S sh 256 0 0 = some (kst S 0 sh m n 7) := by
  obtain ⟨h0, h1, h2, h3⟩ := id h
  have h9 := mn_le9 h2.2 h3.2
  obtain ⟨t, e1, rfl⟩ := loop_up (fun q (v : Int32) i => fX6_kinds_L44_30 S sh q v i) (fun s v => v = kst S 0 sh m n s) (fun v => v = kst S 0 sh m n 7) 7
    (fun q s v hs hI => by
      have hr := fb_rg (wrg (TX S) (nI s) sh m n (gB S 2) 1) (m * n) 0
      refine ⟨kst S 0 sh m n (s + 1), rfl, ?_⟩
      show fX6_kinds_L44_30 S sh (q + 1) v (nI s) = _
      rw [fX6_kinds_L44_30, show (7 : Int32) = nI 7 from rfl, if_neg (nI_ge hs (by omega)), x_hasRight, h0, h1, nI_1, hI]
      by_cases c : s ≤ 1 ∨ m = n
      · rw [if_pos ((likeN (by omega) h2.2 h3.2).2 c), Option.bind_some, if_neg n10, x_shape30 S hs h c hL, Option.bind_some, one_ite]
        by_cases d : fb (msh s n (gB S 2)) (m * n) 0 = m * n
        · rw [if_pos d, x_wrong30 S (nI s) sh 1 h hL, Option.bind_some, nI_mul]
          by_cases e : fb (wrg (TX S) (nI s) sh m n (gB S 2) 1) (m * n) 0 = m * n
          · rw [if_pos (by rw [e]), kst_1 (k := 0) ⟨c, d, e⟩]
          · rw [if_neg (by rw [nI_eq (by omega) (by omega)]; exact e), kst_0 (k := 0) (fun f => e f.2.2)]
        · rw [if_neg d, kst_0 (k := 0) (fun f => d f.2.1)]
      · rw [if_neg (fun e => c ((likeN (by omega) h2.2 h3.2).1 e)), Option.bind_some, if_pos rfl, kst_0 (k := 0) (fun f => c f.1)])
    (fun q v hI => ⟨v, by
      show fX6_kinds_L44_30 S sh (q + 1) v (nI 7) = _
      rw [fX6_kinds_L44_30, if_pos (by decide)], hI⟩) 256 0 0 (by omega) (by omega) rfl
  exact e1
theorem x_kset32 (S : w_S) (sh : Int32) {m n : Nat} (h : Sid S m n) (hL : gI S 31 = nI (m * n)) : fX6_kinds_L44_32 S sh 256 0 0 = some (kst S 1 sh m n 7) := by
  obtain ⟨h0, h1, h2, h3⟩ := id h
  have h9 := mn_le9 h2.2 h3.2
  obtain ⟨t, e1, rfl⟩ := loop_up (fun q (v : Int32) i => fX6_kinds_L44_32 S sh q v i) (fun s v => v = kst S 1 sh m n s) (fun v => v = kst S 1 sh m n 7) 7
    (fun q s v hs hI => by
      have hr := fb_rg (wrg (TX S) (nI s) sh m n (gB S 3) 1) (m * n) 0
      refine ⟨kst S 1 sh m n (s + 1), rfl, ?_⟩
      show fX6_kinds_L44_32 S sh (q + 1) v (nI s) = _
      rw [fX6_kinds_L44_32, show (7 : Int32) = nI 7 from rfl, if_neg (nI_ge hs (by omega)), x_hasRight, h0, h1, nI_1, hI]
      by_cases c : s ≤ 1 ∨ m = n
      · rw [if_pos ((likeN (by omega) h2.2 h3.2).2 c), Option.bind_some, if_neg n10, x_shape32 S hs h c hL, Option.bind_some, one_ite]
        by_cases d : fb (msh s n (gB S 3)) (m * n) 0 = m * n
        · rw [if_pos d, x_wrong32 S (nI s) sh 1 h hL, Option.bind_some, nI_mul]
          by_cases e : fb (wrg (TX S) (nI s) sh m n (gB S 3) 1) (m * n) 0 = m * n
          · rw [if_pos (by rw [e]), kst_1 (k := 1) ⟨c, d, e⟩]
          · rw [if_neg (by rw [nI_eq (by omega) (by omega)]; exact e), kst_0 (k := 1) (fun f => e f.2.2)]
        · rw [if_neg d, kst_0 (k := 1) (fun f => d f.2.1)]
      · rw [if_neg (fun e => c ((likeN (by omega) h2.2 h3.2).1 e)), Option.bind_some, if_pos rfl, kst_0 (k := 1) (fun f => c f.1)])
    (fun q v hI => ⟨v, by
      show fX6_kinds_L44_32 S sh (q + 1) v (nI 7) = _
      rw [fX6_kinds_L44_32, if_pos (by decide)], hI⟩) 256 0 0 (by omega) (by omega) rfl
  exact e1
theorem x_kset34 (S : w_S) (sh : Int32) {m n : Nat} (h : Sid S m n) (hL : gI S 33 = nI (m * n)) : fX6_kinds_L44_34 S sh 256 0 0 = some (kst S 2 sh m n 7) := by
  obtain ⟨h0, h1, h2, h3⟩ := id h
  have h9 := mn_le9 h2.2 h3.2
  obtain ⟨t, e1, rfl⟩ := loop_up (fun q (v : Int32) i => fX6_kinds_L44_34 S sh q v i) (fun s v => v = kst S 2 sh m n s) (fun v => v = kst S 2 sh m n 7) 7
    (fun q s v hs hI => by
      have hr := fb_rg (wrg (TX S) (nI s) sh m n (gB S 4) 1) (m * n) 0
      refine ⟨kst S 2 sh m n (s + 1), rfl, ?_⟩
      show fX6_kinds_L44_34 S sh (q + 1) v (nI s) = _
      rw [fX6_kinds_L44_34, show (7 : Int32) = nI 7 from rfl, if_neg (nI_ge hs (by omega)), x_hasRight, h0, h1, nI_1, hI]
      by_cases c : s ≤ 1 ∨ m = n
      · rw [if_pos ((likeN (by omega) h2.2 h3.2).2 c), Option.bind_some, if_neg n10, x_shape34 S hs h c hL, Option.bind_some, one_ite]
        by_cases d : fb (msh s n (gB S 4)) (m * n) 0 = m * n
        · rw [if_pos d, x_wrong34 S (nI s) sh 1 h hL, Option.bind_some, nI_mul]
          by_cases e : fb (wrg (TX S) (nI s) sh m n (gB S 4) 1) (m * n) 0 = m * n
          · rw [if_pos (by rw [e]), kst_1 (k := 2) ⟨c, d, e⟩]
          · rw [if_neg (by rw [nI_eq (by omega) (by omega)]; exact e), kst_0 (k := 2) (fun f => e f.2.2)]
        · rw [if_neg d, kst_0 (k := 2) (fun f => d f.2.1)]
      · rw [if_neg (fun e => c ((likeN (by omega) h2.2 h3.2).1 e)), Option.bind_some, if_pos rfl, kst_0 (k := 2) (fun f => c f.1)])
    (fun q v hI => ⟨v, by
      show fX6_kinds_L44_34 S sh (q + 1) v (nI 7) = _
      rw [fX6_kinds_L44_34, if_pos (by decide)], hI⟩) 256 0 0 (by omega) (by omega) rfl
  exact e1
theorem x_kset36 (S : w_S) (sh : Int32) {m n : Nat} (h : Sid S m n) (hL : gI S 35 = nI (m * n)) : fX6_kinds_L44_36 S sh 256 0 0 = some (kst S 3 sh m n 7) := by
  obtain ⟨h0, h1, h2, h3⟩ := id h
  have h9 := mn_le9 h2.2 h3.2
  obtain ⟨t, e1, rfl⟩ := loop_up (fun q (v : Int32) i => fX6_kinds_L44_36 S sh q v i) (fun s v => v = kst S 3 sh m n s) (fun v => v = kst S 3 sh m n 7) 7
    (fun q s v hs hI => by
      have hr := fb_rg (wrg (TX S) (nI s) sh m n (gB S 5) 1) (m * n) 0
      refine ⟨kst S 3 sh m n (s + 1), rfl, ?_⟩
      show fX6_kinds_L44_36 S sh (q + 1) v (nI s) = _
      rw [fX6_kinds_L44_36, show (7 : Int32) = nI 7 from rfl, if_neg (nI_ge hs (by omega)), x_hasRight, h0, h1, nI_1, hI]
      by_cases c : s ≤ 1 ∨ m = n
      · rw [if_pos ((likeN (by omega) h2.2 h3.2).2 c), Option.bind_some, if_neg n10, x_shape36 S hs h c hL, Option.bind_some, one_ite]
        by_cases d : fb (msh s n (gB S 5)) (m * n) 0 = m * n
        · rw [if_pos d, x_wrong36 S (nI s) sh 1 h hL, Option.bind_some, nI_mul]
          by_cases e : fb (wrg (TX S) (nI s) sh m n (gB S 5) 1) (m * n) 0 = m * n
          · rw [if_pos (by rw [e]), kst_1 (k := 3) ⟨c, d, e⟩]
          · rw [if_neg (by rw [nI_eq (by omega) (by omega)]; exact e), kst_0 (k := 3) (fun f => e f.2.2)]
        · rw [if_neg d, kst_0 (k := 3) (fun f => d f.2.1)]
      · rw [if_neg (fun e => c ((likeN (by omega) h2.2 h3.2).1 e)), Option.bind_some, if_pos rfl, kst_0 (k := 3) (fun f => c f.1)])
    (fun q v hI => ⟨v, by
      show fX6_kinds_L44_36 S sh (q + 1) v (nI 7) = _
      rw [fX6_kinds_L44_36, if_pos (by decide)], hI⟩) 256 0 0 (by omega) (by omega) rfl
  exact e1
theorem m_kset {X M : w_S} {a : Int32} {k m n : Nat} (r : Rdb X M a k m n) {sh : Int32} (hsh : sb 2 sh) : fX7_kinds_L42 M a sh 256 0 0 = some (kst X k sh m n 7) := by
  obtain ⟨hw, ⟨h0, h1, h2, h3⟩, g0, g1, ea, hk, hx⟩ := id r
  have h9 := mn_le9 h2.2 h3.2
  obtain ⟨t, e1, rfl⟩ := loop_up (fun q (v : Int32) i => fX7_kinds_L42 M a sh q v i) (fun s v => v = kst X k sh m n s) (fun v => v = kst X k sh m n 7) 7
    (fun q s v hs hI => by
      have hr := fb_rg (wrg (TX X) (nI s) sh m n (gB X (2 + k)) 1) (m * n) 0
      have s0 : 0 ≤ (nI s).toInt := by rw [nI_toInt (by omega)]; omega
      refine ⟨kst X k sh m n (s + 1), rfl, ?_⟩
      show fX7_kinds_L42 M a sh (q + 1) v (nI s) = _
      rw [fX7_kinds_L42, show (6 : Int32) = nI 6 from rfl, if_neg (nI_nlt (by omega) (by omega)), m_isLike M s0, g0, g1, nI_1, hI]
      by_cases c : s ≤ 1 ∨ m = n
      · rw [if_pos ((likeN (by omega) h2.2 h3.2).2 c), Option.bind_some, if_neg n10, m_firstOff r (nI s) hsh 1, Option.bind_some, nI_mul]
        by_cases e : fb (wrg (TX X) (nI s) sh m n (gB X (2 + k)) 1) (m * n) 0 = m * n
        · rw [if_pos (by rw [e]), m_shape r hs c, Option.bind_some, one_ite]
          by_cases d : fb (msh s n (gB X (2 + k))) (m * n) 0 = m * n
          · rw [if_pos d, kst_1 ⟨c, d, e⟩]
          · rw [if_neg d, kst_0 (fun f => d f.2.1), Int32.or_zero]
        · rw [if_neg (by rw [nI_eq (by omega) (by omega)]; exact e), kst_0 (fun f => e f.2.2), Int32.or_zero]
      · rw [if_neg (fun e => c ((likeN (by omega) h2.2 h3.2).1 e)), Option.bind_some, if_pos rfl, kst_0 (fun f => c f.1), Int32.or_zero])
    (fun q v hI => ⟨v, by
      show fX7_kinds_L42 M a sh (q + 1) v (nI 7) = _
      rw [fX7_kinds_L42, if_pos (by decide)], hI⟩) 256 0 0 (by omega) (by omega) rfl
  exact e1
theorem eq_kinds : E_kinds Rel := by
  intro X M h a sh
  rw [fX6_kinds, fX7_kinds, x_isSheet, m_isSheet, m_in32, tn_2, tl_2, x_isShift]
  by_cases ha : 0 ≤ a.toInt ∧ a.toInt < 4
  · rw [if_pos ha, Option.bind_some, Option.bind_some, if_neg n10, if_neg n10, Option.bind_some, one_ite]
    by_cases hs : -2 ≤ sh.toInt ∧ sh.toInt ≤ 2
    · obtain ⟨k, m, n, r⟩ := rdb_of h ha
      have hsh : sb 2 sh := sb_bnd (a := 2) hs
      obtain ⟨r1, hsid, r3, r4, ek, hk4, r7⟩ := id r
      obtain ⟨u0, u1, u2, u3⟩ := x_unr X hsid
      rw [if_pos hs, if_pos hs, Option.bind_some, if_neg n10, m_against h r, Option.bind_some, Option.bind_some, m_kset r hsh, Option.bind_some]
      have hM : (if 0 ≤ unr X k m n then some (kst X k sh m n 7) else some (unr X k m n)) = some (if unr X k m n = 0 then kst X k sh m n 7 else unr X k m n) := by
        by_cases c0 : unr X k m n = 0
        · rw [if_pos ((unr_neg X k m n).2 c0), if_pos c0]
        · rw [if_neg (fun e => c0 ((unr_neg X k m n).1 e)), if_neg c0]
      rw [hM]
      refine ⟨if unr X k m n = 0 then kst X k sh m n 7 else unr X k m n, _, ?_, rfl, rfl, h⟩
      rcases (show k = 0 ∨ k = 1 ∨ k = 2 ∨ k = 3 by omega) with rfl | rfl | rfl | rfl
      · rw [if_pos (show a = 0 from ek), u0, Option.bind_some]
        by_cases g : unr X 0 m n = 0
        · rw [if_pos g, if_pos g, x_kset30 X sh hsid (unr_0 g)]; rfl
        · rw [if_neg g, if_neg g]
      · rw [if_neg (show ¬ a = 0 by rw [ek]; decide), if_pos (show a = 1 from ek), u1, Option.bind_some]
        by_cases g : unr X 1 m n = 0
        · rw [if_pos g, if_pos g, x_kset32 X sh hsid (unr_0 g)]; rfl
        · rw [if_neg g, if_neg g]
      · rw [if_neg (show ¬ a = 0 by rw [ek]; decide), if_neg (show ¬ a = 1 by rw [ek]; decide), if_pos (show a = 2 from ek), u2, Option.bind_some]
        by_cases g : unr X 2 m n = 0
        · rw [if_pos g, if_pos g, x_kset34 X sh hsid (unr_0 g)]; rfl
        · rw [if_neg g, if_neg g]
      · rw [if_neg (show ¬ a = 0 by rw [ek]; decide), if_neg (show ¬ a = 1 by rw [ek]; decide), if_neg (show ¬ a = 2 by rw [ek]; decide), if_pos (show a = 3 from ek), u3, Option.bind_some]
        by_cases g : unr X 3 m n = 0
        · rw [if_pos g, if_pos g, x_kset36 X sh hsid (unr_0 g)]; rfl
        · rw [if_neg g, if_neg g]
    · rw [if_neg hs, if_neg hs]; exact ⟨_, _, rfl, rfl, rfl, h⟩
  · rw [if_neg ha]; exact ⟨_, _, rfl, rfl, rfl, h⟩
