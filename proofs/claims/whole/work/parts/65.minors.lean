/-! ===== minors ===== -/
theorem q0_1 : ((0 : Int32) = 1) = False := eq_false (by decide)
theorem q0_2 : ((0 : Int32) = 2) = False := eq_false (by decide)
theorem q0_3 : ((0 : Int32) = 3) = False := eq_false (by decide)
theorem q0_4 : ((0 : Int32) = 4) = False := eq_false (by decide)
theorem q0_5 : ((0 : Int32) = 5) = False := eq_false (by decide)
theorem q0_6 : ((0 : Int32) = 6) = False := eq_false (by decide)
theorem q1_0 : ((1 : Int32) = 0) = False := eq_false (by decide)
theorem q1_2 : ((1 : Int32) = 2) = False := eq_false (by decide)
theorem q1_3 : ((1 : Int32) = 3) = False := eq_false (by decide)
theorem q1_4 : ((1 : Int32) = 4) = False := eq_false (by decide)
theorem q1_5 : ((1 : Int32) = 5) = False := eq_false (by decide)
theorem q1_6 : ((1 : Int32) = 6) = False := eq_false (by decide)
theorem q2_0 : ((2 : Int32) = 0) = False := eq_false (by decide)
theorem q2_1 : ((2 : Int32) = 1) = False := eq_false (by decide)
theorem q2_3 : ((2 : Int32) = 3) = False := eq_false (by decide)
theorem q2_4 : ((2 : Int32) = 4) = False := eq_false (by decide)
theorem q2_5 : ((2 : Int32) = 5) = False := eq_false (by decide)
theorem q2_6 : ((2 : Int32) = 6) = False := eq_false (by decide)
theorem q3_0 : ((3 : Int32) = 0) = False := eq_false (by decide)
theorem q3_1 : ((3 : Int32) = 1) = False := eq_false (by decide)
theorem q3_2 : ((3 : Int32) = 2) = False := eq_false (by decide)
theorem q3_4 : ((3 : Int32) = 4) = False := eq_false (by decide)
theorem q3_5 : ((3 : Int32) = 5) = False := eq_false (by decide)
theorem q3_6 : ((3 : Int32) = 6) = False := eq_false (by decide)
theorem q4_0 : ((4 : Int32) = 0) = False := eq_false (by decide)
theorem q4_1 : ((4 : Int32) = 1) = False := eq_false (by decide)
theorem q4_2 : ((4 : Int32) = 2) = False := eq_false (by decide)
theorem q4_3 : ((4 : Int32) = 3) = False := eq_false (by decide)
theorem q4_5 : ((4 : Int32) = 5) = False := eq_false (by decide)
theorem q4_6 : ((4 : Int32) = 6) = False := eq_false (by decide)
theorem q5_0 : ((5 : Int32) = 0) = False := eq_false (by decide)
theorem q5_1 : ((5 : Int32) = 1) = False := eq_false (by decide)
theorem q5_2 : ((5 : Int32) = 2) = False := eq_false (by decide)
theorem q5_3 : ((5 : Int32) = 3) = False := eq_false (by decide)
theorem q5_4 : ((5 : Int32) = 4) = False := eq_false (by decide)
theorem q5_6 : ((5 : Int32) = 6) = False := eq_false (by decide)
theorem q6_0 : ((6 : Int32) = 0) = False := eq_false (by decide)
theorem q6_1 : ((6 : Int32) = 1) = False := eq_false (by decide)
theorem q6_2 : ((6 : Int32) = 2) = False := eq_false (by decide)
theorem q6_3 : ((6 : Int32) = 3) = False := eq_false (by decide)
theorem q6_4 : ((6 : Int32) = 4) = False := eq_false (by decide)
theorem q6_5 : ((6 : Int32) = 5) = False := eq_false (by decide)
theorem x_e00 (S : w_S) {t : Int32} (ht : 0 ≤ t.toInt ∧ t.toInt ≤ 2) : fX4_entry_1 S t 0 0 = some (TX S (9 * t.toInt.toNat + 0)) := by
  rw [x_entry S ht (by decide) (by decide)]; unfold at9; rw [ti_0]; congr 2
theorem m_e00 (S : w_S) {t : Int32} (ht : 0 ≤ t.toInt ∧ t.toInt ≤ 2) : fX7_its S t 0 0 = some (gA S 0 (9 * t.toInt.toNat + 0)) := by
  rw [m_its S ht (by decide) (by decide)]; unfold at9; rw [ti_0]; congr 2
theorem x_e01 (S : w_S) {t : Int32} (ht : 0 ≤ t.toInt ∧ t.toInt ≤ 2) : fX4_entry_1 S t 0 1 = some (TX S (9 * t.toInt.toNat + 1)) := by
  rw [x_entry S ht (by decide) (by decide)]; unfold at9; rw [ti_0, ti_1]; congr 2
theorem m_e01 (S : w_S) {t : Int32} (ht : 0 ≤ t.toInt ∧ t.toInt ≤ 2) : fX7_its S t 0 1 = some (gA S 0 (9 * t.toInt.toNat + 1)) := by
  rw [m_its S ht (by decide) (by decide)]; unfold at9; rw [ti_0, ti_1]; congr 2
theorem x_e02 (S : w_S) {t : Int32} (ht : 0 ≤ t.toInt ∧ t.toInt ≤ 2) : fX4_entry_1 S t 0 2 = some (TX S (9 * t.toInt.toNat + 2)) := by
  rw [x_entry S ht (by decide) (by decide)]; unfold at9; rw [ti_0, ti_2]; congr 2
theorem m_e02 (S : w_S) {t : Int32} (ht : 0 ≤ t.toInt ∧ t.toInt ≤ 2) : fX7_its S t 0 2 = some (gA S 0 (9 * t.toInt.toNat + 2)) := by
  rw [m_its S ht (by decide) (by decide)]; unfold at9; rw [ti_0, ti_2]; congr 2
theorem x_e10 (S : w_S) {t : Int32} (ht : 0 ≤ t.toInt ∧ t.toInt ≤ 2) : fX4_entry_1 S t 1 0 = some (TX S (9 * t.toInt.toNat + 3)) := by
  rw [x_entry S ht (by decide) (by decide)]; unfold at9; rw [ti_1, ti_0]; congr 2
theorem m_e10 (S : w_S) {t : Int32} (ht : 0 ≤ t.toInt ∧ t.toInt ≤ 2) : fX7_its S t 1 0 = some (gA S 0 (9 * t.toInt.toNat + 3)) := by
  rw [m_its S ht (by decide) (by decide)]; unfold at9; rw [ti_1, ti_0]; congr 2
theorem x_e11 (S : w_S) {t : Int32} (ht : 0 ≤ t.toInt ∧ t.toInt ≤ 2) : fX4_entry_1 S t 1 1 = some (TX S (9 * t.toInt.toNat + 4)) := by
  rw [x_entry S ht (by decide) (by decide)]; unfold at9; rw [ti_1]; congr 2
theorem m_e11 (S : w_S) {t : Int32} (ht : 0 ≤ t.toInt ∧ t.toInt ≤ 2) : fX7_its S t 1 1 = some (gA S 0 (9 * t.toInt.toNat + 4)) := by
  rw [m_its S ht (by decide) (by decide)]; unfold at9; rw [ti_1]; congr 2
theorem x_e12 (S : w_S) {t : Int32} (ht : 0 ≤ t.toInt ∧ t.toInt ≤ 2) : fX4_entry_1 S t 1 2 = some (TX S (9 * t.toInt.toNat + 5)) := by
  rw [x_entry S ht (by decide) (by decide)]; unfold at9; rw [ti_1, ti_2]; congr 2
theorem m_e12 (S : w_S) {t : Int32} (ht : 0 ≤ t.toInt ∧ t.toInt ≤ 2) : fX7_its S t 1 2 = some (gA S 0 (9 * t.toInt.toNat + 5)) := by
  rw [m_its S ht (by decide) (by decide)]; unfold at9; rw [ti_1, ti_2]; congr 2
theorem x_e20 (S : w_S) {t : Int32} (ht : 0 ≤ t.toInt ∧ t.toInt ≤ 2) : fX4_entry_1 S t 2 0 = some (TX S (9 * t.toInt.toNat + 6)) := by
  rw [x_entry S ht (by decide) (by decide)]; unfold at9; rw [ti_2, ti_0]; congr 2
theorem m_e20 (S : w_S) {t : Int32} (ht : 0 ≤ t.toInt ∧ t.toInt ≤ 2) : fX7_its S t 2 0 = some (gA S 0 (9 * t.toInt.toNat + 6)) := by
  rw [m_its S ht (by decide) (by decide)]; unfold at9; rw [ti_2, ti_0]; congr 2
theorem x_e21 (S : w_S) {t : Int32} (ht : 0 ≤ t.toInt ∧ t.toInt ≤ 2) : fX4_entry_1 S t 2 1 = some (TX S (9 * t.toInt.toNat + 7)) := by
  rw [x_entry S ht (by decide) (by decide)]; unfold at9; rw [ti_2, ti_1]; congr 2
theorem m_e21 (S : w_S) {t : Int32} (ht : 0 ≤ t.toInt ∧ t.toInt ≤ 2) : fX7_its S t 2 1 = some (gA S 0 (9 * t.toInt.toNat + 7)) := by
  rw [m_its S ht (by decide) (by decide)]; unfold at9; rw [ti_2, ti_1]; congr 2
theorem x_e22 (S : w_S) {t : Int32} (ht : 0 ≤ t.toInt ∧ t.toInt ≤ 2) : fX4_entry_1 S t 2 2 = some (TX S (9 * t.toInt.toNat + 8)) := by
  rw [x_entry S ht (by decide) (by decide)]; unfold at9; rw [ti_2]; congr 2
theorem m_e22 (S : w_S) {t : Int32} (ht : 0 ≤ t.toInt ∧ t.toInt ≤ 2) : fX7_its S t 2 2 = some (gA S 0 (9 * t.toInt.toNat + 8)) := by
  rw [m_its S ht (by decide) (by decide)]; unfold at9; rw [ti_2]; congr 2
theorem x_min1 (S : w_S) {t : Int32} (ht : 0 ≤ t.toInt ∧ t.toInt ≤ 2) : fX4_minors_1 S t 1 = some ((((TX S (9 * t.toInt.toNat + 0)) + (TX S (9 * t.toInt.toNat + 4))) + (TX S (9 * t.toInt.toNat + 8))).toInt64) := by
  rw [fX4_minors_1]; simp only [x_e00 S ht, x_e01 S ht, x_e02 S ht, x_e10 S ht, x_e11 S ht, x_e12 S ht, x_e20 S ht, x_e21 S ht, x_e22 S ht, Option.bind_some, Int32.reduceAdd, Int32.reduceSub, Int32.reduceMul, Int32.reduceDiv, Int32.reduceLE, Int32.reduceLT, ↓reduceIte, eq_self, q0_1, q0_2, q0_3, q1_0, q1_2, q1_3, q2_0, q2_1, q2_3, q3_0, q3_1, q3_2]
theorem x_min2 (S : w_S) {t : Int32} (ht : 0 ≤ t.toInt ∧ t.toInt ≤ 2) : fX4_minors_1 S t 2 = some (((TX S (9 * t.toInt.toNat + 0)) * (TX S (9 * t.toInt.toNat + 4)) - (TX S (9 * t.toInt.toNat + 1)) * (TX S (9 * t.toInt.toNat + 3))).toInt64 + ((TX S (9 * t.toInt.toNat + 0)) * (TX S (9 * t.toInt.toNat + 8)) - (TX S (9 * t.toInt.toNat + 2)) * (TX S (9 * t.toInt.toNat + 6))).toInt64 + ((TX S (9 * t.toInt.toNat + 4)) * (TX S (9 * t.toInt.toNat + 8)) - (TX S (9 * t.toInt.toNat + 5)) * (TX S (9 * t.toInt.toNat + 7))).toInt64) := by
  rw [fX4_minors_1]; simp only [fX4_minor_1, x_e00 S ht, x_e01 S ht, x_e02 S ht, x_e10 S ht, x_e11 S ht, x_e12 S ht, x_e20 S ht, x_e21 S ht, x_e22 S ht, Option.bind_some, Int32.reduceAdd, Int32.reduceSub, Int32.reduceMul, Int32.reduceDiv, Int32.reduceLE, Int32.reduceLT, ↓reduceIte, eq_self, q0_1, q0_2, q0_3, q1_0, q1_2, q1_3, q2_0, q2_1, q2_3, q3_0, q3_1, q3_2]
theorem x_min3 (S : w_S) {t : Int32} (ht : 0 ≤ t.toInt ∧ t.toInt ≤ 2) : fX4_minors_1 S t 3 = some (0 + ((TX S (9 * t.toInt.toNat + 0)) * ((TX S (9 * t.toInt.toNat + 4)) * (TX S (9 * t.toInt.toNat + 8)) - (TX S (9 * t.toInt.toNat + 5)) * (TX S (9 * t.toInt.toNat + 7)))).toInt64 + ((TX S (9 * t.toInt.toNat + 1)) * ((TX S (9 * t.toInt.toNat + 5)) * (TX S (9 * t.toInt.toNat + 6)) - (TX S (9 * t.toInt.toNat + 3)) * (TX S (9 * t.toInt.toNat + 8)))).toInt64 + ((TX S (9 * t.toInt.toNat + 2)) * ((TX S (9 * t.toInt.toNat + 3)) * (TX S (9 * t.toInt.toNat + 7)) - (TX S (9 * t.toInt.toNat + 4)) * (TX S (9 * t.toInt.toNat + 6)))).toInt64) := by
  rw [fX4_minors_1]; simp only [fX4_largestMinor_1, fX4_largestMinor_1_L5, x_e00 S ht, x_e01 S ht, x_e02 S ht, x_e10 S ht, x_e11 S ht, x_e12 S ht, x_e20 S ht, x_e21 S ht, x_e22 S ht, Option.bind_some, Int32.reduceAdd, Int32.reduceSub, Int32.reduceMul, Int32.reduceDiv, Int32.reduceLE, Int32.reduceLT, ↓reduceIte, eq_self, q0_1, q0_2, q0_3, q1_0, q1_2, q1_3, q2_0, q2_1, q2_3, q3_0, q3_1, q3_2]
theorem x_min0 (S : w_S) (t : Int32) : fX4_minors_1 S t 0 = some 1 := rfl
theorem sd_step (S : w_S) {t r : Int32} (hr : fX7_rowsOf S t = some r) (n : Nat) (v : Int64) (i : Int32) : fX7_sumDown_L5 S t (n + 1) v i = if r ≤ i then some v else (fX7_its S t i i).bind (fun x => fX7_sumDown_L5 S t n (v + x.toInt64) (i + 1)) := by
  rw [fX7_sumDown_L5, hr]; rfl
theorem pi_step (S : w_S) {t r : Int32} (hr : fX7_rowsOf S t = some r) (p : Int32) (n : Nat) (v : Int64) (i : Int32) : fX7_pairs_L21 S t p (n + 1) v i = if r ≤ i then some v else (fX7_cross S t p i p i).bind (fun x => fX7_pairs_L21 S t p n (v + x) (i + 1)) := by
  rw [fX7_pairs_L21, hr]; rfl
theorem po_step (S : w_S) {t r : Int32} (hr : fX7_rowsOf S t = some r) (n : Nat) (v : Int64) (i : Int32) : fX7_pairs_L5 S t (n + 1) v i = if r ≤ i then some v else (fX7_pairs_L21 S t i 256 v (i + 1)).bind (fun x => fX7_pairs_L5 S t n x (i + 1)) := by
  rw [fX7_pairs_L5, hr]; rfl
theorem m_sum1 (S : w_S) {t : Int32} (ht : 0 ≤ t.toInt ∧ t.toInt ≤ 2) (hr : fX7_rowsOf S t = some 1) : fX7_sumDown S t = some (0 + (gA S 0 (9 * t.toInt.toNat + 0)).toInt64) := by
  rw [fX7_sumDown]; simp only [sd_step S hr, m_e00 S ht, m_e01 S ht, m_e02 S ht, m_e10 S ht, m_e11 S ht, m_e12 S ht, m_e20 S ht, m_e21 S ht, m_e22 S ht, Option.bind_some, Int32.reduceAdd, Int32.reduceSub, Int32.reduceMul, Int32.reduceDiv, Int32.reduceLE, Int32.reduceLT, ↓reduceIte, eq_self, q0_1, q0_2, q0_3, q1_0, q1_2, q1_3, q2_0, q2_1, q2_3, q3_0, q3_1, q3_2]
theorem m_pairs1 (S : w_S) {t : Int32} (ht : 0 ≤ t.toInt ∧ t.toInt ≤ 2) (hr : fX7_rowsOf S t = some 1) : fX7_pairs S t = some 0 := by
  rw [fX7_pairs]; simp only [po_step S hr, pi_step S hr, fX7_cross,  m_e00 S ht, m_e01 S ht, m_e02 S ht, m_e10 S ht, m_e11 S ht, m_e12 S ht, m_e20 S ht, m_e21 S ht, m_e22 S ht, Option.bind_some, Int32.reduceAdd, Int32.reduceSub, Int32.reduceMul, Int32.reduceDiv, Int32.reduceLE, Int32.reduceLT, ↓reduceIte, eq_self, q0_1, q0_2, q0_3, q1_0, q1_2, q1_3, q2_0, q2_1, q2_3, q3_0, q3_1, q3_2]
theorem m_det1 (S : w_S) {t : Int32} (ht : 0 ≤ t.toInt ∧ t.toInt ≤ 2) (hr : fX7_rowsOf S t = some 1) : fX7_detOf S t = some (gA S 0 (9 * t.toInt.toNat + 0)).toInt64 := by
  rw [fX7_detOf]; simp only [fX7_cross, hr, m_e00 S ht, m_e01 S ht, m_e02 S ht, m_e10 S ht, m_e11 S ht, m_e12 S ht, m_e20 S ht, m_e21 S ht, m_e22 S ht, Option.bind_some, Int32.reduceAdd, Int32.reduceSub, Int32.reduceMul, Int32.reduceDiv, Int32.reduceLE, Int32.reduceLT, ↓reduceIte, eq_self, q0_1, q0_2, q0_3, q1_0, q1_2, q1_3, q2_0, q2_1, q2_3, q3_0, q3_1, q3_2]
theorem m_sum2 (S : w_S) {t : Int32} (ht : 0 ≤ t.toInt ∧ t.toInt ≤ 2) (hr : fX7_rowsOf S t = some 2) : fX7_sumDown S t = some ((0 + (gA S 0 (9 * t.toInt.toNat + 0)).toInt64) + (gA S 0 (9 * t.toInt.toNat + 4)).toInt64) := by
  rw [fX7_sumDown]; simp only [sd_step S hr, m_e00 S ht, m_e01 S ht, m_e02 S ht, m_e10 S ht, m_e11 S ht, m_e12 S ht, m_e20 S ht, m_e21 S ht, m_e22 S ht, Option.bind_some, Int32.reduceAdd, Int32.reduceSub, Int32.reduceMul, Int32.reduceDiv, Int32.reduceLE, Int32.reduceLT, ↓reduceIte, eq_self, q0_1, q0_2, q0_3, q1_0, q1_2, q1_3, q2_0, q2_1, q2_3, q3_0, q3_1, q3_2]
theorem m_pairs2 (S : w_S) {t : Int32} (ht : 0 ≤ t.toInt ∧ t.toInt ≤ 2) (hr : fX7_rowsOf S t = some 2) : fX7_pairs S t = some (0 + ((gA S 0 (9 * t.toInt.toNat + 0)).toInt64 * (gA S 0 (9 * t.toInt.toNat + 4)).toInt64 - (gA S 0 (9 * t.toInt.toNat + 1)).toInt64 * (gA S 0 (9 * t.toInt.toNat + 3)).toInt64)) := by
  rw [fX7_pairs]; simp only [po_step S hr, pi_step S hr, fX7_cross,  m_e00 S ht, m_e01 S ht, m_e02 S ht, m_e10 S ht, m_e11 S ht, m_e12 S ht, m_e20 S ht, m_e21 S ht, m_e22 S ht, Option.bind_some, Int32.reduceAdd, Int32.reduceSub, Int32.reduceMul, Int32.reduceDiv, Int32.reduceLE, Int32.reduceLT, ↓reduceIte, eq_self, q0_1, q0_2, q0_3, q1_0, q1_2, q1_3, q2_0, q2_1, q2_3, q3_0, q3_1, q3_2]
theorem m_det2 (S : w_S) {t : Int32} (ht : 0 ≤ t.toInt ∧ t.toInt ≤ 2) (hr : fX7_rowsOf S t = some 2) : fX7_detOf S t = some ((gA S 0 (9 * t.toInt.toNat + 0)).toInt64 * (gA S 0 (9 * t.toInt.toNat + 4)).toInt64 - (gA S 0 (9 * t.toInt.toNat + 1)).toInt64 * (gA S 0 (9 * t.toInt.toNat + 3)).toInt64) := by
  rw [fX7_detOf]; simp only [fX7_cross, hr, m_e00 S ht, m_e01 S ht, m_e02 S ht, m_e10 S ht, m_e11 S ht, m_e12 S ht, m_e20 S ht, m_e21 S ht, m_e22 S ht, Option.bind_some, Int32.reduceAdd, Int32.reduceSub, Int32.reduceMul, Int32.reduceDiv, Int32.reduceLE, Int32.reduceLT, ↓reduceIte, eq_self, q0_1, q0_2, q0_3, q1_0, q1_2, q1_3, q2_0, q2_1, q2_3, q3_0, q3_1, q3_2]
theorem m_sum3 (S : w_S) {t : Int32} (ht : 0 ≤ t.toInt ∧ t.toInt ≤ 2) (hr : fX7_rowsOf S t = some 3) : fX7_sumDown S t = some (((0 + (gA S 0 (9 * t.toInt.toNat + 0)).toInt64) + (gA S 0 (9 * t.toInt.toNat + 4)).toInt64) + (gA S 0 (9 * t.toInt.toNat + 8)).toInt64) := by
  rw [fX7_sumDown]; simp only [sd_step S hr, m_e00 S ht, m_e01 S ht, m_e02 S ht, m_e10 S ht, m_e11 S ht, m_e12 S ht, m_e20 S ht, m_e21 S ht, m_e22 S ht, Option.bind_some, Int32.reduceAdd, Int32.reduceSub, Int32.reduceMul, Int32.reduceDiv, Int32.reduceLE, Int32.reduceLT, ↓reduceIte, eq_self, q0_1, q0_2, q0_3, q1_0, q1_2, q1_3, q2_0, q2_1, q2_3, q3_0, q3_1, q3_2]
theorem m_pairs3 (S : w_S) {t : Int32} (ht : 0 ≤ t.toInt ∧ t.toInt ≤ 2) (hr : fX7_rowsOf S t = some 3) : fX7_pairs S t = some (((0 + ((gA S 0 (9 * t.toInt.toNat + 0)).toInt64 * (gA S 0 (9 * t.toInt.toNat + 4)).toInt64 - (gA S 0 (9 * t.toInt.toNat + 1)).toInt64 * (gA S 0 (9 * t.toInt.toNat + 3)).toInt64)) + ((gA S 0 (9 * t.toInt.toNat + 0)).toInt64 * (gA S 0 (9 * t.toInt.toNat + 8)).toInt64 - (gA S 0 (9 * t.toInt.toNat + 2)).toInt64 * (gA S 0 (9 * t.toInt.toNat + 6)).toInt64)) + ((gA S 0 (9 * t.toInt.toNat + 4)).toInt64 * (gA S 0 (9 * t.toInt.toNat + 8)).toInt64 - (gA S 0 (9 * t.toInt.toNat + 5)).toInt64 * (gA S 0 (9 * t.toInt.toNat + 7)).toInt64)) := by
  rw [fX7_pairs]; simp only [po_step S hr, pi_step S hr, fX7_cross,  m_e00 S ht, m_e01 S ht, m_e02 S ht, m_e10 S ht, m_e11 S ht, m_e12 S ht, m_e20 S ht, m_e21 S ht, m_e22 S ht, Option.bind_some, Int32.reduceAdd, Int32.reduceSub, Int32.reduceMul, Int32.reduceDiv, Int32.reduceLE, Int32.reduceLT, ↓reduceIte, eq_self, q0_1, q0_2, q0_3, q1_0, q1_2, q1_3, q2_0, q2_1, q2_3, q3_0, q3_1, q3_2]
theorem m_det3 (S : w_S) {t : Int32} (ht : 0 ≤ t.toInt ∧ t.toInt ≤ 2) (hr : fX7_rowsOf S t = some 3) : fX7_detOf S t = some (((gA S 0 (9 * t.toInt.toNat + 0)).toInt64 * ((gA S 0 (9 * t.toInt.toNat + 4)).toInt64 * (gA S 0 (9 * t.toInt.toNat + 8)).toInt64 - (gA S 0 (9 * t.toInt.toNat + 5)).toInt64 * (gA S 0 (9 * t.toInt.toNat + 7)).toInt64) - (gA S 0 (9 * t.toInt.toNat + 1)).toInt64 * ((gA S 0 (9 * t.toInt.toNat + 3)).toInt64 * (gA S 0 (9 * t.toInt.toNat + 8)).toInt64 - (gA S 0 (9 * t.toInt.toNat + 5)).toInt64 * (gA S 0 (9 * t.toInt.toNat + 6)).toInt64)) + (gA S 0 (9 * t.toInt.toNat + 2)).toInt64 * ((gA S 0 (9 * t.toInt.toNat + 3)).toInt64 * (gA S 0 (9 * t.toInt.toNat + 7)).toInt64 - (gA S 0 (9 * t.toInt.toNat + 4)).toInt64 * (gA S 0 (9 * t.toInt.toNat + 6)).toInt64)) := by
  rw [fX7_detOf]; simp only [fX7_cross, hr, m_e00 S ht, m_e01 S ht, m_e02 S ht, m_e10 S ht, m_e11 S ht, m_e12 S ht, m_e20 S ht, m_e21 S ht, m_e22 S ht, Option.bind_some, Int32.reduceAdd, Int32.reduceSub, Int32.reduceMul, Int32.reduceDiv, Int32.reduceLE, Int32.reduceLT, ↓reduceIte, eq_self, q0_1, q0_2, q0_3, q1_0, q1_2, q1_3, q2_0, q2_1, q2_3, q3_0, q3_1, q3_2]
