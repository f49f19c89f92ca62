def rf4 (A : Nat → Nat) (a b c d : Nat) : Nat → Option Nat := fun j => if j = 0 then some (A a) else if j = 1 then some (A b) else if j = 2 then some (A c) else if j = 3 then some (A d) else none
def fsX0 (A : Nat → Nat) (S : w_S) : List Value := [.ref (A 1), .ref (A 7), .ref (A 13), .int (gI S 12), .ref (A 19), .ref (A 22), .ref (A 25), .ref (A 27), .ref (A 29), .ref (A 38)]
def fsX1 (A : Nat → Nat) (S : w_S) : List Value := [.int (gI S 0), .int (gI S 1), .int (gI S 2), .int (gI S 3), .ref (A 2), .ref (A 3), .ref (A 4), .ref (A 5), .ref (A 6)]
def fsX7 (A : Nat → Nat) (S : w_S) : List Value := [.int (gI S 4), .int (gI S 5), .int (gI S 6), .int (gI S 7), .ref (A 8), .ref (A 9), .ref (A 10), .ref (A 11), .ref (A 12)]
def fsX13 (A : Nat → Nat) (S : w_S) : List Value := [.int (gI S 8), .int (gI S 9), .int (gI S 10), .int (gI S 11), .ref (A 14), .ref (A 15), .ref (A 16), .ref (A 17), .ref (A 18)]
def fsX19 (A : Nat → Nat) (S : w_S) : List Value := [.int (gI S 13), .int (gI S 14), .int (gI S 15), .long (gL S 0), .int (gI S 16), .ref (A 20), .ref (A 21)]
def fsX22 (A : Nat → Nat) (S : w_S) : List Value := [.int (gI S 17), .int (gI S 18), .int (gI S 19), .long (gL S 1), .int (gI S 20), .ref (A 23), .ref (A 24)]
def fsX25 (A : Nat → Nat) (S : w_S) : List Value := [.int (gI S 21), .int (gI S 22), .ref (A 26)]
def fsX27 (A : Nat → Nat) (S : w_S) : List Value := [.int (gI S 23), .int (gI S 24), .int (gI S 25), .int (gI S 26), .int (gI S 27), .ref (A 28)]
def fsX30 (A : Nat → Nat) (S : w_S) : List Value := [.int (gI S 28), .int (gI S 29), .ref (A 31)]
def fsX32 (A : Nat → Nat) (S : w_S) : List Value := [.int (gI S 30), .int (gI S 31), .ref (A 33)]
def fsX34 (A : Nat → Nat) (S : w_S) : List Value := [.int (gI S 32), .int (gI S 33), .ref (A 35)]
def fsX36 (A : Nat → Nat) (S : w_S) : List Value := [.int (gI S 34), .int (gI S 35), .ref (A 37)]
def fsX39 (A : Nat → Nat) (S : w_S) : List Value := [.int (gI S 36), .int (gI S 37), .int (gI S 38)]
def fsX40 (A : Nat → Nat) (S : w_S) : List Value := [.int (gI S 39), .int (gI S 40), .int (gI S 41)]
def fsX41 (A : Nat → Nat) (S : w_S) : List Value := [.int (gI S 42), .int (gI S 43), .int (gI S 44)]
def fsX42 (A : Nat → Nat) (S : w_S) : List Value := [.int (gI S 45), .int (gI S 46), .int (gI S 47)]
def wX (A : Nat → Nat) (B : Nat → ClassId) (S : w_S) : va_W := [(A 0, .inr (6, fsX0 A S)), (A 1, .inr (4, fsX1 A S)), (A 2, .inl (B 1, 9, .inl (gA S 0))), (A 3, .inl (B 1, 9, .inl (gA S 1))), (A 4, .inl (B 1, 9, .inl (gA S 2))), (A 5, .inl (B 1, 6, .inl (gA S 3))), (A 6, .inl (B 1, 6, .inl (gA S 4))), (A 7, .inr (4, fsX7 A S)), (A 8, .inl (B 1, 9, .inl (gA S 5))), (A 9, .inl (B 1, 9, .inl (gA S 6))), (A 10, .inl (B 1, 9, .inl (gA S 7))), (A 11, .inl (B 1, 6, .inl (gA S 8))), (A 12, .inl (B 1, 6, .inl (gA S 9))), (A 13, .inr (4, fsX13 A S)), (A 14, .inl (B 1, 9, .inl (gA S 10))), (A 15, .inl (B 1, 9, .inl (gA S 11))), (A 16, .inl (B 1, 9, .inl (gA S 12))), (A 17, .inl (B 1, 6, .inl (gA S 13))), (A 18, .inl (B 1, 6, .inl (gA S 14))), (A 19, .inr (1, fsX19 A S)), (A 20, .inl (B 2, 90, .inr (.inl (gB S 0)))), (A 21, .inl (B 1, 10, .inl (gA S 15))), (A 22, .inr (1, fsX22 A S)), (A 23, .inl (B 2, 90, .inr (.inl (gB S 1)))), (A 24, .inl (B 1, 10, .inl (gA S 16))), (A 25, .inr (5, fsX25 A S)), (A 26, .inl (B 0, 200, .inl (gA S 17))), (A 27, .inr (0, fsX27 A S)), (A 28, .inl (B 1, 30, .inl (gA S 18))), (A 29, .inl (B 3, 4, .inr (.inr (.inr (.inr (rf4 A 30 32 34 36)))))), (A 30, .inr (2, fsX30 A S)), (A 31, .inl (B 2, 40, .inr (.inl (gB S 2)))), (A 32, .inr (2, fsX32 A S)), (A 33, .inl (B 2, 40, .inr (.inl (gB S 3)))), (A 34, .inr (2, fsX34 A S)), (A 35, .inl (B 2, 40, .inr (.inl (gB S 4)))), (A 36, .inr (2, fsX36 A S)), (A 37, .inl (B 2, 40, .inr (.inl (gB S 5)))), (A 38, .inl (B 4, 4, .inr (.inr (.inr (.inr (rf4 A 39 40 41 42)))))), (A 39, .inr (3, fsX39 A S)), (A 40, .inr (3, fsX40 A S)), (A 41, .inr (3, fsX41 A S)), (A 42, .inr (3, fsX42 A S))]
theorem eX_0 (A : Nat → Nat) (B : Nat → ClassId) (S : w_S) : (wX A B S)[0]? = some (A 0, .inr (6, fsX0 A S)) := rfl
theorem eX_1 (A : Nat → Nat) (B : Nat → ClassId) (S : w_S) : (wX A B S)[1]? = some (A 1, .inr (4, fsX1 A S)) := rfl
theorem eX_2 (A : Nat → Nat) (B : Nat → ClassId) (S : w_S) : (wX A B S)[2]? = some (A 2, .inl (B 1, 9, .inl (gA S 0))) := rfl
theorem eX_3 (A : Nat → Nat) (B : Nat → ClassId) (S : w_S) : (wX A B S)[3]? = some (A 3, .inl (B 1, 9, .inl (gA S 1))) := rfl
theorem eX_4 (A : Nat → Nat) (B : Nat → ClassId) (S : w_S) : (wX A B S)[4]? = some (A 4, .inl (B 1, 9, .inl (gA S 2))) := rfl
theorem eX_5 (A : Nat → Nat) (B : Nat → ClassId) (S : w_S) : (wX A B S)[5]? = some (A 5, .inl (B 1, 6, .inl (gA S 3))) := rfl
theorem eX_6 (A : Nat → Nat) (B : Nat → ClassId) (S : w_S) : (wX A B S)[6]? = some (A 6, .inl (B 1, 6, .inl (gA S 4))) := rfl
theorem eX_7 (A : Nat → Nat) (B : Nat → ClassId) (S : w_S) : (wX A B S)[7]? = some (A 7, .inr (4, fsX7 A S)) := rfl
theorem eX_8 (A : Nat → Nat) (B : Nat → ClassId) (S : w_S) : (wX A B S)[8]? = some (A 8, .inl (B 1, 9, .inl (gA S 5))) := rfl
theorem eX_9 (A : Nat → Nat) (B : Nat → ClassId) (S : w_S) : (wX A B S)[9]? = some (A 9, .inl (B 1, 9, .inl (gA S 6))) := rfl
theorem eX_10 (A : Nat → Nat) (B : Nat → ClassId) (S : w_S) : (wX A B S)[10]? = some (A 10, .inl (B 1, 9, .inl (gA S 7))) := rfl
theorem eX_11 (A : Nat → Nat) (B : Nat → ClassId) (S : w_S) : (wX A B S)[11]? = some (A 11, .inl (B 1, 6, .inl (gA S 8))) := rfl
theorem eX_12 (A : Nat → Nat) (B : Nat → ClassId) (S : w_S) : (wX A B S)[12]? = some (A 12, .inl (B 1, 6, .inl (gA S 9))) := rfl
theorem eX_13 (A : Nat → Nat) (B : Nat → ClassId) (S : w_S) : (wX A B S)[13]? = some (A 13, .inr (4, fsX13 A S)) := rfl
theorem eX_14 (A : Nat → Nat) (B : Nat → ClassId) (S : w_S) : (wX A B S)[14]? = some (A 14, .inl (B 1, 9, .inl (gA S 10))) := rfl
theorem eX_15 (A : Nat → Nat) (B : Nat → ClassId) (S : w_S) : (wX A B S)[15]? = some (A 15, .inl (B 1, 9, .inl (gA S 11))) := rfl
theorem eX_16 (A : Nat → Nat) (B : Nat → ClassId) (S : w_S) : (wX A B S)[16]? = some (A 16, .inl (B 1, 9, .inl (gA S 12))) := rfl
theorem eX_17 (A : Nat → Nat) (B : Nat → ClassId) (S : w_S) : (wX A B S)[17]? = some (A 17, .inl (B 1, 6, .inl (gA S 13))) := rfl
theorem eX_18 (A : Nat → Nat) (B : Nat → ClassId) (S : w_S) : (wX A B S)[18]? = some (A 18, .inl (B 1, 6, .inl (gA S 14))) := rfl
theorem eX_19 (A : Nat → Nat) (B : Nat → ClassId) (S : w_S) : (wX A B S)[19]? = some (A 19, .inr (1, fsX19 A S)) := rfl
theorem eX_20 (A : Nat → Nat) (B : Nat → ClassId) (S : w_S) : (wX A B S)[20]? = some (A 20, .inl (B 2, 90, .inr (.inl (gB S 0)))) := rfl
theorem eX_21 (A : Nat → Nat) (B : Nat → ClassId) (S : w_S) : (wX A B S)[21]? = some (A 21, .inl (B 1, 10, .inl (gA S 15))) := rfl
theorem eX_22 (A : Nat → Nat) (B : Nat → ClassId) (S : w_S) : (wX A B S)[22]? = some (A 22, .inr (1, fsX22 A S)) := rfl
theorem eX_23 (A : Nat → Nat) (B : Nat → ClassId) (S : w_S) : (wX A B S)[23]? = some (A 23, .inl (B 2, 90, .inr (.inl (gB S 1)))) := rfl
theorem eX_24 (A : Nat → Nat) (B : Nat → ClassId) (S : w_S) : (wX A B S)[24]? = some (A 24, .inl (B 1, 10, .inl (gA S 16))) := rfl
theorem eX_25 (A : Nat → Nat) (B : Nat → ClassId) (S : w_S) : (wX A B S)[25]? = some (A 25, .inr (5, fsX25 A S)) := rfl
theorem eX_26 (A : Nat → Nat) (B : Nat → ClassId) (S : w_S) : (wX A B S)[26]? = some (A 26, .inl (B 0, 200, .inl (gA S 17))) := rfl
theorem eX_27 (A : Nat → Nat) (B : Nat → ClassId) (S : w_S) : (wX A B S)[27]? = some (A 27, .inr (0, fsX27 A S)) := rfl
theorem eX_28 (A : Nat → Nat) (B : Nat → ClassId) (S : w_S) : (wX A B S)[28]? = some (A 28, .inl (B 1, 30, .inl (gA S 18))) := rfl
theorem eX_29 (A : Nat → Nat) (B : Nat → ClassId) (S : w_S) : (wX A B S)[29]? = some (A 29, .inl (B 3, 4, .inr (.inr (.inr (.inr (rf4 A 30 32 34 36)))))) := rfl
theorem eX_30 (A : Nat → Nat) (B : Nat → ClassId) (S : w_S) : (wX A B S)[30]? = some (A 30, .inr (2, fsX30 A S)) := rfl
theorem eX_31 (A : Nat → Nat) (B : Nat → ClassId) (S : w_S) : (wX A B S)[31]? = some (A 31, .inl (B 2, 40, .inr (.inl (gB S 2)))) := rfl
theorem eX_32 (A : Nat → Nat) (B : Nat → ClassId) (S : w_S) : (wX A B S)[32]? = some (A 32, .inr (2, fsX32 A S)) := rfl
theorem eX_33 (A : Nat → Nat) (B : Nat → ClassId) (S : w_S) : (wX A B S)[33]? = some (A 33, .inl (B 2, 40, .inr (.inl (gB S 3)))) := rfl
theorem eX_34 (A : Nat → Nat) (B : Nat → ClassId) (S : w_S) : (wX A B S)[34]? = some (A 34, .inr (2, fsX34 A S)) := rfl
theorem eX_35 (A : Nat → Nat) (B : Nat → ClassId) (S : w_S) : (wX A B S)[35]? = some (A 35, .inl (B 2, 40, .inr (.inl (gB S 4)))) := rfl
theorem eX_36 (A : Nat → Nat) (B : Nat → ClassId) (S : w_S) : (wX A B S)[36]? = some (A 36, .inr (2, fsX36 A S)) := rfl
theorem eX_37 (A : Nat → Nat) (B : Nat → ClassId) (S : w_S) : (wX A B S)[37]? = some (A 37, .inl (B 2, 40, .inr (.inl (gB S 5)))) := rfl
theorem eX_38 (A : Nat → Nat) (B : Nat → ClassId) (S : w_S) : (wX A B S)[38]? = some (A 38, .inl (B 4, 4, .inr (.inr (.inr (.inr (rf4 A 39 40 41 42)))))) := rfl
theorem eX_39 (A : Nat → Nat) (B : Nat → ClassId) (S : w_S) : (wX A B S)[39]? = some (A 39, .inr (3, fsX39 A S)) := rfl
theorem eX_40 (A : Nat → Nat) (B : Nat → ClassId) (S : w_S) : (wX A B S)[40]? = some (A 40, .inr (3, fsX40 A S)) := rfl
theorem eX_41 (A : Nat → Nat) (B : Nat → ClassId) (S : w_S) : (wX A B S)[41]? = some (A 41, .inr (3, fsX41 A S)) := rfl
theorem eX_42 (A : Nat → Nat) (B : Nat → ClassId) (S : w_S) : (wX A B S)[42]? = some (A 42, .inr (3, fsX42 A S)) := rfl
theorem tX_0_3 (A : Nat → Nat) (B : Nat → ClassId) (S : w_S) (x : Int32) : (wX A B S).set 0 (A 0, .inr (6, (fsX0 A S).set 3 (.int x))) = wX A B (sI S 12 x) := rfl
theorem tX_1_0 (A : Nat → Nat) (B : Nat → ClassId) (S : w_S) (x : Int32) : (wX A B S).set 1 (A 1, .inr (4, (fsX1 A S).set 0 (.int x))) = wX A B (sI S 0 x) := rfl
theorem tX_1_1 (A : Nat → Nat) (B : Nat → ClassId) (S : w_S) (x : Int32) : (wX A B S).set 1 (A 1, .inr (4, (fsX1 A S).set 1 (.int x))) = wX A B (sI S 1 x) := rfl
theorem tX_1_2 (A : Nat → Nat) (B : Nat → ClassId) (S : w_S) (x : Int32) : (wX A B S).set 1 (A 1, .inr (4, (fsX1 A S).set 2 (.int x))) = wX A B (sI S 2 x) := rfl
theorem tX_1_3 (A : Nat → Nat) (B : Nat → ClassId) (S : w_S) (x : Int32) : (wX A B S).set 1 (A 1, .inr (4, (fsX1 A S).set 3 (.int x))) = wX A B (sI S 3 x) := rfl
theorem tX_2 (A : Nat → Nat) (B : Nat → ClassId) (S : w_S) (f : Nat → Int32) : (wX A B S).set 2 (A 2, .inl (B 1, 9, .inl f)) = wX A B (sA S 0 f) := rfl
theorem tX_3 (A : Nat → Nat) (B : Nat → ClassId) (S : w_S) (f : Nat → Int32) : (wX A B S).set 3 (A 3, .inl (B 1, 9, .inl f)) = wX A B (sA S 1 f) := rfl
theorem tX_4 (A : Nat → Nat) (B : Nat → ClassId) (S : w_S) (f : Nat → Int32) : (wX A B S).set 4 (A 4, .inl (B 1, 9, .inl f)) = wX A B (sA S 2 f) := rfl
theorem tX_5 (A : Nat → Nat) (B : Nat → ClassId) (S : w_S) (f : Nat → Int32) : (wX A B S).set 5 (A 5, .inl (B 1, 6, .inl f)) = wX A B (sA S 3 f) := rfl
theorem tX_6 (A : Nat → Nat) (B : Nat → ClassId) (S : w_S) (f : Nat → Int32) : (wX A B S).set 6 (A 6, .inl (B 1, 6, .inl f)) = wX A B (sA S 4 f) := rfl
theorem tX_7_0 (A : Nat → Nat) (B : Nat → ClassId) (S : w_S) (x : Int32) : (wX A B S).set 7 (A 7, .inr (4, (fsX7 A S).set 0 (.int x))) = wX A B (sI S 4 x) := rfl
theorem tX_7_1 (A : Nat → Nat) (B : Nat → ClassId) (S : w_S) (x : Int32) : (wX A B S).set 7 (A 7, .inr (4, (fsX7 A S).set 1 (.int x))) = wX A B (sI S 5 x) := rfl
theorem tX_7_2 (A : Nat → Nat) (B : Nat → ClassId) (S : w_S) (x : Int32) : (wX A B S).set 7 (A 7, .inr (4, (fsX7 A S).set 2 (.int x))) = wX A B (sI S 6 x) := rfl
theorem tX_7_3 (A : Nat → Nat) (B : Nat → ClassId) (S : w_S) (x : Int32) : (wX A B S).set 7 (A 7, .inr (4, (fsX7 A S).set 3 (.int x))) = wX A B (sI S 7 x) := rfl
theorem tX_8 (A : Nat → Nat) (B : Nat → ClassId) (S : w_S) (f : Nat → Int32) : (wX A B S).set 8 (A 8, .inl (B 1, 9, .inl f)) = wX A B (sA S 5 f) := rfl
theorem tX_9 (A : Nat → Nat) (B : Nat → ClassId) (S : w_S) (f : Nat → Int32) : (wX A B S).set 9 (A 9, .inl (B 1, 9, .inl f)) = wX A B (sA S 6 f) := rfl
theorem tX_10 (A : Nat → Nat) (B : Nat → ClassId) (S : w_S) (f : Nat → Int32) : (wX A B S).set 10 (A 10, .inl (B 1, 9, .inl f)) = wX A B (sA S 7 f) := rfl
theorem tX_11 (A : Nat → Nat) (B : Nat → ClassId) (S : w_S) (f : Nat → Int32) : (wX A B S).set 11 (A 11, .inl (B 1, 6, .inl f)) = wX A B (sA S 8 f) := rfl
theorem tX_12 (A : Nat → Nat) (B : Nat → ClassId) (S : w_S) (f : Nat → Int32) : (wX A B S).set 12 (A 12, .inl (B 1, 6, .inl f)) = wX A B (sA S 9 f) := rfl
theorem tX_13_0 (A : Nat → Nat) (B : Nat → ClassId) (S : w_S) (x : Int32) : (wX A B S).set 13 (A 13, .inr (4, (fsX13 A S).set 0 (.int x))) = wX A B (sI S 8 x) := rfl
theorem tX_13_1 (A : Nat → Nat) (B : Nat → ClassId) (S : w_S) (x : Int32) : (wX A B S).set 13 (A 13, .inr (4, (fsX13 A S).set 1 (.int x))) = wX A B (sI S 9 x) := rfl
theorem tX_13_2 (A : Nat → Nat) (B : Nat → ClassId) (S : w_S) (x : Int32) : (wX A B S).set 13 (A 13, .inr (4, (fsX13 A S).set 2 (.int x))) = wX A B (sI S 10 x) := rfl
theorem tX_13_3 (A : Nat → Nat) (B : Nat → ClassId) (S : w_S) (x : Int32) : (wX A B S).set 13 (A 13, .inr (4, (fsX13 A S).set 3 (.int x))) = wX A B (sI S 11 x) := rfl
theorem tX_14 (A : Nat → Nat) (B : Nat → ClassId) (S : w_S) (f : Nat → Int32) : (wX A B S).set 14 (A 14, .inl (B 1, 9, .inl f)) = wX A B (sA S 10 f) := rfl
theorem tX_15 (A : Nat → Nat) (B : Nat → ClassId) (S : w_S) (f : Nat → Int32) : (wX A B S).set 15 (A 15, .inl (B 1, 9, .inl f)) = wX A B (sA S 11 f) := rfl
theorem tX_16 (A : Nat → Nat) (B : Nat → ClassId) (S : w_S) (f : Nat → Int32) : (wX A B S).set 16 (A 16, .inl (B 1, 9, .inl f)) = wX A B (sA S 12 f) := rfl
theorem tX_17 (A : Nat → Nat) (B : Nat → ClassId) (S : w_S) (f : Nat → Int32) : (wX A B S).set 17 (A 17, .inl (B 1, 6, .inl f)) = wX A B (sA S 13 f) := rfl
theorem tX_18 (A : Nat → Nat) (B : Nat → ClassId) (S : w_S) (f : Nat → Int32) : (wX A B S).set 18 (A 18, .inl (B 1, 6, .inl f)) = wX A B (sA S 14 f) := rfl
theorem tX_19_0 (A : Nat → Nat) (B : Nat → ClassId) (S : w_S) (x : Int32) : (wX A B S).set 19 (A 19, .inr (1, (fsX19 A S).set 0 (.int x))) = wX A B (sI S 13 x) := rfl
theorem tX_19_1 (A : Nat → Nat) (B : Nat → ClassId) (S : w_S) (x : Int32) : (wX A B S).set 19 (A 19, .inr (1, (fsX19 A S).set 1 (.int x))) = wX A B (sI S 14 x) := rfl
theorem tX_19_2 (A : Nat → Nat) (B : Nat → ClassId) (S : w_S) (x : Int32) : (wX A B S).set 19 (A 19, .inr (1, (fsX19 A S).set 2 (.int x))) = wX A B (sI S 15 x) := rfl
theorem tX_19_3 (A : Nat → Nat) (B : Nat → ClassId) (S : w_S) (x : Int64) : (wX A B S).set 19 (A 19, .inr (1, (fsX19 A S).set 3 (.long x))) = wX A B (sL S 0 x) := rfl
theorem tX_19_4 (A : Nat → Nat) (B : Nat → ClassId) (S : w_S) (x : Int32) : (wX A B S).set 19 (A 19, .inr (1, (fsX19 A S).set 4 (.int x))) = wX A B (sI S 16 x) := rfl
theorem tX_20 (A : Nat → Nat) (B : Nat → ClassId) (S : w_S) (f : Nat → Int64) : (wX A B S).set 20 (A 20, .inl (B 2, 90, .inr (.inl f))) = wX A B (sB S 0 f) := rfl
theorem tX_21 (A : Nat → Nat) (B : Nat → ClassId) (S : w_S) (f : Nat → Int32) : (wX A B S).set 21 (A 21, .inl (B 1, 10, .inl f)) = wX A B (sA S 15 f) := rfl
theorem tX_22_0 (A : Nat → Nat) (B : Nat → ClassId) (S : w_S) (x : Int32) : (wX A B S).set 22 (A 22, .inr (1, (fsX22 A S).set 0 (.int x))) = wX A B (sI S 17 x) := rfl
theorem tX_22_1 (A : Nat → Nat) (B : Nat → ClassId) (S : w_S) (x : Int32) : (wX A B S).set 22 (A 22, .inr (1, (fsX22 A S).set 1 (.int x))) = wX A B (sI S 18 x) := rfl
theorem tX_22_2 (A : Nat → Nat) (B : Nat → ClassId) (S : w_S) (x : Int32) : (wX A B S).set 22 (A 22, .inr (1, (fsX22 A S).set 2 (.int x))) = wX A B (sI S 19 x) := rfl
theorem tX_22_3 (A : Nat → Nat) (B : Nat → ClassId) (S : w_S) (x : Int64) : (wX A B S).set 22 (A 22, .inr (1, (fsX22 A S).set 3 (.long x))) = wX A B (sL S 1 x) := rfl
theorem tX_22_4 (A : Nat → Nat) (B : Nat → ClassId) (S : w_S) (x : Int32) : (wX A B S).set 22 (A 22, .inr (1, (fsX22 A S).set 4 (.int x))) = wX A B (sI S 20 x) := rfl
theorem tX_23 (A : Nat → Nat) (B : Nat → ClassId) (S : w_S) (f : Nat → Int64) : (wX A B S).set 23 (A 23, .inl (B 2, 90, .inr (.inl f))) = wX A B (sB S 1 f) := rfl
theorem tX_24 (A : Nat → Nat) (B : Nat → ClassId) (S : w_S) (f : Nat → Int32) : (wX A B S).set 24 (A 24, .inl (B 1, 10, .inl f)) = wX A B (sA S 16 f) := rfl
theorem tX_25_0 (A : Nat → Nat) (B : Nat → ClassId) (S : w_S) (x : Int32) : (wX A B S).set 25 (A 25, .inr (5, (fsX25 A S).set 0 (.int x))) = wX A B (sI S 21 x) := rfl
theorem tX_25_1 (A : Nat → Nat) (B : Nat → ClassId) (S : w_S) (x : Int32) : (wX A B S).set 25 (A 25, .inr (5, (fsX25 A S).set 1 (.int x))) = wX A B (sI S 22 x) := rfl
theorem tX_26 (A : Nat → Nat) (B : Nat → ClassId) (S : w_S) (f : Nat → Int32) : (wX A B S).set 26 (A 26, .inl (B 0, 200, .inl f)) = wX A B (sA S 17 f) := rfl
theorem tX_27_0 (A : Nat → Nat) (B : Nat → ClassId) (S : w_S) (x : Int32) : (wX A B S).set 27 (A 27, .inr (0, (fsX27 A S).set 0 (.int x))) = wX A B (sI S 23 x) := rfl
theorem tX_27_1 (A : Nat → Nat) (B : Nat → ClassId) (S : w_S) (x : Int32) : (wX A B S).set 27 (A 27, .inr (0, (fsX27 A S).set 1 (.int x))) = wX A B (sI S 24 x) := rfl
theorem tX_27_2 (A : Nat → Nat) (B : Nat → ClassId) (S : w_S) (x : Int32) : (wX A B S).set 27 (A 27, .inr (0, (fsX27 A S).set 2 (.int x))) = wX A B (sI S 25 x) := rfl
theorem tX_27_3 (A : Nat → Nat) (B : Nat → ClassId) (S : w_S) (x : Int32) : (wX A B S).set 27 (A 27, .inr (0, (fsX27 A S).set 3 (.int x))) = wX A B (sI S 26 x) := rfl
theorem tX_27_4 (A : Nat → Nat) (B : Nat → ClassId) (S : w_S) (x : Int32) : (wX A B S).set 27 (A 27, .inr (0, (fsX27 A S).set 4 (.int x))) = wX A B (sI S 27 x) := rfl
theorem tX_28 (A : Nat → Nat) (B : Nat → ClassId) (S : w_S) (f : Nat → Int32) : (wX A B S).set 28 (A 28, .inl (B 1, 30, .inl f)) = wX A B (sA S 18 f) := rfl
theorem tX_30_0 (A : Nat → Nat) (B : Nat → ClassId) (S : w_S) (x : Int32) : (wX A B S).set 30 (A 30, .inr (2, (fsX30 A S).set 0 (.int x))) = wX A B (sI S 28 x) := rfl
theorem tX_30_1 (A : Nat → Nat) (B : Nat → ClassId) (S : w_S) (x : Int32) : (wX A B S).set 30 (A 30, .inr (2, (fsX30 A S).set 1 (.int x))) = wX A B (sI S 29 x) := rfl
theorem tX_31 (A : Nat → Nat) (B : Nat → ClassId) (S : w_S) (f : Nat → Int64) : (wX A B S).set 31 (A 31, .inl (B 2, 40, .inr (.inl f))) = wX A B (sB S 2 f) := rfl
theorem tX_32_0 (A : Nat → Nat) (B : Nat → ClassId) (S : w_S) (x : Int32) : (wX A B S).set 32 (A 32, .inr (2, (fsX32 A S).set 0 (.int x))) = wX A B (sI S 30 x) := rfl
theorem tX_32_1 (A : Nat → Nat) (B : Nat → ClassId) (S : w_S) (x : Int32) : (wX A B S).set 32 (A 32, .inr (2, (fsX32 A S).set 1 (.int x))) = wX A B (sI S 31 x) := rfl
theorem tX_33 (A : Nat → Nat) (B : Nat → ClassId) (S : w_S) (f : Nat → Int64) : (wX A B S).set 33 (A 33, .inl (B 2, 40, .inr (.inl f))) = wX A B (sB S 3 f) := rfl
theorem tX_34_0 (A : Nat → Nat) (B : Nat → ClassId) (S : w_S) (x : Int32) : (wX A B S).set 34 (A 34, .inr (2, (fsX34 A S).set 0 (.int x))) = wX A B (sI S 32 x) := rfl
theorem tX_34_1 (A : Nat → Nat) (B : Nat → ClassId) (S : w_S) (x : Int32) : (wX A B S).set 34 (A 34, .inr (2, (fsX34 A S).set 1 (.int x))) = wX A B (sI S 33 x) := rfl
theorem tX_35 (A : Nat → Nat) (B : Nat → ClassId) (S : w_S) (f : Nat → Int64) : (wX A B S).set 35 (A 35, .inl (B 2, 40, .inr (.inl f))) = wX A B (sB S 4 f) := rfl
theorem tX_36_0 (A : Nat → Nat) (B : Nat → ClassId) (S : w_S) (x : Int32) : (wX A B S).set 36 (A 36, .inr (2, (fsX36 A S).set 0 (.int x))) = wX A B (sI S 34 x) := rfl
theorem tX_36_1 (A : Nat → Nat) (B : Nat → ClassId) (S : w_S) (x : Int32) : (wX A B S).set 36 (A 36, .inr (2, (fsX36 A S).set 1 (.int x))) = wX A B (sI S 35 x) := rfl
theorem tX_37 (A : Nat → Nat) (B : Nat → ClassId) (S : w_S) (f : Nat → Int64) : (wX A B S).set 37 (A 37, .inl (B 2, 40, .inr (.inl f))) = wX A B (sB S 5 f) := rfl
theorem tX_39_0 (A : Nat → Nat) (B : Nat → ClassId) (S : w_S) (x : Int32) : (wX A B S).set 39 (A 39, .inr (3, (fsX39 A S).set 0 (.int x))) = wX A B (sI S 36 x) := rfl
theorem tX_39_1 (A : Nat → Nat) (B : Nat → ClassId) (S : w_S) (x : Int32) : (wX A B S).set 39 (A 39, .inr (3, (fsX39 A S).set 1 (.int x))) = wX A B (sI S 37 x) := rfl
theorem tX_39_2 (A : Nat → Nat) (B : Nat → ClassId) (S : w_S) (x : Int32) : (wX A B S).set 39 (A 39, .inr (3, (fsX39 A S).set 2 (.int x))) = wX A B (sI S 38 x) := rfl
theorem tX_40_0 (A : Nat → Nat) (B : Nat → ClassId) (S : w_S) (x : Int32) : (wX A B S).set 40 (A 40, .inr (3, (fsX40 A S).set 0 (.int x))) = wX A B (sI S 39 x) := rfl
theorem tX_40_1 (A : Nat → Nat) (B : Nat → ClassId) (S : w_S) (x : Int32) : (wX A B S).set 40 (A 40, .inr (3, (fsX40 A S).set 1 (.int x))) = wX A B (sI S 40 x) := rfl
theorem tX_40_2 (A : Nat → Nat) (B : Nat → ClassId) (S : w_S) (x : Int32) : (wX A B S).set 40 (A 40, .inr (3, (fsX40 A S).set 2 (.int x))) = wX A B (sI S 41 x) := rfl
theorem tX_41_0 (A : Nat → Nat) (B : Nat → ClassId) (S : w_S) (x : Int32) : (wX A B S).set 41 (A 41, .inr (3, (fsX41 A S).set 0 (.int x))) = wX A B (sI S 42 x) := rfl
theorem tX_41_1 (A : Nat → Nat) (B : Nat → ClassId) (S : w_S) (x : Int32) : (wX A B S).set 41 (A 41, .inr (3, (fsX41 A S).set 1 (.int x))) = wX A B (sI S 43 x) := rfl
theorem tX_41_2 (A : Nat → Nat) (B : Nat → ClassId) (S : w_S) (x : Int32) : (wX A B S).set 41 (A 41, .inr (3, (fsX41 A S).set 2 (.int x))) = wX A B (sI S 44 x) := rfl
theorem tX_42_0 (A : Nat → Nat) (B : Nat → ClassId) (S : w_S) (x : Int32) : (wX A B S).set 42 (A 42, .inr (3, (fsX42 A S).set 0 (.int x))) = wX A B (sI S 45 x) := rfl
theorem tX_42_1 (A : Nat → Nat) (B : Nat → ClassId) (S : w_S) (x : Int32) : (wX A B S).set 42 (A 42, .inr (3, (fsX42 A S).set 1 (.int x))) = wX A B (sI S 46 x) := rfl
theorem tX_42_2 (A : Nat → Nat) (B : Nat → ClassId) (S : w_S) (x : Int32) : (wX A B S).set 42 (A 42, .inr (3, (fsX42 A S).set 2 (.int x))) = wX A B (sI S 47 x) := rfl
def fsM0 (A : Nat → Nat) (S : w_S) : List Value := [.ref (A 1), .ref (A 2), .ref (A 3), .int (gI S 0), .int (gI S 1), .int (gI S 2), .int (gI S 3), .int (gI S 4), .int (gI S 5), .int (gI S 6), .int (gI S 7), .ref (A 4), .ref (A 5), .ref (A 6), .ref (A 7), .int (gI S 8), .ref (A 8), .int (gI S 9), .int (gI S 10), .int (gI S 11), .int (gI S 12), .int (gI S 13), .ref (A 9), .ref (A 10), .ref (A 11), .ref (A 12), .int (gI S 14), .int (gI S 15), .int (gI S 16), .int (gI S 17), .long (gL S 0), .ref (A 13), .ref (A 14), .ref (A 15), .ref (A 16), .ref (A 17), .ref (A 18), .ref (A 19), .ref (A 20), .ref (A 21), .ref (A 22), .ref (A 23), .int (gI S 18), .int (gI S 19), .int (gI S 20), .int (gI S 21), .int (gI S 22)]
def wM (A : Nat → Nat) (B : Nat → ClassId) (S : w_S) : va_W := [(A 0, .inr (7, fsM0 A S)), (A 1, .inl (B 1, 27, .inl (gA S 0))), (A 2, .inl (B 1, 27, .inl (gA S 1))), (A 3, .inl (B 1, 27, .inl (gA S 2))), (A 4, .inl (B 1, 6, .inl (gA S 3))), (A 5, .inl (B 1, 6, .inl (gA S 4))), (A 6, .inl (B 1, 6, .inl (gA S 5))), (A 7, .inl (B 1, 6, .inl (gA S 6))), (A 8, .inl (B 0, 200, .inl (gA S 7))), (A 9, .inl (B 1, 9, .inl (gA S 8))), (A 10, .inl (B 2, 72, .inr (.inl (gB S 0)))), (A 11, .inl (B 1, 9, .inl (gA S 9))), (A 12, .inl (B 1, 9, .inl (gA S 10))), (A 13, .inl (B 2, 63, .inr (.inl (gB S 1)))), (A 14, .inl (B 2, 9, .inr (.inl (gB S 2)))), (A 15, .inl (B 1, 9, .inl (gA S 11))), (A 16, .inl (B 1, 4, .inl (gA S 12))), (A 17, .inl (B 1, 4, .inl (gA S 13))), (A 18, .inl (B 2, 160, .inr (.inl (gB S 3)))), (A 19, .inl (B 2, 40, .inr (.inl (gB S 4)))), (A 20, .inl (B 1, 4, .inl (gA S 14))), (A 21, .inl (B 1, 4, .inl (gA S 15))), (A 22, .inl (B 1, 4, .inl (gA S 16))), (A 23, .inl (B 1, 30, .inl (gA S 17)))]
theorem eM_0 (A : Nat → Nat) (B : Nat → ClassId) (S : w_S) : (wM A B S)[0]? = some (A 0, .inr (7, fsM0 A S)) := rfl
theorem eM_1 (A : Nat → Nat) (B : Nat → ClassId) (S : w_S) : (wM A B S)[1]? = some (A 1, .inl (B 1, 27, .inl (gA S 0))) := rfl
theorem eM_2 (A : Nat → Nat) (B : Nat → ClassId) (S : w_S) : (wM A B S)[2]? = some (A 2, .inl (B 1, 27, .inl (gA S 1))) := rfl
theorem eM_3 (A : Nat → Nat) (B : Nat → ClassId) (S : w_S) : (wM A B S)[3]? = some (A 3, .inl (B 1, 27, .inl (gA S 2))) := rfl
theorem eM_4 (A : Nat → Nat) (B : Nat → ClassId) (S : w_S) : (wM A B S)[4]? = some (A 4, .inl (B 1, 6, .inl (gA S 3))) := rfl
theorem eM_5 (A : Nat → Nat) (B : Nat → ClassId) (S : w_S) : (wM A B S)[5]? = some (A 5, .inl (B 1, 6, .inl (gA S 4))) := rfl
theorem eM_6 (A : Nat → Nat) (B : Nat → ClassId) (S : w_S) : (wM A B S)[6]? = some (A 6, .inl (B 1, 6, .inl (gA S 5))) := rfl
theorem eM_7 (A : Nat → Nat) (B : Nat → ClassId) (S : w_S) : (wM A B S)[7]? = some (A 7, .inl (B 1, 6, .inl (gA S 6))) := rfl
theorem eM_8 (A : Nat → Nat) (B : Nat → ClassId) (S : w_S) : (wM A B S)[8]? = some (A 8, .inl (B 0, 200, .inl (gA S 7))) := rfl
theorem eM_9 (A : Nat → Nat) (B : Nat → ClassId) (S : w_S) : (wM A B S)[9]? = some (A 9, .inl (B 1, 9, .inl (gA S 8))) := rfl
theorem eM_10 (A : Nat → Nat) (B : Nat → ClassId) (S : w_S) : (wM A B S)[10]? = some (A 10, .inl (B 2, 72, .inr (.inl (gB S 0)))) := rfl
theorem eM_11 (A : Nat → Nat) (B : Nat → ClassId) (S : w_S) : (wM A B S)[11]? = some (A 11, .inl (B 1, 9, .inl (gA S 9))) := rfl
theorem eM_12 (A : Nat → Nat) (B : Nat → ClassId) (S : w_S) : (wM A B S)[12]? = some (A 12, .inl (B 1, 9, .inl (gA S 10))) := rfl
theorem eM_13 (A : Nat → Nat) (B : Nat → ClassId) (S : w_S) : (wM A B S)[13]? = some (A 13, .inl (B 2, 63, .inr (.inl (gB S 1)))) := rfl
theorem eM_14 (A : Nat → Nat) (B : Nat → ClassId) (S : w_S) : (wM A B S)[14]? = some (A 14, .inl (B 2, 9, .inr (.inl (gB S 2)))) := rfl
theorem eM_15 (A : Nat → Nat) (B : Nat → ClassId) (S : w_S) : (wM A B S)[15]? = some (A 15, .inl (B 1, 9, .inl (gA S 11))) := rfl
theorem eM_16 (A : Nat → Nat) (B : Nat → ClassId) (S : w_S) : (wM A B S)[16]? = some (A 16, .inl (B 1, 4, .inl (gA S 12))) := rfl
theorem eM_17 (A : Nat → Nat) (B : Nat → ClassId) (S : w_S) : (wM A B S)[17]? = some (A 17, .inl (B 1, 4, .inl (gA S 13))) := rfl
theorem eM_18 (A : Nat → Nat) (B : Nat → ClassId) (S : w_S) : (wM A B S)[18]? = some (A 18, .inl (B 2, 160, .inr (.inl (gB S 3)))) := rfl
theorem eM_19 (A : Nat → Nat) (B : Nat → ClassId) (S : w_S) : (wM A B S)[19]? = some (A 19, .inl (B 2, 40, .inr (.inl (gB S 4)))) := rfl
theorem eM_20 (A : Nat → Nat) (B : Nat → ClassId) (S : w_S) : (wM A B S)[20]? = some (A 20, .inl (B 1, 4, .inl (gA S 14))) := rfl
theorem eM_21 (A : Nat → Nat) (B : Nat → ClassId) (S : w_S) : (wM A B S)[21]? = some (A 21, .inl (B 1, 4, .inl (gA S 15))) := rfl
theorem eM_22 (A : Nat → Nat) (B : Nat → ClassId) (S : w_S) : (wM A B S)[22]? = some (A 22, .inl (B 1, 4, .inl (gA S 16))) := rfl
theorem eM_23 (A : Nat → Nat) (B : Nat → ClassId) (S : w_S) : (wM A B S)[23]? = some (A 23, .inl (B 1, 30, .inl (gA S 17))) := rfl
theorem tM_0_3 (A : Nat → Nat) (B : Nat → ClassId) (S : w_S) (x : Int32) : (wM A B S).set 0 (A 0, .inr (7, (fsM0 A S).set 3 (.int x))) = wM A B (sI S 0 x) := rfl
theorem tM_0_4 (A : Nat → Nat) (B : Nat → ClassId) (S : w_S) (x : Int32) : (wM A B S).set 0 (A 0, .inr (7, (fsM0 A S).set 4 (.int x))) = wM A B (sI S 1 x) := rfl
theorem tM_0_5 (A : Nat → Nat) (B : Nat → ClassId) (S : w_S) (x : Int32) : (wM A B S).set 0 (A 0, .inr (7, (fsM0 A S).set 5 (.int x))) = wM A B (sI S 2 x) := rfl
theorem tM_0_6 (A : Nat → Nat) (B : Nat → ClassId) (S : w_S) (x : Int32) : (wM A B S).set 0 (A 0, .inr (7, (fsM0 A S).set 6 (.int x))) = wM A B (sI S 3 x) := rfl
theorem tM_0_7 (A : Nat → Nat) (B : Nat → ClassId) (S : w_S) (x : Int32) : (wM A B S).set 0 (A 0, .inr (7, (fsM0 A S).set 7 (.int x))) = wM A B (sI S 4 x) := rfl
theorem tM_0_8 (A : Nat → Nat) (B : Nat → ClassId) (S : w_S) (x : Int32) : (wM A B S).set 0 (A 0, .inr (7, (fsM0 A S).set 8 (.int x))) = wM A B (sI S 5 x) := rfl
theorem tM_0_9 (A : Nat → Nat) (B : Nat → ClassId) (S : w_S) (x : Int32) : (wM A B S).set 0 (A 0, .inr (7, (fsM0 A S).set 9 (.int x))) = wM A B (sI S 6 x) := rfl
theorem tM_0_10 (A : Nat → Nat) (B : Nat → ClassId) (S : w_S) (x : Int32) : (wM A B S).set 0 (A 0, .inr (7, (fsM0 A S).set 10 (.int x))) = wM A B (sI S 7 x) := rfl
theorem tM_0_15 (A : Nat → Nat) (B : Nat → ClassId) (S : w_S) (x : Int32) : (wM A B S).set 0 (A 0, .inr (7, (fsM0 A S).set 15 (.int x))) = wM A B (sI S 8 x) := rfl
theorem tM_0_17 (A : Nat → Nat) (B : Nat → ClassId) (S : w_S) (x : Int32) : (wM A B S).set 0 (A 0, .inr (7, (fsM0 A S).set 17 (.int x))) = wM A B (sI S 9 x) := rfl
theorem tM_0_18 (A : Nat → Nat) (B : Nat → ClassId) (S : w_S) (x : Int32) : (wM A B S).set 0 (A 0, .inr (7, (fsM0 A S).set 18 (.int x))) = wM A B (sI S 10 x) := rfl
theorem tM_0_19 (A : Nat → Nat) (B : Nat → ClassId) (S : w_S) (x : Int32) : (wM A B S).set 0 (A 0, .inr (7, (fsM0 A S).set 19 (.int x))) = wM A B (sI S 11 x) := rfl
theorem tM_0_20 (A : Nat → Nat) (B : Nat → ClassId) (S : w_S) (x : Int32) : (wM A B S).set 0 (A 0, .inr (7, (fsM0 A S).set 20 (.int x))) = wM A B (sI S 12 x) := rfl
theorem tM_0_21 (A : Nat → Nat) (B : Nat → ClassId) (S : w_S) (x : Int32) : (wM A B S).set 0 (A 0, .inr (7, (fsM0 A S).set 21 (.int x))) = wM A B (sI S 13 x) := rfl
theorem tM_0_26 (A : Nat → Nat) (B : Nat → ClassId) (S : w_S) (x : Int32) : (wM A B S).set 0 (A 0, .inr (7, (fsM0 A S).set 26 (.int x))) = wM A B (sI S 14 x) := rfl
theorem tM_0_27 (A : Nat → Nat) (B : Nat → ClassId) (S : w_S) (x : Int32) : (wM A B S).set 0 (A 0, .inr (7, (fsM0 A S).set 27 (.int x))) = wM A B (sI S 15 x) := rfl
theorem tM_0_28 (A : Nat → Nat) (B : Nat → ClassId) (S : w_S) (x : Int32) : (wM A B S).set 0 (A 0, .inr (7, (fsM0 A S).set 28 (.int x))) = wM A B (sI S 16 x) := rfl
theorem tM_0_29 (A : Nat → Nat) (B : Nat → ClassId) (S : w_S) (x : Int32) : (wM A B S).set 0 (A 0, .inr (7, (fsM0 A S).set 29 (.int x))) = wM A B (sI S 17 x) := rfl
theorem tM_0_30 (A : Nat → Nat) (B : Nat → ClassId) (S : w_S) (x : Int64) : (wM A B S).set 0 (A 0, .inr (7, (fsM0 A S).set 30 (.long x))) = wM A B (sL S 0 x) := rfl
theorem tM_0_42 (A : Nat → Nat) (B : Nat → ClassId) (S : w_S) (x : Int32) : (wM A B S).set 0 (A 0, .inr (7, (fsM0 A S).set 42 (.int x))) = wM A B (sI S 18 x) := rfl
theorem tM_0_43 (A : Nat → Nat) (B : Nat → ClassId) (S : w_S) (x : Int32) : (wM A B S).set 0 (A 0, .inr (7, (fsM0 A S).set 43 (.int x))) = wM A B (sI S 19 x) := rfl
theorem tM_0_44 (A : Nat → Nat) (B : Nat → ClassId) (S : w_S) (x : Int32) : (wM A B S).set 0 (A 0, .inr (7, (fsM0 A S).set 44 (.int x))) = wM A B (sI S 20 x) := rfl
theorem tM_0_45 (A : Nat → Nat) (B : Nat → ClassId) (S : w_S) (x : Int32) : (wM A B S).set 0 (A 0, .inr (7, (fsM0 A S).set 45 (.int x))) = wM A B (sI S 21 x) := rfl
theorem tM_0_46 (A : Nat → Nat) (B : Nat → ClassId) (S : w_S) (x : Int32) : (wM A B S).set 0 (A 0, .inr (7, (fsM0 A S).set 46 (.int x))) = wM A B (sI S 22 x) := rfl
theorem tM_1 (A : Nat → Nat) (B : Nat → ClassId) (S : w_S) (f : Nat → Int32) : (wM A B S).set 1 (A 1, .inl (B 1, 27, .inl f)) = wM A B (sA S 0 f) := rfl
theorem tM_2 (A : Nat → Nat) (B : Nat → ClassId) (S : w_S) (f : Nat → Int32) : (wM A B S).set 2 (A 2, .inl (B 1, 27, .inl f)) = wM A B (sA S 1 f) := rfl
theorem tM_3 (A : Nat → Nat) (B : Nat → ClassId) (S : w_S) (f : Nat → Int32) : (wM A B S).set 3 (A 3, .inl (B 1, 27, .inl f)) = wM A B (sA S 2 f) := rfl
theorem tM_4 (A : Nat → Nat) (B : Nat → ClassId) (S : w_S) (f : Nat → Int32) : (wM A B S).set 4 (A 4, .inl (B 1, 6, .inl f)) = wM A B (sA S 3 f) := rfl
theorem tM_5 (A : Nat → Nat) (B : Nat → ClassId) (S : w_S) (f : Nat → Int32) : (wM A B S).set 5 (A 5, .inl (B 1, 6, .inl f)) = wM A B (sA S 4 f) := rfl
theorem tM_6 (A : Nat → Nat) (B : Nat → ClassId) (S : w_S) (f : Nat → Int32) : (wM A B S).set 6 (A 6, .inl (B 1, 6, .inl f)) = wM A B (sA S 5 f) := rfl
theorem tM_7 (A : Nat → Nat) (B : Nat → ClassId) (S : w_S) (f : Nat → Int32) : (wM A B S).set 7 (A 7, .inl (B 1, 6, .inl f)) = wM A B (sA S 6 f) := rfl
theorem tM_8 (A : Nat → Nat) (B : Nat → ClassId) (S : w_S) (f : Nat → Int32) : (wM A B S).set 8 (A 8, .inl (B 0, 200, .inl f)) = wM A B (sA S 7 f) := rfl
theorem tM_9 (A : Nat → Nat) (B : Nat → ClassId) (S : w_S) (f : Nat → Int32) : (wM A B S).set 9 (A 9, .inl (B 1, 9, .inl f)) = wM A B (sA S 8 f) := rfl
theorem tM_10 (A : Nat → Nat) (B : Nat → ClassId) (S : w_S) (f : Nat → Int64) : (wM A B S).set 10 (A 10, .inl (B 2, 72, .inr (.inl f))) = wM A B (sB S 0 f) := rfl
theorem tM_11 (A : Nat → Nat) (B : Nat → ClassId) (S : w_S) (f : Nat → Int32) : (wM A B S).set 11 (A 11, .inl (B 1, 9, .inl f)) = wM A B (sA S 9 f) := rfl
theorem tM_12 (A : Nat → Nat) (B : Nat → ClassId) (S : w_S) (f : Nat → Int32) : (wM A B S).set 12 (A 12, .inl (B 1, 9, .inl f)) = wM A B (sA S 10 f) := rfl
theorem tM_13 (A : Nat → Nat) (B : Nat → ClassId) (S : w_S) (f : Nat → Int64) : (wM A B S).set 13 (A 13, .inl (B 2, 63, .inr (.inl f))) = wM A B (sB S 1 f) := rfl
theorem tM_14 (A : Nat → Nat) (B : Nat → ClassId) (S : w_S) (f : Nat → Int64) : (wM A B S).set 14 (A 14, .inl (B 2, 9, .inr (.inl f))) = wM A B (sB S 2 f) := rfl
theorem tM_15 (A : Nat → Nat) (B : Nat → ClassId) (S : w_S) (f : Nat → Int32) : (wM A B S).set 15 (A 15, .inl (B 1, 9, .inl f)) = wM A B (sA S 11 f) := rfl
theorem tM_16 (A : Nat → Nat) (B : Nat → ClassId) (S : w_S) (f : Nat → Int32) : (wM A B S).set 16 (A 16, .inl (B 1, 4, .inl f)) = wM A B (sA S 12 f) := rfl
theorem tM_17 (A : Nat → Nat) (B : Nat → ClassId) (S : w_S) (f : Nat → Int32) : (wM A B S).set 17 (A 17, .inl (B 1, 4, .inl f)) = wM A B (sA S 13 f) := rfl
theorem tM_18 (A : Nat → Nat) (B : Nat → ClassId) (S : w_S) (f : Nat → Int64) : (wM A B S).set 18 (A 18, .inl (B 2, 160, .inr (.inl f))) = wM A B (sB S 3 f) := rfl
theorem tM_19 (A : Nat → Nat) (B : Nat → ClassId) (S : w_S) (f : Nat → Int64) : (wM A B S).set 19 (A 19, .inl (B 2, 40, .inr (.inl f))) = wM A B (sB S 4 f) := rfl
theorem tM_20 (A : Nat → Nat) (B : Nat → ClassId) (S : w_S) (f : Nat → Int32) : (wM A B S).set 20 (A 20, .inl (B 1, 4, .inl f)) = wM A B (sA S 14 f) := rfl
theorem tM_21 (A : Nat → Nat) (B : Nat → ClassId) (S : w_S) (f : Nat → Int32) : (wM A B S).set 21 (A 21, .inl (B 1, 4, .inl f)) = wM A B (sA S 15 f) := rfl
theorem tM_22 (A : Nat → Nat) (B : Nat → ClassId) (S : w_S) (f : Nat → Int32) : (wM A B S).set 22 (A 22, .inl (B 1, 4, .inl f)) = wM A B (sA S 16 f) := rfl
theorem tM_23 (A : Nat → Nat) (B : Nat → ClassId) (S : w_S) (f : Nat → Int32) : (wM A B S).set 23 (A 23, .inl (B 1, 30, .inl f)) = wM A B (sA S 17 f) := rfl
