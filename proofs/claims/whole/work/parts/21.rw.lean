/-- the reference's fields, by a pure state -/
def rfs (ad : Nat → Nat) (σ : xS) : List Value := [.int (sI σ 0), .int (sI σ 1), .ref (ad 3), .ref (ad 4), .ref (ad 5), .ref (ad 6), .int (sI σ 6), .ref (ad 8), .int (sI σ 8), .int (sI σ 9), .int (sI σ 10), .int (sI σ 11), .long (sJ σ 12), .int (sI σ 13), .int (sI σ 14), .int (sI σ 15), .ref (ad 17), .int (sI σ 17), .ref (ad 19), .ref (ad 20), .int (sI σ 20), .ref (ad 22), .ref (ad 23), .int (sI σ 23), .int (sI σ 24), .ref (ad 26), .ref (ad 27), .int (sI σ 27), .ref (ad 29), .ref (ad 30), .int (sI σ 30), .long (sJ σ 31), .long (sJ σ 32), .int (sI σ 33), .int (sI σ 34), .int (sI σ 35), .ref (ad 37), .ref (ad 38), .ref (ad 39), .ref (ad 40), .ref (ad 41), .int (sI σ 41), .ref (ad 43), .ref (ad 44), .int (sI σ 44), .long (sJ σ 45)]
/-- the reference's world, by a pure state, with any other cells behind it -/
def RW (K : Nat → ClassId) (ad : Nat → Nat) (rest : va_W) (σ : xS) : va_W := (ad 0, .inr (12, rfs ad σ)) :: (ad 3, .inl (K 0, (7, .inl (sA σ 2)))) :: (ad 4, .inl (K 0, (5550, .inl (sA σ 3)))) :: (ad 5, .inl (K 0, (11100, .inl (sA σ 4)))) :: (ad 6, .inl (K 2, (2, .inl (sA σ 5)))) :: (ad 8, .inl (K 0, (400, .inl (sA σ 7)))) :: (ad 17, .inl (K 0, (96, .inl (sA σ 16)))) :: (ad 19, .inl (K 0, (400, .inl (sA σ 18)))) :: (ad 20, .inl (K 0, (400, .inl (sA σ 19)))) :: (ad 22, .inl (K 0, (400, .inl (sA σ 21)))) :: (ad 23, .inl (K 0, (400, .inl (sA σ 22)))) :: (ad 26, .inl (K 1, (10, .inr (.inl (sL σ 25))))) :: (ad 27, .inl (K 1, (4, .inr (.inl (sL σ 26))))) :: (ad 29, .inl (K 1, (13, .inr (.inl (sL σ 28))))) :: (ad 30, .inl (K 1, (400, .inr (.inl (sL σ 29))))) :: (ad 37, .inl (K 1, (168, .inr (.inl (sL σ 36))))) :: (ad 38, .inl (K 0, (168, .inl (sA σ 37)))) :: (ad 39, .inl (K 0, (9216, .inl (sA σ 38)))) :: (ad 40, .inl (K 0, (80, .inl (sA σ 39)))) :: (ad 41, .inl (K 0, (10, .inl (sA σ 40)))) :: (ad 43, .inl (K 0, (10, .inl (sA σ 42)))) :: (ad 44, .inl (K 0, (10, .inl (sA σ 43)))) :: rest
theorem RW_o (K : Nat → ClassId) (ad : Nat → Nat) (rest : va_W) (σ : xS) : (RW K ad rest σ)[0]? = some (ad 0, .inr (12, rfs ad σ)) := rfl
theorem RW_s0 (K : Nat → ClassId) (ad : Nat → Nat) (rest : va_W) (σ : xS) (v : Int32) : (RW K ad rest σ).set 0 (ad 0, .inr (12, (rfs ad σ).set 0 (.int v))) = RW K ad rest (uI σ 0 v) := rfl
theorem RW_s1 (K : Nat → ClassId) (ad : Nat → Nat) (rest : va_W) (σ : xS) (v : Int32) : (RW K ad rest σ).set 0 (ad 0, .inr (12, (rfs ad σ).set 1 (.int v))) = RW K ad rest (uI σ 1 v) := rfl
theorem RW_a2 (K : Nat → ClassId) (ad : Nat → Nat) (rest : va_W) (σ : xS) : (RW K ad rest σ)[1]? = some (ad 3, .inl (K 0, (7, .inl (sA σ 2)))) := rfl
theorem RW_s2 (K : Nat → ClassId) (ad : Nat → Nat) (rest : va_W) (σ : xS) (f : Nat → Int32) : (RW K ad rest σ).set 1 (ad 3, .inl (K 0, (7, .inl f))) = RW K ad rest (uA σ 2 f) := rfl
theorem RW_a3 (K : Nat → ClassId) (ad : Nat → Nat) (rest : va_W) (σ : xS) : (RW K ad rest σ)[2]? = some (ad 4, .inl (K 0, (5550, .inl (sA σ 3)))) := rfl
theorem RW_s3 (K : Nat → ClassId) (ad : Nat → Nat) (rest : va_W) (σ : xS) (f : Nat → Int32) : (RW K ad rest σ).set 2 (ad 4, .inl (K 0, (5550, .inl f))) = RW K ad rest (uA σ 3 f) := rfl
theorem RW_a4 (K : Nat → ClassId) (ad : Nat → Nat) (rest : va_W) (σ : xS) : (RW K ad rest σ)[3]? = some (ad 5, .inl (K 0, (11100, .inl (sA σ 4)))) := rfl
theorem RW_s4 (K : Nat → ClassId) (ad : Nat → Nat) (rest : va_W) (σ : xS) (f : Nat → Int32) : (RW K ad rest σ).set 3 (ad 5, .inl (K 0, (11100, .inl f))) = RW K ad rest (uA σ 4 f) := rfl
theorem RW_a5 (K : Nat → ClassId) (ad : Nat → Nat) (rest : va_W) (σ : xS) : (RW K ad rest σ)[4]? = some (ad 6, .inl (K 2, (2, .inl (sA σ 5)))) := rfl
theorem RW_s5 (K : Nat → ClassId) (ad : Nat → Nat) (rest : va_W) (σ : xS) (f : Nat → Int32) : (RW K ad rest σ).set 4 (ad 6, .inl (K 2, (2, .inl f))) = RW K ad rest (uA σ 5 f) := rfl
theorem RW_s6 (K : Nat → ClassId) (ad : Nat → Nat) (rest : va_W) (σ : xS) (v : Int32) : (RW K ad rest σ).set 0 (ad 0, .inr (12, (rfs ad σ).set 6 (.int v))) = RW K ad rest (uI σ 6 v) := rfl
theorem RW_a7 (K : Nat → ClassId) (ad : Nat → Nat) (rest : va_W) (σ : xS) : (RW K ad rest σ)[5]? = some (ad 8, .inl (K 0, (400, .inl (sA σ 7)))) := rfl
theorem RW_s7 (K : Nat → ClassId) (ad : Nat → Nat) (rest : va_W) (σ : xS) (f : Nat → Int32) : (RW K ad rest σ).set 5 (ad 8, .inl (K 0, (400, .inl f))) = RW K ad rest (uA σ 7 f) := rfl
theorem RW_s8 (K : Nat → ClassId) (ad : Nat → Nat) (rest : va_W) (σ : xS) (v : Int32) : (RW K ad rest σ).set 0 (ad 0, .inr (12, (rfs ad σ).set 8 (.int v))) = RW K ad rest (uI σ 8 v) := rfl
theorem RW_s9 (K : Nat → ClassId) (ad : Nat → Nat) (rest : va_W) (σ : xS) (v : Int32) : (RW K ad rest σ).set 0 (ad 0, .inr (12, (rfs ad σ).set 9 (.int v))) = RW K ad rest (uI σ 9 v) := rfl
theorem RW_s10 (K : Nat → ClassId) (ad : Nat → Nat) (rest : va_W) (σ : xS) (v : Int32) : (RW K ad rest σ).set 0 (ad 0, .inr (12, (rfs ad σ).set 10 (.int v))) = RW K ad rest (uI σ 10 v) := rfl
theorem RW_s11 (K : Nat → ClassId) (ad : Nat → Nat) (rest : va_W) (σ : xS) (v : Int32) : (RW K ad rest σ).set 0 (ad 0, .inr (12, (rfs ad σ).set 11 (.int v))) = RW K ad rest (uI σ 11 v) := rfl
theorem RW_s12 (K : Nat → ClassId) (ad : Nat → Nat) (rest : va_W) (σ : xS) (v : Int64) : (RW K ad rest σ).set 0 (ad 0, .inr (12, (rfs ad σ).set 12 (.long v))) = RW K ad rest (uJ σ 12 v) := rfl
theorem RW_s13 (K : Nat → ClassId) (ad : Nat → Nat) (rest : va_W) (σ : xS) (v : Int32) : (RW K ad rest σ).set 0 (ad 0, .inr (12, (rfs ad σ).set 13 (.int v))) = RW K ad rest (uI σ 13 v) := rfl
theorem RW_s14 (K : Nat → ClassId) (ad : Nat → Nat) (rest : va_W) (σ : xS) (v : Int32) : (RW K ad rest σ).set 0 (ad 0, .inr (12, (rfs ad σ).set 14 (.int v))) = RW K ad rest (uI σ 14 v) := rfl
theorem RW_s15 (K : Nat → ClassId) (ad : Nat → Nat) (rest : va_W) (σ : xS) (v : Int32) : (RW K ad rest σ).set 0 (ad 0, .inr (12, (rfs ad σ).set 15 (.int v))) = RW K ad rest (uI σ 15 v) := rfl
theorem RW_a16 (K : Nat → ClassId) (ad : Nat → Nat) (rest : va_W) (σ : xS) : (RW K ad rest σ)[6]? = some (ad 17, .inl (K 0, (96, .inl (sA σ 16)))) := rfl
theorem RW_s16 (K : Nat → ClassId) (ad : Nat → Nat) (rest : va_W) (σ : xS) (f : Nat → Int32) : (RW K ad rest σ).set 6 (ad 17, .inl (K 0, (96, .inl f))) = RW K ad rest (uA σ 16 f) := rfl
theorem RW_s17 (K : Nat → ClassId) (ad : Nat → Nat) (rest : va_W) (σ : xS) (v : Int32) : (RW K ad rest σ).set 0 (ad 0, .inr (12, (rfs ad σ).set 17 (.int v))) = RW K ad rest (uI σ 17 v) := rfl
theorem RW_a18 (K : Nat → ClassId) (ad : Nat → Nat) (rest : va_W) (σ : xS) : (RW K ad rest σ)[7]? = some (ad 19, .inl (K 0, (400, .inl (sA σ 18)))) := rfl
theorem RW_s18 (K : Nat → ClassId) (ad : Nat → Nat) (rest : va_W) (σ : xS) (f : Nat → Int32) : (RW K ad rest σ).set 7 (ad 19, .inl (K 0, (400, .inl f))) = RW K ad rest (uA σ 18 f) := rfl
theorem RW_a19 (K : Nat → ClassId) (ad : Nat → Nat) (rest : va_W) (σ : xS) : (RW K ad rest σ)[8]? = some (ad 20, .inl (K 0, (400, .inl (sA σ 19)))) := rfl
theorem RW_s19 (K : Nat → ClassId) (ad : Nat → Nat) (rest : va_W) (σ : xS) (f : Nat → Int32) : (RW K ad rest σ).set 8 (ad 20, .inl (K 0, (400, .inl f))) = RW K ad rest (uA σ 19 f) := rfl
theorem RW_s20 (K : Nat → ClassId) (ad : Nat → Nat) (rest : va_W) (σ : xS) (v : Int32) : (RW K ad rest σ).set 0 (ad 0, .inr (12, (rfs ad σ).set 20 (.int v))) = RW K ad rest (uI σ 20 v) := rfl
theorem RW_a21 (K : Nat → ClassId) (ad : Nat → Nat) (rest : va_W) (σ : xS) : (RW K ad rest σ)[9]? = some (ad 22, .inl (K 0, (400, .inl (sA σ 21)))) := rfl
theorem RW_s21 (K : Nat → ClassId) (ad : Nat → Nat) (rest : va_W) (σ : xS) (f : Nat → Int32) : (RW K ad rest σ).set 9 (ad 22, .inl (K 0, (400, .inl f))) = RW K ad rest (uA σ 21 f) := rfl
theorem RW_a22 (K : Nat → ClassId) (ad : Nat → Nat) (rest : va_W) (σ : xS) : (RW K ad rest σ)[10]? = some (ad 23, .inl (K 0, (400, .inl (sA σ 22)))) := rfl
theorem RW_s22 (K : Nat → ClassId) (ad : Nat → Nat) (rest : va_W) (σ : xS) (f : Nat → Int32) : (RW K ad rest σ).set 10 (ad 23, .inl (K 0, (400, .inl f))) = RW K ad rest (uA σ 22 f) := rfl
theorem RW_s23 (K : Nat → ClassId) (ad : Nat → Nat) (rest : va_W) (σ : xS) (v : Int32) : (RW K ad rest σ).set 0 (ad 0, .inr (12, (rfs ad σ).set 23 (.int v))) = RW K ad rest (uI σ 23 v) := rfl
theorem RW_s24 (K : Nat → ClassId) (ad : Nat → Nat) (rest : va_W) (σ : xS) (v : Int32) : (RW K ad rest σ).set 0 (ad 0, .inr (12, (rfs ad σ).set 24 (.int v))) = RW K ad rest (uI σ 24 v) := rfl
theorem RW_a25 (K : Nat → ClassId) (ad : Nat → Nat) (rest : va_W) (σ : xS) : (RW K ad rest σ)[11]? = some (ad 26, .inl (K 1, (10, .inr (.inl (sL σ 25))))) := rfl
theorem RW_s25 (K : Nat → ClassId) (ad : Nat → Nat) (rest : va_W) (σ : xS) (f : Nat → Int64) : (RW K ad rest σ).set 11 (ad 26, .inl (K 1, (10, .inr (.inl f)))) = RW K ad rest (uL σ 25 f) := rfl
theorem RW_a26 (K : Nat → ClassId) (ad : Nat → Nat) (rest : va_W) (σ : xS) : (RW K ad rest σ)[12]? = some (ad 27, .inl (K 1, (4, .inr (.inl (sL σ 26))))) := rfl
theorem RW_s26 (K : Nat → ClassId) (ad : Nat → Nat) (rest : va_W) (σ : xS) (f : Nat → Int64) : (RW K ad rest σ).set 12 (ad 27, .inl (K 1, (4, .inr (.inl f)))) = RW K ad rest (uL σ 26 f) := rfl
theorem RW_s27 (K : Nat → ClassId) (ad : Nat → Nat) (rest : va_W) (σ : xS) (v : Int32) : (RW K ad rest σ).set 0 (ad 0, .inr (12, (rfs ad σ).set 27 (.int v))) = RW K ad rest (uI σ 27 v) := rfl
theorem RW_a28 (K : Nat → ClassId) (ad : Nat → Nat) (rest : va_W) (σ : xS) : (RW K ad rest σ)[13]? = some (ad 29, .inl (K 1, (13, .inr (.inl (sL σ 28))))) := rfl
theorem RW_s28 (K : Nat → ClassId) (ad : Nat → Nat) (rest : va_W) (σ : xS) (f : Nat → Int64) : (RW K ad rest σ).set 13 (ad 29, .inl (K 1, (13, .inr (.inl f)))) = RW K ad rest (uL σ 28 f) := rfl
theorem RW_a29 (K : Nat → ClassId) (ad : Nat → Nat) (rest : va_W) (σ : xS) : (RW K ad rest σ)[14]? = some (ad 30, .inl (K 1, (400, .inr (.inl (sL σ 29))))) := rfl
theorem RW_s29 (K : Nat → ClassId) (ad : Nat → Nat) (rest : va_W) (σ : xS) (f : Nat → Int64) : (RW K ad rest σ).set 14 (ad 30, .inl (K 1, (400, .inr (.inl f)))) = RW K ad rest (uL σ 29 f) := rfl
theorem RW_s30 (K : Nat → ClassId) (ad : Nat → Nat) (rest : va_W) (σ : xS) (v : Int32) : (RW K ad rest σ).set 0 (ad 0, .inr (12, (rfs ad σ).set 30 (.int v))) = RW K ad rest (uI σ 30 v) := rfl
theorem RW_s31 (K : Nat → ClassId) (ad : Nat → Nat) (rest : va_W) (σ : xS) (v : Int64) : (RW K ad rest σ).set 0 (ad 0, .inr (12, (rfs ad σ).set 31 (.long v))) = RW K ad rest (uJ σ 31 v) := rfl
theorem RW_s32 (K : Nat → ClassId) (ad : Nat → Nat) (rest : va_W) (σ : xS) (v : Int64) : (RW K ad rest σ).set 0 (ad 0, .inr (12, (rfs ad σ).set 32 (.long v))) = RW K ad rest (uJ σ 32 v) := rfl
theorem RW_s33 (K : Nat → ClassId) (ad : Nat → Nat) (rest : va_W) (σ : xS) (v : Int32) : (RW K ad rest σ).set 0 (ad 0, .inr (12, (rfs ad σ).set 33 (.int v))) = RW K ad rest (uI σ 33 v) := rfl
theorem RW_s34 (K : Nat → ClassId) (ad : Nat → Nat) (rest : va_W) (σ : xS) (v : Int32) : (RW K ad rest σ).set 0 (ad 0, .inr (12, (rfs ad σ).set 34 (.int v))) = RW K ad rest (uI σ 34 v) := rfl
theorem RW_s35 (K : Nat → ClassId) (ad : Nat → Nat) (rest : va_W) (σ : xS) (v : Int32) : (RW K ad rest σ).set 0 (ad 0, .inr (12, (rfs ad σ).set 35 (.int v))) = RW K ad rest (uI σ 35 v) := rfl
theorem RW_a36 (K : Nat → ClassId) (ad : Nat → Nat) (rest : va_W) (σ : xS) : (RW K ad rest σ)[15]? = some (ad 37, .inl (K 1, (168, .inr (.inl (sL σ 36))))) := rfl
theorem RW_s36 (K : Nat → ClassId) (ad : Nat → Nat) (rest : va_W) (σ : xS) (f : Nat → Int64) : (RW K ad rest σ).set 15 (ad 37, .inl (K 1, (168, .inr (.inl f)))) = RW K ad rest (uL σ 36 f) := rfl
theorem RW_a37 (K : Nat → ClassId) (ad : Nat → Nat) (rest : va_W) (σ : xS) : (RW K ad rest σ)[16]? = some (ad 38, .inl (K 0, (168, .inl (sA σ 37)))) := rfl
theorem RW_s37 (K : Nat → ClassId) (ad : Nat → Nat) (rest : va_W) (σ : xS) (f : Nat → Int32) : (RW K ad rest σ).set 16 (ad 38, .inl (K 0, (168, .inl f))) = RW K ad rest (uA σ 37 f) := rfl
theorem RW_a38 (K : Nat → ClassId) (ad : Nat → Nat) (rest : va_W) (σ : xS) : (RW K ad rest σ)[17]? = some (ad 39, .inl (K 0, (9216, .inl (sA σ 38)))) := rfl
theorem RW_s38 (K : Nat → ClassId) (ad : Nat → Nat) (rest : va_W) (σ : xS) (f : Nat → Int32) : (RW K ad rest σ).set 17 (ad 39, .inl (K 0, (9216, .inl f))) = RW K ad rest (uA σ 38 f) := rfl
theorem RW_a39 (K : Nat → ClassId) (ad : Nat → Nat) (rest : va_W) (σ : xS) : (RW K ad rest σ)[18]? = some (ad 40, .inl (K 0, (80, .inl (sA σ 39)))) := rfl
theorem RW_s39 (K : Nat → ClassId) (ad : Nat → Nat) (rest : va_W) (σ : xS) (f : Nat → Int32) : (RW K ad rest σ).set 18 (ad 40, .inl (K 0, (80, .inl f))) = RW K ad rest (uA σ 39 f) := rfl
theorem RW_a40 (K : Nat → ClassId) (ad : Nat → Nat) (rest : va_W) (σ : xS) : (RW K ad rest σ)[19]? = some (ad 41, .inl (K 0, (10, .inl (sA σ 40)))) := rfl
theorem RW_s40 (K : Nat → ClassId) (ad : Nat → Nat) (rest : va_W) (σ : xS) (f : Nat → Int32) : (RW K ad rest σ).set 19 (ad 41, .inl (K 0, (10, .inl f))) = RW K ad rest (uA σ 40 f) := rfl
theorem RW_s41 (K : Nat → ClassId) (ad : Nat → Nat) (rest : va_W) (σ : xS) (v : Int32) : (RW K ad rest σ).set 0 (ad 0, .inr (12, (rfs ad σ).set 41 (.int v))) = RW K ad rest (uI σ 41 v) := rfl
theorem RW_a42 (K : Nat → ClassId) (ad : Nat → Nat) (rest : va_W) (σ : xS) : (RW K ad rest σ)[20]? = some (ad 43, .inl (K 0, (10, .inl (sA σ 42)))) := rfl
theorem RW_s42 (K : Nat → ClassId) (ad : Nat → Nat) (rest : va_W) (σ : xS) (f : Nat → Int32) : (RW K ad rest σ).set 20 (ad 43, .inl (K 0, (10, .inl f))) = RW K ad rest (uA σ 42 f) := rfl
theorem RW_a43 (K : Nat → ClassId) (ad : Nat → Nat) (rest : va_W) (σ : xS) : (RW K ad rest σ)[21]? = some (ad 44, .inl (K 0, (10, .inl (sA σ 43)))) := rfl
theorem RW_s43 (K : Nat → ClassId) (ad : Nat → Nat) (rest : va_W) (σ : xS) (f : Nat → Int32) : (RW K ad rest σ).set 21 (ad 44, .inl (K 0, (10, .inl f))) = RW K ad rest (uA σ 43 f) := rfl
theorem RW_s44 (K : Nat → ClassId) (ad : Nat → Nat) (rest : va_W) (σ : xS) (v : Int32) : (RW K ad rest σ).set 0 (ad 0, .inr (12, (rfs ad σ).set 44 (.int v))) = RW K ad rest (uI σ 44 v) := rfl
theorem RW_s45 (K : Nat → ClassId) (ad : Nat → Nat) (rest : va_W) (σ : xS) (v : Int64) : (RW K ad rest σ).set 0 (ad 0, .inr (12, (rfs ad σ).set 45 (.long v))) = RW K ad rest (uJ σ 45 v) := rfl
theorem fm_X12_0 : xFm 12 0 := ⟨RX12, TX12, 46, rfl, rfl⟩
theorem fm_X12_1 : xFm 12 1 := ⟨RX12, TX12, 46, rfl, rfl⟩
theorem fm_X12_6 : xFm 12 6 := ⟨RX12, TX12, 46, rfl, rfl⟩
theorem fm_X12_8 : xFm 12 8 := ⟨RX12, TX12, 46, rfl, rfl⟩
theorem fm_X12_9 : xFm 12 9 := ⟨RX12, TX12, 46, rfl, rfl⟩
theorem fm_X12_10 : xFm 12 10 := ⟨RX12, TX12, 46, rfl, rfl⟩
theorem fm_X12_11 : xFm 12 11 := ⟨RX12, TX12, 46, rfl, rfl⟩
theorem fm_X12_12 : xFm 12 12 := ⟨RX12, TX12, 46, rfl, rfl⟩
theorem fm_X12_13 : xFm 12 13 := ⟨RX12, TX12, 46, rfl, rfl⟩
theorem fm_X12_14 : xFm 12 14 := ⟨RX12, TX12, 46, rfl, rfl⟩
theorem fm_X12_15 : xFm 12 15 := ⟨RX12, TX12, 46, rfl, rfl⟩
theorem fm_X12_17 : xFm 12 17 := ⟨RX12, TX12, 46, rfl, rfl⟩
theorem fm_X12_20 : xFm 12 20 := ⟨RX12, TX12, 46, rfl, rfl⟩
theorem fm_X12_23 : xFm 12 23 := ⟨RX12, TX12, 46, rfl, rfl⟩
theorem fm_X12_24 : xFm 12 24 := ⟨RX12, TX12, 46, rfl, rfl⟩
theorem fm_X12_27 : xFm 12 27 := ⟨RX12, TX12, 46, rfl, rfl⟩
theorem fm_X12_30 : xFm 12 30 := ⟨RX12, TX12, 46, rfl, rfl⟩
theorem fm_X12_31 : xFm 12 31 := ⟨RX12, TX12, 46, rfl, rfl⟩
theorem fm_X12_32 : xFm 12 32 := ⟨RX12, TX12, 46, rfl, rfl⟩
theorem fm_X12_33 : xFm 12 33 := ⟨RX12, TX12, 46, rfl, rfl⟩
theorem fm_X12_34 : xFm 12 34 := ⟨RX12, TX12, 46, rfl, rfl⟩
theorem fm_X12_35 : xFm 12 35 := ⟨RX12, TX12, 46, rfl, rfl⟩
theorem fm_X12_41 : xFm 12 41 := ⟨RX12, TX12, 46, rfl, rfl⟩
theorem fm_X12_44 : xFm 12 44 := ⟨RX12, TX12, 46, rfl, rfl⟩
theorem fm_X12_45 : xFm 12 45 := ⟨RX12, TX12, 46, rfl, rfl⟩
