def mostR (r : Nat) : Int32 := match r % 5 with | 0 => 10 | 1 => 12 | 2 => 8 | 3 => 10 | _ => 6
def widR (r : Nat) : Int32 := match r % 5 with | 0 => 5 | 1 => 3 | 2 => 3 | 3 => 1 | _ => 2
def lenR (r : Nat) : Nat := match r % 5 with | 0 => 50 | 1 => 36 | 2 => 24 | 3 => 10 | _ => 12
/-- the laws' pool: law i, its heads, starts, steps lie at la (4 i) .. la (4 i + 3) -/
def xPl (K : Nat → ClassId) (la : Nat → Nat) : Nat → List xP → va_W
  | _, [] => []
  | i, p :: ps => (la (4 * i), .inr (4, [.int p.1, .ref (la (4 * i + 1)), .ref (la (4 * i + 2)), .ref (la (4 * i + 3))])) :: (la (4 * i + 1), .inl (K 0, (p.2.1.1, .inl p.2.1.2))) :: (la (4 * i + 2), .inl (K 0, (p.2.2.1.1, .inl p.2.2.1.2))) :: (la (4 * i + 3), .inl (K 0, (p.2.2.2.1, .inl p.2.2.2.2))) :: xPl K la (i + 1) ps
/-- the class's world, by a pure state; other cells behind it; then the laws -/
def CW (K : Nat → ClassId) (ad la : Nat → Nat) (rest : va_W) (σ : xS) : va_W := (ad 0, .inr (11, [.ref (ad 5), .ref (ad 1), .ref (ad 2), .ref (ad 44), .ref (ad 47), .ref (ad 55), .ref (ad 66), .ref (ad 69), .ref (ad 89), .ref (ad 99), .ref (ad 3), .int (sI σ 11), .int (sI σ 12), .int (sI σ 13), .int (sI σ 14), .ref (ad 4)])) :: (ad 1, .inl (K 6, (2, .inr (.inr (.inr (.inr (fun j => some (ad (5 + (1 + j)))))))))) :: (ad 2, .inl (K 2, (2, .inl (sA σ 2)))) :: (ad 3, .inl (K 0, (400, .inl (sA σ 3)))) :: (ad 4, .inl (K 0, (7, .inl (sA σ 4)))) :: (ad 5, .inr (7, [.ref (ad 8), .ref (ad 10), .ref (ad 12), .ref (ad 14), .ref (ad 16), .ref (ad 38), .ref (ad 41), .int (sI σ 87), .int (sI σ 88)])) :: (ad 6, .inr (7, [.ref (ad 18), .ref (ad 20), .ref (ad 22), .ref (ad 24), .ref (ad 26), .ref (ad 39), .ref (ad 42), .int (sI σ 103), .int (sI σ 104)])) :: (ad 7, .inr (7, [.ref (ad 28), .ref (ad 30), .ref (ad 32), .ref (ad 34), .ref (ad 36), .ref (ad 40), .ref (ad 43), .int (sI σ 119), .int (sI σ 120)])) :: (ad 8, .inr (6, [.int 10, .int 5, .ref (ad 9), .int (sI σ 131)])) :: (ad 9, .inl (K 0, (50, .inl (sA σ 9)))) :: (ad 10, .inr (6, [.int 12, .int 3, .ref (ad 11), .int (sI σ 163)])) :: (ad 11, .inl (K 0, (36, .inl (sA σ 11)))) :: (ad 12, .inr (6, [.int 8, .int 3, .ref (ad 13), .int (sI σ 195)])) :: (ad 13, .inl (K 0, (24, .inl (sA σ 13)))) :: (ad 14, .inr (6, [.int 10, .int 1, .ref (ad 15), .int (sI σ 227)])) :: (ad 15, .inl (K 0, (10, .inl (sA σ 15)))) :: (ad 16, .inr (6, [.int 6, .int 2, .ref (ad 17), .int (sI σ 259)])) :: (ad 17, .inl (K 0, (12, .inl (sA σ 17)))) :: (ad 18, .inr (6, [.int 10, .int 5, .ref (ad 19), .int (sI σ 291)])) :: (ad 19, .inl (K 0, (50, .inl (sA σ 19)))) :: (ad 20, .inr (6, [.int 12, .int 3, .ref (ad 21), .int (sI σ 323)])) :: (ad 21, .inl (K 0, (36, .inl (sA σ 21)))) :: (ad 22, .inr (6, [.int 8, .int 3, .ref (ad 23), .int (sI σ 355)])) :: (ad 23, .inl (K 0, (24, .inl (sA σ 23)))) :: (ad 24, .inr (6, [.int 10, .int 1, .ref (ad 25), .int (sI σ 387)])) :: (ad 25, .inl (K 0, (10, .inl (sA σ 25)))) :: (ad 26, .inr (6, [.int 6, .int 2, .ref (ad 27), .int (sI σ 419)])) :: (ad 27, .inl (K 0, (12, .inl (sA σ 27)))) :: (ad 28, .inr (6, [.int 10, .int 5, .ref (ad 29), .int (sI σ 451)])) :: (ad 29, .inl (K 0, (50, .inl (sA σ 29)))) :: (ad 30, .inr (6, [.int 12, .int 3, .ref (ad 31), .int (sI σ 483)])) :: (ad 31, .inl (K 0, (36, .inl (sA σ 31)))) :: (ad 32, .inr (6, [.int 8, .int 3, .ref (ad 33), .int (sI σ 515)])) :: (ad 33, .inl (K 0, (24, .inl (sA σ 33)))) :: (ad 34, .inr (6, [.int 10, .int 1, .ref (ad 35), .int (sI σ 547)])) :: (ad 35, .inl (K 0, (10, .inl (sA σ 35)))) :: (ad 36, .inr (6, [.int 6, .int 2, .ref (ad 37), .int (sI σ 579)])) :: (ad 37, .inl (K 0, (12, .inl (sA σ 37)))) :: (ad 38, .inl (K 0, (6, .inl (sA σ 38)))) :: (ad 39, .inl (K 0, (6, .inl (sA σ 39)))) :: (ad 40, .inl (K 0, (6, .inl (sA σ 40)))) :: (ad 41, .inl (K 3, (6, .inr (.inr (.inr (.inr (fun j => (sQ σ 41 j).map (fun i => la (4 * i))))))))) :: (ad 42, .inl (K 3, (6, .inr (.inr (.inr (.inr (fun j => (sQ σ 42 j).map (fun i => la (4 * i))))))))) :: (ad 43, .inl (K 3, (6, .inr (.inr (.inr (.inr (fun j => (sQ σ 43 j).map (fun i => la (4 * i))))))))) :: (ad 44, .inr (0, [.ref (ad 5), .ref (ad 45), .ref (ad 46), .int (sI σ 707), .long (sJ σ 708)])) :: (ad 45, .inl (K 0, (10, .inl (sA σ 45)))) :: (ad 46, .inl (K 1, (64, .inr (.inl (sL σ 46))))) :: (ad 47, .inr (5, [.ref (ad 51), .ref (ad 48), .ref (ad 49), .ref (ad 50), .int (sI σ 756), .int (sI σ 757), .int (sI σ 758), .int (sI σ 759)])) :: (ad 48, .inl (K 0, (12, .inl (sA σ 48)))) :: (ad 49, .inl (K 0, (13, .inl (sA σ 49)))) :: (ad 50, .inl (K 0, (400, .inl (sA σ 50)))) :: (ad 51, .inr (9, [.ref (ad 52), .ref (ad 53), .ref (ad 54), .int (sI σ 819)])) :: (ad 52, .inl (K 0, (401, .inl (sA σ 52)))) :: (ad 53, .inl (K 0, (401, .inl (sA σ 53)))) :: (ad 54, .inl (K 0, (401, .inl (sA σ 54)))) :: (ad 55, .inr (10, [.ref (ad 5), .ref (ad 44), .ref (ad 56), .ref (ad 57), .ref (ad 64), .ref (ad 65)])) :: (ad 56, .inl (K 0, (21, .inl (sA σ 56)))) :: (ad 57, .inl (K 5, (6, .inr (.inr (.inr (.inr (fun j => some (ad (58 + j))))))))) :: (ad 58, .inl (K 1, (21, .inr (.inl (sL σ 58))))) :: (ad 59, .inl (K 1, (21, .inr (.inl (sL σ 59))))) :: (ad 60, .inl (K 1, (21, .inr (.inl (sL σ 60))))) :: (ad 61, .inl (K 1, (21, .inr (.inl (sL σ 61))))) :: (ad 62, .inl (K 1, (21, .inr (.inl (sL σ 62))))) :: (ad 63, .inl (K 1, (21, .inr (.inl (sL σ 63))))) :: (ad 64, .inl (K 1, (6, .inr (.inl (sL σ 64))))) :: (ad 65, .inl (K 0, (6, .inl (sA σ 65)))) :: (ad 66, .inr (8, [.ref (ad 5), .ref (ad 44), .ref (ad 67), .ref (ad 68), .int (sI σ 1060), .int (sI σ 1061), .int (sI σ 1062)])) :: (ad 67, .inl (K 0, (10, .inl (sA σ 67)))) :: (ad 68, .inl (K 0, (19820, .inl (sA σ 68)))) :: (ad 69, .inr (3, [.ref (ad 5), .ref (ad 44), .ref (ad 70), .ref (ad 79)])) :: (ad 70, .inl (K 4, (8, .inr (.inr (.inr (.inr (fun j => some (ad (71 + j))))))))) :: (ad 71, .inl (K 0, (10, .inl (sA σ 71)))) :: (ad 72, .inl (K 0, (10, .inl (sA σ 72)))) :: (ad 73, .inl (K 0, (10, .inl (sA σ 73)))) :: (ad 74, .inl (K 0, (10, .inl (sA σ 74)))) :: (ad 75, .inl (K 0, (10, .inl (sA σ 75)))) :: (ad 76, .inl (K 0, (10, .inl (sA σ 76)))) :: (ad 77, .inl (K 0, (10, .inl (sA σ 77)))) :: (ad 78, .inl (K 0, (10, .inl (sA σ 78)))) :: (ad 79, .inl (K 4, (9, .inr (.inr (.inr (.inr (fun j => some (ad (80 + j))))))))) :: (ad 80, .inl (K 0, (1024, .inl (sA σ 80)))) :: (ad 81, .inl (K 0, (1024, .inl (sA σ 81)))) :: (ad 82, .inl (K 0, (1024, .inl (sA σ 82)))) :: (ad 83, .inl (K 0, (1024, .inl (sA σ 83)))) :: (ad 84, .inl (K 0, (1024, .inl (sA σ 84)))) :: (ad 85, .inl (K 0, (1024, .inl (sA σ 85)))) :: (ad 86, .inl (K 0, (1024, .inl (sA σ 86)))) :: (ad 87, .inl (K 0, (1024, .inl (sA σ 87)))) :: (ad 88, .inl (K 0, (1024, .inl (sA σ 88)))) :: (ad 89, .inr (1, [.ref (ad 5), .ref (ad 44), .ref (ad 90), .ref (ad 91), .ref (ad 92), .ref (ad 93), .ref (ad 96), .int (sI σ 1431), .int (sI σ 1432), .int (sI σ 1433)])) :: (ad 90, .inl (K 0, (10, .inl (sA σ 90)))) :: (ad 91, .inl (K 0, (10, .inl (sA σ 91)))) :: (ad 92, .inl (K 0, (10, .inl (sA σ 92)))) :: (ad 93, .inl (K 4, (2, .inr (.inr (.inr (.inr (fun j => some (ad (94 + j))))))))) :: (ad 94, .inl (K 0, (21, .inl (sA σ 94)))) :: (ad 95, .inl (K 0, (21, .inl (sA σ 95)))) :: (ad 96, .inl (K 4, (2, .inr (.inr (.inr (.inr (fun j => some (ad (97 + j))))))))) :: (ad 97, .inl (K 0, (21, .inl (sA σ 97)))) :: (ad 98, .inl (K 0, (21, .inl (sA σ 98)))) :: (ad 99, .inr (2, [.ref (ad 5), .ref (ad 44), .ref (ad 89), .ref (ad 100), .ref (ad 101), .int (sI σ 1589), .int (sI σ 1590)])) :: (ad 100, .inl (K 0, (10, .inl (sA σ 100)))) :: (ad 101, .inl (K 0, (10, .inl (sA σ 101)))) :: (rest ++ xPl K la 0 (sP σ))
theorem CW_0 (K : Nat → ClassId) (ad la : Nat → Nat) (rest : va_W) (σ : xS) : (CW K ad la rest σ)[0]? = some (ad 0, .inr (11, [.ref (ad 5), .ref (ad 1), .ref (ad 2), .ref (ad 44), .ref (ad 47), .ref (ad 55), .ref (ad 66), .ref (ad 69), .ref (ad 89), .ref (ad 99), .ref (ad 3), .int (sI σ 11), .int (sI σ 12), .int (sI σ 13), .int (sI σ 14), .ref (ad 4)])) := rfl
theorem CW_1 (K : Nat → ClassId) (ad la : Nat → Nat) (rest : va_W) (σ : xS) : (CW K ad la rest σ)[1]? = some (ad 1, .inl (K 6, (2, .inr (.inr (.inr (.inr (fun j => some (ad (5 + (1 + j)))))))))) := rfl
theorem CW_2 (K : Nat → ClassId) (ad la : Nat → Nat) (rest : va_W) (σ : xS) : (CW K ad la rest σ)[2]? = some (ad 2, .inl (K 2, (2, .inl (sA σ 2)))) := rfl
theorem CW_3 (K : Nat → ClassId) (ad la : Nat → Nat) (rest : va_W) (σ : xS) : (CW K ad la rest σ)[3]? = some (ad 3, .inl (K 0, (400, .inl (sA σ 3)))) := rfl
theorem CW_4 (K : Nat → ClassId) (ad la : Nat → Nat) (rest : va_W) (σ : xS) : (CW K ad la rest σ)[4]? = some (ad 4, .inl (K 0, (7, .inl (sA σ 4)))) := rfl
theorem CW_5 (K : Nat → ClassId) (ad la : Nat → Nat) (rest : va_W) (σ : xS) : (CW K ad la rest σ)[5]? = some (ad 5, .inr (7, [.ref (ad 8), .ref (ad 10), .ref (ad 12), .ref (ad 14), .ref (ad 16), .ref (ad 38), .ref (ad 41), .int (sI σ 87), .int (sI σ 88)])) := rfl
theorem CW_6 (K : Nat → ClassId) (ad la : Nat → Nat) (rest : va_W) (σ : xS) : (CW K ad la rest σ)[6]? = some (ad 6, .inr (7, [.ref (ad 18), .ref (ad 20), .ref (ad 22), .ref (ad 24), .ref (ad 26), .ref (ad 39), .ref (ad 42), .int (sI σ 103), .int (sI σ 104)])) := rfl
theorem CW_7 (K : Nat → ClassId) (ad la : Nat → Nat) (rest : va_W) (σ : xS) : (CW K ad la rest σ)[7]? = some (ad 7, .inr (7, [.ref (ad 28), .ref (ad 30), .ref (ad 32), .ref (ad 34), .ref (ad 36), .ref (ad 40), .ref (ad 43), .int (sI σ 119), .int (sI σ 120)])) := rfl
theorem CW_8 (K : Nat → ClassId) (ad la : Nat → Nat) (rest : va_W) (σ : xS) : (CW K ad la rest σ)[8]? = some (ad 8, .inr (6, [.int 10, .int 5, .ref (ad 9), .int (sI σ 131)])) := rfl
theorem CW_9 (K : Nat → ClassId) (ad la : Nat → Nat) (rest : va_W) (σ : xS) : (CW K ad la rest σ)[9]? = some (ad 9, .inl (K 0, (50, .inl (sA σ 9)))) := rfl
theorem CW_10 (K : Nat → ClassId) (ad la : Nat → Nat) (rest : va_W) (σ : xS) : (CW K ad la rest σ)[10]? = some (ad 10, .inr (6, [.int 12, .int 3, .ref (ad 11), .int (sI σ 163)])) := rfl
theorem CW_11 (K : Nat → ClassId) (ad la : Nat → Nat) (rest : va_W) (σ : xS) : (CW K ad la rest σ)[11]? = some (ad 11, .inl (K 0, (36, .inl (sA σ 11)))) := rfl
theorem CW_12 (K : Nat → ClassId) (ad la : Nat → Nat) (rest : va_W) (σ : xS) : (CW K ad la rest σ)[12]? = some (ad 12, .inr (6, [.int 8, .int 3, .ref (ad 13), .int (sI σ 195)])) := rfl
theorem CW_13 (K : Nat → ClassId) (ad la : Nat → Nat) (rest : va_W) (σ : xS) : (CW K ad la rest σ)[13]? = some (ad 13, .inl (K 0, (24, .inl (sA σ 13)))) := rfl
theorem CW_14 (K : Nat → ClassId) (ad la : Nat → Nat) (rest : va_W) (σ : xS) : (CW K ad la rest σ)[14]? = some (ad 14, .inr (6, [.int 10, .int 1, .ref (ad 15), .int (sI σ 227)])) := rfl
theorem CW_15 (K : Nat → ClassId) (ad la : Nat → Nat) (rest : va_W) (σ : xS) : (CW K ad la rest σ)[15]? = some (ad 15, .inl (K 0, (10, .inl (sA σ 15)))) := rfl
theorem CW_16 (K : Nat → ClassId) (ad la : Nat → Nat) (rest : va_W) (σ : xS) : (CW K ad la rest σ)[16]? = some (ad 16, .inr (6, [.int 6, .int 2, .ref (ad 17), .int (sI σ 259)])) := rfl
theorem CW_17 (K : Nat → ClassId) (ad la : Nat → Nat) (rest : va_W) (σ : xS) : (CW K ad la rest σ)[17]? = some (ad 17, .inl (K 0, (12, .inl (sA σ 17)))) := rfl
theorem CW_18 (K : Nat → ClassId) (ad la : Nat → Nat) (rest : va_W) (σ : xS) : (CW K ad la rest σ)[18]? = some (ad 18, .inr (6, [.int 10, .int 5, .ref (ad 19), .int (sI σ 291)])) := rfl
theorem CW_19 (K : Nat → ClassId) (ad la : Nat → Nat) (rest : va_W) (σ : xS) : (CW K ad la rest σ)[19]? = some (ad 19, .inl (K 0, (50, .inl (sA σ 19)))) := rfl
theorem CW_20 (K : Nat → ClassId) (ad la : Nat → Nat) (rest : va_W) (σ : xS) : (CW K ad la rest σ)[20]? = some (ad 20, .inr (6, [.int 12, .int 3, .ref (ad 21), .int (sI σ 323)])) := rfl
theorem CW_21 (K : Nat → ClassId) (ad la : Nat → Nat) (rest : va_W) (σ : xS) : (CW K ad la rest σ)[21]? = some (ad 21, .inl (K 0, (36, .inl (sA σ 21)))) := rfl
theorem CW_22 (K : Nat → ClassId) (ad la : Nat → Nat) (rest : va_W) (σ : xS) : (CW K ad la rest σ)[22]? = some (ad 22, .inr (6, [.int 8, .int 3, .ref (ad 23), .int (sI σ 355)])) := rfl
theorem CW_23 (K : Nat → ClassId) (ad la : Nat → Nat) (rest : va_W) (σ : xS) : (CW K ad la rest σ)[23]? = some (ad 23, .inl (K 0, (24, .inl (sA σ 23)))) := rfl
theorem CW_24 (K : Nat → ClassId) (ad la : Nat → Nat) (rest : va_W) (σ : xS) : (CW K ad la rest σ)[24]? = some (ad 24, .inr (6, [.int 10, .int 1, .ref (ad 25), .int (sI σ 387)])) := rfl
theorem CW_25 (K : Nat → ClassId) (ad la : Nat → Nat) (rest : va_W) (σ : xS) : (CW K ad la rest σ)[25]? = some (ad 25, .inl (K 0, (10, .inl (sA σ 25)))) := rfl
theorem CW_26 (K : Nat → ClassId) (ad la : Nat → Nat) (rest : va_W) (σ : xS) : (CW K ad la rest σ)[26]? = some (ad 26, .inr (6, [.int 6, .int 2, .ref (ad 27), .int (sI σ 419)])) := rfl
theorem CW_27 (K : Nat → ClassId) (ad la : Nat → Nat) (rest : va_W) (σ : xS) : (CW K ad la rest σ)[27]? = some (ad 27, .inl (K 0, (12, .inl (sA σ 27)))) := rfl
theorem CW_28 (K : Nat → ClassId) (ad la : Nat → Nat) (rest : va_W) (σ : xS) : (CW K ad la rest σ)[28]? = some (ad 28, .inr (6, [.int 10, .int 5, .ref (ad 29), .int (sI σ 451)])) := rfl
theorem CW_29 (K : Nat → ClassId) (ad la : Nat → Nat) (rest : va_W) (σ : xS) : (CW K ad la rest σ)[29]? = some (ad 29, .inl (K 0, (50, .inl (sA σ 29)))) := rfl
theorem CW_30 (K : Nat → ClassId) (ad la : Nat → Nat) (rest : va_W) (σ : xS) : (CW K ad la rest σ)[30]? = some (ad 30, .inr (6, [.int 12, .int 3, .ref (ad 31), .int (sI σ 483)])) := rfl
theorem CW_31 (K : Nat → ClassId) (ad la : Nat → Nat) (rest : va_W) (σ : xS) : (CW K ad la rest σ)[31]? = some (ad 31, .inl (K 0, (36, .inl (sA σ 31)))) := rfl
theorem CW_32 (K : Nat → ClassId) (ad la : Nat → Nat) (rest : va_W) (σ : xS) : (CW K ad la rest σ)[32]? = some (ad 32, .inr (6, [.int 8, .int 3, .ref (ad 33), .int (sI σ 515)])) := rfl
theorem CW_33 (K : Nat → ClassId) (ad la : Nat → Nat) (rest : va_W) (σ : xS) : (CW K ad la rest σ)[33]? = some (ad 33, .inl (K 0, (24, .inl (sA σ 33)))) := rfl
theorem CW_34 (K : Nat → ClassId) (ad la : Nat → Nat) (rest : va_W) (σ : xS) : (CW K ad la rest σ)[34]? = some (ad 34, .inr (6, [.int 10, .int 1, .ref (ad 35), .int (sI σ 547)])) := rfl
theorem CW_35 (K : Nat → ClassId) (ad la : Nat → Nat) (rest : va_W) (σ : xS) : (CW K ad la rest σ)[35]? = some (ad 35, .inl (K 0, (10, .inl (sA σ 35)))) := rfl
theorem CW_36 (K : Nat → ClassId) (ad la : Nat → Nat) (rest : va_W) (σ : xS) : (CW K ad la rest σ)[36]? = some (ad 36, .inr (6, [.int 6, .int 2, .ref (ad 37), .int (sI σ 579)])) := rfl
theorem CW_37 (K : Nat → ClassId) (ad la : Nat → Nat) (rest : va_W) (σ : xS) : (CW K ad la rest σ)[37]? = some (ad 37, .inl (K 0, (12, .inl (sA σ 37)))) := rfl
theorem CW_38 (K : Nat → ClassId) (ad la : Nat → Nat) (rest : va_W) (σ : xS) : (CW K ad la rest σ)[38]? = some (ad 38, .inl (K 0, (6, .inl (sA σ 38)))) := rfl
theorem CW_39 (K : Nat → ClassId) (ad la : Nat → Nat) (rest : va_W) (σ : xS) : (CW K ad la rest σ)[39]? = some (ad 39, .inl (K 0, (6, .inl (sA σ 39)))) := rfl
theorem CW_40 (K : Nat → ClassId) (ad la : Nat → Nat) (rest : va_W) (σ : xS) : (CW K ad la rest σ)[40]? = some (ad 40, .inl (K 0, (6, .inl (sA σ 40)))) := rfl
theorem CW_41 (K : Nat → ClassId) (ad la : Nat → Nat) (rest : va_W) (σ : xS) : (CW K ad la rest σ)[41]? = some (ad 41, .inl (K 3, (6, .inr (.inr (.inr (.inr (fun j => (sQ σ 41 j).map (fun i => la (4 * i))))))))) := rfl
theorem CW_42 (K : Nat → ClassId) (ad la : Nat → Nat) (rest : va_W) (σ : xS) : (CW K ad la rest σ)[42]? = some (ad 42, .inl (K 3, (6, .inr (.inr (.inr (.inr (fun j => (sQ σ 42 j).map (fun i => la (4 * i))))))))) := rfl
theorem CW_43 (K : Nat → ClassId) (ad la : Nat → Nat) (rest : va_W) (σ : xS) : (CW K ad la rest σ)[43]? = some (ad 43, .inl (K 3, (6, .inr (.inr (.inr (.inr (fun j => (sQ σ 43 j).map (fun i => la (4 * i))))))))) := rfl
theorem CW_44 (K : Nat → ClassId) (ad la : Nat → Nat) (rest : va_W) (σ : xS) : (CW K ad la rest σ)[44]? = some (ad 44, .inr (0, [.ref (ad 5), .ref (ad 45), .ref (ad 46), .int (sI σ 707), .long (sJ σ 708)])) := rfl
theorem CW_45 (K : Nat → ClassId) (ad la : Nat → Nat) (rest : va_W) (σ : xS) : (CW K ad la rest σ)[45]? = some (ad 45, .inl (K 0, (10, .inl (sA σ 45)))) := rfl
theorem CW_46 (K : Nat → ClassId) (ad la : Nat → Nat) (rest : va_W) (σ : xS) : (CW K ad la rest σ)[46]? = some (ad 46, .inl (K 1, (64, .inr (.inl (sL σ 46))))) := rfl
theorem CW_47 (K : Nat → ClassId) (ad la : Nat → Nat) (rest : va_W) (σ : xS) : (CW K ad la rest σ)[47]? = some (ad 47, .inr (5, [.ref (ad 51), .ref (ad 48), .ref (ad 49), .ref (ad 50), .int (sI σ 756), .int (sI σ 757), .int (sI σ 758), .int (sI σ 759)])) := rfl
theorem CW_48 (K : Nat → ClassId) (ad la : Nat → Nat) (rest : va_W) (σ : xS) : (CW K ad la rest σ)[48]? = some (ad 48, .inl (K 0, (12, .inl (sA σ 48)))) := rfl
theorem CW_49 (K : Nat → ClassId) (ad la : Nat → Nat) (rest : va_W) (σ : xS) : (CW K ad la rest σ)[49]? = some (ad 49, .inl (K 0, (13, .inl (sA σ 49)))) := rfl
theorem CW_50 (K : Nat → ClassId) (ad la : Nat → Nat) (rest : va_W) (σ : xS) : (CW K ad la rest σ)[50]? = some (ad 50, .inl (K 0, (400, .inl (sA σ 50)))) := rfl
theorem CW_51 (K : Nat → ClassId) (ad la : Nat → Nat) (rest : va_W) (σ : xS) : (CW K ad la rest σ)[51]? = some (ad 51, .inr (9, [.ref (ad 52), .ref (ad 53), .ref (ad 54), .int (sI σ 819)])) := rfl
theorem CW_52 (K : Nat → ClassId) (ad la : Nat → Nat) (rest : va_W) (σ : xS) : (CW K ad la rest σ)[52]? = some (ad 52, .inl (K 0, (401, .inl (sA σ 52)))) := rfl
theorem CW_53 (K : Nat → ClassId) (ad la : Nat → Nat) (rest : va_W) (σ : xS) : (CW K ad la rest σ)[53]? = some (ad 53, .inl (K 0, (401, .inl (sA σ 53)))) := rfl
theorem CW_54 (K : Nat → ClassId) (ad la : Nat → Nat) (rest : va_W) (σ : xS) : (CW K ad la rest σ)[54]? = some (ad 54, .inl (K 0, (401, .inl (sA σ 54)))) := rfl
theorem CW_55 (K : Nat → ClassId) (ad la : Nat → Nat) (rest : va_W) (σ : xS) : (CW K ad la rest σ)[55]? = some (ad 55, .inr (10, [.ref (ad 5), .ref (ad 44), .ref (ad 56), .ref (ad 57), .ref (ad 64), .ref (ad 65)])) := rfl
theorem CW_56 (K : Nat → ClassId) (ad la : Nat → Nat) (rest : va_W) (σ : xS) : (CW K ad la rest σ)[56]? = some (ad 56, .inl (K 0, (21, .inl (sA σ 56)))) := rfl
theorem CW_57 (K : Nat → ClassId) (ad la : Nat → Nat) (rest : va_W) (σ : xS) : (CW K ad la rest σ)[57]? = some (ad 57, .inl (K 5, (6, .inr (.inr (.inr (.inr (fun j => some (ad (58 + j))))))))) := rfl
theorem CW_58 (K : Nat → ClassId) (ad la : Nat → Nat) (rest : va_W) (σ : xS) : (CW K ad la rest σ)[58]? = some (ad 58, .inl (K 1, (21, .inr (.inl (sL σ 58))))) := rfl
theorem CW_59 (K : Nat → ClassId) (ad la : Nat → Nat) (rest : va_W) (σ : xS) : (CW K ad la rest σ)[59]? = some (ad 59, .inl (K 1, (21, .inr (.inl (sL σ 59))))) := rfl
theorem CW_60 (K : Nat → ClassId) (ad la : Nat → Nat) (rest : va_W) (σ : xS) : (CW K ad la rest σ)[60]? = some (ad 60, .inl (K 1, (21, .inr (.inl (sL σ 60))))) := rfl
theorem CW_61 (K : Nat → ClassId) (ad la : Nat → Nat) (rest : va_W) (σ : xS) : (CW K ad la rest σ)[61]? = some (ad 61, .inl (K 1, (21, .inr (.inl (sL σ 61))))) := rfl
theorem CW_62 (K : Nat → ClassId) (ad la : Nat → Nat) (rest : va_W) (σ : xS) : (CW K ad la rest σ)[62]? = some (ad 62, .inl (K 1, (21, .inr (.inl (sL σ 62))))) := rfl
theorem CW_63 (K : Nat → ClassId) (ad la : Nat → Nat) (rest : va_W) (σ : xS) : (CW K ad la rest σ)[63]? = some (ad 63, .inl (K 1, (21, .inr (.inl (sL σ 63))))) := rfl
theorem CW_64 (K : Nat → ClassId) (ad la : Nat → Nat) (rest : va_W) (σ : xS) : (CW K ad la rest σ)[64]? = some (ad 64, .inl (K 1, (6, .inr (.inl (sL σ 64))))) := rfl
theorem CW_65 (K : Nat → ClassId) (ad la : Nat → Nat) (rest : va_W) (σ : xS) : (CW K ad la rest σ)[65]? = some (ad 65, .inl (K 0, (6, .inl (sA σ 65)))) := rfl
theorem CW_66 (K : Nat → ClassId) (ad la : Nat → Nat) (rest : va_W) (σ : xS) : (CW K ad la rest σ)[66]? = some (ad 66, .inr (8, [.ref (ad 5), .ref (ad 44), .ref (ad 67), .ref (ad 68), .int (sI σ 1060), .int (sI σ 1061), .int (sI σ 1062)])) := rfl
theorem CW_67 (K : Nat → ClassId) (ad la : Nat → Nat) (rest : va_W) (σ : xS) : (CW K ad la rest σ)[67]? = some (ad 67, .inl (K 0, (10, .inl (sA σ 67)))) := rfl
theorem CW_68 (K : Nat → ClassId) (ad la : Nat → Nat) (rest : va_W) (σ : xS) : (CW K ad la rest σ)[68]? = some (ad 68, .inl (K 0, (19820, .inl (sA σ 68)))) := rfl
theorem CW_69 (K : Nat → ClassId) (ad la : Nat → Nat) (rest : va_W) (σ : xS) : (CW K ad la rest σ)[69]? = some (ad 69, .inr (3, [.ref (ad 5), .ref (ad 44), .ref (ad 70), .ref (ad 79)])) := rfl
theorem CW_70 (K : Nat → ClassId) (ad la : Nat → Nat) (rest : va_W) (σ : xS) : (CW K ad la rest σ)[70]? = some (ad 70, .inl (K 4, (8, .inr (.inr (.inr (.inr (fun j => some (ad (71 + j))))))))) := rfl
theorem CW_71 (K : Nat → ClassId) (ad la : Nat → Nat) (rest : va_W) (σ : xS) : (CW K ad la rest σ)[71]? = some (ad 71, .inl (K 0, (10, .inl (sA σ 71)))) := rfl
theorem CW_72 (K : Nat → ClassId) (ad la : Nat → Nat) (rest : va_W) (σ : xS) : (CW K ad la rest σ)[72]? = some (ad 72, .inl (K 0, (10, .inl (sA σ 72)))) := rfl
theorem CW_73 (K : Nat → ClassId) (ad la : Nat → Nat) (rest : va_W) (σ : xS) : (CW K ad la rest σ)[73]? = some (ad 73, .inl (K 0, (10, .inl (sA σ 73)))) := rfl
theorem CW_74 (K : Nat → ClassId) (ad la : Nat → Nat) (rest : va_W) (σ : xS) : (CW K ad la rest σ)[74]? = some (ad 74, .inl (K 0, (10, .inl (sA σ 74)))) := rfl
theorem CW_75 (K : Nat → ClassId) (ad la : Nat → Nat) (rest : va_W) (σ : xS) : (CW K ad la rest σ)[75]? = some (ad 75, .inl (K 0, (10, .inl (sA σ 75)))) := rfl
theorem CW_76 (K : Nat → ClassId) (ad la : Nat → Nat) (rest : va_W) (σ : xS) : (CW K ad la rest σ)[76]? = some (ad 76, .inl (K 0, (10, .inl (sA σ 76)))) := rfl
theorem CW_77 (K : Nat → ClassId) (ad la : Nat → Nat) (rest : va_W) (σ : xS) : (CW K ad la rest σ)[77]? = some (ad 77, .inl (K 0, (10, .inl (sA σ 77)))) := rfl
theorem CW_78 (K : Nat → ClassId) (ad la : Nat → Nat) (rest : va_W) (σ : xS) : (CW K ad la rest σ)[78]? = some (ad 78, .inl (K 0, (10, .inl (sA σ 78)))) := rfl
theorem CW_79 (K : Nat → ClassId) (ad la : Nat → Nat) (rest : va_W) (σ : xS) : (CW K ad la rest σ)[79]? = some (ad 79, .inl (K 4, (9, .inr (.inr (.inr (.inr (fun j => some (ad (80 + j))))))))) := rfl
theorem CW_80 (K : Nat → ClassId) (ad la : Nat → Nat) (rest : va_W) (σ : xS) : (CW K ad la rest σ)[80]? = some (ad 80, .inl (K 0, (1024, .inl (sA σ 80)))) := rfl
theorem CW_81 (K : Nat → ClassId) (ad la : Nat → Nat) (rest : va_W) (σ : xS) : (CW K ad la rest σ)[81]? = some (ad 81, .inl (K 0, (1024, .inl (sA σ 81)))) := rfl
theorem CW_82 (K : Nat → ClassId) (ad la : Nat → Nat) (rest : va_W) (σ : xS) : (CW K ad la rest σ)[82]? = some (ad 82, .inl (K 0, (1024, .inl (sA σ 82)))) := rfl
theorem CW_83 (K : Nat → ClassId) (ad la : Nat → Nat) (rest : va_W) (σ : xS) : (CW K ad la rest σ)[83]? = some (ad 83, .inl (K 0, (1024, .inl (sA σ 83)))) := rfl
theorem CW_84 (K : Nat → ClassId) (ad la : Nat → Nat) (rest : va_W) (σ : xS) : (CW K ad la rest σ)[84]? = some (ad 84, .inl (K 0, (1024, .inl (sA σ 84)))) := rfl
theorem CW_85 (K : Nat → ClassId) (ad la : Nat → Nat) (rest : va_W) (σ : xS) : (CW K ad la rest σ)[85]? = some (ad 85, .inl (K 0, (1024, .inl (sA σ 85)))) := rfl
theorem CW_86 (K : Nat → ClassId) (ad la : Nat → Nat) (rest : va_W) (σ : xS) : (CW K ad la rest σ)[86]? = some (ad 86, .inl (K 0, (1024, .inl (sA σ 86)))) := rfl
theorem CW_87 (K : Nat → ClassId) (ad la : Nat → Nat) (rest : va_W) (σ : xS) : (CW K ad la rest σ)[87]? = some (ad 87, .inl (K 0, (1024, .inl (sA σ 87)))) := rfl
theorem CW_88 (K : Nat → ClassId) (ad la : Nat → Nat) (rest : va_W) (σ : xS) : (CW K ad la rest σ)[88]? = some (ad 88, .inl (K 0, (1024, .inl (sA σ 88)))) := rfl
theorem CW_89 (K : Nat → ClassId) (ad la : Nat → Nat) (rest : va_W) (σ : xS) : (CW K ad la rest σ)[89]? = some (ad 89, .inr (1, [.ref (ad 5), .ref (ad 44), .ref (ad 90), .ref (ad 91), .ref (ad 92), .ref (ad 93), .ref (ad 96), .int (sI σ 1431), .int (sI σ 1432), .int (sI σ 1433)])) := rfl
theorem CW_90 (K : Nat → ClassId) (ad la : Nat → Nat) (rest : va_W) (σ : xS) : (CW K ad la rest σ)[90]? = some (ad 90, .inl (K 0, (10, .inl (sA σ 90)))) := rfl
theorem CW_91 (K : Nat → ClassId) (ad la : Nat → Nat) (rest : va_W) (σ : xS) : (CW K ad la rest σ)[91]? = some (ad 91, .inl (K 0, (10, .inl (sA σ 91)))) := rfl
theorem CW_92 (K : Nat → ClassId) (ad la : Nat → Nat) (rest : va_W) (σ : xS) : (CW K ad la rest σ)[92]? = some (ad 92, .inl (K 0, (10, .inl (sA σ 92)))) := rfl
theorem CW_93 (K : Nat → ClassId) (ad la : Nat → Nat) (rest : va_W) (σ : xS) : (CW K ad la rest σ)[93]? = some (ad 93, .inl (K 4, (2, .inr (.inr (.inr (.inr (fun j => some (ad (94 + j))))))))) := rfl
theorem CW_94 (K : Nat → ClassId) (ad la : Nat → Nat) (rest : va_W) (σ : xS) : (CW K ad la rest σ)[94]? = some (ad 94, .inl (K 0, (21, .inl (sA σ 94)))) := rfl
theorem CW_95 (K : Nat → ClassId) (ad la : Nat → Nat) (rest : va_W) (σ : xS) : (CW K ad la rest σ)[95]? = some (ad 95, .inl (K 0, (21, .inl (sA σ 95)))) := rfl
theorem CW_96 (K : Nat → ClassId) (ad la : Nat → Nat) (rest : va_W) (σ : xS) : (CW K ad la rest σ)[96]? = some (ad 96, .inl (K 4, (2, .inr (.inr (.inr (.inr (fun j => some (ad (97 + j))))))))) := rfl
theorem CW_97 (K : Nat → ClassId) (ad la : Nat → Nat) (rest : va_W) (σ : xS) : (CW K ad la rest σ)[97]? = some (ad 97, .inl (K 0, (21, .inl (sA σ 97)))) := rfl
theorem CW_98 (K : Nat → ClassId) (ad la : Nat → Nat) (rest : va_W) (σ : xS) : (CW K ad la rest σ)[98]? = some (ad 98, .inl (K 0, (21, .inl (sA σ 98)))) := rfl
theorem CW_99 (K : Nat → ClassId) (ad la : Nat → Nat) (rest : va_W) (σ : xS) : (CW K ad la rest σ)[99]? = some (ad 99, .inr (2, [.ref (ad 5), .ref (ad 44), .ref (ad 89), .ref (ad 100), .ref (ad 101), .int (sI σ 1589), .int (sI σ 1590)])) := rfl
theorem CW_100 (K : Nat → ClassId) (ad la : Nat → Nat) (rest : va_W) (σ : xS) : (CW K ad la rest σ)[100]? = some (ad 100, .inl (K 0, (10, .inl (sA σ 100)))) := rfl
theorem CW_101 (K : Nat → ClassId) (ad la : Nat → Nat) (rest : va_W) (σ : xS) : (CW K ad la rest σ)[101]? = some (ad 101, .inl (K 0, (10, .inl (sA σ 101)))) := rfl
theorem CW_s0_11 (K : Nat → ClassId) (ad la : Nat → Nat) (rest : va_W) (σ : xS) (v : Int32) : (CW K ad la rest σ).set 0 (ad 0, .inr (11, [.ref (ad 5), .ref (ad 1), .ref (ad 2), .ref (ad 44), .ref (ad 47), .ref (ad 55), .ref (ad 66), .ref (ad 69), .ref (ad 89), .ref (ad 99), .ref (ad 3), .int (sI σ 11), .int (sI σ 12), .int (sI σ 13), .int (sI σ 14), .ref (ad 4)].set 11 (.int v))) = CW K ad la rest (uI σ 11 v) := rfl
theorem CW_s0_12 (K : Nat → ClassId) (ad la : Nat → Nat) (rest : va_W) (σ : xS) (v : Int32) : (CW K ad la rest σ).set 0 (ad 0, .inr (11, [.ref (ad 5), .ref (ad 1), .ref (ad 2), .ref (ad 44), .ref (ad 47), .ref (ad 55), .ref (ad 66), .ref (ad 69), .ref (ad 89), .ref (ad 99), .ref (ad 3), .int (sI σ 11), .int (sI σ 12), .int (sI σ 13), .int (sI σ 14), .ref (ad 4)].set 12 (.int v))) = CW K ad la rest (uI σ 12 v) := rfl
theorem CW_s0_13 (K : Nat → ClassId) (ad la : Nat → Nat) (rest : va_W) (σ : xS) (v : Int32) : (CW K ad la rest σ).set 0 (ad 0, .inr (11, [.ref (ad 5), .ref (ad 1), .ref (ad 2), .ref (ad 44), .ref (ad 47), .ref (ad 55), .ref (ad 66), .ref (ad 69), .ref (ad 89), .ref (ad 99), .ref (ad 3), .int (sI σ 11), .int (sI σ 12), .int (sI σ 13), .int (sI σ 14), .ref (ad 4)].set 13 (.int v))) = CW K ad la rest (uI σ 13 v) := rfl
theorem CW_s0_14 (K : Nat → ClassId) (ad la : Nat → Nat) (rest : va_W) (σ : xS) (v : Int32) : (CW K ad la rest σ).set 0 (ad 0, .inr (11, [.ref (ad 5), .ref (ad 1), .ref (ad 2), .ref (ad 44), .ref (ad 47), .ref (ad 55), .ref (ad 66), .ref (ad 69), .ref (ad 89), .ref (ad 99), .ref (ad 3), .int (sI σ 11), .int (sI σ 12), .int (sI σ 13), .int (sI σ 14), .ref (ad 4)].set 14 (.int v))) = CW K ad la rest (uI σ 14 v) := rfl
theorem CW_s44_3 (K : Nat → ClassId) (ad la : Nat → Nat) (rest : va_W) (σ : xS) (v : Int32) : (CW K ad la rest σ).set 44 (ad 44, .inr (0, [.ref (ad 5), .ref (ad 45), .ref (ad 46), .int (sI σ 707), .long (sJ σ 708)].set 3 (.int v))) = CW K ad la rest (uI σ 707 v) := rfl
theorem CW_s44_4 (K : Nat → ClassId) (ad la : Nat → Nat) (rest : va_W) (σ : xS) (v : Int64) : (CW K ad la rest σ).set 44 (ad 44, .inr (0, [.ref (ad 5), .ref (ad 45), .ref (ad 46), .int (sI σ 707), .long (sJ σ 708)].set 4 (.long v))) = CW K ad la rest (uJ σ 708 v) := rfl
theorem CW_s47_4 (K : Nat → ClassId) (ad la : Nat → Nat) (rest : va_W) (σ : xS) (v : Int32) : (CW K ad la rest σ).set 47 (ad 47, .inr (5, [.ref (ad 51), .ref (ad 48), .ref (ad 49), .ref (ad 50), .int (sI σ 756), .int (sI σ 757), .int (sI σ 758), .int (sI σ 759)].set 4 (.int v))) = CW K ad la rest (uI σ 756 v) := rfl
theorem CW_s47_5 (K : Nat → ClassId) (ad la : Nat → Nat) (rest : va_W) (σ : xS) (v : Int32) : (CW K ad la rest σ).set 47 (ad 47, .inr (5, [.ref (ad 51), .ref (ad 48), .ref (ad 49), .ref (ad 50), .int (sI σ 756), .int (sI σ 757), .int (sI σ 758), .int (sI σ 759)].set 5 (.int v))) = CW K ad la rest (uI σ 757 v) := rfl
theorem CW_s47_6 (K : Nat → ClassId) (ad la : Nat → Nat) (rest : va_W) (σ : xS) (v : Int32) : (CW K ad la rest σ).set 47 (ad 47, .inr (5, [.ref (ad 51), .ref (ad 48), .ref (ad 49), .ref (ad 50), .int (sI σ 756), .int (sI σ 757), .int (sI σ 758), .int (sI σ 759)].set 6 (.int v))) = CW K ad la rest (uI σ 758 v) := rfl
theorem CW_s47_7 (K : Nat → ClassId) (ad la : Nat → Nat) (rest : va_W) (σ : xS) (v : Int32) : (CW K ad la rest σ).set 47 (ad 47, .inr (5, [.ref (ad 51), .ref (ad 48), .ref (ad 49), .ref (ad 50), .int (sI σ 756), .int (sI σ 757), .int (sI σ 758), .int (sI σ 759)].set 7 (.int v))) = CW K ad la rest (uI σ 759 v) := rfl
theorem CW_s51_3 (K : Nat → ClassId) (ad la : Nat → Nat) (rest : va_W) (σ : xS) (v : Int32) : (CW K ad la rest σ).set 51 (ad 51, .inr (9, [.ref (ad 52), .ref (ad 53), .ref (ad 54), .int (sI σ 819)].set 3 (.int v))) = CW K ad la rest (uI σ 819 v) := rfl
theorem CW_s66_4 (K : Nat → ClassId) (ad la : Nat → Nat) (rest : va_W) (σ : xS) (v : Int32) : (CW K ad la rest σ).set 66 (ad 66, .inr (8, [.ref (ad 5), .ref (ad 44), .ref (ad 67), .ref (ad 68), .int (sI σ 1060), .int (sI σ 1061), .int (sI σ 1062)].set 4 (.int v))) = CW K ad la rest (uI σ 1060 v) := rfl
theorem CW_s66_5 (K : Nat → ClassId) (ad la : Nat → Nat) (rest : va_W) (σ : xS) (v : Int32) : (CW K ad la rest σ).set 66 (ad 66, .inr (8, [.ref (ad 5), .ref (ad 44), .ref (ad 67), .ref (ad 68), .int (sI σ 1060), .int (sI σ 1061), .int (sI σ 1062)].set 5 (.int v))) = CW K ad la rest (uI σ 1061 v) := rfl
theorem CW_s66_6 (K : Nat → ClassId) (ad la : Nat → Nat) (rest : va_W) (σ : xS) (v : Int32) : (CW K ad la rest σ).set 66 (ad 66, .inr (8, [.ref (ad 5), .ref (ad 44), .ref (ad 67), .ref (ad 68), .int (sI σ 1060), .int (sI σ 1061), .int (sI σ 1062)].set 6 (.int v))) = CW K ad la rest (uI σ 1062 v) := rfl
theorem CW_s89_7 (K : Nat → ClassId) (ad la : Nat → Nat) (rest : va_W) (σ : xS) (v : Int32) : (CW K ad la rest σ).set 89 (ad 89, .inr (1, [.ref (ad 5), .ref (ad 44), .ref (ad 90), .ref (ad 91), .ref (ad 92), .ref (ad 93), .ref (ad 96), .int (sI σ 1431), .int (sI σ 1432), .int (sI σ 1433)].set 7 (.int v))) = CW K ad la rest (uI σ 1431 v) := rfl
theorem CW_s89_8 (K : Nat → ClassId) (ad la : Nat → Nat) (rest : va_W) (σ : xS) (v : Int32) : (CW K ad la rest σ).set 89 (ad 89, .inr (1, [.ref (ad 5), .ref (ad 44), .ref (ad 90), .ref (ad 91), .ref (ad 92), .ref (ad 93), .ref (ad 96), .int (sI σ 1431), .int (sI σ 1432), .int (sI σ 1433)].set 8 (.int v))) = CW K ad la rest (uI σ 1432 v) := rfl
theorem CW_s89_9 (K : Nat → ClassId) (ad la : Nat → Nat) (rest : va_W) (σ : xS) (v : Int32) : (CW K ad la rest σ).set 89 (ad 89, .inr (1, [.ref (ad 5), .ref (ad 44), .ref (ad 90), .ref (ad 91), .ref (ad 92), .ref (ad 93), .ref (ad 96), .int (sI σ 1431), .int (sI σ 1432), .int (sI σ 1433)].set 9 (.int v))) = CW K ad la rest (uI σ 1433 v) := rfl
theorem CW_s99_5 (K : Nat → ClassId) (ad la : Nat → Nat) (rest : va_W) (σ : xS) (v : Int32) : (CW K ad la rest σ).set 99 (ad 99, .inr (2, [.ref (ad 5), .ref (ad 44), .ref (ad 89), .ref (ad 100), .ref (ad 101), .int (sI σ 1589), .int (sI σ 1590)].set 5 (.int v))) = CW K ad la rest (uI σ 1589 v) := rfl
theorem CW_s99_6 (K : Nat → ClassId) (ad la : Nat → Nat) (rest : va_W) (σ : xS) (v : Int32) : (CW K ad la rest σ).set 99 (ad 99, .inr (2, [.ref (ad 5), .ref (ad 44), .ref (ad 89), .ref (ad 100), .ref (ad 101), .int (sI σ 1589), .int (sI σ 1590)].set 6 (.int v))) = CW K ad la rest (uI σ 1590 v) := rfl
theorem CW_s5_7 (K : Nat → ClassId) (ad la : Nat → Nat) (rest : va_W) (σ : xS) (v : Int32) : (CW K ad la rest σ).set 5 (ad 5, .inr (7, [.ref (ad 8), .ref (ad 10), .ref (ad 12), .ref (ad 14), .ref (ad 16), .ref (ad 38), .ref (ad 41), .int (sI σ 87), .int (sI σ 88)].set 7 (.int v))) = CW K ad la rest (uI σ 87 v) := rfl
theorem CW_s5_8 (K : Nat → ClassId) (ad la : Nat → Nat) (rest : va_W) (σ : xS) (v : Int32) : (CW K ad la rest σ).set 5 (ad 5, .inr (7, [.ref (ad 8), .ref (ad 10), .ref (ad 12), .ref (ad 14), .ref (ad 16), .ref (ad 38), .ref (ad 41), .int (sI σ 87), .int (sI σ 88)].set 8 (.int v))) = CW K ad la rest (uI σ 88 v) := rfl
theorem CW_s6_7 (K : Nat → ClassId) (ad la : Nat → Nat) (rest : va_W) (σ : xS) (v : Int32) : (CW K ad la rest σ).set 6 (ad 6, .inr (7, [.ref (ad 18), .ref (ad 20), .ref (ad 22), .ref (ad 24), .ref (ad 26), .ref (ad 39), .ref (ad 42), .int (sI σ 103), .int (sI σ 104)].set 7 (.int v))) = CW K ad la rest (uI σ 103 v) := rfl
theorem CW_s6_8 (K : Nat → ClassId) (ad la : Nat → Nat) (rest : va_W) (σ : xS) (v : Int32) : (CW K ad la rest σ).set 6 (ad 6, .inr (7, [.ref (ad 18), .ref (ad 20), .ref (ad 22), .ref (ad 24), .ref (ad 26), .ref (ad 39), .ref (ad 42), .int (sI σ 103), .int (sI σ 104)].set 8 (.int v))) = CW K ad la rest (uI σ 104 v) := rfl
theorem CW_s7_7 (K : Nat → ClassId) (ad la : Nat → Nat) (rest : va_W) (σ : xS) (v : Int32) : (CW K ad la rest σ).set 7 (ad 7, .inr (7, [.ref (ad 28), .ref (ad 30), .ref (ad 32), .ref (ad 34), .ref (ad 36), .ref (ad 40), .ref (ad 43), .int (sI σ 119), .int (sI σ 120)].set 7 (.int v))) = CW K ad la rest (uI σ 119 v) := rfl
theorem CW_s7_8 (K : Nat → ClassId) (ad la : Nat → Nat) (rest : va_W) (σ : xS) (v : Int32) : (CW K ad la rest σ).set 7 (ad 7, .inr (7, [.ref (ad 28), .ref (ad 30), .ref (ad 32), .ref (ad 34), .ref (ad 36), .ref (ad 40), .ref (ad 43), .int (sI σ 119), .int (sI σ 120)].set 8 (.int v))) = CW K ad la rest (uI σ 120 v) := rfl
theorem CW_s8_3 (K : Nat → ClassId) (ad la : Nat → Nat) (rest : va_W) (σ : xS) (v : Int32) : (CW K ad la rest σ).set 8 (ad 8, .inr (6, [.int 10, .int 5, .ref (ad 9), .int (sI σ 131)].set 3 (.int v))) = CW K ad la rest (uI σ 131 v) := rfl
theorem CW_s10_3 (K : Nat → ClassId) (ad la : Nat → Nat) (rest : va_W) (σ : xS) (v : Int32) : (CW K ad la rest σ).set 10 (ad 10, .inr (6, [.int 12, .int 3, .ref (ad 11), .int (sI σ 163)].set 3 (.int v))) = CW K ad la rest (uI σ 163 v) := rfl
theorem CW_s12_3 (K : Nat → ClassId) (ad la : Nat → Nat) (rest : va_W) (σ : xS) (v : Int32) : (CW K ad la rest σ).set 12 (ad 12, .inr (6, [.int 8, .int 3, .ref (ad 13), .int (sI σ 195)].set 3 (.int v))) = CW K ad la rest (uI σ 195 v) := rfl
theorem CW_s14_3 (K : Nat → ClassId) (ad la : Nat → Nat) (rest : va_W) (σ : xS) (v : Int32) : (CW K ad la rest σ).set 14 (ad 14, .inr (6, [.int 10, .int 1, .ref (ad 15), .int (sI σ 227)].set 3 (.int v))) = CW K ad la rest (uI σ 227 v) := rfl
theorem CW_s16_3 (K : Nat → ClassId) (ad la : Nat → Nat) (rest : va_W) (σ : xS) (v : Int32) : (CW K ad la rest σ).set 16 (ad 16, .inr (6, [.int 6, .int 2, .ref (ad 17), .int (sI σ 259)].set 3 (.int v))) = CW K ad la rest (uI σ 259 v) := rfl
theorem CW_s18_3 (K : Nat → ClassId) (ad la : Nat → Nat) (rest : va_W) (σ : xS) (v : Int32) : (CW K ad la rest σ).set 18 (ad 18, .inr (6, [.int 10, .int 5, .ref (ad 19), .int (sI σ 291)].set 3 (.int v))) = CW K ad la rest (uI σ 291 v) := rfl
theorem CW_s20_3 (K : Nat → ClassId) (ad la : Nat → Nat) (rest : va_W) (σ : xS) (v : Int32) : (CW K ad la rest σ).set 20 (ad 20, .inr (6, [.int 12, .int 3, .ref (ad 21), .int (sI σ 323)].set 3 (.int v))) = CW K ad la rest (uI σ 323 v) := rfl
theorem CW_s22_3 (K : Nat → ClassId) (ad la : Nat → Nat) (rest : va_W) (σ : xS) (v : Int32) : (CW K ad la rest σ).set 22 (ad 22, .inr (6, [.int 8, .int 3, .ref (ad 23), .int (sI σ 355)].set 3 (.int v))) = CW K ad la rest (uI σ 355 v) := rfl
theorem CW_s24_3 (K : Nat → ClassId) (ad la : Nat → Nat) (rest : va_W) (σ : xS) (v : Int32) : (CW K ad la rest σ).set 24 (ad 24, .inr (6, [.int 10, .int 1, .ref (ad 25), .int (sI σ 387)].set 3 (.int v))) = CW K ad la rest (uI σ 387 v) := rfl
theorem CW_s26_3 (K : Nat → ClassId) (ad la : Nat → Nat) (rest : va_W) (σ : xS) (v : Int32) : (CW K ad la rest σ).set 26 (ad 26, .inr (6, [.int 6, .int 2, .ref (ad 27), .int (sI σ 419)].set 3 (.int v))) = CW K ad la rest (uI σ 419 v) := rfl
theorem CW_s28_3 (K : Nat → ClassId) (ad la : Nat → Nat) (rest : va_W) (σ : xS) (v : Int32) : (CW K ad la rest σ).set 28 (ad 28, .inr (6, [.int 10, .int 5, .ref (ad 29), .int (sI σ 451)].set 3 (.int v))) = CW K ad la rest (uI σ 451 v) := rfl
theorem CW_s30_3 (K : Nat → ClassId) (ad la : Nat → Nat) (rest : va_W) (σ : xS) (v : Int32) : (CW K ad la rest σ).set 30 (ad 30, .inr (6, [.int 12, .int 3, .ref (ad 31), .int (sI σ 483)].set 3 (.int v))) = CW K ad la rest (uI σ 483 v) := rfl
theorem CW_s32_3 (K : Nat → ClassId) (ad la : Nat → Nat) (rest : va_W) (σ : xS) (v : Int32) : (CW K ad la rest σ).set 32 (ad 32, .inr (6, [.int 8, .int 3, .ref (ad 33), .int (sI σ 515)].set 3 (.int v))) = CW K ad la rest (uI σ 515 v) := rfl
theorem CW_s34_3 (K : Nat → ClassId) (ad la : Nat → Nat) (rest : va_W) (σ : xS) (v : Int32) : (CW K ad la rest σ).set 34 (ad 34, .inr (6, [.int 10, .int 1, .ref (ad 35), .int (sI σ 547)].set 3 (.int v))) = CW K ad la rest (uI σ 547 v) := rfl
theorem CW_s36_3 (K : Nat → ClassId) (ad la : Nat → Nat) (rest : va_W) (σ : xS) (v : Int32) : (CW K ad la rest σ).set 36 (ad 36, .inr (6, [.int 6, .int 2, .ref (ad 37), .int (sI σ 579)].set 3 (.int v))) = CW K ad la rest (uI σ 579 v) := rfl
theorem CW_s2 (K : Nat → ClassId) (ad la : Nat → Nat) (rest : va_W) (σ : xS) (f : Nat → Int32) : (CW K ad la rest σ).set 2 (ad 2, .inl (K 2, (2, .inl f))) = CW K ad la rest (uA σ 2 f) := rfl
theorem CW_s3 (K : Nat → ClassId) (ad la : Nat → Nat) (rest : va_W) (σ : xS) (f : Nat → Int32) : (CW K ad la rest σ).set 3 (ad 3, .inl (K 0, (400, .inl f))) = CW K ad la rest (uA σ 3 f) := rfl
theorem CW_s4 (K : Nat → ClassId) (ad la : Nat → Nat) (rest : va_W) (σ : xS) (f : Nat → Int32) : (CW K ad la rest σ).set 4 (ad 4, .inl (K 0, (7, .inl f))) = CW K ad la rest (uA σ 4 f) := rfl
theorem CW_s38 (K : Nat → ClassId) (ad la : Nat → Nat) (rest : va_W) (σ : xS) (f : Nat → Int32) : (CW K ad la rest σ).set 38 (ad 38, .inl (K 0, (6, .inl f))) = CW K ad la rest (uA σ 38 f) := rfl
theorem CW_s39 (K : Nat → ClassId) (ad la : Nat → Nat) (rest : va_W) (σ : xS) (f : Nat → Int32) : (CW K ad la rest σ).set 39 (ad 39, .inl (K 0, (6, .inl f))) = CW K ad la rest (uA σ 39 f) := rfl
theorem CW_s40 (K : Nat → ClassId) (ad la : Nat → Nat) (rest : va_W) (σ : xS) (f : Nat → Int32) : (CW K ad la rest σ).set 40 (ad 40, .inl (K 0, (6, .inl f))) = CW K ad la rest (uA σ 40 f) := rfl
theorem CW_s45 (K : Nat → ClassId) (ad la : Nat → Nat) (rest : va_W) (σ : xS) (f : Nat → Int32) : (CW K ad la rest σ).set 45 (ad 45, .inl (K 0, (10, .inl f))) = CW K ad la rest (uA σ 45 f) := rfl
theorem CW_s46 (K : Nat → ClassId) (ad la : Nat → Nat) (rest : va_W) (σ : xS) (f : Nat → Int64) : (CW K ad la rest σ).set 46 (ad 46, .inl (K 1, (64, .inr (.inl f)))) = CW K ad la rest (uL σ 46 f) := rfl
theorem CW_s48 (K : Nat → ClassId) (ad la : Nat → Nat) (rest : va_W) (σ : xS) (f : Nat → Int32) : (CW K ad la rest σ).set 48 (ad 48, .inl (K 0, (12, .inl f))) = CW K ad la rest (uA σ 48 f) := rfl
theorem CW_s49 (K : Nat → ClassId) (ad la : Nat → Nat) (rest : va_W) (σ : xS) (f : Nat → Int32) : (CW K ad la rest σ).set 49 (ad 49, .inl (K 0, (13, .inl f))) = CW K ad la rest (uA σ 49 f) := rfl
theorem CW_s50 (K : Nat → ClassId) (ad la : Nat → Nat) (rest : va_W) (σ : xS) (f : Nat → Int32) : (CW K ad la rest σ).set 50 (ad 50, .inl (K 0, (400, .inl f))) = CW K ad la rest (uA σ 50 f) := rfl
theorem CW_s52 (K : Nat → ClassId) (ad la : Nat → Nat) (rest : va_W) (σ : xS) (f : Nat → Int32) : (CW K ad la rest σ).set 52 (ad 52, .inl (K 0, (401, .inl f))) = CW K ad la rest (uA σ 52 f) := rfl
theorem CW_s53 (K : Nat → ClassId) (ad la : Nat → Nat) (rest : va_W) (σ : xS) (f : Nat → Int32) : (CW K ad la rest σ).set 53 (ad 53, .inl (K 0, (401, .inl f))) = CW K ad la rest (uA σ 53 f) := rfl
theorem CW_s54 (K : Nat → ClassId) (ad la : Nat → Nat) (rest : va_W) (σ : xS) (f : Nat → Int32) : (CW K ad la rest σ).set 54 (ad 54, .inl (K 0, (401, .inl f))) = CW K ad la rest (uA σ 54 f) := rfl
theorem CW_s56 (K : Nat → ClassId) (ad la : Nat → Nat) (rest : va_W) (σ : xS) (f : Nat → Int32) : (CW K ad la rest σ).set 56 (ad 56, .inl (K 0, (21, .inl f))) = CW K ad la rest (uA σ 56 f) := rfl
theorem CW_s64 (K : Nat → ClassId) (ad la : Nat → Nat) (rest : va_W) (σ : xS) (f : Nat → Int64) : (CW K ad la rest σ).set 64 (ad 64, .inl (K 1, (6, .inr (.inl f)))) = CW K ad la rest (uL σ 64 f) := rfl
theorem CW_s65 (K : Nat → ClassId) (ad la : Nat → Nat) (rest : va_W) (σ : xS) (f : Nat → Int32) : (CW K ad la rest σ).set 65 (ad 65, .inl (K 0, (6, .inl f))) = CW K ad la rest (uA σ 65 f) := rfl
theorem CW_s67 (K : Nat → ClassId) (ad la : Nat → Nat) (rest : va_W) (σ : xS) (f : Nat → Int32) : (CW K ad la rest σ).set 67 (ad 67, .inl (K 0, (10, .inl f))) = CW K ad la rest (uA σ 67 f) := rfl
theorem CW_s68 (K : Nat → ClassId) (ad la : Nat → Nat) (rest : va_W) (σ : xS) (f : Nat → Int32) : (CW K ad la rest σ).set 68 (ad 68, .inl (K 0, (19820, .inl f))) = CW K ad la rest (uA σ 68 f) := rfl
theorem CW_s90 (K : Nat → ClassId) (ad la : Nat → Nat) (rest : va_W) (σ : xS) (f : Nat → Int32) : (CW K ad la rest σ).set 90 (ad 90, .inl (K 0, (10, .inl f))) = CW K ad la rest (uA σ 90 f) := rfl
theorem CW_s91 (K : Nat → ClassId) (ad la : Nat → Nat) (rest : va_W) (σ : xS) (f : Nat → Int32) : (CW K ad la rest σ).set 91 (ad 91, .inl (K 0, (10, .inl f))) = CW K ad la rest (uA σ 91 f) := rfl
theorem CW_s92 (K : Nat → ClassId) (ad la : Nat → Nat) (rest : va_W) (σ : xS) (f : Nat → Int32) : (CW K ad la rest σ).set 92 (ad 92, .inl (K 0, (10, .inl f))) = CW K ad la rest (uA σ 92 f) := rfl
theorem CW_s100 (K : Nat → ClassId) (ad la : Nat → Nat) (rest : va_W) (σ : xS) (f : Nat → Int32) : (CW K ad la rest σ).set 100 (ad 100, .inl (K 0, (10, .inl f))) = CW K ad la rest (uA σ 100 f) := rfl
theorem CW_s101 (K : Nat → ClassId) (ad la : Nat → Nat) (rest : va_W) (σ : xS) (f : Nat → Int32) : (CW K ad la rest σ).set 101 (ad 101, .inl (K 0, (10, .inl f))) = CW K ad la rest (uA σ 101 f) := rfl
theorem CW_s58 (K : Nat → ClassId) (ad la : Nat → Nat) (rest : va_W) (σ : xS) (f : Nat → Int64) : (CW K ad la rest σ).set 58 (ad 58, .inl (K 1, (21, .inr (.inl f)))) = CW K ad la rest (uL σ 58 f) := rfl
theorem CW_s59 (K : Nat → ClassId) (ad la : Nat → Nat) (rest : va_W) (σ : xS) (f : Nat → Int64) : (CW K ad la rest σ).set 59 (ad 59, .inl (K 1, (21, .inr (.inl f)))) = CW K ad la rest (uL σ 59 f) := rfl
theorem CW_s60 (K : Nat → ClassId) (ad la : Nat → Nat) (rest : va_W) (σ : xS) (f : Nat → Int64) : (CW K ad la rest σ).set 60 (ad 60, .inl (K 1, (21, .inr (.inl f)))) = CW K ad la rest (uL σ 60 f) := rfl
theorem CW_s61 (K : Nat → ClassId) (ad la : Nat → Nat) (rest : va_W) (σ : xS) (f : Nat → Int64) : (CW K ad la rest σ).set 61 (ad 61, .inl (K 1, (21, .inr (.inl f)))) = CW K ad la rest (uL σ 61 f) := rfl
theorem CW_s62 (K : Nat → ClassId) (ad la : Nat → Nat) (rest : va_W) (σ : xS) (f : Nat → Int64) : (CW K ad la rest σ).set 62 (ad 62, .inl (K 1, (21, .inr (.inl f)))) = CW K ad la rest (uL σ 62 f) := rfl
theorem CW_s63 (K : Nat → ClassId) (ad la : Nat → Nat) (rest : va_W) (σ : xS) (f : Nat → Int64) : (CW K ad la rest σ).set 63 (ad 63, .inl (K 1, (21, .inr (.inl f)))) = CW K ad la rest (uL σ 63 f) := rfl
theorem CW_s71 (K : Nat → ClassId) (ad la : Nat → Nat) (rest : va_W) (σ : xS) (f : Nat → Int32) : (CW K ad la rest σ).set 71 (ad 71, .inl (K 0, (10, .inl f))) = CW K ad la rest (uA σ 71 f) := rfl
theorem CW_s72 (K : Nat → ClassId) (ad la : Nat → Nat) (rest : va_W) (σ : xS) (f : Nat → Int32) : (CW K ad la rest σ).set 72 (ad 72, .inl (K 0, (10, .inl f))) = CW K ad la rest (uA σ 72 f) := rfl
theorem CW_s73 (K : Nat → ClassId) (ad la : Nat → Nat) (rest : va_W) (σ : xS) (f : Nat → Int32) : (CW K ad la rest σ).set 73 (ad 73, .inl (K 0, (10, .inl f))) = CW K ad la rest (uA σ 73 f) := rfl
theorem CW_s74 (K : Nat → ClassId) (ad la : Nat → Nat) (rest : va_W) (σ : xS) (f : Nat → Int32) : (CW K ad la rest σ).set 74 (ad 74, .inl (K 0, (10, .inl f))) = CW K ad la rest (uA σ 74 f) := rfl
theorem CW_s75 (K : Nat → ClassId) (ad la : Nat → Nat) (rest : va_W) (σ : xS) (f : Nat → Int32) : (CW K ad la rest σ).set 75 (ad 75, .inl (K 0, (10, .inl f))) = CW K ad la rest (uA σ 75 f) := rfl
theorem CW_s76 (K : Nat → ClassId) (ad la : Nat → Nat) (rest : va_W) (σ : xS) (f : Nat → Int32) : (CW K ad la rest σ).set 76 (ad 76, .inl (K 0, (10, .inl f))) = CW K ad la rest (uA σ 76 f) := rfl
theorem CW_s77 (K : Nat → ClassId) (ad la : Nat → Nat) (rest : va_W) (σ : xS) (f : Nat → Int32) : (CW K ad la rest σ).set 77 (ad 77, .inl (K 0, (10, .inl f))) = CW K ad la rest (uA σ 77 f) := rfl
theorem CW_s78 (K : Nat → ClassId) (ad la : Nat → Nat) (rest : va_W) (σ : xS) (f : Nat → Int32) : (CW K ad la rest σ).set 78 (ad 78, .inl (K 0, (10, .inl f))) = CW K ad la rest (uA σ 78 f) := rfl
theorem CW_s80 (K : Nat → ClassId) (ad la : Nat → Nat) (rest : va_W) (σ : xS) (f : Nat → Int32) : (CW K ad la rest σ).set 80 (ad 80, .inl (K 0, (1024, .inl f))) = CW K ad la rest (uA σ 80 f) := rfl
theorem CW_s81 (K : Nat → ClassId) (ad la : Nat → Nat) (rest : va_W) (σ : xS) (f : Nat → Int32) : (CW K ad la rest σ).set 81 (ad 81, .inl (K 0, (1024, .inl f))) = CW K ad la rest (uA σ 81 f) := rfl
theorem CW_s82 (K : Nat → ClassId) (ad la : Nat → Nat) (rest : va_W) (σ : xS) (f : Nat → Int32) : (CW K ad la rest σ).set 82 (ad 82, .inl (K 0, (1024, .inl f))) = CW K ad la rest (uA σ 82 f) := rfl
theorem CW_s83 (K : Nat → ClassId) (ad la : Nat → Nat) (rest : va_W) (σ : xS) (f : Nat → Int32) : (CW K ad la rest σ).set 83 (ad 83, .inl (K 0, (1024, .inl f))) = CW K ad la rest (uA σ 83 f) := rfl
theorem CW_s84 (K : Nat → ClassId) (ad la : Nat → Nat) (rest : va_W) (σ : xS) (f : Nat → Int32) : (CW K ad la rest σ).set 84 (ad 84, .inl (K 0, (1024, .inl f))) = CW K ad la rest (uA σ 84 f) := rfl
theorem CW_s85 (K : Nat → ClassId) (ad la : Nat → Nat) (rest : va_W) (σ : xS) (f : Nat → Int32) : (CW K ad la rest σ).set 85 (ad 85, .inl (K 0, (1024, .inl f))) = CW K ad la rest (uA σ 85 f) := rfl
theorem CW_s86 (K : Nat → ClassId) (ad la : Nat → Nat) (rest : va_W) (σ : xS) (f : Nat → Int32) : (CW K ad la rest σ).set 86 (ad 86, .inl (K 0, (1024, .inl f))) = CW K ad la rest (uA σ 86 f) := rfl
theorem CW_s87 (K : Nat → ClassId) (ad la : Nat → Nat) (rest : va_W) (σ : xS) (f : Nat → Int32) : (CW K ad la rest σ).set 87 (ad 87, .inl (K 0, (1024, .inl f))) = CW K ad la rest (uA σ 87 f) := rfl
theorem CW_s88 (K : Nat → ClassId) (ad la : Nat → Nat) (rest : va_W) (σ : xS) (f : Nat → Int32) : (CW K ad la rest σ).set 88 (ad 88, .inl (K 0, (1024, .inl f))) = CW K ad la rest (uA σ 88 f) := rfl
theorem CW_s94 (K : Nat → ClassId) (ad la : Nat → Nat) (rest : va_W) (σ : xS) (f : Nat → Int32) : (CW K ad la rest σ).set 94 (ad 94, .inl (K 0, (21, .inl f))) = CW K ad la rest (uA σ 94 f) := rfl
theorem CW_s95 (K : Nat → ClassId) (ad la : Nat → Nat) (rest : va_W) (σ : xS) (f : Nat → Int32) : (CW K ad la rest σ).set 95 (ad 95, .inl (K 0, (21, .inl f))) = CW K ad la rest (uA σ 95 f) := rfl
theorem CW_s97 (K : Nat → ClassId) (ad la : Nat → Nat) (rest : va_W) (σ : xS) (f : Nat → Int32) : (CW K ad la rest σ).set 97 (ad 97, .inl (K 0, (21, .inl f))) = CW K ad la rest (uA σ 97 f) := rfl
theorem CW_s98 (K : Nat → ClassId) (ad la : Nat → Nat) (rest : va_W) (σ : xS) (f : Nat → Int32) : (CW K ad la rest σ).set 98 (ad 98, .inl (K 0, (21, .inl f))) = CW K ad la rest (uA σ 98 f) := rfl
theorem CW_s9 (K : Nat → ClassId) (ad la : Nat → Nat) (rest : va_W) (σ : xS) (f : Nat → Int32) : (CW K ad la rest σ).set 9 (ad 9, .inl (K 0, (50, .inl f))) = CW K ad la rest (uA σ 9 f) := rfl
theorem CW_s11 (K : Nat → ClassId) (ad la : Nat → Nat) (rest : va_W) (σ : xS) (f : Nat → Int32) : (CW K ad la rest σ).set 11 (ad 11, .inl (K 0, (36, .inl f))) = CW K ad la rest (uA σ 11 f) := rfl
theorem CW_s13 (K : Nat → ClassId) (ad la : Nat → Nat) (rest : va_W) (σ : xS) (f : Nat → Int32) : (CW K ad la rest σ).set 13 (ad 13, .inl (K 0, (24, .inl f))) = CW K ad la rest (uA σ 13 f) := rfl
theorem CW_s15 (K : Nat → ClassId) (ad la : Nat → Nat) (rest : va_W) (σ : xS) (f : Nat → Int32) : (CW K ad la rest σ).set 15 (ad 15, .inl (K 0, (10, .inl f))) = CW K ad la rest (uA σ 15 f) := rfl
theorem CW_s17 (K : Nat → ClassId) (ad la : Nat → Nat) (rest : va_W) (σ : xS) (f : Nat → Int32) : (CW K ad la rest σ).set 17 (ad 17, .inl (K 0, (12, .inl f))) = CW K ad la rest (uA σ 17 f) := rfl
theorem CW_s19 (K : Nat → ClassId) (ad la : Nat → Nat) (rest : va_W) (σ : xS) (f : Nat → Int32) : (CW K ad la rest σ).set 19 (ad 19, .inl (K 0, (50, .inl f))) = CW K ad la rest (uA σ 19 f) := rfl
theorem CW_s21 (K : Nat → ClassId) (ad la : Nat → Nat) (rest : va_W) (σ : xS) (f : Nat → Int32) : (CW K ad la rest σ).set 21 (ad 21, .inl (K 0, (36, .inl f))) = CW K ad la rest (uA σ 21 f) := rfl
theorem CW_s23 (K : Nat → ClassId) (ad la : Nat → Nat) (rest : va_W) (σ : xS) (f : Nat → Int32) : (CW K ad la rest σ).set 23 (ad 23, .inl (K 0, (24, .inl f))) = CW K ad la rest (uA σ 23 f) := rfl
theorem CW_s25 (K : Nat → ClassId) (ad la : Nat → Nat) (rest : va_W) (σ : xS) (f : Nat → Int32) : (CW K ad la rest σ).set 25 (ad 25, .inl (K 0, (10, .inl f))) = CW K ad la rest (uA σ 25 f) := rfl
theorem CW_s27 (K : Nat → ClassId) (ad la : Nat → Nat) (rest : va_W) (σ : xS) (f : Nat → Int32) : (CW K ad la rest σ).set 27 (ad 27, .inl (K 0, (12, .inl f))) = CW K ad la rest (uA σ 27 f) := rfl
theorem CW_s29 (K : Nat → ClassId) (ad la : Nat → Nat) (rest : va_W) (σ : xS) (f : Nat → Int32) : (CW K ad la rest σ).set 29 (ad 29, .inl (K 0, (50, .inl f))) = CW K ad la rest (uA σ 29 f) := rfl
theorem CW_s31 (K : Nat → ClassId) (ad la : Nat → Nat) (rest : va_W) (σ : xS) (f : Nat → Int32) : (CW K ad la rest σ).set 31 (ad 31, .inl (K 0, (36, .inl f))) = CW K ad la rest (uA σ 31 f) := rfl
theorem CW_s33 (K : Nat → ClassId) (ad la : Nat → Nat) (rest : va_W) (σ : xS) (f : Nat → Int32) : (CW K ad la rest σ).set 33 (ad 33, .inl (K 0, (24, .inl f))) = CW K ad la rest (uA σ 33 f) := rfl
theorem CW_s35 (K : Nat → ClassId) (ad la : Nat → Nat) (rest : va_W) (σ : xS) (f : Nat → Int32) : (CW K ad la rest σ).set 35 (ad 35, .inl (K 0, (10, .inl f))) = CW K ad la rest (uA σ 35 f) := rfl
theorem CW_s37 (K : Nat → ClassId) (ad la : Nat → Nat) (rest : va_W) (σ : xS) (f : Nat → Int32) : (CW K ad la rest σ).set 37 (ad 37, .inl (K 0, (12, .inl f))) = CW K ad la rest (uA σ 37 f) := rfl
theorem CW_r (K : Nat → ClassId) (ad la : Nat → Nat) (rest : va_W) (σ : xS) : ∀ j : Nat, j < 15 → (CW K ad la rest σ)[8 + 2 * j]? = some (ad (8 + 2 * j), .inr (6, [.int (mostR j), .int (widR j), .ref (ad (9 + 2 * j)), .int (sI σ (16 * (8 + 2 * j) + 3))]))
  | 0, _ => rfl
  | 1, _ => rfl
  | 2, _ => rfl
  | 3, _ => rfl
  | 4, _ => rfl
  | 5, _ => rfl
  | 6, _ => rfl
  | 7, _ => rfl
  | 8, _ => rfl
  | 9, _ => rfl
  | 10, _ => rfl
  | 11, _ => rfl
  | 12, _ => rfl
  | 13, _ => rfl
  | 14, _ => rfl
  | n + 15, h => absurd h (by omega)
theorem CW_rs (K : Nat → ClassId) (ad la : Nat → Nat) (rest : va_W) (σ : xS) (v : Int32) : ∀ j : Nat, j < 15 → (CW K ad la rest σ).set (8 + 2 * j) (ad (8 + 2 * j), .inr (6, [.int (mostR j), .int (widR j), .ref (ad (9 + 2 * j)), .int (sI σ (16 * (8 + 2 * j) + 3))].set 3 (.int v))) = CW K ad la rest (uI σ (16 * (8 + 2 * j) + 3) v)
  | 0, _ => CW_s8_3 K ad la rest σ v
  | 1, _ => CW_s10_3 K ad la rest σ v
  | 2, _ => CW_s12_3 K ad la rest σ v
  | 3, _ => CW_s14_3 K ad la rest σ v
  | 4, _ => CW_s16_3 K ad la rest σ v
  | 5, _ => CW_s18_3 K ad la rest σ v
  | 6, _ => CW_s20_3 K ad la rest σ v
  | 7, _ => CW_s22_3 K ad la rest σ v
  | 8, _ => CW_s24_3 K ad la rest σ v
  | 9, _ => CW_s26_3 K ad la rest σ v
  | 10, _ => CW_s28_3 K ad la rest σ v
  | 11, _ => CW_s30_3 K ad la rest σ v
  | 12, _ => CW_s32_3 K ad la rest σ v
  | 13, _ => CW_s34_3 K ad la rest σ v
  | 14, _ => CW_s36_3 K ad la rest σ v
  | n + 15, h => absurd h (by omega)
theorem CW_rc (K : Nat → ClassId) (ad la : Nat → Nat) (rest : va_W) (σ : xS) : ∀ j : Nat, j < 15 → (CW K ad la rest σ)[9 + 2 * j]? = some (ad (9 + 2 * j), .inl (K 0, (lenR j, .inl (sA σ (9 + 2 * j)))))
  | 0, _ => rfl
  | 1, _ => rfl
  | 2, _ => rfl
  | 3, _ => rfl
  | 4, _ => rfl
  | 5, _ => rfl
  | 6, _ => rfl
  | 7, _ => rfl
  | 8, _ => rfl
  | 9, _ => rfl
  | 10, _ => rfl
  | 11, _ => rfl
  | 12, _ => rfl
  | 13, _ => rfl
  | 14, _ => rfl
  | n + 15, h => absurd h (by omega)
theorem CW_rcs (K : Nat → ClassId) (ad la : Nat → Nat) (rest : va_W) (σ : xS) (f : Nat → Int32) : ∀ j : Nat, j < 15 → (CW K ad la rest σ).set (9 + 2 * j) (ad (9 + 2 * j), .inl (K 0, (lenR j, .inl f))) = CW K ad la rest (uA σ (9 + 2 * j) f)
  | 0, _ => CW_s9 K ad la rest σ f
  | 1, _ => CW_s11 K ad la rest σ f
  | 2, _ => CW_s13 K ad la rest σ f
  | 3, _ => CW_s15 K ad la rest σ f
  | 4, _ => CW_s17 K ad la rest σ f
  | 5, _ => CW_s19 K ad la rest σ f
  | 6, _ => CW_s21 K ad la rest σ f
  | 7, _ => CW_s23 K ad la rest σ f
  | 8, _ => CW_s25 K ad la rest σ f
  | 9, _ => CW_s27 K ad la rest σ f
  | 10, _ => CW_s29 K ad la rest σ f
  | 11, _ => CW_s31 K ad la rest σ f
  | 12, _ => CW_s33 K ad la rest σ f
  | 13, _ => CW_s35 K ad la rest σ f
  | 14, _ => CW_s37 K ad la rest σ f
  | n + 15, h => absurd h (by omega)
theorem CW_t (K : Nat → ClassId) (ad la : Nat → Nat) (rest : va_W) (σ : xS) : ∀ j : Nat, j < 3 → (CW K ad la rest σ)[5 + j]? = some (ad (5 + j), .inr (7, [.ref (ad (8 + 2 * (5 * j))), .ref (ad (8 + 2 * (5 * j + 1))), .ref (ad (8 + 2 * (5 * j + 2))), .ref (ad (8 + 2 * (5 * j + 3))), .ref (ad (8 + 2 * (5 * j + 4))), .ref (ad (38 + j)), .ref (ad (41 + j)), .int (sI σ (16 * (5 + j) + 7)), .int (sI σ (16 * (5 + j) + 8))]))
  | 0, _ => rfl
  | 1, _ => rfl
  | 2, _ => rfl
  | n + 3, h => absurd h (by omega)
theorem CW_ts7 (K : Nat → ClassId) (ad la : Nat → Nat) (rest : va_W) (σ : xS) (v : Int32) : ∀ j : Nat, j < 3 → (CW K ad la rest σ).set (5 + j) (ad (5 + j), .inr (7, [.ref (ad (8 + 2 * (5 * j))), .ref (ad (8 + 2 * (5 * j + 1))), .ref (ad (8 + 2 * (5 * j + 2))), .ref (ad (8 + 2 * (5 * j + 3))), .ref (ad (8 + 2 * (5 * j + 4))), .ref (ad (38 + j)), .ref (ad (41 + j)), .int (sI σ (16 * (5 + j) + 7)), .int (sI σ (16 * (5 + j) + 8))].set 7 (.int v))) = CW K ad la rest (uI σ (16 * (5 + j) + 7) v)
  | 0, _ => CW_s5_7 K ad la rest σ v
  | 1, _ => CW_s6_7 K ad la rest σ v
  | 2, _ => CW_s7_7 K ad la rest σ v
  | n + 3, h => absurd h (by omega)
theorem CW_ts8 (K : Nat → ClassId) (ad la : Nat → Nat) (rest : va_W) (σ : xS) (v : Int32) : ∀ j : Nat, j < 3 → (CW K ad la rest σ).set (5 + j) (ad (5 + j), .inr (7, [.ref (ad (8 + 2 * (5 * j))), .ref (ad (8 + 2 * (5 * j + 1))), .ref (ad (8 + 2 * (5 * j + 2))), .ref (ad (8 + 2 * (5 * j + 3))), .ref (ad (8 + 2 * (5 * j + 4))), .ref (ad (38 + j)), .ref (ad (41 + j)), .int (sI σ (16 * (5 + j) + 7)), .int (sI σ (16 * (5 + j) + 8))].set 8 (.int v))) = CW K ad la rest (uI σ (16 * (5 + j) + 8) v)
  | 0, _ => CW_s5_8 K ad la rest σ v
  | 1, _ => CW_s6_8 K ad la rest σ v
  | 2, _ => CW_s7_8 K ad la rest σ v
  | n + 3, h => absurd h (by omega)
theorem CW_tt (K : Nat → ClassId) (ad la : Nat → Nat) (rest : va_W) (σ : xS) : ∀ j : Nat, j < 3 → (CW K ad la rest σ)[38 + j]? = some (ad (38 + j), .inl (K 0, (6, .inl (sA σ (38 + j)))))
  | 0, _ => rfl
  | 1, _ => rfl
  | 2, _ => rfl
  | n + 3, h => absurd h (by omega)
theorem CW_tts (K : Nat → ClassId) (ad la : Nat → Nat) (rest : va_W) (σ : xS) (f : Nat → Int32) : ∀ j : Nat, j < 3 → (CW K ad la rest σ).set (38 + j) (ad (38 + j), .inl (K 0, (6, .inl f))) = CW K ad la rest (uA σ (38 + j) f)
  | 0, _ => CW_s38 K ad la rest σ f
  | 1, _ => CW_s39 K ad la rest σ f
  | 2, _ => CW_s40 K ad la rest σ f
  | n + 3, h => absurd h (by omega)
theorem CW_tl (K : Nat → ClassId) (ad la : Nat → Nat) (rest : va_W) (σ : xS) : ∀ j : Nat, j < 3 → (CW K ad la rest σ)[41 + j]? = some (ad (41 + j), .inl (K 3, (6, .inr (.inr (.inr (.inr (fun i => (sQ σ (41 + j) i).map (fun i => la (4 * i)))))))))
  | 0, _ => rfl
  | 1, _ => rfl
  | 2, _ => rfl
  | n + 3, h => absurd h (by omega)
theorem CW_q41 (K : Nat → ClassId) (ad la : Nat → Nat) (rest : va_W) (σ : xS) (f : Nat → Option Nat) : (CW K ad la rest σ).set 41 (ad 41, .inl (K 3, (6, .inr (.inr (.inr (.inr (fun j => (f j).map (fun i => la (4 * i))))))))) = CW K ad la rest (uQ σ 41 f) := rfl
theorem CW_q42 (K : Nat → ClassId) (ad la : Nat → Nat) (rest : va_W) (σ : xS) (f : Nat → Option Nat) : (CW K ad la rest σ).set 42 (ad 42, .inl (K 3, (6, .inr (.inr (.inr (.inr (fun j => (f j).map (fun i => la (4 * i))))))))) = CW K ad la rest (uQ σ 42 f) := rfl
theorem CW_q43 (K : Nat → ClassId) (ad la : Nat → Nat) (rest : va_W) (σ : xS) (f : Nat → Option Nat) : (CW K ad la rest σ).set 43 (ad 43, .inl (K 3, (6, .inr (.inr (.inr (.inr (fun j => (f j).map (fun i => la (4 * i))))))))) = CW K ad la rest (uQ σ 43 f) := rfl
theorem CW_tls (K : Nat → ClassId) (ad la : Nat → Nat) (rest : va_W) (σ : xS) (f : Nat → Option Nat) : ∀ j : Nat, j < 3 → (CW K ad la rest σ).set (41 + j) (ad (41 + j), .inl (K 3, (6, .inr (.inr (.inr (.inr (fun i => (f i).map (fun i => la (4 * i))))))))) = CW K ad la rest (uQ σ (41 + j) f)
  | 0, _ => CW_q41 K ad la rest σ f
  | 1, _ => CW_q42 K ad la rest σ f
  | 2, _ => CW_q43 K ad la rest σ f
  | n + 3, h => absurd h (by omega)
theorem CW_i57 (K : Nat → ClassId) (ad la : Nat → Nat) (rest : va_W) (σ : xS) : ∀ j : Nat, j < 6 → (CW K ad la rest σ)[58 + j]? = some (ad (58 + j), .inl (K 1, (21, .inr (.inl (sL σ (58 + j))))))
  | 0, _ => rfl
  | 1, _ => rfl
  | 2, _ => rfl
  | 3, _ => rfl
  | 4, _ => rfl
  | 5, _ => rfl
  | n + 6, h => absurd h (by omega)
theorem CW_is57 (K : Nat → ClassId) (ad la : Nat → Nat) (rest : va_W) (σ : xS) (f : Nat → Int64) : ∀ j : Nat, j < 6 → (CW K ad la rest σ).set (58 + j) (ad (58 + j), .inl (K 1, (21, .inr (.inl f)))) = CW K ad la rest (uL σ (58 + j) f)
  | 0, _ => CW_s58 K ad la rest σ f
  | 1, _ => CW_s59 K ad la rest σ f
  | 2, _ => CW_s60 K ad la rest σ f
  | 3, _ => CW_s61 K ad la rest σ f
  | 4, _ => CW_s62 K ad la rest σ f
  | 5, _ => CW_s63 K ad la rest σ f
  | n + 6, h => absurd h (by omega)
theorem CW_i70 (K : Nat → ClassId) (ad la : Nat → Nat) (rest : va_W) (σ : xS) : ∀ j : Nat, j < 8 → (CW K ad la rest σ)[71 + j]? = some (ad (71 + j), .inl (K 0, (10, .inl (sA σ (71 + j)))))
  | 0, _ => rfl
  | 1, _ => rfl
  | 2, _ => rfl
  | 3, _ => rfl
  | 4, _ => rfl
  | 5, _ => rfl
  | 6, _ => rfl
  | 7, _ => rfl
  | n + 8, h => absurd h (by omega)
theorem CW_is70 (K : Nat → ClassId) (ad la : Nat → Nat) (rest : va_W) (σ : xS) (f : Nat → Int32) : ∀ j : Nat, j < 8 → (CW K ad la rest σ).set (71 + j) (ad (71 + j), .inl (K 0, (10, .inl f))) = CW K ad la rest (uA σ (71 + j) f)
  | 0, _ => CW_s71 K ad la rest σ f
  | 1, _ => CW_s72 K ad la rest σ f
  | 2, _ => CW_s73 K ad la rest σ f
  | 3, _ => CW_s74 K ad la rest σ f
  | 4, _ => CW_s75 K ad la rest σ f
  | 5, _ => CW_s76 K ad la rest σ f
  | 6, _ => CW_s77 K ad la rest σ f
  | 7, _ => CW_s78 K ad la rest σ f
  | n + 8, h => absurd h (by omega)
theorem CW_i79 (K : Nat → ClassId) (ad la : Nat → Nat) (rest : va_W) (σ : xS) : ∀ j : Nat, j < 9 → (CW K ad la rest σ)[80 + j]? = some (ad (80 + j), .inl (K 0, (1024, .inl (sA σ (80 + j)))))
  | 0, _ => rfl
  | 1, _ => rfl
  | 2, _ => rfl
  | 3, _ => rfl
  | 4, _ => rfl
  | 5, _ => rfl
  | 6, _ => rfl
  | 7, _ => rfl
  | 8, _ => rfl
  | n + 9, h => absurd h (by omega)
theorem CW_is79 (K : Nat → ClassId) (ad la : Nat → Nat) (rest : va_W) (σ : xS) (f : Nat → Int32) : ∀ j : Nat, j < 9 → (CW K ad la rest σ).set (80 + j) (ad (80 + j), .inl (K 0, (1024, .inl f))) = CW K ad la rest (uA σ (80 + j) f)
  | 0, _ => CW_s80 K ad la rest σ f
  | 1, _ => CW_s81 K ad la rest σ f
  | 2, _ => CW_s82 K ad la rest σ f
  | 3, _ => CW_s83 K ad la rest σ f
  | 4, _ => CW_s84 K ad la rest σ f
  | 5, _ => CW_s85 K ad la rest σ f
  | 6, _ => CW_s86 K ad la rest σ f
  | 7, _ => CW_s87 K ad la rest σ f
  | 8, _ => CW_s88 K ad la rest σ f
  | n + 9, h => absurd h (by omega)
theorem CW_i93 (K : Nat → ClassId) (ad la : Nat → Nat) (rest : va_W) (σ : xS) : ∀ j : Nat, j < 2 → (CW K ad la rest σ)[94 + j]? = some (ad (94 + j), .inl (K 0, (21, .inl (sA σ (94 + j)))))
  | 0, _ => rfl
  | 1, _ => rfl
  | n + 2, h => absurd h (by omega)
theorem CW_is93 (K : Nat → ClassId) (ad la : Nat → Nat) (rest : va_W) (σ : xS) (f : Nat → Int32) : ∀ j : Nat, j < 2 → (CW K ad la rest σ).set (94 + j) (ad (94 + j), .inl (K 0, (21, .inl f))) = CW K ad la rest (uA σ (94 + j) f)
  | 0, _ => CW_s94 K ad la rest σ f
  | 1, _ => CW_s95 K ad la rest σ f
  | n + 2, h => absurd h (by omega)
theorem CW_i96 (K : Nat → ClassId) (ad la : Nat → Nat) (rest : va_W) (σ : xS) : ∀ j : Nat, j < 2 → (CW K ad la rest σ)[97 + j]? = some (ad (97 + j), .inl (K 0, (21, .inl (sA σ (97 + j)))))
  | 0, _ => rfl
  | 1, _ => rfl
  | n + 2, h => absurd h (by omega)
theorem CW_is96 (K : Nat → ClassId) (ad la : Nat → Nat) (rest : va_W) (σ : xS) (f : Nat → Int32) : ∀ j : Nat, j < 2 → (CW K ad la rest σ).set (97 + j) (ad (97 + j), .inl (K 0, (21, .inl f))) = CW K ad la rest (uA σ (97 + j) f)
  | 0, _ => CW_s97 K ad la rest σ f
  | 1, _ => CW_s98 K ad la rest σ f
  | n + 2, h => absurd h (by omega)
theorem xPl_at (K : Nat → ClassId) (la : Nat → Nat) (c : Nat) (hc : c < 4) : ∀ (ps : List xP) (i0 i : Nat) (p : xP), ps[i]? = some p → (xPl K la i0 ps)[4 * i + c]? = ([(la (4 * (i0 + i)), .inr (4, [.int p.1, .ref (la (4 * (i0 + i) + 1)), .ref (la (4 * (i0 + i) + 2)), .ref (la (4 * (i0 + i) + 3))])), (la (4 * (i0 + i) + 1), .inl (K 0, (p.2.1.1, .inl p.2.1.2))), (la (4 * (i0 + i) + 2), .inl (K 0, (p.2.2.1.1, .inl p.2.2.1.2))), (la (4 * (i0 + i) + 3), .inl (K 0, (p.2.2.2.1, .inl p.2.2.2.2)))] : va_W)[c]? := by
  intro ps
  induction ps with
  | nil => intro i0 i p h; simp at h
  | cons q ps ih =>
    intro i0 i p h
    cases i with
    | zero =>
      cases h
      rcases (show c = 0 ∨ c = 1 ∨ c = 2 ∨ c = 3 by omega) with rfl | rfl | rfl | rfl <;> rfl
    | succ i =>
      have h2 := ih (i0 + 1) i p h
      rw [show i0 + 1 + i = i0 + (i + 1) by omega] at h2
      rw [← h2]
      rw [show 4 * (i + 1) + c = (4 * i + c) + 4 by omega]
      rfl
theorem CW_law0 (K : Nat → ClassId) (ad la : Nat → Nat) (rest : va_W) (σ : xS) {i : Nat} {p : xP} (h : (sP σ)[i]? = some p) : (CW K ad la rest σ)[(rest.length + (4 * i + 0)) + 102]? = some (la (4 * i), .inr (4, [.int p.1, .ref (la (4 * i + 1)), .ref (la (4 * i + 2)), .ref (la (4 * i + 3))])) := by
  have h1 := xPl_at K la 0 (by decide) (sP σ) 0 i p h
  rw [show 0 + i = i by omega] at h1
  show (rest ++ xPl K la 0 (sP σ))[rest.length + (4 * i + 0)]? = _
  rw [List.getElem?_append_right (by omega), show rest.length + (4 * i + 0) - rest.length = 4 * i + 0 by omega, h1]
  rfl
theorem CW_law1 (K : Nat → ClassId) (ad la : Nat → Nat) (rest : va_W) (σ : xS) {i : Nat} {p : xP} (h : (sP σ)[i]? = some p) : (CW K ad la rest σ)[(rest.length + (4 * i + 1)) + 102]? = some (la (4 * i + 1), .inl (K 0, (p.2.1.1, .inl p.2.1.2))) := by
  have h1 := xPl_at K la 1 (by decide) (sP σ) 0 i p h
  rw [show 0 + i = i by omega] at h1
  show (rest ++ xPl K la 0 (sP σ))[rest.length + (4 * i + 1)]? = _
  rw [List.getElem?_append_right (by omega), show rest.length + (4 * i + 1) - rest.length = 4 * i + 1 by omega, h1]
  rfl
theorem CW_law2 (K : Nat → ClassId) (ad la : Nat → Nat) (rest : va_W) (σ : xS) {i : Nat} {p : xP} (h : (sP σ)[i]? = some p) : (CW K ad la rest σ)[(rest.length + (4 * i + 2)) + 102]? = some (la (4 * i + 2), .inl (K 0, (p.2.2.1.1, .inl p.2.2.1.2))) := by
  have h1 := xPl_at K la 2 (by decide) (sP σ) 0 i p h
  rw [show 0 + i = i by omega] at h1
  show (rest ++ xPl K la 0 (sP σ))[rest.length + (4 * i + 2)]? = _
  rw [List.getElem?_append_right (by omega), show rest.length + (4 * i + 2) - rest.length = 4 * i + 2 by omega, h1]
  rfl
theorem CW_law3 (K : Nat → ClassId) (ad la : Nat → Nat) (rest : va_W) (σ : xS) {i : Nat} {p : xP} (h : (sP σ)[i]? = some p) : (CW K ad la rest σ)[(rest.length + (4 * i + 3)) + 102]? = some (la (4 * i + 3), .inl (K 0, (p.2.2.2.1, .inl p.2.2.2.2))) := by
  have h1 := xPl_at K la 3 (by decide) (sP σ) 0 i p h
  rw [show 0 + i = i by omega] at h1
  show (rest ++ xPl K la 0 (sP σ))[rest.length + (4 * i + 3)]? = _
  rw [List.getElem?_append_right (by omega), show rest.length + (4 * i + 3) - rest.length = 4 * i + 3 by omega, h1]
  rfl
theorem fm_X11_11 : xFm 11 11 := ⟨RX11, TX11, 16, rfl, rfl⟩
theorem fm_X11_12 : xFm 11 12 := ⟨RX11, TX11, 16, rfl, rfl⟩
theorem fm_X11_13 : xFm 11 13 := ⟨RX11, TX11, 16, rfl, rfl⟩
theorem fm_X11_14 : xFm 11 14 := ⟨RX11, TX11, 16, rfl, rfl⟩
theorem fm_X0_3 : xFm 0 3 := ⟨RX0, TX0, 5, rfl, rfl⟩
theorem fm_X0_4 : xFm 0 4 := ⟨RX0, TX0, 5, rfl, rfl⟩
theorem fm_X5_4 : xFm 5 4 := ⟨RX5, TX5, 8, rfl, rfl⟩
theorem fm_X5_5 : xFm 5 5 := ⟨RX5, TX5, 8, rfl, rfl⟩
theorem fm_X5_6 : xFm 5 6 := ⟨RX5, TX5, 8, rfl, rfl⟩
theorem fm_X5_7 : xFm 5 7 := ⟨RX5, TX5, 8, rfl, rfl⟩
theorem fm_X9_3 : xFm 9 3 := ⟨RX9, TX9, 4, rfl, rfl⟩
theorem fm_X8_4 : xFm 8 4 := ⟨RX8, TX8, 7, rfl, rfl⟩
theorem fm_X8_5 : xFm 8 5 := ⟨RX8, TX8, 7, rfl, rfl⟩
theorem fm_X8_6 : xFm 8 6 := ⟨RX8, TX8, 7, rfl, rfl⟩
theorem fm_X1_7 : xFm 1 7 := ⟨RX1, TX1, 10, rfl, rfl⟩
theorem fm_X1_8 : xFm 1 8 := ⟨RX1, TX1, 10, rfl, rfl⟩
theorem fm_X1_9 : xFm 1 9 := ⟨RX1, TX1, 10, rfl, rfl⟩
theorem fm_X2_5 : xFm 2 5 := ⟨RX2, TX2, 7, rfl, rfl⟩
theorem fm_X2_6 : xFm 2 6 := ⟨RX2, TX2, 7, rfl, rfl⟩
theorem fm_X7_7 : xFm 7 7 := ⟨RX7, TX7, 9, rfl, rfl⟩
theorem fm_X7_8 : xFm 7 8 := ⟨RX7, TX7, 9, rfl, rfl⟩
theorem fm_X6_3 : xFm 6 3 := ⟨RX6, TX6, 4, rfl, rfl⟩
