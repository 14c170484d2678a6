theorem fj_X5_18 : xF RX5 18 5 1 (.array .int) := ⟨RX5, TX5, 8, tyX5, rfl, by decide, inX5, Or.inl (xT_mem (List.mem_append_right _ (List.mem_of_getElem? (i := 171) (by decide +kernel))) (by decide +kernel)), rfl, tyX5_ok, nmX5, rfl⟩
theorem fj_X5_22 : xF RX5 22 5 2 (.array .int) := ⟨RX5, TX5, 8, tyX5, rfl, by decide, inX5, Or.inl (xT_mem (List.mem_append_right _ (List.mem_of_getElem? (i := 172) (by decide +kernel))) (by decide +kernel)), rfl, tyX5_ok, nmX5, rfl⟩
theorem fj_X5_25 : xF RX5 25 5 3 (.array .int) := ⟨RX5, TX5, 8, tyX5, rfl, by decide, inX5, Or.inl (xT_mem (List.mem_append_right _ (List.mem_of_getElem? (i := 173) (by decide +kernel))) (by decide +kernel)), rfl, tyX5_ok, nmX5, rfl⟩
theorem fj_X5_42 : xF RX5 42 5 6 .int := ⟨RX5, TX5, 8, tyX5, rfl, by decide, inX5, Or.inl (xT_mem (List.mem_append_right _ (List.mem_of_getElem? (i := 176) (by decide +kernel))) (by decide +kernel)), rfl, tyX5_ok, nmX5, rfl⟩
theorem nl_X5_64 : Cond.classLink RX5 64 RX4 ∈ xT ∧ Cond.instantiable RX4 4 ∈ xT ∧ Cond.initialized RX4 ∈ xT := ⟨xT_mem (List.mem_append_right _ (List.mem_of_getElem? (i := 647) (by decide +kernel))) (by decide +kernel), xT_mem (List.mem_append_right _ (List.mem_of_getElem? (i := 648) (by decide +kernel))) (by decide +kernel), xT_mem (List.mem_append_right _ (List.mem_of_getElem? (i := 20) (by decide +kernel))) (by decide +kernel)⟩
theorem mj_X5_66 : xMS RX5 66 yJA_copyOf cJA_copyOf 3 (some (.array .int)) 2 := ⟨⟨Or.inl (xT_mem (List.mem_append_right _ (List.mem_of_getElem? (i := 649) (by decide +kernel))) (by decide +kernel)), xT_mem (List.mem_append_right _ (List.mem_of_getElem? (i := 12) (by decide +kernel))) (by decide +kernel), xT_mem (List.mem_append_right _ (List.mem_of_getElem? (i := 651) (by decide +kernel))) (by decide +kernel), ⟨by decide +kernel, by decide +kernel⟩, by decide +kernel⟩, xT_mem (List.mem_append_right _ (List.mem_of_getElem? (i := 650) (by decide +kernel))) (by decide +kernel)⟩
theorem mi_X5_72 : xMI RX5 72 yX4_init cX4_init 5 4 := ⟨⟨Or.inr ⟨"PencilPrice", xTN_mem (List.mem_append_right _ (List.mem_of_getElem? (i := 661) (by decide +kernel))) (by decide +kernel)⟩, xT_mem (List.mem_append_right _ (List.mem_of_getElem? (i := 20) (by decide +kernel))) (by decide +kernel), xT_mem (List.mem_append_right _ (List.mem_of_getElem? (i := 663) (by decide +kernel))) (by decide +kernel), ⟨by decide +kernel, by decide +kernel⟩, by decide +kernel⟩, xT_mem (List.mem_append_right _ (List.mem_of_getElem? (i := 662) (by decide +kernel))) (by decide +kernel), rfl⟩
def laX (la : Nat → Nat) (n : Nat) (q0 q1 q2 q3 : Nat) : Nat → Nat := fun k => if k < 4 * n then la k else if k = 4 * n then q0 else if k = 4 * n + 1 then q1 else if k = 4 * n + 2 then q2 else q3
theorem laX_lo {la : Nat → Nat} {n q0 q1 q2 q3 k : Nat} (h : k < 4 * n) : laX la n q0 q1 q2 q3 k = la k := if_pos h
theorem laX_0 {la : Nat → Nat} {n q0 q1 q2 q3 : Nat} : laX la n q0 q1 q2 q3 (4 * n) = q0 := by
  unfold laX
  rw [if_neg (by omega), if_pos rfl]
theorem laX_1 {la : Nat → Nat} {n q0 q1 q2 q3 : Nat} : laX la n q0 q1 q2 q3 (4 * n + 1) = q1 := by
  unfold laX
  rw [if_neg (by omega), if_neg (by omega), if_pos rfl]
theorem laX_2 {la : Nat → Nat} {n q0 q1 q2 q3 : Nat} : laX la n q0 q1 q2 q3 (4 * n + 2) = q2 := by
  unfold laX
  rw [if_neg (by omega), if_neg (by omega), if_neg (by omega), if_pos rfl]
theorem laX_3 {la : Nat → Nat} {n q0 q1 q2 q3 : Nat} : laX la n q0 q1 q2 q3 (4 * n + 3) = q3 := by
  unfold laX
  rw [if_neg (by omega), if_neg (by omega), if_neg (by omega), if_neg (by omega)]
theorem xPl_ext (K : Nat → ClassId) (la la2 : Nat → Nat) : ∀ (ps : List xP) (i : Nat), (∀ k, k < 4 * (i + ps.length) → la k = la2 k) → xPl K la i ps = xPl K la2 i ps := by
  intro ps
  induction ps with
  | nil => intro i h; rfl
  | cons p ps ih =>
    intro i h
    have hl : (p :: ps).length = ps.length + 1 := rfl
    rw [hl] at h
    show _ :: _ :: _ :: _ :: xPl K la (i + 1) ps = _ :: _ :: _ :: _ :: xPl K la2 (i + 1) ps
    rw [ih (i + 1) (fun k hk => h k (by omega)), h (4 * i) (by omega), h (4 * i + 1) (by omega), h (4 * i + 2) (by omega), h (4 * i + 3) (by omega)]
theorem xPl_app (K : Nat → ClassId) (la : Nat → Nat) : ∀ (ps qs : List xP) (i : Nat), xPl K la i (ps ++ qs) = xPl K la i ps ++ xPl K la (i + ps.length) qs := by
  intro ps
  induction ps with
  | nil => intro qs i; rfl
  | cons p ps ih =>
    intro qs i
    show _ :: _ :: _ :: _ :: xPl K la (i + 1) (ps ++ qs) = _ :: _ :: _ :: _ :: (xPl K la (i + 1) ps ++ xPl K la (i + (ps.length + 1)) qs)
    rw [ih qs (i + 1), show i + 1 + ps.length = i + (ps.length + 1) by omega]
/-- every law that an array of laws holds is in the pool -/
def qIn (σ : xS) : Prop := ∀ (t j i : Nat), t < 3 → sQ σ (41 + t) j = some i → i < (sP σ).length
theorem qMap {σ : xS} (h : qIn σ) {la la2 : Nat → Nat} (e : ∀ k, k < 4 * (sP σ).length → la k = la2 k) (t : Nat) (ht : t < 3) : (fun j => (sQ σ (41 + t) j).map (fun i => la (4 * i))) = (fun j => (sQ σ (41 + t) j).map (fun i => la2 (4 * i))) := by
  funext j
  cases hq : sQ σ (41 + t) j with
  | none => rfl
  | some i =>
    have hi := h t j i ht hq
    show some (la (4 * i)) = some (la2 (4 * i))
    rw [e (4 * i) (by omega)]
theorem CW_grow (K : Nat → ClassId) (ad la : Nat → Nat) (rest : va_W) (σ : xS) (hq : qIn σ) (p : xP) (q0 q1 q2 q3 : Nat) : CW K ad la rest σ ++ [(q0, .inr (4, [.int p.1, .ref q1, .ref q2, .ref q3])), (q1, .inl (K 0, (p.2.1.1, .inl p.2.1.2))), (q2, .inl (K 0, (p.2.2.1.1, .inl p.2.2.1.2))), (q3, .inl (K 0, (p.2.2.2.1, .inl p.2.2.2.2)))] = CW K ad (laX la (sP σ).length q0 q1 q2 q3) rest (uP σ (sP σ ++ [p])) := by
  have e : ∀ k, k < 4 * (sP σ).length → la k = laX la (sP σ).length q0 q1 q2 q3 k := fun k hk => (laX_lo hk).symm
  have e1 := qMap hq e 0 (by decide)
  have e2 := qMap hq e 1 (by decide)
  have e3 := qMap hq e 2 (by decide)
  have e4 := xPl_ext K la (laX la (sP σ).length q0 q1 q2 q3) (sP σ) 0 (fun k hk => e k (by omega))
  have e5 : xPl K (laX la (sP σ).length q0 q1 q2 q3) 0 (sP σ ++ [p]) = xPl K la 0 (sP σ) ++ [(q0, .inr (4, [.int p.1, .ref q1, .ref q2, .ref q3])), (q1, .inl (K 0, (p.2.1.1, .inl p.2.1.2))), (q2, .inl (K 0, (p.2.2.1.1, .inl p.2.2.1.2))), (q3, .inl (K 0, (p.2.2.2.1, .inl p.2.2.2.2)))] := by
    rw [xPl_app, ← e4, Nat.zero_add]
    refine congrArg (fun x => xPl K la 0 (sP σ) ++ x) ?_
    show [(laX la (sP σ).length q0 q1 q2 q3 (4 * (sP σ).length), (Sum.inr (4, [.int p.1, .ref (laX la (sP σ).length q0 q1 q2 q3 (4 * (sP σ).length + 1)), .ref (laX la (sP σ).length q0 q1 q2 q3 (4 * (sP σ).length + 2)), .ref (laX la (sP σ).length q0 q1 q2 q3 (4 * (sP σ).length + 3))]) : va_E)), (laX la (sP σ).length q0 q1 q2 q3 (4 * (sP σ).length + 1), .inl (K 0, (p.2.1.1, .inl p.2.1.2))), (laX la (sP σ).length q0 q1 q2 q3 (4 * (sP σ).length + 2), .inl (K 0, (p.2.2.1.1, .inl p.2.2.1.2))), (laX la (sP σ).length q0 q1 q2 q3 (4 * (sP σ).length + 3), .inl (K 0, (p.2.2.2.1, .inl p.2.2.2.2)))] = _
    rw [laX_0, laX_1, laX_2, laX_3]
  unfold CW
  show _ = (ad 0, .inr (11, [.ref (ad 5), .ref (ad 1), .ref (ad 2), .ref (ad 44), .ref (ad 47), .ref (ad 55), .ref (ad 66), .ref (ad 69), .ref (ad 89), .ref (ad 99), .ref (ad 3), .int (sI σ 11), .int (sI σ 12), .int (sI σ 13), .int (sI σ 14), .ref (ad 4)])) :: (ad 1, .inl (K 6, (2, .inr (.inr (.inr (.inr (fun j => some (ad (5 + (1 + j)))))))))) :: (ad 2, .inl (K 2, (2, .inl (sA σ 2)))) :: (ad 3, .inl (K 0, (400, .inl (sA σ 3)))) :: (ad 4, .inl (K 0, (7, .inl (sA σ 4)))) :: (ad 5, .inr (7, [.ref (ad 8), .ref (ad 10), .ref (ad 12), .ref (ad 14), .ref (ad 16), .ref (ad 38), .ref (ad 41), .int (sI σ 87), .int (sI σ 88)])) :: (ad 6, .inr (7, [.ref (ad 18), .ref (ad 20), .ref (ad 22), .ref (ad 24), .ref (ad 26), .ref (ad 39), .ref (ad 42), .int (sI σ 103), .int (sI σ 104)])) :: (ad 7, .inr (7, [.ref (ad 28), .ref (ad 30), .ref (ad 32), .ref (ad 34), .ref (ad 36), .ref (ad 40), .ref (ad 43), .int (sI σ 119), .int (sI σ 120)])) :: (ad 8, .inr (6, [.int 10, .int 5, .ref (ad 9), .int (sI σ 131)])) :: (ad 9, .inl (K 0, (50, .inl (sA σ 9)))) :: (ad 10, .inr (6, [.int 12, .int 3, .ref (ad 11), .int (sI σ 163)])) :: (ad 11, .inl (K 0, (36, .inl (sA σ 11)))) :: (ad 12, .inr (6, [.int 8, .int 3, .ref (ad 13), .int (sI σ 195)])) :: (ad 13, .inl (K 0, (24, .inl (sA σ 13)))) :: (ad 14, .inr (6, [.int 10, .int 1, .ref (ad 15), .int (sI σ 227)])) :: (ad 15, .inl (K 0, (10, .inl (sA σ 15)))) :: (ad 16, .inr (6, [.int 6, .int 2, .ref (ad 17), .int (sI σ 259)])) :: (ad 17, .inl (K 0, (12, .inl (sA σ 17)))) :: (ad 18, .inr (6, [.int 10, .int 5, .ref (ad 19), .int (sI σ 291)])) :: (ad 19, .inl (K 0, (50, .inl (sA σ 19)))) :: (ad 20, .inr (6, [.int 12, .int 3, .ref (ad 21), .int (sI σ 323)])) :: (ad 21, .inl (K 0, (36, .inl (sA σ 21)))) :: (ad 22, .inr (6, [.int 8, .int 3, .ref (ad 23), .int (sI σ 355)])) :: (ad 23, .inl (K 0, (24, .inl (sA σ 23)))) :: (ad 24, .inr (6, [.int 10, .int 1, .ref (ad 25), .int (sI σ 387)])) :: (ad 25, .inl (K 0, (10, .inl (sA σ 25)))) :: (ad 26, .inr (6, [.int 6, .int 2, .ref (ad 27), .int (sI σ 419)])) :: (ad 27, .inl (K 0, (12, .inl (sA σ 27)))) :: (ad 28, .inr (6, [.int 10, .int 5, .ref (ad 29), .int (sI σ 451)])) :: (ad 29, .inl (K 0, (50, .inl (sA σ 29)))) :: (ad 30, .inr (6, [.int 12, .int 3, .ref (ad 31), .int (sI σ 483)])) :: (ad 31, .inl (K 0, (36, .inl (sA σ 31)))) :: (ad 32, .inr (6, [.int 8, .int 3, .ref (ad 33), .int (sI σ 515)])) :: (ad 33, .inl (K 0, (24, .inl (sA σ 33)))) :: (ad 34, .inr (6, [.int 10, .int 1, .ref (ad 35), .int (sI σ 547)])) :: (ad 35, .inl (K 0, (10, .inl (sA σ 35)))) :: (ad 36, .inr (6, [.int 6, .int 2, .ref (ad 37), .int (sI σ 579)])) :: (ad 37, .inl (K 0, (12, .inl (sA σ 37)))) :: (ad 38, .inl (K 0, (6, .inl (sA σ 38)))) :: (ad 39, .inl (K 0, (6, .inl (sA σ 39)))) :: (ad 40, .inl (K 0, (6, .inl (sA σ 40)))) :: (ad 41, .inl (K 3, (6, .inr (.inr (.inr (.inr (fun j => (sQ σ (41 + 0) j).map (fun i => laX la (sP σ).length q0 q1 q2 q3 (4 * i))))))))) :: (ad 42, .inl (K 3, (6, .inr (.inr (.inr (.inr (fun j => (sQ σ (41 + 1) j).map (fun i => laX la (sP σ).length q0 q1 q2 q3 (4 * i))))))))) :: (ad 43, .inl (K 3, (6, .inr (.inr (.inr (.inr (fun j => (sQ σ (41 + 2) j).map (fun i => laX la (sP σ).length q0 q1 q2 q3 (4 * i))))))))) :: (ad 44, .inr (0, [.ref (ad 5), .ref (ad 45), .ref (ad 46), .int (sI σ 707), .long (sJ σ 708)])) :: (ad 45, .inl (K 0, (10, .inl (sA σ 45)))) :: (ad 46, .inl (K 1, (64, .inr (.inl (sL σ 46))))) :: (ad 47, .inr (5, [.ref (ad 51), .ref (ad 48), .ref (ad 49), .ref (ad 50), .int (sI σ 756), .int (sI σ 757), .int (sI σ 758), .int (sI σ 759)])) :: (ad 48, .inl (K 0, (12, .inl (sA σ 48)))) :: (ad 49, .inl (K 0, (13, .inl (sA σ 49)))) :: (ad 50, .inl (K 0, (400, .inl (sA σ 50)))) :: (ad 51, .inr (9, [.ref (ad 52), .ref (ad 53), .ref (ad 54), .int (sI σ 819)])) :: (ad 52, .inl (K 0, (401, .inl (sA σ 52)))) :: (ad 53, .inl (K 0, (401, .inl (sA σ 53)))) :: (ad 54, .inl (K 0, (401, .inl (sA σ 54)))) :: (ad 55, .inr (10, [.ref (ad 5), .ref (ad 44), .ref (ad 56), .ref (ad 57), .ref (ad 64), .ref (ad 65)])) :: (ad 56, .inl (K 0, (21, .inl (sA σ 56)))) :: (ad 57, .inl (K 5, (6, .inr (.inr (.inr (.inr (fun j => some (ad (58 + j))))))))) :: (ad 58, .inl (K 1, (21, .inr (.inl (sL σ 58))))) :: (ad 59, .inl (K 1, (21, .inr (.inl (sL σ 59))))) :: (ad 60, .inl (K 1, (21, .inr (.inl (sL σ 60))))) :: (ad 61, .inl (K 1, (21, .inr (.inl (sL σ 61))))) :: (ad 62, .inl (K 1, (21, .inr (.inl (sL σ 62))))) :: (ad 63, .inl (K 1, (21, .inr (.inl (sL σ 63))))) :: (ad 64, .inl (K 1, (6, .inr (.inl (sL σ 64))))) :: (ad 65, .inl (K 0, (6, .inl (sA σ 65)))) :: (ad 66, .inr (8, [.ref (ad 5), .ref (ad 44), .ref (ad 67), .ref (ad 68), .int (sI σ 1060), .int (sI σ 1061), .int (sI σ 1062)])) :: (ad 67, .inl (K 0, (10, .inl (sA σ 67)))) :: (ad 68, .inl (K 0, (19820, .inl (sA σ 68)))) :: (ad 69, .inr (3, [.ref (ad 5), .ref (ad 44), .ref (ad 70), .ref (ad 79)])) :: (ad 70, .inl (K 4, (8, .inr (.inr (.inr (.inr (fun j => some (ad (71 + j))))))))) :: (ad 71, .inl (K 0, (10, .inl (sA σ 71)))) :: (ad 72, .inl (K 0, (10, .inl (sA σ 72)))) :: (ad 73, .inl (K 0, (10, .inl (sA σ 73)))) :: (ad 74, .inl (K 0, (10, .inl (sA σ 74)))) :: (ad 75, .inl (K 0, (10, .inl (sA σ 75)))) :: (ad 76, .inl (K 0, (10, .inl (sA σ 76)))) :: (ad 77, .inl (K 0, (10, .inl (sA σ 77)))) :: (ad 78, .inl (K 0, (10, .inl (sA σ 78)))) :: (ad 79, .inl (K 4, (9, .inr (.inr (.inr (.inr (fun j => some (ad (80 + j))))))))) :: (ad 80, .inl (K 0, (1024, .inl (sA σ 80)))) :: (ad 81, .inl (K 0, (1024, .inl (sA σ 81)))) :: (ad 82, .inl (K 0, (1024, .inl (sA σ 82)))) :: (ad 83, .inl (K 0, (1024, .inl (sA σ 83)))) :: (ad 84, .inl (K 0, (1024, .inl (sA σ 84)))) :: (ad 85, .inl (K 0, (1024, .inl (sA σ 85)))) :: (ad 86, .inl (K 0, (1024, .inl (sA σ 86)))) :: (ad 87, .inl (K 0, (1024, .inl (sA σ 87)))) :: (ad 88, .inl (K 0, (1024, .inl (sA σ 88)))) :: (ad 89, .inr (1, [.ref (ad 5), .ref (ad 44), .ref (ad 90), .ref (ad 91), .ref (ad 92), .ref (ad 93), .ref (ad 96), .int (sI σ 1431), .int (sI σ 1432), .int (sI σ 1433)])) :: (ad 90, .inl (K 0, (10, .inl (sA σ 90)))) :: (ad 91, .inl (K 0, (10, .inl (sA σ 91)))) :: (ad 92, .inl (K 0, (10, .inl (sA σ 92)))) :: (ad 93, .inl (K 4, (2, .inr (.inr (.inr (.inr (fun j => some (ad (94 + j))))))))) :: (ad 94, .inl (K 0, (21, .inl (sA σ 94)))) :: (ad 95, .inl (K 0, (21, .inl (sA σ 95)))) :: (ad 96, .inl (K 4, (2, .inr (.inr (.inr (.inr (fun j => some (ad (97 + j))))))))) :: (ad 97, .inl (K 0, (21, .inl (sA σ 97)))) :: (ad 98, .inl (K 0, (21, .inl (sA σ 98)))) :: (ad 99, .inr (2, [.ref (ad 5), .ref (ad 44), .ref (ad 89), .ref (ad 100), .ref (ad 101), .int (sI σ 1589), .int (sI σ 1590)])) :: (ad 100, .inl (K 0, (10, .inl (sA σ 100)))) :: (ad 101, .inl (K 0, (10, .inl (sA σ 101)))) :: (rest ++ xPl K (laX la (sP σ).length q0 q1 q2 q3) 0 (sP σ ++ [p]))
  rw [e5, ← e1, ← e2, ← e3]
  simp only [List.cons_append, List.append_assoc]
noncomputable def F_X5_made (a1 : Int32) (σ : xS) : Option (Option Nat × xS) := ck 13 a1 (nm (uA σ 49 (upd (sA σ 49) a1.toNatClampNeg (sI σ 758))) fun σ1 => @ite (Option (Option Nat × xS)) (a1 < 0 ∨ 12 < a1 ∨ sI σ1 758 < 0 ∨ 400 < sI σ1 758 ∨ ¬ qIn σ1) (Classical.propDecidable _) none (some (some (sP σ1).length, uP σ1 (sP σ1 ++ [(a1, (a1.toNatClampNeg, sA σ1 48), (a1.toNatClampNeg + 1, sA σ1 49), ((sI σ1 758).toNatClampNeg, sA σ1 50))]))))
set_option maxHeartbeats 4000000 in
set_option maxRecDepth 100000 in
theorem c_X5_made (l : Launch) (D : va_G) (K : Nat → ClassId) (ad la : Nat → Nat) (rest : va_W) (a1 : Int32) (σ : xS) (z : Option Nat × xS) (hF : F_X5_made a1 σ = some z) : CQn l D K yX5_made cX5_made 2 (some (.object "PencilPrice$Law")) 2 80 4 429 [.ref (ad 47), .int a1] (CW K ad la rest σ) (fun la2 => z.1.map (fun i => la2 (4 * i))) (fun la2 => CW K ad la2 rest z.2) := by
  refine x_enterqn [(0, .ref (ad 47)), (1, .int a1)] pnX5 (Nat.le_of_ble_eq_true rfl) rfl ?_
  intro p e s m args below meth c A C
  unfold F_X5_made at hF
  refine x_aload_n C 0 0 dX5_made_0 rfl rfl ?_
  refine x_get C 47 dX5_made_1 fj_X5_22 (CW_47 K ad la rest σ) rfl ?_
  refine x_iload_n C 1 1 dX5_made_4 rfl rfl ?_
  refine x_aload_n C 0 0 dX5_made_5 rfl rfl ?_
  refine x_get C 47 dX5_made_6 fj_X5_42 (CW_47 K ad la rest σ) rfl ?_
  refine x_iast C 49 dX5_made_9 (CW_49 K ad la rest σ) hF (CW_s49 K ad la rest σ _) (fun hF => ?_)
  generalize uA σ 49 (upd (sA σ 49) a1.toNatClampNeg (sI σ 758)) = σ1 at hF ⊢
  replace hF : @ite (Option (Option Nat × xS)) (a1 < 0 ∨ 12 < a1 ∨ sI σ1 758 < 0 ∨ 400 < sI σ1 758 ∨ ¬ qIn σ1) (Classical.propDecidable _) none (some (some (sP σ1).length, uP σ1 (sP σ1 ++ [(a1, (a1.toNatClampNeg, sA σ1 48), (a1.toNatClampNeg + 1, sA σ1 49), ((sI σ1 758).toNatClampNeg, sA σ1 50))]))) = some z := hF
  split at hF
  · cases hF
  rename_i hcond
  have hz := Option.some.inj hF
  subst hz
  have h0 : ¬ a1 < 0 := fun h => hcond (Or.inl h)
  have h1 : ¬ (12 : Int32) < a1 := fun h => hcond (Or.inr (Or.inl h))
  have h2 : ¬ sI σ1 758 < 0 := fun h => hcond (Or.inr (Or.inr (Or.inl h)))
  have h3 : ¬ (400 : Int32) < sI σ1 758 := fun h => hcond (Or.inr (Or.inr (Or.inr (Or.inl h))))
  have hq1 : qIn σ1 := Classical.byContradiction fun h => hcond (Or.inr (Or.inr (Or.inr (Or.inr h))))
  obtain ⟨ca, hca, ea⟩ := nI_of2 (x := a1) (M := 12) (n := 12) rfl h0 (Int32.not_lt.mp h1)
  obtain ⟨cu, hcu, eu⟩ := nI_of2 (x := sI σ1 758) (M := 400) (n := 400) rfl h2 (Int32.not_lt.mp h3)
  have ta : a1.toNatClampNeg = ca := by rw [ea]; exact nI_clamp (by omega)
  have tu : (sI σ1 758).toNatClampNeg = cu := by rw [eu]; exact nI_clamp (by omega)
  rw [ta, tu]
  refine x_new (ci := 4) (fs := [.int 0, .null, .null, .null]) (C1 := RX4) (T := TX4) (N := 4) C dX5_made_10 nl_X5_64.1 nl_X5_64.2.1 nl_X5_64.2.2 inX4 tyX4_ok rfl (by decide +kernel) ⟨Nat.le_of_ble_eq_true rfl, Nat.le_of_ble_eq_true rfl⟩ (fun q0 => ?_)
  refine x_dup C rfl dX5_made_13 ?_
  refine x_iload_n C 1 1 dX5_made_14 rfl rfl ?_
  refine x_aload_n C 0 0 dX5_made_15 rfl rfl ?_
  refine x_get C 47 dX5_made_16 fj_X5_18 rfl rfl ?_
  refine x_iload_n C 1 1 dX5_made_19 rfl rfl ?_
  refine x_callSr (As := [.ref (ad 48), .int a1]) (rest := [.int a1, .ref q0, .ref q0]) C dX5_made_20 mj_X5_66 rfl rfl (Nat.le_of_ble_eq_true rfl) ⟨Nat.le_of_ble_eq_true rfl, Nat.le_of_ble_eq_true rfl⟩ ⟨Nat.le_of_ble_eq_true rfl, by show 0 + 4 + ca ≤ 429; omega⟩ (by rw [ea]; exact c_JA_copyOf l D K ca 48 (N := 12) (f := sA σ1 48) rfl (by decide) hca) (fun q1 w1 hw1 => ?_)
  subst hw1
  refine x_aload_n C 0 0 dX5_made_23 rfl rfl ?_
  refine x_get C 47 dX5_made_24 fj_X5_22 rfl rfl ?_
  refine x_iload_n C 1 1 dX5_made_27 rfl rfl ?_
  refine x_iconst C 1 dX5_made_28 (by decide +kernel) ?_
  refine x_iadd C dX5_made_29 ?_
  refine x_callSr (As := [.ref (ad 49), .int (a1 + 1)]) (rest := [.ref q1, .int a1, .ref q0, .ref q0]) C dX5_made_30 mj_X5_66 rfl rfl (Nat.le_of_ble_eq_true rfl) ⟨Nat.le_of_ble_eq_true rfl, Nat.le_of_ble_eq_true rfl⟩ ⟨Nat.le_of_ble_eq_true rfl, by show 0 + 4 + ca + (ca + 1) ≤ 429; omega⟩ (by rw [ea, nI_1]; exact c_JA_copyOf l D K (ca + 1) 49 (N := 13) (f := sA σ1 49) rfl (by decide) (by omega)) (fun q2 w1 hw1 => ?_)
  subst hw1
  refine x_aload_n C 0 0 dX5_made_33 rfl rfl ?_
  refine x_get C 47 dX5_made_34 fj_X5_25 rfl rfl ?_
  refine x_aload_n C 0 0 dX5_made_37 rfl rfl ?_
  refine x_get C 47 dX5_made_38 fj_X5_42 rfl rfl ?_
  refine x_callSr (As := [.ref (ad 50), .int (sI σ1 758)]) (rest := [.ref q2, .ref q1, .int a1, .ref q0, .ref q0]) C dX5_made_41 mj_X5_66 rfl rfl (Nat.le_of_ble_eq_true rfl) ⟨Nat.le_of_ble_eq_true rfl, Nat.le_of_ble_eq_true rfl⟩ ⟨Nat.le_of_ble_eq_true rfl, by show 0 + 4 + ca + (ca + 1) + cu ≤ 429; omega⟩ (by rw [eu]; exact c_JA_copyOf l D K cu 50 (N := 400) (f := sA σ1 50) rfl (by decide) hcu) (fun q3 w1 hw1 => ?_)
  subst hw1
  refine x_wcast (ws2 := CW K ad la rest σ1 ++ [(q0, .inr (4, [.int 0, .null, .null, .null])), (q1, .inl (K 0, (ca, .inl (sA σ1 48)))), (q2, .inl (K 0, (ca + 1, .inl (sA σ1 49)))), (q3, .inl (K 0, (cu, .inl (sA σ1 50))))]) (by rw [List.append_assoc, List.append_assoc, List.append_assoc]; rfl) ?_
  have hL : ∀ (x : Nat × va_E) (t : va_W), (CW K ad la rest σ1 ++ (x :: t))[(CW K ad la rest σ1).length]? = some x := fun x t => by
    rw [List.getElem?_append_right (Nat.le_refl _), Nat.sub_self]
    rfl
  refine x_callIw (As := [.int a1, .ref q1, .ref q2, .ref q3]) (rest := [.ref q0]) C dX5_made_44 mi_X5_72 rfl rfl (Nat.le_of_ble_eq_true rfl) ⟨Nat.le_of_ble_eq_true rfl, Nat.le_of_ble_eq_true rfl⟩ ⟨Nat.le_of_ble_eq_true rfl, by show 0 + 4 + ca + (ca + 1) + cu + 0 ≤ 429; omega⟩ (c_X4_init l D K a1 q1 q2 q3 (kq := (CW K ad la rest σ1).length) (hL _ _)) (fun w1 hw1 => ?_)
  subst hw1
  refine x_widen (k' := 4) (n' := 429) (Nat.le_of_ble_eq_true rfl) (by show 0 + 4 + ca + (ca + 1) + cu + 0 ≤ 429; omega) ?_
  refine x_aretn C (laX la (sP σ1).length q0 q1 q2 q3) ?_ dX5_made_47 rfl ?_
  · show Value.ref q0 = va_rf (some (laX la (sP σ1).length q0 q1 q2 q3 (4 * (sP σ1).length)))
    rw [laX_0]
    rfl
  · have hg := CW_grow K ad la rest σ1 hq1 (a1, (ca, sA σ1 48), (ca + 1, sA σ1 49), (cu, sA σ1 50)) q0 q1 q2 q3
    rw [← hg, List.set_append_right _ _ (Nat.le_refl _), Nat.sub_self]
    rfl
