theorem jMinI : Cond.static Lib.Math.min.name ∈ xT ∧ Cond.initialized "java/lang/Math" ∈ xT ∧ Cond.code Lib.Math.min.name Lib.Math.min.code 2 (some .int) ∈ xT := ⟨xT_mem (List.mem_append_right _ (List.mem_of_getElem? (i := 507) (by decide +kernel))) (by decide +kernel), xT_mem (List.mem_append_right _ (List.mem_of_getElem? (i := 15) (by decide +kernel))) (by decide +kernel), xT_mem (List.mem_append_right _ (List.mem_of_getElem? (i := 508) (by decide +kernel))) (by decide +kernel)⟩
theorem jMaxI : Cond.static Lib.Math.max.name ∈ xT ∧ Cond.initialized "java/lang/Math" ∈ xT ∧ Cond.code Lib.Math.max.name Lib.Math.max.code 2 (some .int) ∈ xT := ⟨xT_mem (List.mem_append_right _ (List.mem_of_getElem? (i := 718) (by decide +kernel))) (by decide +kernel), xT_mem (List.mem_append_right _ (List.mem_of_getElem? (i := 15) (by decide +kernel))) (by decide +kernel), xT_mem (List.mem_append_right _ (List.mem_of_getElem? (i := 719) (by decide +kernel))) (by decide +kernel)⟩
theorem jMaxL : Cond.static Lib.MathLoose.max_long.x ∈ xT ∧ Cond.initialized "java/lang/Math" ∈ xT ∧ Cond.code Lib.MathLoose.max_long.x Lib.MathLoose.max_long.code 4 (some .long) ∈ xT := ⟨xT_mem (List.mem_append_right _ (List.mem_of_getElem? (i := 733) (by decide +kernel))) (by decide +kernel), xT_mem (List.mem_append_right _ (List.mem_of_getElem? (i := 15) (by decide +kernel))) (by decide +kernel), xT_mem (List.mem_append_right _ (List.mem_of_getElem? (i := 734) (by decide +kernel))) (by decide +kernel)⟩
theorem jMinL : Cond.static Lib.MathLoose.min_long.x ∈ xT ∧ Cond.initialized "java/lang/Math" ∈ xT ∧ Cond.code Lib.MathLoose.min_long.x Lib.MathLoose.min_long.code 4 (some .long) ∈ xT := ⟨xT_mem (List.mem_append_right _ (List.mem_of_getElem? (i := 730) (by decide +kernel))) (by decide +kernel), xT_mem (List.mem_append_right _ (List.mem_of_getElem? (i := 15) (by decide +kernel))) (by decide +kernel), xT_mem (List.mem_append_right _ (List.mem_of_getElem? (i := 731) (by decide +kernel))) (by decide +kernel)⟩
theorem jCopy : Cond.native arraycopyName ∈ xT ∧ Cond.static arraycopyName ∈ xT ∧ Cond.initialized "java/lang/System" ∈ xT := ⟨xT_mem (List.mem_append_right _ (List.mem_of_getElem? (i := 461) (by decide +kernel))) (by decide +kernel), xT_mem (List.mem_append_right _ (List.mem_of_getElem? (i := 460) (by decide +kernel))) (by decide +kernel), xT_mem (List.mem_append_right _ (List.mem_of_getElem? (i := 14) (by decide +kernel))) (by decide +kernel)⟩
def RJA : String := "java/util/Arrays"
def RJI : String := "java/lang/Integer"
def yJA_fill4 : MethodName := ⟨RJA, "fill", "([IIII)V"⟩
def yJA_fill2 : MethodName := ⟨RJA, "fill", "([II)V"⟩
def yJA_copyOf : MethodName := ⟨RJA, "copyOf", "([II)[I"⟩
def yJA_rangeCheck : MethodName := ⟨RJA, "rangeCheck", "(III)V"⟩
def yJI_bitCount : MethodName := ⟨RJI, "bitCount", "(I)I"⟩
abbrev cJA_fill4 : ByteArray := prog_22_method_104_code
abbrev cJA_fill2 : ByteArray := prog_22_method_103_code
abbrev cJA_copyOf : ByteArray := prog_22_method_123_code
abbrev cJA_rangeCheck : ByteArray := prog_22_method_30_code
abbrev cJI_bitCount : ByteArray := prog_16_method_49_code
def fl {β : Type} (N : Nat) (lo hi : Int32) (k : Option β) : Option β := if hi < lo ∨ lo < 0 ∨ nI N < hi then none else k
def fillR {α : Type} (f : Nat → α) (lo hi : Nat) (v : α) : Nat → α := fun j => if lo ≤ j ∧ j < hi then v else f j
theorem pnJA : plainName RJA = true := by decide +kernel
theorem pnJI : plainName RJI = true := by decide +kernel
theorem dJA_rangeCheck_0 : decode cJA_rangeCheck 0 = .ok (.iload_n 1, 1) := by decide +kernel
theorem dJA_rangeCheck_1 : decode cJA_rangeCheck 1 = .ok (.iload_n 2, 1) := by decide +kernel
theorem dJA_rangeCheck_2 : decode cJA_rangeCheck 2 = .ok (.if_icmp .le 44, 3) := by decide +kernel
theorem dJA_rangeCheck_46 : decode cJA_rangeCheck 46 = .ok (.iload_n 1, 1) := by decide +kernel
theorem dJA_rangeCheck_47 : decode cJA_rangeCheck 47 = .ok (.ifCond .ge 12, 3) := by decide +kernel
theorem dJA_rangeCheck_59 : decode cJA_rangeCheck 59 = .ok (.iload_n 2, 1) := by decide +kernel
theorem dJA_rangeCheck_60 : decode cJA_rangeCheck 60 = .ok (.iload_n 0, 1) := by decide +kernel
theorem dJA_rangeCheck_61 : decode cJA_rangeCheck 61 = .ok (.if_icmp .le 12, 3) := by decide +kernel
theorem dJA_rangeCheck_73 : decode cJA_rangeCheck 73 = .ok (.return_, 1) := by decide +kernel
theorem dJA_fill4_0 : decode cJA_fill4 0 = .ok (.aload_n 0, 1) := by decide +kernel
theorem dJA_fill4_1 : decode cJA_fill4 1 = .ok (.arraylength, 1) := by decide +kernel
theorem dJA_fill4_2 : decode cJA_fill4 2 = .ok (.iload_n 1, 1) := by decide +kernel
theorem dJA_fill4_3 : decode cJA_fill4 3 = .ok (.iload_n 2, 1) := by decide +kernel
theorem dJA_fill4_4 : decode cJA_fill4 4 = .ok (.invokestatic 13, 3) := by decide +kernel
theorem dJA_fill4_7 : decode cJA_fill4 7 = .ok (.iload_n 1, 1) := by decide +kernel
theorem dJA_fill4_8 : decode cJA_fill4 8 = .ok (.istore 4, 2) := by decide +kernel
theorem dJA_fill4_10 : decode cJA_fill4 10 = .ok (.iload 4, 2) := by decide +kernel
theorem dJA_fill4_12 : decode cJA_fill4 12 = .ok (.iload_n 2, 1) := by decide +kernel
theorem dJA_fill4_13 : decode cJA_fill4 13 = .ok (.if_icmp .ge 14, 3) := by decide +kernel
theorem dJA_fill4_16 : decode cJA_fill4 16 = .ok (.aload_n 0, 1) := by decide +kernel
theorem dJA_fill4_17 : decode cJA_fill4 17 = .ok (.iload 4, 2) := by decide +kernel
theorem dJA_fill4_19 : decode cJA_fill4 19 = .ok (.iload_n 3, 1) := by decide +kernel
theorem dJA_fill4_20 : decode cJA_fill4 20 = .ok (.iastore, 1) := by decide +kernel
theorem dJA_fill4_21 : decode cJA_fill4 21 = .ok (.iinc 4 1, 3) := by decide +kernel
theorem dJA_fill4_24 : decode cJA_fill4 24 = .ok (.goto (-14), 3) := by decide +kernel
theorem dJA_fill4_27 : decode cJA_fill4 27 = .ok (.return_, 1) := by decide +kernel
theorem dJA_fill2_0 : decode cJA_fill2 0 = .ok (.iconst 0, 1) := by decide +kernel
theorem dJA_fill2_1 : decode cJA_fill2 1 = .ok (.istore_n 2, 1) := by decide +kernel
theorem dJA_fill2_2 : decode cJA_fill2 2 = .ok (.aload_n 0, 1) := by decide +kernel
theorem dJA_fill2_3 : decode cJA_fill2 3 = .ok (.arraylength, 1) := by decide +kernel
theorem dJA_fill2_4 : decode cJA_fill2 4 = .ok (.istore_n 3, 1) := by decide +kernel
theorem dJA_fill2_5 : decode cJA_fill2 5 = .ok (.iload_n 2, 1) := by decide +kernel
theorem dJA_fill2_6 : decode cJA_fill2 6 = .ok (.iload_n 3, 1) := by decide +kernel
theorem dJA_fill2_7 : decode cJA_fill2 7 = .ok (.if_icmp .ge 13, 3) := by decide +kernel
theorem dJA_fill2_10 : decode cJA_fill2 10 = .ok (.aload_n 0, 1) := by decide +kernel
theorem dJA_fill2_11 : decode cJA_fill2 11 = .ok (.iload_n 2, 1) := by decide +kernel
theorem dJA_fill2_12 : decode cJA_fill2 12 = .ok (.iload_n 1, 1) := by decide +kernel
theorem dJA_fill2_13 : decode cJA_fill2 13 = .ok (.iastore, 1) := by decide +kernel
theorem dJA_fill2_14 : decode cJA_fill2 14 = .ok (.iinc 2 1, 3) := by decide +kernel
theorem dJA_fill2_17 : decode cJA_fill2 17 = .ok (.goto (-12), 3) := by decide +kernel
theorem dJA_fill2_20 : decode cJA_fill2 20 = .ok (.return_, 1) := by decide +kernel
theorem mj_RJA_13 : xMS RJA 13 yJA_rangeCheck cJA_rangeCheck 3 none 3 := ⟨⟨Or.inl (xT_mem (List.mem_append_right _ (List.mem_of_getElem? (i := 825) (by decide +kernel))) (by decide +kernel)), xT_mem (List.mem_append_right _ (List.mem_of_getElem? (i := 12) (by decide +kernel))) (by decide +kernel), xT_mem (List.mem_append_right _ (List.mem_of_getElem? (i := 827) (by decide +kernel))) (by decide +kernel), ⟨by decide +kernel, by decide +kernel⟩, by decide +kernel⟩, xT_mem (List.mem_append_right _ (List.mem_of_getElem? (i := 826) (by decide +kernel))) (by decide +kernel)⟩
theorem ck_ok {N : Nat} {i : Int32} (h : vp_in i N) : ck N i (some ()) = some () := if_neg h
theorem fl_some {β : Type} {N : Nat} {lo hi : Int32} {k : Option β} {z : β} (h : fl N lo hi k = some z) : lo ≤ hi ∧ 0 ≤ lo ∧ hi ≤ nI N ∧ k = some z := by
  unfold fl at h
  split at h
  · cases h
  · rename_i hn
    exact ⟨Int32.not_lt.mp fun q => hn (Or.inl q), Int32.not_lt.mp fun q => hn (Or.inr (Or.inl q)), Int32.not_lt.mp fun q => hn (Or.inr (Or.inr q)), h⟩
theorem fillR_0 {α : Type} (f : Nat → α) (lo : Nat) (v : α) : fillR f lo lo v = f := by
  funext j
  exact if_neg (by omega)
theorem fillR_up (f : Nat → Int32) (lo i : Nat) (v : Int32) (h : lo ≤ i) : upd (fillR f lo i v) i v = fillR f lo (i + 1) v := by
  funext j
  unfold upd fillR
  by_cases hj : j = i
  · rw [if_pos hj, if_pos (by omega)]
  · rw [if_neg hj]
    by_cases h2 : lo ≤ j ∧ j < i
    · rw [if_pos h2, if_pos (by omega)]
    · rw [if_neg h2, if_neg (by omega)]
theorem set_same {ws : va_W} {q : Nat} {x : Nat × va_E} (h : ws[q]? = some x) : ws.set q x = ws := by
  apply List.ext_getElem?
  intro i
  by_cases hi : q = i
  · subst hi
    rw [List.getElem?_set_self (List.getElem?_eq_some_iff.mp h).1, h]
  · rw [List.getElem?_set_ne hi]
theorem set_at {ws : va_W} {q : Nat} {x y : Nat × va_E} (h : ws[q]? = some x) : (ws.set q y)[q]? = some y := List.getElem?_set_self (List.getElem?_eq_some_iff.mp h).1
theorem c_JA_rangeCheck (l : Launch) (D : va_G) (K : Nat → ClassId) (ws : va_W) (N lo hi : Int32) (h1 : lo ≤ hi) (h2 : 0 ≤ lo) (h3 : hi ≤ N) : CV l D K yJA_rangeCheck cJA_rangeCheck 3 none 0 0 [.int N, .int lo, .int hi] ws ws := by
  refine x_enterV [(0, .int N), (1, .int lo), (2, .int hi)] pnJA (Nat.le_of_ble_eq_true rfl) rfl ?_
  intro p e s m args below meth c A C
  refine x_iload_n C 1 1 dJA_rangeCheck_0 rfl rfl ?_
  refine x_iload_n C 2 2 dJA_rangeCheck_1 rfl rfl ?_
  refine x_icmp_le C (fa := some ()) (fb := none) (z := ()) 46 dJA_rangeCheck_2 (by decide) (if_pos h1) (fun _ => ?_) (fun h => by cases h)
  refine x_iload_n C 1 1 dJA_rangeCheck_46 rfl rfl ?_
  refine x_if_ge C (fa := some ()) (fb := none) (z := ()) 59 dJA_rangeCheck_47 (by decide) (if_pos h2) (fun _ => ?_) (fun h => by cases h)
  refine x_iload_n C 2 2 dJA_rangeCheck_59 rfl rfl ?_
  refine x_iload_n C 0 0 dJA_rangeCheck_60 rfl rfl ?_
  refine x_icmp_le C (fa := some ()) (fb := none) (z := ()) 73 dJA_rangeCheck_61 (by decide) (if_pos h3) (fun _ => ?_) (fun h => by cases h)
  exact x_vret C dJA_rangeCheck_73 rfl rfl
theorem x_JA_fill4_loop {p : Program} {l : Launch} {e : Env} {R : Room} {s : State} {m : MethodId} {args : Array Value} {below : List Frame} {meth : Method} {c : Code} {D : va_G} {K : Nat → ClassId} {A : Nat → Prop} {own : String} {ret : Option FieldType} {Q : State → Prop} {k n : Nat} {ws : va_W} {a N lo hi : Nat} {v x0 : Int32} {f : Nat → Int32} (q : Nat) (hq : ws[q]? = some (a, .inl (K 0, (N, .inl f)))) (hN : N < 2 ^ 31) (hhi : hi ≤ N) (C : xC p s m args meth c D K A own cJA_fill4 5 ret) (hE : X p l e R s m args below meth c D A 5 Q k n 27 [(0, .ref a), (2, .int (nI hi)), (3, .int v), (4, .int (nI hi)), (1, .int x0)] [] (ws.set q (a, .inl (K 0, (N, .inl (fillR f lo hi v)))))) : ∀ (d i : Nat), lo ≤ i → i + d = hi → X p l e R s m args below meth c D A 5 Q k n 10 [(0, .ref a), (2, .int (nI hi)), (3, .int v), (4, .int (nI i)), (1, .int x0)] [] (ws.set q (a, .inl (K 0, (N, .inl (fillR f lo i v))))) := by
  intro d
  induction d with
  | zero =>
    intro i h1 h2
    have e0 : i = hi := by omega
    subst e0
    refine x_iload C 3 4 dJA_fill4_10 rfl ?_
    refine x_iload_n C 1 2 dJA_fill4_12 rfl rfl ?_
    exact x_icmp_ge C (fa := some ()) (fb := none) (z := ()) 27 dJA_fill4_13 (by decide) (if_pos (nI_le (Nat.le_refl _) (by omega))) (fun _ => hE) (fun h => by cases h)
  | succ d ih =>
    intro i h1 h2
    refine x_iload C 3 4 dJA_fill4_10 rfl ?_
    refine x_iload_n C 1 2 dJA_fill4_12 rfl rfl ?_
    refine x_icmp_ge C (fa := none) (fb := some ()) (z := ()) 27 dJA_fill4_13 (by decide) (if_neg (nI_ge (show i < hi by omega) (by omega))) (fun h => by cases h) (fun _ => ?_)
    refine x_aload_n C 0 0 dJA_fill4_16 rfl rfl ?_
    refine x_iload C 3 4 dJA_fill4_17 rfl ?_
    refine x_iload_n C 2 3 dJA_fill4_19 rfl rfl ?_
    refine x_iast C (z := ()) q dJA_fill4_20 (set_at hq) (ck_ok (vp_in_nI (show i < N by omega) hN)) (by rw [nI_clamp (by omega), fillR_up f lo i v h1, List.set_set]) (fun _ => ?_)
    refine x_iinc C (nI (i + 1)) [(4, .int (nI (i + 1))), (0, .ref a), (2, .int (nI hi)), (3, .int v), (1, .int x0)] 3 dJA_fill4_21 rfl (nI_1 i) (by decide) rfl ?_
    refine x_goto C 10 dJA_fill4_24 (by decide) ?_
    refine x_loc [(0, .ref a), (2, .int (nI hi)), (3, .int v), (4, .int (nI (i + 1))), (1, .int x0)] [1, 2, 3, 0, 4] rfl ?_
    exact ih (i + 1) (by omega) (by omega)
theorem x_JA_fill2_loop {p : Program} {l : Launch} {e : Env} {R : Room} {s : State} {m : MethodId} {args : Array Value} {below : List Frame} {meth : Method} {c : Code} {D : va_G} {K : Nat → ClassId} {A : Nat → Prop} {own : String} {ret : Option FieldType} {Q : State → Prop} {k n : Nat} {ws : va_W} {a N lo hi : Nat} {v x0 : Int32} {f : Nat → Int32} (q : Nat) (hq : ws[q]? = some (a, .inl (K 0, (N, .inl f)))) (hN : N < 2 ^ 31) (hhi : hi ≤ N) (C : xC p s m args meth c D K A own cJA_fill2 4 ret) (hE : X p l e R s m args below meth c D A 4 Q k n 20 [(0, .ref a), (1, .int v), (2, .int (nI hi)), (3, .int (nI hi))] [] (ws.set q (a, .inl (K 0, (N, .inl (fillR f lo hi v)))))) : ∀ (d i : Nat), lo ≤ i → i + d = hi → X p l e R s m args below meth c D A 4 Q k n 5 [(0, .ref a), (1, .int v), (2, .int (nI i)), (3, .int (nI hi))] [] (ws.set q (a, .inl (K 0, (N, .inl (fillR f lo i v))))) := by
  intro d
  induction d with
  | zero =>
    intro i h1 h2
    have e0 : i = hi := by omega
    subst e0
    refine x_iload_n C 2 2 dJA_fill2_5 rfl rfl ?_
    refine x_iload_n C 3 3 dJA_fill2_6 rfl rfl ?_
    exact x_icmp_ge C (fa := some ()) (fb := none) (z := ()) 20 dJA_fill2_7 (by decide) (if_pos (nI_le (Nat.le_refl _) (by omega))) (fun _ => hE) (fun h => by cases h)
  | succ d ih =>
    intro i h1 h2
    refine x_iload_n C 2 2 dJA_fill2_5 rfl rfl ?_
    refine x_iload_n C 3 3 dJA_fill2_6 rfl rfl ?_
    refine x_icmp_ge C (fa := none) (fb := some ()) (z := ()) 20 dJA_fill2_7 (by decide) (if_neg (nI_ge (show i < hi by omega) (by omega))) (fun h => by cases h) (fun _ => ?_)
    refine x_aload_n C 0 0 dJA_fill2_10 rfl rfl ?_
    refine x_iload_n C 2 2 dJA_fill2_11 rfl rfl ?_
    refine x_iload_n C 1 1 dJA_fill2_12 rfl rfl ?_
    refine x_iast C (z := ()) q dJA_fill2_13 (set_at hq) (ck_ok (vp_in_nI (show i < N by omega) hN)) (by rw [nI_clamp (by omega), fillR_up f lo i v h1, List.set_set]) (fun _ => ?_)
    refine x_iinc C (nI (i + 1)) [(2, .int (nI (i + 1))), (0, .ref a), (1, .int v), (3, .int (nI hi))] 2 dJA_fill2_14 rfl (nI_1 i) (by decide) rfl ?_
    refine x_goto C 5 dJA_fill2_17 (by decide) ?_
    refine x_loc [(0, .ref a), (1, .int v), (2, .int (nI (i + 1))), (3, .int (nI hi))] [1, 2, 0, 3] rfl ?_
    exact ih (i + 1) (by omega) (by omega)
theorem c_JA_fill4 (l : Launch) (D : va_G) (K : Nat → ClassId) {ws : va_W} {a N lo hi : Nat} (q : Nat) {f : Nat → Int32} (v : Int32) (hq : ws[q]? = some (a, .inl (K 0, (N, .inl f)))) (hN : N < 2 ^ 31) (hlo : lo ≤ hi) (hhi : hi ≤ N) : CV l D K yJA_fill4 cJA_fill4 5 none 1 22 [.ref a, .int (nI lo), .int (nI hi), .int v] ws (ws.set q (a, .inl (K 0, (N, .inl (fillR f lo hi v))))) := by
  refine x_enterV [(0, .ref a), (1, .int (nI lo)), (2, .int (nI hi)), (3, .int v)] pnJA (Nat.le_of_ble_eq_true rfl) rfl ?_
  intro p e s m args below meth c A C
  refine x_aload_n C 0 0 dJA_fill4_0 rfl rfl ?_
  refine x_alen C (t0 := 0) (nI N) q dJA_fill4_1 hq rfl rfl ?_
  refine x_iload_n C 1 1 dJA_fill4_2 rfl rfl ?_
  refine x_iload_n C 2 2 dJA_fill4_3 rfl rfl ?_
  refine x_callSV C (wf := fun _ => ws) (As := [.int (nI N), .int (nI lo), .int (nI hi)]) (rest := []) (o := some ((), (default : xS))) (kf := fun _ _ => some ()) (z := ()) dJA_fill4_4 mj_RJA_13 rfl rfl (Nat.le_of_ble_eq_true rfl) ⟨Nat.le_of_ble_eq_true rfl, Nat.le_of_ble_eq_true rfl⟩ ⟨Nat.zero_le _, Nat.zero_le _⟩ (fun q9 hq9 => c_JA_rangeCheck l D K ws (nI N) (nI lo) (nI hi) (nI_le hlo (by omega)) (nI_pos' (by omega)) (nI_le hhi (by omega))) rfl (fun _ _ _ => ?_)
  refine x_iload_n C 1 1 dJA_fill4_7 rfl rfl ?_
  refine x_istore C [(4, .int (nI lo)), (0, .ref a), (1, .int (nI lo)), (2, .int (nI hi)), (3, .int v)] dJA_fill4_8 (by decide) rfl ?_
  refine x_loc [(0, .ref a), (2, .int (nI hi)), (3, .int v), (4, .int (nI lo)), (1, .int (nI lo))] [1, 3, 4, 0, 2] rfl ?_
  have e1 : ws = ws.set q (a, .inl (K 0, (N, .inl (fillR f lo lo v)))) := by rw [fillR_0, set_same hq]
  have hL := x_JA_fill4_loop (l := l) (e := e) (R := xR 1 22) (below := below) (Q := xQv below D K A args s (ws.set q (a, .inl (K 0, (N, .inl (fillR f lo hi v)))))) (k := 0) (n := 0) (v := v) (x0 := nI lo) (lo := lo) (hi := hi) q hq hN hhi C (x_vret C dJA_fill4_27 rfl rfl) (hi - lo) lo (Nat.le_refl _) (by omega)
  rw [← e1] at hL
  exact hL
theorem c_JA_fill2 (l : Launch) (D : va_G) (K : Nat → ClassId) {ws : va_W} {a N : Nat} (q : Nat) {f : Nat → Int32} (v : Int32) (hq : ws[q]? = some (a, .inl (K 0, (N, .inl f)))) (hN : N < 2 ^ 31) : CV l D K yJA_fill2 cJA_fill2 4 none 0 0 [.ref a, .int v] ws (ws.set q (a, .inl (K 0, (N, .inl (fillR f 0 N v))))) := by
  refine x_enterV [(0, .ref a), (1, .int v)] pnJA (Nat.le_of_ble_eq_true rfl) rfl ?_
  intro p e s m args below meth c A C
  refine x_iconst C 0 dJA_fill2_0 (by decide +kernel) ?_
  refine x_istore_n C [(2, .int 0), (0, .ref a), (1, .int v)] dJA_fill2_1 rfl (by decide) rfl ?_
  refine x_aload_n C 1 0 dJA_fill2_2 rfl rfl ?_
  refine x_alen C (t0 := 0) (nI N) q dJA_fill2_3 hq rfl rfl ?_
  refine x_istore_n C [(3, .int (nI N)), (2, .int 0), (0, .ref a), (1, .int v)] dJA_fill2_4 rfl (by decide) rfl ?_
  refine x_loc [(0, .ref a), (1, .int v), (2, .int (nI 0)), (3, .int (nI N))] [2, 3, 1, 0] rfl ?_
  have e1 : ws = ws.set q (a, .inl (K 0, (N, .inl (fillR f 0 0 v)))) := by rw [fillR_0, set_same hq]
  have hL := x_JA_fill2_loop (l := l) (e := e) (R := xR 0 0) (below := below) (Q := xQv below D K A args s (ws.set q (a, .inl (K 0, (N, .inl (fillR f 0 N v)))))) (k := 0) (n := 0) (v := v) (x0 := 0) (lo := 0) (hi := N) q hq hN (Nat.le_refl _) C (x_vret C dJA_fill2_20 rfl rfl) N 0 (Nat.le_refl _) (by omega)
  rw [← e1] at hL
  exact hL
section XFill
variable {p : Program} {l : Launch} {e : Env} {R : Room} {s : State} {m : MethodId} {args : Array Value} {below : List Frame} {meth : Method} {c : Code} {D : va_G} {K : Nat → ClassId} {A : Nat → Prop} {own : String} {cc : ByteArray} {nL : Nat} {ret : Option FieldType} {Q : State → Prop} {k n pc : Nat} {loc : List (Nat × Value)} {st : List Value} {ws : va_W}
theorem x_fill4 {α : Type} (C : xC p s m args meth c D K A own cc nL ret) {idx a N : Nat} {f : Nat → Int32} {lo hi v : Int32} {kf : Option α} {z : α} {ws' : va_W} (q : Nat) (hd : decode cc pc = .ok (.invokestatic idx, 3)) (hm : xMS own idx yJA_fill4 cJA_fill4 5 none 4) (hroom : 2 ≤ R.frames ∧ 46 ≤ R.locals) (hcs : k ≤ R.cells ∧ n ≤ R.slots) (hcat : (st.map fun v => v.category).sum ≤ 8) (hN : N < 2 ^ 31) (hq : ws[q]? = some (a, .inl (K 0, (N, .inl f)))) (hF : fl N lo hi kf = some z) (hw : ws.set q (a, .inl (K 0, (N, .inl (fillR f lo.toNatClampNeg hi.toNatClampNeg v)))) = ws') (h : kf = some z → X p l e R s m args below meth c D A nL Q k n (pc + 3) loc st ws') : X p l e R s m args below meth c D A nL Q k n pc loc (.int v :: .int hi :: .int lo :: .ref a :: st) ws := by
  subst hw
  obtain ⟨h1, h2, h3, h4⟩ := fl_some hF
  obtain ⟨a1, b1, rfl⟩ := nI_of (x := lo) (Int32.not_lt.mpr h2)
  obtain ⟨a2, b2, rfl⟩ := nI_of (x := hi) (Int32.not_lt.mpr (Int32.le_trans h2 h1))
  have e1 := (nI_leI b1 b2).mp h1
  have e2 := (nI_leI b2 hN).mp h3
  rw [nI_clamp b1, nI_clamp b2] at h
  exact x_callSV C (wf := fun _ => ws.set q (a, .inl (K 0, (N, .inl (fillR f a1 a2 v))))) (As := [.ref a, .int (nI a1), .int (nI a2), .int v]) (rest := st) (o := some ((), (default : xS))) (kf := fun _ _ => kf) hd hm rfl rfl hcat hroom hcs (fun q9 hq9 => c_JA_fill4 l D K q v hq hN e1 e2) h4 (fun _ _ hk => h hk)
theorem x_fill2 (C : xC p s m args meth c D K A own cc nL ret) {idx a N : Nat} {f : Nat → Int32} {v : Int32} {ws' : va_W} (q : Nat) (hd : decode cc pc = .ok (.invokestatic idx, 3)) (hm : xMS own idx yJA_fill2 cJA_fill2 4 none 2) (hroom : 1 ≤ R.frames ∧ 23 ≤ R.locals) (hcs : k ≤ R.cells ∧ n ≤ R.slots) (hcat : (st.map fun v => v.category).sum ≤ 8) (hN : N < 2 ^ 31) (hq : ws[q]? = some (a, .inl (K 0, (N, .inl f)))) (hw : ws.set q (a, .inl (K 0, (N, .inl (fillR f 0 N v)))) = ws') (h : X p l e R s m args below meth c D A nL Q k n (pc + 3) loc st ws') : X p l e R s m args below meth c D A nL Q k n pc loc (.int v :: .ref a :: st) ws := by
  subst hw
  exact x_callSV C (wf := fun _ => ws.set q (a, .inl (K 0, (N, .inl (fillR f 0 N v))))) (As := [.ref a, .int v]) (rest := st) (o := some ((), (default : xS))) (kf := fun _ _ => some ()) (z := ()) hd hm rfl rfl hcat hroom hcs (fun q9 hq9 => c_JA_fill2 l D K q v hq hN) rfl (fun _ _ _ => h)
end XFill
