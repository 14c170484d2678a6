theorem dX3_bookFor_0 : decode cX3_bookFor 0 = .ok (.iconst 0, 1) := by decide +kernel
theorem dX3_bookFor_1 : decode cX3_bookFor 1 = .ok (.istore_n 2, 1) := by decide +kernel
theorem dX3_bookFor_2 : decode cX3_bookFor 2 = .ok (.iconst (-1), 1) := by decide +kernel
theorem dX3_bookFor_3 : decode cX3_bookFor 3 = .ok (.istore_n 3, 1) := by decide +kernel
theorem dX3_bookFor_4 : decode cX3_bookFor 4 = .ok (.iconst 0, 1) := by decide +kernel
theorem dX3_bookFor_5 : decode cX3_bookFor 5 = .ok (.istore 4, 2) := by decide +kernel
theorem dX3_bookFor_7 : decode cX3_bookFor 7 = .ok (.iload 4, 2) := by decide +kernel
theorem dX3_bookFor_9 : decode cX3_bookFor 9 = .ok (.iload_n 1, 1) := by decide +kernel
theorem dX3_bookFor_10 : decode cX3_bookFor 10 = .ok (.if_icmp .gt 28, 3) := by decide +kernel
theorem dX3_bookFor_13 : decode cX3_bookFor 13 = .ok (.aload_n 0, 1) := by decide +kernel
theorem dX3_bookFor_14 : decode cX3_bookFor 14 = .ok (.iload 4, 2) := by decide +kernel
theorem dX3_bookFor_16 : decode cX3_bookFor 16 = .ok (.iload_n 2, 1) := by decide +kernel
theorem dX3_bookFor_17 : decode cX3_bookFor 17 = .ok (.invokevirtual 83, 3) := by decide +kernel
theorem dX3_bookFor_20 : decode cX3_bookFor 20 = .ok (.istore_n 3, 1) := by decide +kernel
theorem dX3_bookFor_21 : decode cX3_bookFor 21 = .ok (.iload_n 3, 1) := by decide +kernel
theorem dX3_bookFor_22 : decode cX3_bookFor 22 = .ok (.iconst (-1), 1) := by decide +kernel
theorem dX3_bookFor_23 : decode cX3_bookFor 23 = .ok (.if_icmp .eq 9, 3) := by decide +kernel
theorem dX3_bookFor_26 : decode cX3_bookFor 26 = .ok (.iload_n 2, 1) := by decide +kernel
theorem dX3_bookFor_27 : decode cX3_bookFor 27 = .ok (.iconst 1, 1) := by decide +kernel
theorem dX3_bookFor_28 : decode cX3_bookFor 28 = .ok (.iload_n 3, 1) := by decide +kernel
theorem dX3_bookFor_29 : decode cX3_bookFor 29 = .ok (.ishl, 1) := by decide +kernel
theorem dX3_bookFor_30 : decode cX3_bookFor 30 = .ok (.ior, 1) := by decide +kernel
theorem dX3_bookFor_31 : decode cX3_bookFor 31 = .ok (.istore_n 2, 1) := by decide +kernel
theorem dX3_bookFor_32 : decode cX3_bookFor 32 = .ok (.iinc 4 1, 3) := by decide +kernel
theorem dX3_bookFor_35 : decode cX3_bookFor 35 = .ok (.goto (-28), 3) := by decide +kernel
theorem dX3_bookFor_38 : decode cX3_bookFor 38 = .ok (.iload_n 3, 1) := by decide +kernel
theorem dX3_bookFor_39 : decode cX3_bookFor 39 = .ok (.ireturn, 1) := by decide +kernel
set_option maxHeartbeats 4000000 in
set_option maxRecDepth 100000 in
theorem x_X3_bookFor_7 {p : Program} {l : Launch} {e : Env} {s : State} {m : MethodId} {args : Array Value} {below : List Frame} {meth : Method} {c : Code} {D : va_G} {K : Nat → ClassId} {A : Nat → Prop} {ad la : Nat → Nat} {rest : va_W} (C : xC p s m args meth c D K A RX3 cX3_bookFor 5 (some .int)) (z : Int32 × xS) : ∀ (n : Nat) (y1 : Int32) (y2 : Int32) (y3 : Int32) (y4 : Int32) (σ : xS), F_X3_bookFor_7  n y1 y2 y3 y4 σ = some z → X p l e (xR 2 46) s m args below meth c D A 5 (xQi below D K A args s z.1 (CW K ad la rest z.2)) 0 0 7 [(0, .ref (ad 69)), (1, .int y1), (2, .int y2), (3, .int y3), (4, .int y4)] [] (CW K ad la rest σ) := by
  intro n
  induction n with
  | zero =>
    intro y1 y2 y3 y4 σ hF
    cases hF
  | succ n ih =>
    intro y1 y2 y3 y4 σ hF
    rw [F_X3_bookFor_7] at hF
    refine x_iload C 4 4 dX3_bookFor_7 rfl ?_
    refine x_iload_n C 1 1 dX3_bookFor_9 rfl rfl ?_
    refine x_icmp_gt C 38 dX3_bookFor_10 (by decide) hF (fun hF => ?_) (fun hF => ?_)
    · refine x_iload_n C 3 3 dX3_bookFor_38 rfl rfl ?_
      exact x_iret C dX3_bookFor_39 rfl (congrArg Prod.fst (Option.some.inj hF)) (congrArg (fun q9 : Int32 × xS => CW K ad la rest q9.2) (Option.some.inj hF))
    · refine x_aload_n C 0 0 dX3_bookFor_13 rfl rfl ?_
      refine x_iload C 4 4 dX3_bookFor_14 rfl ?_
      refine x_iload_n C 2 2 dX3_bookFor_16 rfl rfl ?_
      refine x_callVI C (wf := CW K ad la rest) (As := [.int y4, .int y2]) (rest := []) dX3_bookFor_17 ml_X3_83 rfl rfl (Nat.le_of_ble_eq_true rfl) 69 (CW_69 K ad la rest σ) rfl ⟨Nat.le_of_ble_eq_true rfl, Nat.le_of_ble_eq_true rfl⟩ ⟨Nat.zero_le _, Nat.zero_le _⟩ (fun q9 hq9 => c_X3_firstBest l D K ad la rest y4 y2 σ q9 hq9) hF (fun v5 σ4 hF => ?_)
      refine x_istore_n C [(3, .int v5), (0, .ref (ad 69)), (1, .int y1), (2, .int y2), (4, .int y4)] dX3_bookFor_20 rfl (by decide) rfl ?_
      refine x_iload_n C 0 3 dX3_bookFor_21 rfl rfl ?_
      refine x_iconst C (-1) dX3_bookFor_22 (by decide +kernel) ?_
      refine x_icmp_eq C 32 dX3_bookFor_23 (by decide) hF (fun hF => ?_) (fun hF => ?_)
      · refine x_iincN C 1 4 (fun x6 => [(4, .int x6), (3, .int v5), (0, .ref (ad 69)), (1, .int y1), (2, .int y2)]) dX3_bookFor_32 rfl (by decide +kernel) (by decide) (fun _ => rfl) hF (fun x6 hF => ?_)
        refine x_goto C 7 dX3_bookFor_35 (by decide) ?_
        refine x_loc [(0, .ref (ad 69)), (1, .int y1), (2, .int y2), (3, .int v5), (4, .int x6)] [2, 3, 4, 1, 0] rfl ?_
        exact ih y1 y2 v5 x6 σ4 hF
      · refine x_iload_n C 3 2 dX3_bookFor_26 rfl rfl ?_
        refine x_iconst C 1 dX3_bookFor_27 (by decide +kernel) ?_
        refine x_iload_n C 0 3 dX3_bookFor_28 rfl rfl ?_
        refine x_ishl C dX3_bookFor_29 ?_
        refine x_ior C dX3_bookFor_30 ?_
        refine x_topI hF (fun x7 hF => ?_)
        refine x_istore_n C [(2, .int x7), (3, .int v5), (0, .ref (ad 69)), (1, .int y1), (4, .int y4)] dX3_bookFor_31 rfl (by decide) rfl ?_
        refine x_iincN C 1 4 (fun x8 => [(4, .int x8), (2, .int x7), (3, .int v5), (0, .ref (ad 69)), (1, .int y1)]) dX3_bookFor_32 rfl (by decide +kernel) (by decide) (fun _ => rfl) hF (fun x8 hF => ?_)
        refine x_goto C 7 dX3_bookFor_35 (by decide) ?_
        refine x_loc [(0, .ref (ad 69)), (1, .int y1), (2, .int x7), (3, .int v5), (4, .int x8)] [3, 4, 1, 2, 0] rfl ?_
        exact ih y1 x7 v5 x8 σ4 hF
set_option maxHeartbeats 4000000 in
set_option maxRecDepth 100000 in
theorem c_X3_bookFor (l : Launch) (D : va_G) (K : Nat → ClassId) (ad la : Nat → Nat) (rest : va_W)  (a1 : Int32) (σ : xS) (z : Int32 × xS) (hF : F_X3_bookFor a1 σ = some z) : CI l D K yX3_bookFor cX3_bookFor 5 (some .int) 2 46 [.ref (ad 69), .int a1] (CW K ad la rest σ) z.1 (CW K ad la rest z.2) := by
  refine x_enterI [(0, .ref (ad 69)), (1, .int a1)] pnX3 (Nat.le_of_ble_eq_true rfl) rfl ?_
  intro p e s m args below meth c A C
  unfold F_X3_bookFor at hF
  refine x_iconst C 0 dX3_bookFor_0 (by decide +kernel) ?_
  refine x_topI hF (fun x1 hF => ?_)
  refine x_istore_n C [(2, .int x1), (0, .ref (ad 69)), (1, .int a1)] dX3_bookFor_1 rfl (by decide) rfl ?_
  refine x_iconst C (-1) dX3_bookFor_2 (by decide +kernel) ?_
  refine x_topI hF (fun x2 hF => ?_)
  refine x_istore_n C [(3, .int x2), (2, .int x1), (0, .ref (ad 69)), (1, .int a1)] dX3_bookFor_3 rfl (by decide) rfl ?_
  refine x_iconst C 0 dX3_bookFor_4 (by decide +kernel) ?_
  refine x_topI hF (fun x3 hF => ?_)
  refine x_istore C [(4, .int x3), (3, .int x2), (2, .int x1), (0, .ref (ad 69)), (1, .int a1)] dX3_bookFor_5 (by decide) rfl ?_
  refine x_loc [(0, .ref (ad 69)), (1, .int a1), (2, .int x1), (3, .int x2), (4, .int x3)] [3, 4, 2, 1, 0] rfl ?_
  exact x_X3_bookFor_7 C z FU a1 x1 x2 x3 σ hF
theorem dX5_token_0 : decode cX5_token 0 = .ok (.aload_n 0, 1) := by decide +kernel
theorem dX5_token_1 : decode cX5_token 1 = .ok (.getfield 12, 3) := by decide +kernel
theorem dX5_token_4 : decode cX5_token 4 = .ok (.getfield 75, 3) := by decide +kernel
theorem dX5_token_7 : decode cX5_token 7 = .ok (.aload_n 0, 1) := by decide +kernel
theorem dX5_token_8 : decode cX5_token 8 = .ok (.getfield 36, 3) := by decide +kernel
theorem dX5_token_11 : decode cX5_token 11 = .ok (.iaload, 1) := by decide +kernel
theorem dX5_token_12 : decode cX5_token 12 = .ok (.ireturn, 1) := by decide +kernel
set_option maxHeartbeats 4000000 in
set_option maxRecDepth 100000 in
theorem c_X5_token (l : Launch) (D : va_G) (K : Nat → ClassId) (ad la : Nat → Nat) (rest : va_W)   (σ : xS) (z : Int32 × xS) (hF : F_X5_token σ = some z) : CI l D K yX5_token cX5_token 1 (some .int) 0 0 [.ref (ad 47)] (CW K ad la rest σ) z.1 (CW K ad la rest z.2) := by
  refine x_enterI [(0, .ref (ad 47))] pnX5 (Nat.le_of_ble_eq_true rfl) rfl ?_
  intro p e s m args below meth c A C
  unfold F_X5_token at hF
  refine x_aload_n C 0 0 dX5_token_0 rfl rfl ?_
  refine x_get C 47 dX5_token_1 fl_X5_12 (CW_47 K ad la rest σ) rfl ?_
  refine x_get C 51 dX5_token_4 fl_X5_75 (CW_51 K ad la rest σ) rfl ?_
  refine x_aload_n C 0 0 dX5_token_7 rfl rfl ?_
  refine x_get C 47 dX5_token_8 fl_X5_36 (CW_47 K ad la rest σ) rfl ?_
  refine x_iald C 52 dX5_token_11 (CW_52 K ad la rest σ) hF (fun v1 hF => ?_)
  exact x_iret C dX5_token_12 rfl (congrArg Prod.fst (Option.some.inj hF)) (congrArg (fun q9 : Int32 × xS => CW K ad la rest q9.2) (Option.some.inj hF))
theorem dX5_next_0 : decode cX5_next 0 = .ok (.aload_n 0, 1) := by decide +kernel
theorem dX5_next_1 : decode cX5_next 1 = .ok (.getfield 36, 3) := by decide +kernel
theorem dX5_next_4 : decode cX5_next 4 = .ok (.iconst 1, 1) := by decide +kernel
theorem dX5_next_5 : decode cX5_next 5 = .ok (.iadd, 1) := by decide +kernel
theorem dX5_next_6 : decode cX5_next 6 = .ok (.aload_n 0, 1) := by decide +kernel
theorem dX5_next_7 : decode cX5_next 7 = .ok (.getfield 12, 3) := by decide +kernel
theorem dX5_next_10 : decode cX5_next 10 = .ok (.getfield 78, 3) := by decide +kernel
theorem dX5_next_13 : decode cX5_next 13 = .ok (.if_icmp .ge 13, 3) := by decide +kernel
theorem dX5_next_16 : decode cX5_next 16 = .ok (.aload_n 0, 1) := by decide +kernel
theorem dX5_next_17 : decode cX5_next 17 = .ok (.dup, 1) := by decide +kernel
theorem dX5_next_18 : decode cX5_next 18 = .ok (.getfield 36, 3) := by decide +kernel
theorem dX5_next_21 : decode cX5_next 21 = .ok (.iconst 1, 1) := by decide +kernel
theorem dX5_next_22 : decode cX5_next 22 = .ok (.iadd, 1) := by decide +kernel
theorem dX5_next_23 : decode cX5_next 23 = .ok (.putfield 36, 3) := by decide +kernel
theorem dX5_next_26 : decode cX5_next 26 = .ok (.return_, 1) := by decide +kernel
set_option maxHeartbeats 4000000 in
set_option maxRecDepth 100000 in
theorem c_X5_next (l : Launch) (D : va_G) (K : Nat → ClassId) (ad la : Nat → Nat) (rest : va_W)   (σ : xS) (z : Unit × xS) (hF : F_X5_next σ = some z) : CV l D K yX5_next cX5_next 1 none 0 0 [.ref (ad 47)] (CW K ad la rest σ) (CW K ad la rest z.2) := by
  refine x_enterV [(0, .ref (ad 47))] pnX5 (Nat.le_of_ble_eq_true rfl) rfl ?_
  intro p e s m args below meth c A C
  unfold F_X5_next at hF
  refine x_aload_n C 0 0 dX5_next_0 rfl rfl ?_
  refine x_get C 47 dX5_next_1 fl_X5_36 (CW_47 K ad la rest σ) rfl ?_
  refine x_iconst C 1 dX5_next_4 (by decide +kernel) ?_
  refine x_iadd C dX5_next_5 ?_
  refine x_aload_n C 0 0 dX5_next_6 rfl rfl ?_
  refine x_get C 47 dX5_next_7 fl_X5_12 (CW_47 K ad la rest σ) rfl ?_
  refine x_get C 51 dX5_next_10 fl_X5_78 (CW_51 K ad la rest σ) rfl ?_
  refine x_icmp_ge C 26 dX5_next_13 (by decide) hF (fun hF => ?_) (fun hF => ?_)
  · exact x_vret C dX5_next_26 rfl (congrArg (fun q9 : Unit × xS => CW K ad la rest q9.2) (Option.some.inj hF))
  · refine x_aload_n C 0 0 dX5_next_16 rfl rfl ?_
    refine x_dup C rfl dX5_next_17 ?_
    refine x_get C 47 dX5_next_18 fl_X5_36 (CW_47 K ad la rest σ) rfl ?_
    refine x_iconst C 1 dX5_next_21 (by decide +kernel) ?_
    refine x_iadd C dX5_next_22 ?_
    refine x_put C 47 dX5_next_23 fl_X5_36 fm_X5_4 rfl rfl (CW_47 K ad la rest σ) (Nat.le_of_ble_eq_true rfl) (CW_s47_4 K ad la rest σ _) ?_
    refine x_st (wf := CW K ad la rest) hF (fun σ1 hF => ?_)
    exact x_vret C dX5_next_26 rfl (congrArg (fun q9 : Unit × xS => CW K ad la rest q9.2) (Option.some.inj hF))
theorem dX5_fails_0 : decode cX5_fails 0 = .ok (.aload_n 0, 1) := by decide +kernel
theorem dX5_fails_1 : decode cX5_fails 1 = .ok (.aload_n 0, 1) := by decide +kernel
theorem dX5_fails_2 : decode cX5_fails 2 = .ok (.getfield 12, 3) := by decide +kernel
theorem dX5_fails_5 : decode cX5_fails 5 = .ok (.getfield 81, 3) := by decide +kernel
theorem dX5_fails_8 : decode cX5_fails 8 = .ok (.aload_n 0, 1) := by decide +kernel
theorem dX5_fails_9 : decode cX5_fails 9 = .ok (.getfield 36, 3) := by decide +kernel
theorem dX5_fails_12 : decode cX5_fails 12 = .ok (.iaload, 1) := by decide +kernel
theorem dX5_fails_13 : decode cX5_fails 13 = .ok (.putfield 28, 3) := by decide +kernel
theorem dX5_fails_16 : decode cX5_fails 16 = .ok (.iconst 0, 1) := by decide +kernel
theorem dX5_fails_17 : decode cX5_fails 17 = .ok (.ireturn, 1) := by decide +kernel
set_option maxHeartbeats 4000000 in
set_option maxRecDepth 100000 in
theorem c_X5_fails (l : Launch) (D : va_G) (K : Nat → ClassId) (ad la : Nat → Nat) (rest : va_W)   (σ : xS) (z : Int32 × xS) (hF : F_X5_fails σ = some z) : CI l D K yX5_fails cX5_fails 1 (some .boolean) 0 0 [.ref (ad 47)] (CW K ad la rest σ) z.1 (CW K ad la rest z.2) := by
  refine x_enterI [(0, .ref (ad 47))] pnX5 (Nat.le_of_ble_eq_true rfl) rfl ?_
  intro p e s m args below meth c A C
  unfold F_X5_fails at hF
  refine x_aload_n C 0 0 dX5_fails_0 rfl rfl ?_
  refine x_aload_n C 0 0 dX5_fails_1 rfl rfl ?_
  refine x_get C 47 dX5_fails_2 fl_X5_12 (CW_47 K ad la rest σ) rfl ?_
  refine x_get C 51 dX5_fails_5 fl_X5_81 (CW_51 K ad la rest σ) rfl ?_
  refine x_aload_n C 0 0 dX5_fails_8 rfl rfl ?_
  refine x_get C 47 dX5_fails_9 fl_X5_36 (CW_47 K ad la rest σ) rfl ?_
  refine x_iald C 53 dX5_fails_12 (CW_53 K ad la rest σ) hF (fun v1 hF => ?_)
  refine x_put C 47 dX5_fails_13 fl_X5_28 fm_X5_7 rfl rfl (CW_47 K ad la rest σ) (Nat.le_of_ble_eq_true rfl) (CW_s47_7 K ad la rest σ _) ?_
  refine x_st (wf := CW K ad la rest) hF (fun σ2 hF => ?_)
  refine x_iconst C 0 dX5_fails_16 (by decide +kernel) ?_
  have hz := (cz_some hF).1
  replace hF := (cz_some hF).2
  exact x_zret C dX5_fails_17 rfl hz (congrArg Prod.fst (Option.some.inj hF)) (congrArg (fun q9 : Int32 × xS => CW K ad la rest q9.2) (Option.some.inj hF))
theorem dX5_opens_0 : decode cX5_opens 0 = .ok (.iload_n 1, 1) := by decide +kernel
theorem dX5_opens_1 : decode cX5_opens 1 = .ok (.bipush 8, 2) := by decide +kernel
theorem dX5_opens_3 : decode cX5_opens 3 = .ok (.if_icmp .lt 8, 3) := by decide +kernel
theorem dX5_opens_6 : decode cX5_opens 6 = .ok (.aload_n 0, 1) := by decide +kernel
theorem dX5_opens_7 : decode cX5_opens 7 = .ok (.invokevirtual 57, 3) := by decide +kernel
theorem dX5_opens_10 : decode cX5_opens 10 = .ok (.ireturn, 1) := by decide +kernel
theorem dX5_opens_11 : decode cX5_opens 11 = .ok (.aload_n 0, 1) := by decide +kernel
theorem dX5_opens_12 : decode cX5_opens 12 = .ok (.invokevirtual 61, 3) := by decide +kernel
theorem dX5_opens_15 : decode cX5_opens 15 = .ok (.iconst 1, 1) := by decide +kernel
theorem dX5_opens_16 : decode cX5_opens 16 = .ok (.ireturn, 1) := by decide +kernel
set_option maxHeartbeats 4000000 in
set_option maxRecDepth 100000 in
theorem c_X5_opens (l : Launch) (D : va_G) (K : Nat → ClassId) (ad la : Nat → Nat) (rest : va_W)  (a1 : Int32) (σ : xS) (z : Int32 × xS) (hF : F_X5_opens a1 σ = some z) : CI l D K yX5_opens cX5_opens 2 (some .boolean) 1 20 [.ref (ad 47), .int a1] (CW K ad la rest σ) z.1 (CW K ad la rest z.2) := by
  refine x_enterI [(0, .ref (ad 47)), (1, .int a1)] pnX5 (Nat.le_of_ble_eq_true rfl) rfl ?_
  intro p e s m args below meth c A C
  unfold F_X5_opens at hF
  refine x_iload_n C 1 1 dX5_opens_0 rfl rfl ?_
  refine x_bipush C 8 dX5_opens_1 (by decide +kernel) ?_
  refine x_icmp_lt C 11 dX5_opens_3 (by decide) hF (fun hF => ?_) (fun hF => ?_)
  · refine x_aload_n C 0 0 dX5_opens_11 rfl rfl ?_
    refine x_callVV C (wf := CW K ad la rest) (As := []) (rest := []) dX5_opens_12 ml_X5_61 rfl rfl (Nat.le_of_ble_eq_true rfl) 47 (CW_47 K ad la rest σ) rfl ⟨Nat.le_of_ble_eq_true rfl, Nat.le_of_ble_eq_true rfl⟩ ⟨Nat.zero_le _, Nat.zero_le _⟩ (fun q9 hq9 => c_X5_next l D K ad la rest σ q9 hq9) hF (fun _ σ1 hF => ?_)
    refine x_iconst C 1 dX5_opens_15 (by decide +kernel) ?_
    have hz := (cz_some hF).1
    replace hF := (cz_some hF).2
    exact x_zret C dX5_opens_16 rfl hz (congrArg Prod.fst (Option.some.inj hF)) (congrArg (fun q9 : Int32 × xS => CW K ad la rest q9.2) (Option.some.inj hF))
  · refine x_aload_n C 0 0 dX5_opens_6 rfl rfl ?_
    refine x_callVI C (wf := CW K ad la rest) (As := []) (rest := []) dX5_opens_7 ml_X5_57 rfl rfl (Nat.le_of_ble_eq_true rfl) 47 (CW_47 K ad la rest σ) rfl ⟨Nat.le_of_ble_eq_true rfl, Nat.le_of_ble_eq_true rfl⟩ ⟨Nat.zero_le _, Nat.zero_le _⟩ (fun q9 hq9 => c_X5_fails l D K ad la rest σ q9 hq9) hF (fun v3 σ2 hF => ?_)
    have hz := (cz_some hF).1
    replace hF := (cz_some hF).2
    exact x_zret C dX5_opens_10 rfl hz (congrArg Prod.fst (Option.some.inj hF)) (congrArg (fun q9 : Int32 × xS => CW K ad la rest q9.2) (Option.some.inj hF))
theorem dX5_closes_0 : decode cX5_closes 0 = .ok (.aload_n 0, 1) := by decide +kernel
theorem dX5_closes_1 : decode cX5_closes 1 = .ok (.invokevirtual 49, 3) := by decide +kernel
theorem dX5_closes_4 : decode cX5_closes 4 = .ok (.iload_n 1, 1) := by decide +kernel
theorem dX5_closes_5 : decode cX5_closes 5 = .ok (.if_icmp .eq 8, 3) := by decide +kernel
theorem dX5_closes_8 : decode cX5_closes 8 = .ok (.aload_n 0, 1) := by decide +kernel
theorem dX5_closes_9 : decode cX5_closes 9 = .ok (.invokevirtual 57, 3) := by decide +kernel
theorem dX5_closes_12 : decode cX5_closes 12 = .ok (.ireturn, 1) := by decide +kernel
theorem dX5_closes_13 : decode cX5_closes 13 = .ok (.aload_n 0, 1) := by decide +kernel
theorem dX5_closes_14 : decode cX5_closes 14 = .ok (.invokevirtual 61, 3) := by decide +kernel
theorem dX5_closes_17 : decode cX5_closes 17 = .ok (.iconst 1, 1) := by decide +kernel
theorem dX5_closes_18 : decode cX5_closes 18 = .ok (.ireturn, 1) := by decide +kernel
set_option maxHeartbeats 4000000 in
set_option maxRecDepth 100000 in
theorem c_X5_closes (l : Launch) (D : va_G) (K : Nat → ClassId) (ad la : Nat → Nat) (rest : va_W)  (a1 : Int32) (σ : xS) (z : Int32 × xS) (hF : F_X5_closes a1 σ = some z) : CI l D K yX5_closes cX5_closes 2 (some .boolean) 1 20 [.ref (ad 47), .int a1] (CW K ad la rest σ) z.1 (CW K ad la rest z.2) := by
  refine x_enterI [(0, .ref (ad 47)), (1, .int a1)] pnX5 (Nat.le_of_ble_eq_true rfl) rfl ?_
  intro p e s m args below meth c A C
  unfold F_X5_closes at hF
  refine x_aload_n C 0 0 dX5_closes_0 rfl rfl ?_
  refine x_callVI C (wf := CW K ad la rest) (As := []) (rest := []) dX5_closes_1 ml_X5_49 rfl rfl (Nat.le_of_ble_eq_true rfl) 47 (CW_47 K ad la rest σ) rfl ⟨Nat.le_of_ble_eq_true rfl, Nat.le_of_ble_eq_true rfl⟩ ⟨Nat.zero_le _, Nat.zero_le _⟩ (fun q9 hq9 => c_X5_token l D K ad la rest σ q9 hq9) hF (fun v2 σ1 hF => ?_)
  refine x_iload_n C 1 1 dX5_closes_4 rfl rfl ?_
  refine x_icmp_eq C 13 dX5_closes_5 (by decide) hF (fun hF => ?_) (fun hF => ?_)
  · refine x_aload_n C 0 0 dX5_closes_13 rfl rfl ?_
    refine x_callVV C (wf := CW K ad la rest) (As := []) (rest := []) dX5_closes_14 ml_X5_61 rfl rfl (Nat.le_of_ble_eq_true rfl) 47 (CW_47 K ad la rest σ1) rfl ⟨Nat.le_of_ble_eq_true rfl, Nat.le_of_ble_eq_true rfl⟩ ⟨Nat.zero_le _, Nat.zero_le _⟩ (fun q9 hq9 => c_X5_next l D K ad la rest σ1 q9 hq9) hF (fun _ σ3 hF => ?_)
    refine x_iconst C 1 dX5_closes_17 (by decide +kernel) ?_
    have hz := (cz_some hF).1
    replace hF := (cz_some hF).2
    exact x_zret C dX5_closes_18 rfl hz (congrArg Prod.fst (Option.some.inj hF)) (congrArg (fun q9 : Int32 × xS => CW K ad la rest q9.2) (Option.some.inj hF))
  · refine x_aload_n C 0 0 dX5_closes_8 rfl rfl ?_
    refine x_callVI C (wf := CW K ad la rest) (As := []) (rest := []) dX5_closes_9 ml_X5_57 rfl rfl (Nat.le_of_ble_eq_true rfl) 47 (CW_47 K ad la rest σ1) rfl ⟨Nat.le_of_ble_eq_true rfl, Nat.le_of_ble_eq_true rfl⟩ ⟨Nat.zero_le _, Nat.zero_le _⟩ (fun q9 hq9 => c_X5_fails l D K ad la rest σ1 q9 hq9) hF (fun v5 σ4 hF => ?_)
    have hz := (cz_some hF).1
    replace hF := (cz_some hF).2
    exact x_zret C dX5_closes_12 rfl hz (congrArg Prod.fst (Option.some.inj hF)) (congrArg (fun q9 : Int32 × xS => CW K ad la rest q9.2) (Option.some.inj hF))
theorem dX5_step_0 : decode cX5_step 0 = .ok (.aload_n 0, 1) := by decide +kernel
theorem dX5_step_1 : decode cX5_step 1 = .ok (.getfield 42, 3) := by decide +kernel
theorem dX5_step_4 : decode cX5_step 4 = .ok (.aload_n 0, 1) := by decide +kernel
theorem dX5_step_5 : decode cX5_step 5 = .ok (.getfield 25, 3) := by decide +kernel
theorem dX5_step_8 : decode cX5_step 8 = .ok (.arraylength, 1) := by decide +kernel
theorem dX5_step_9 : decode cX5_step 9 = .ok (.if_icmp .ge 27, 3) := by decide +kernel
theorem dX5_step_12 : decode cX5_step 12 = .ok (.aload_n 0, 1) := by decide +kernel
theorem dX5_step_13 : decode cX5_step 13 = .ok (.getfield 25, 3) := by decide +kernel
theorem dX5_step_16 : decode cX5_step 16 = .ok (.aload_n 0, 1) := by decide +kernel
theorem dX5_step_17 : decode cX5_step 17 = .ok (.getfield 42, 3) := by decide +kernel
theorem dX5_step_20 : decode cX5_step 20 = .ok (.iload_n 1, 1) := by decide +kernel
theorem dX5_step_21 : decode cX5_step 21 = .ok (.iload_n 2, 1) := by decide +kernel
theorem dX5_step_22 : decode cX5_step 22 = .ok (.iconst 4, 1) := by decide +kernel
theorem dX5_step_23 : decode cX5_step 23 = .ok (.ishl, 1) := by decide +kernel
theorem dX5_step_24 : decode cX5_step 24 = .ok (.ior, 1) := by decide +kernel
theorem dX5_step_25 : decode cX5_step 25 = .ok (.iastore, 1) := by decide +kernel
theorem dX5_step_26 : decode cX5_step 26 = .ok (.aload_n 0, 1) := by decide +kernel
theorem dX5_step_27 : decode cX5_step 27 = .ok (.dup, 1) := by decide +kernel
theorem dX5_step_28 : decode cX5_step 28 = .ok (.getfield 42, 3) := by decide +kernel
theorem dX5_step_31 : decode cX5_step 31 = .ok (.iconst 1, 1) := by decide +kernel
theorem dX5_step_32 : decode cX5_step 32 = .ok (.iadd, 1) := by decide +kernel
theorem dX5_step_33 : decode cX5_step 33 = .ok (.putfield 42, 3) := by decide +kernel
theorem dX5_step_36 : decode cX5_step 36 = .ok (.return_, 1) := by decide +kernel
set_option maxHeartbeats 4000000 in
set_option maxRecDepth 100000 in
theorem c_X5_step (l : Launch) (D : va_G) (K : Nat → ClassId) (ad la : Nat → Nat) (rest : va_W)  (a1 : Int32) (a2 : Int32) (σ : xS) (z : Unit × xS) (hF : F_X5_step a1 a2 σ = some z) : CV l D K yX5_step cX5_step 3 none 0 0 [.ref (ad 47), .int a1, .int a2] (CW K ad la rest σ) (CW K ad la rest z.2) := by
  refine x_enterV [(0, .ref (ad 47)), (1, .int a1), (2, .int a2)] pnX5 (Nat.le_of_ble_eq_true rfl) rfl ?_
  intro p e s m args below meth c A C
  unfold F_X5_step at hF
  refine x_aload_n C 0 0 dX5_step_0 rfl rfl ?_
  refine x_get C 47 dX5_step_1 fl_X5_42 (CW_47 K ad la rest σ) rfl ?_
  refine x_aload_n C 0 0 dX5_step_4 rfl rfl ?_
  refine x_get C 47 dX5_step_5 fl_X5_25 (CW_47 K ad la rest σ) rfl ?_
  refine x_alen C (t0 := 0) 400 50 dX5_step_8 (CW_50 K ad la rest σ) rfl rfl ?_
  refine x_icmp_ge C 36 dX5_step_9 (by decide) hF (fun hF => ?_) (fun hF => ?_)
  · exact x_vret C dX5_step_36 rfl (congrArg (fun q9 : Unit × xS => CW K ad la rest q9.2) (Option.some.inj hF))
  · refine x_aload_n C 0 0 dX5_step_12 rfl rfl ?_
    refine x_get C 47 dX5_step_13 fl_X5_25 (CW_47 K ad la rest σ) rfl ?_
    refine x_aload_n C 0 0 dX5_step_16 rfl rfl ?_
    refine x_get C 47 dX5_step_17 fl_X5_42 (CW_47 K ad la rest σ) rfl ?_
    refine x_iload_n C 1 1 dX5_step_20 rfl rfl ?_
    refine x_iload_n C 2 2 dX5_step_21 rfl rfl ?_
    refine x_iconst C 4 dX5_step_22 (by decide +kernel) ?_
    refine x_ishl C dX5_step_23 ?_
    refine x_ior C dX5_step_24 ?_
    refine x_iast C 50 dX5_step_25 (CW_50 K ad la rest σ) hF (CW_s50 K ad la rest σ _) (fun hF => ?_)
    refine x_st (wf := CW K ad la rest) hF (fun σ1 hF => ?_)
    refine x_aload_n C 0 0 dX5_step_26 rfl rfl ?_
    refine x_dup C rfl dX5_step_27 ?_
    refine x_get C 47 dX5_step_28 fl_X5_42 (CW_47 K ad la rest σ1) rfl ?_
    refine x_iconst C 1 dX5_step_31 (by decide +kernel) ?_
    refine x_iadd C dX5_step_32 ?_
    refine x_put C 47 dX5_step_33 fl_X5_42 fm_X5_6 rfl rfl (CW_47 K ad la rest σ1) (Nat.le_of_ble_eq_true rfl) (CW_s47_6 K ad la rest σ1 _) ?_
    refine x_st (wf := CW K ad la rest) hF (fun σ2 hF => ?_)
    exact x_vret C dX5_step_36 rfl (congrArg (fun q9 : Unit × xS => CW K ad la rest q9.2) (Option.some.inj hF))
theorem dX5_readPart_0 : decode cX5_readPart 0 = .ok (.aload_n 0, 1) := by decide +kernel
theorem dX5_readPart_1 : decode cX5_readPart 1 = .ok (.invokevirtual 49, 3) := by decide +kernel
theorem dX5_readPart_4 : decode cX5_readPart 4 = .ok (.bipush 91, 2) := by decide +kernel
theorem dX5_readPart_6 : decode cX5_readPart 6 = .ok (.if_icmp .ne 36, 3) := by decide +kernel
theorem dX5_readPart_9 : decode cX5_readPart 9 = .ok (.aload_n 0, 1) := by decide +kernel
theorem dX5_readPart_10 : decode cX5_readPart 10 = .ok (.iload_n 1, 1) := by decide +kernel
theorem dX5_readPart_11 : decode cX5_readPart 11 = .ok (.invokevirtual 114, 3) := by decide +kernel
theorem dX5_readPart_14 : decode cX5_readPart 14 = .ok (.ifCond .eq 26, 3) := by decide +kernel
theorem dX5_readPart_17 : decode cX5_readPart 17 = .ok (.aload_n 0, 1) := by decide +kernel
theorem dX5_readPart_18 : decode cX5_readPart 18 = .ok (.iload_n 1, 1) := by decide +kernel
theorem dX5_readPart_19 : decode cX5_readPart 19 = .ok (.iconst 1, 1) := by decide +kernel
theorem dX5_readPart_20 : decode cX5_readPart 20 = .ok (.iadd, 1) := by decide +kernel
theorem dX5_readPart_21 : decode cX5_readPart 21 = .ok (.invokevirtual 84, 3) := by decide +kernel
theorem dX5_readPart_24 : decode cX5_readPart 24 = .ok (.ifCond .eq 16, 3) := by decide +kernel
theorem dX5_readPart_27 : decode cX5_readPart 27 = .ok (.aload_n 0, 1) := by decide +kernel
theorem dX5_readPart_28 : decode cX5_readPart 28 = .ok (.bipush 93, 2) := by decide +kernel
theorem dX5_readPart_30 : decode cX5_readPart 30 = .ok (.invokevirtual 117, 3) := by decide +kernel
theorem dX5_readPart_33 : decode cX5_readPart 33 = .ok (.ifCond .eq 7, 3) := by decide +kernel
theorem dX5_readPart_36 : decode cX5_readPart 36 = .ok (.iconst 1, 1) := by decide +kernel
theorem dX5_readPart_37 : decode cX5_readPart 37 = .ok (.goto 4, 3) := by decide +kernel
theorem dX5_readPart_40 : decode cX5_readPart 40 = .ok (.iconst 0, 1) := by decide +kernel
theorem dX5_readPart_41 : decode cX5_readPart 41 = .ok (.ireturn, 1) := by decide +kernel
theorem dX5_readPart_42 : decode cX5_readPart 42 = .ok (.aload_n 0, 1) := by decide +kernel
theorem dX5_readPart_43 : decode cX5_readPart 43 = .ok (.getfield 12, 3) := by decide +kernel
theorem dX5_readPart_46 : decode cX5_readPart 46 = .ok (.getfield 126, 3) := by decide +kernel
theorem dX5_readPart_49 : decode cX5_readPart 49 = .ok (.aload_n 0, 1) := by decide +kernel
theorem dX5_readPart_50 : decode cX5_readPart 50 = .ok (.getfield 36, 3) := by decide +kernel
theorem dX5_readPart_53 : decode cX5_readPart 53 = .ok (.iaload, 1) := by decide +kernel
theorem dX5_readPart_54 : decode cX5_readPart 54 = .ok (.istore_n 2, 1) := by decide +kernel
theorem dX5_readPart_55 : decode cX5_readPart 55 = .ok (.aload_n 0, 1) := by decide +kernel
theorem dX5_readPart_56 : decode cX5_readPart 56 = .ok (.invokevirtual 49, 3) := by decide +kernel
theorem dX5_readPart_59 : decode cX5_readPart 59 = .ok (.sipush 256, 3) := by decide +kernel
theorem dX5_readPart_62 : decode cX5_readPart 62 = .ok (.isub, 1) := by decide +kernel
theorem dX5_readPart_63 : decode cX5_readPart 63 = .ok (.istore_n 3, 1) := by decide +kernel
theorem dX5_readPart_64 : decode cX5_readPart 64 = .ok (.aload_n 0, 1) := by decide +kernel
theorem dX5_readPart_65 : decode cX5_readPart 65 = .ok (.invokevirtual 49, 3) := by decide +kernel
theorem dX5_readPart_68 : decode cX5_readPart 68 = .ok (.sipush 274, 3) := by decide +kernel
theorem dX5_readPart_71 : decode cX5_readPart 71 = .ok (.if_icmp .ne 14, 3) := by decide +kernel
theorem dX5_readPart_74 : decode cX5_readPart 74 = .ok (.iload_n 2, 1) := by decide +kernel
theorem dX5_readPart_75 : decode cX5_readPart 75 = .ok (.sipush 1001, 3) := by decide +kernel
theorem dX5_readPart_78 : decode cX5_readPart 78 = .ok (.if_icmp .ge 7, 3) := by decide +kernel
theorem dX5_readPart_81 : decode cX5_readPart 81 = .ok (.iconst 1, 1) := by decide +kernel
theorem dX5_readPart_82 : decode cX5_readPart 82 = .ok (.goto 4, 3) := by decide +kernel
theorem dX5_readPart_85 : decode cX5_readPart 85 = .ok (.iconst 0, 1) := by decide +kernel
theorem dX5_readPart_86 : decode cX5_readPart 86 = .ok (.istore 4, 2) := by decide +kernel
theorem dX5_readPart_88 : decode cX5_readPart 88 = .ok (.iload_n 3, 1) := by decide +kernel
theorem dX5_readPart_89 : decode cX5_readPart 89 = .ok (.ifCond .lt 13, 3) := by decide +kernel
theorem dX5_readPart_92 : decode cX5_readPart 92 = .ok (.iload_n 3, 1) := by decide +kernel
theorem dX5_readPart_93 : decode cX5_readPart 93 = .ok (.bipush 10, 2) := by decide +kernel
theorem dX5_readPart_95 : decode cX5_readPart 95 = .ok (.if_icmp .ge 7, 3) := by decide +kernel
theorem dX5_readPart_98 : decode cX5_readPart 98 = .ok (.iconst 1, 1) := by decide +kernel
theorem dX5_readPart_99 : decode cX5_readPart 99 = .ok (.goto 4, 3) := by decide +kernel
theorem dX5_readPart_102 : decode cX5_readPart 102 = .ok (.iconst 0, 1) := by decide +kernel
theorem dX5_readPart_103 : decode cX5_readPart 103 = .ok (.istore 5, 2) := by decide +kernel
theorem dX5_readPart_105 : decode cX5_readPart 105 = .ok (.iload 5, 2) := by decide +kernel
theorem dX5_readPart_107 : decode cX5_readPart 107 = .ok (.ifCond .ne 8, 3) := by decide +kernel
theorem dX5_readPart_110 : decode cX5_readPart 110 = .ok (.iload 4, 2) := by decide +kernel
theorem dX5_readPart_112 : decode cX5_readPart 112 = .ok (.ifCond .eq 12, 3) := by decide +kernel
theorem dX5_readPart_115 : decode cX5_readPart 115 = .ok (.aload_n 0, 1) := by decide +kernel
theorem dX5_readPart_116 : decode cX5_readPart 116 = .ok (.getfield 39, 3) := by decide +kernel
theorem dX5_readPart_119 : decode cX5_readPart 119 = .ok (.bipush 50, 2) := by decide +kernel
theorem dX5_readPart_121 : decode cX5_readPart 121 = .ok (.if_icmp .lt 8, 3) := by decide +kernel
theorem dX5_readPart_124 : decode cX5_readPart 124 = .ok (.aload_n 0, 1) := by decide +kernel
theorem dX5_readPart_125 : decode cX5_readPart 125 = .ok (.invokevirtual 57, 3) := by decide +kernel
theorem dX5_readPart_128 : decode cX5_readPart 128 = .ok (.ireturn, 1) := by decide +kernel
theorem dX5_readPart_129 : decode cX5_readPart 129 = .ok (.aload_n 0, 1) := by decide +kernel
theorem dX5_readPart_130 : decode cX5_readPart 130 = .ok (.dup, 1) := by decide +kernel
theorem dX5_readPart_131 : decode cX5_readPart 131 = .ok (.getfield 39, 3) := by decide +kernel
theorem dX5_readPart_134 : decode cX5_readPart 134 = .ok (.iconst 1, 1) := by decide +kernel
theorem dX5_readPart_135 : decode cX5_readPart 135 = .ok (.iadd, 1) := by decide +kernel
theorem dX5_readPart_136 : decode cX5_readPart 136 = .ok (.putfield 39, 3) := by decide +kernel
theorem dX5_readPart_139 : decode cX5_readPart 139 = .ok (.aload_n 0, 1) := by decide +kernel
theorem dX5_readPart_140 : decode cX5_readPart 140 = .ok (.iload 5, 2) := by decide +kernel
theorem dX5_readPart_142 : decode cX5_readPart 142 = .ok (.ifCond .eq 7, 3) := by decide +kernel
theorem dX5_readPart_145 : decode cX5_readPart 145 = .ok (.iconst 1, 1) := by decide +kernel
theorem dX5_readPart_146 : decode cX5_readPart 146 = .ok (.goto 4, 3) := by decide +kernel
theorem dX5_readPart_149 : decode cX5_readPart 149 = .ok (.iconst 0, 1) := by decide +kernel
theorem dX5_readPart_150 : decode cX5_readPart 150 = .ok (.iload 5, 2) := by decide +kernel
theorem dX5_readPart_152 : decode cX5_readPart 152 = .ok (.ifCond .eq 7, 3) := by decide +kernel
theorem dX5_readPart_155 : decode cX5_readPart 155 = .ok (.iload_n 3, 1) := by decide +kernel
theorem dX5_readPart_156 : decode cX5_readPart 156 = .ok (.goto 4, 3) := by decide +kernel
theorem dX5_readPart_159 : decode cX5_readPart 159 = .ok (.iload_n 2, 1) := by decide +kernel
theorem dX5_readPart_160 : decode cX5_readPart 160 = .ok (.invokevirtual 87, 3) := by decide +kernel
theorem dX5_readPart_163 : decode cX5_readPart 163 = .ok (.aload_n 0, 1) := by decide +kernel
theorem dX5_readPart_164 : decode cX5_readPart 164 = .ok (.invokevirtual 61, 3) := by decide +kernel
theorem dX5_readPart_167 : decode cX5_readPart 167 = .ok (.iconst 1, 1) := by decide +kernel
theorem dX5_readPart_168 : decode cX5_readPart 168 = .ok (.ireturn, 1) := by decide +kernel
set_option maxHeartbeats 4000000 in
set_option maxRecDepth 100000 in
theorem x_X5_readPart_124 {p : Program} {l : Launch} {e : Env} {s : State} {m : MethodId} {args : Array Value} {below : List Frame} {meth : Method} {c : Code} {D : va_G} {K : Nat → ClassId} {A : Nat → Prop} {ad la : Nat → Nat} {rest : va_W} (kS : Int32 → xS → Option (Int32 × xS)) (fS lS : Nat) (HS : ∀ (a1 : Int32) (σ : xS) (z : Int32 × xS), kS a1 σ = some z → CI l D K yX5_readSum cX5_readSum 4 (some .boolean) fS lS [.ref (ad 47), .int a1] (CW K ad la rest σ) z.1 (CW K ad la rest z.2)) (C : xC p s m args meth c D K A RX5 cX5_readPart 6 (some .boolean)) (z : Int32 × xS) : ∀  (σ : xS), F_X5_readPart_124 kS σ = some z → X p l e (xR (fS + 6) (lS + 200)) s m args below meth c D A 6 (xQi below D K A args s z.1 (CW K ad la rest z.2)) 0 0 124 [(0, .ref (ad 47))] [] (CW K ad la rest σ) := by
  intro σ hF
  unfold F_X5_readPart_124 at hF
  refine x_aload_n C 0 0 dX5_readPart_124 rfl rfl ?_
  refine x_callVI C (wf := CW K ad la rest) (As := []) (rest := []) dX5_readPart_125 ml_X5_57 rfl rfl (Nat.le_of_ble_eq_true rfl) 47 (CW_47 K ad la rest σ) rfl (by show 0 + 1 ≤ fS + 6 ∧ 8 + (1 + 11) + (0) ≤ lS + 200; omega) ⟨Nat.zero_le _, Nat.zero_le _⟩ (fun q9 hq9 => c_X5_fails l D K ad la rest σ q9 hq9) hF (fun v17 σ16 hF => ?_)
  have hz := (cz_some hF).1
  replace hF := (cz_some hF).2
  exact x_zret C dX5_readPart_128 rfl hz (congrArg Prod.fst (Option.some.inj hF)) (congrArg (fun q9 : Int32 × xS => CW K ad la rest q9.2) (Option.some.inj hF))
set_option maxHeartbeats 4000000 in
set_option maxRecDepth 100000 in
theorem x_X5_readPart_160 {p : Program} {l : Launch} {e : Env} {s : State} {m : MethodId} {args : Array Value} {below : List Frame} {meth : Method} {c : Code} {D : va_G} {K : Nat → ClassId} {A : Nat → Prop} {ad la : Nat → Nat} {rest : va_W} (kS : Int32 → xS → Option (Int32 × xS)) (fS lS : Nat) (HS : ∀ (a1 : Int32) (σ : xS) (z : Int32 × xS), kS a1 σ = some z → CI l D K yX5_readSum cX5_readSum 4 (some .boolean) fS lS [.ref (ad 47), .int a1] (CW K ad la rest σ) z.1 (CW K ad la rest z.2)) (C : xC p s m args meth c D K A RX5 cX5_readPart 6 (some .boolean)) (z : Int32 × xS) : ∀ (t1x : Int32) (t2x : Int32) (σ : xS), F_X5_readPart_160 kS t1x t2x σ = some z → X p l e (xR (fS + 6) (lS + 200)) s m args below meth c D A 6 (xQi below D K A args s z.1 (CW K ad la rest z.2)) 0 0 160 [(0, .ref (ad 47))] [.int t2x, .int t1x, .ref (ad 47)] (CW K ad la rest σ) := by
  intro t1x t2x σ hF
  unfold F_X5_readPart_160 at hF
  refine x_callVV C (wf := CW K ad la rest) (As := [.int t1x, .int t2x]) (rest := []) dX5_readPart_160 ml_X5_87 rfl rfl (Nat.le_of_ble_eq_true rfl) 47 (CW_47 K ad la rest σ) rfl (by show 0 + 1 ≤ fS + 6 ∧ 8 + (3 + 11) + (0) ≤ lS + 200; omega) ⟨Nat.zero_le _, Nat.zero_le _⟩ (fun q9 hq9 => c_X5_step l D K ad la rest t1x t2x σ q9 hq9) hF (fun _ σ18 hF => ?_)
  refine x_aload_n C 0 0 dX5_readPart_163 rfl rfl ?_
  refine x_callVV C (wf := CW K ad la rest) (As := []) (rest := []) dX5_readPart_164 ml_X5_61 rfl rfl (Nat.le_of_ble_eq_true rfl) 47 (CW_47 K ad la rest σ18) rfl (by show 0 + 1 ≤ fS + 6 ∧ 8 + (1 + 11) + (0) ≤ lS + 200; omega) ⟨Nat.zero_le _, Nat.zero_le _⟩ (fun q9 hq9 => c_X5_next l D K ad la rest σ18 q9 hq9) hF (fun _ σ19 hF => ?_)
  refine x_iconst C 1 dX5_readPart_167 (by decide +kernel) ?_
  have hz := (cz_some hF).1
  replace hF := (cz_some hF).2
  exact x_zret C dX5_readPart_168 rfl hz (congrArg Prod.fst (Option.some.inj hF)) (congrArg (fun q9 : Int32 × xS => CW K ad la rest q9.2) (Option.some.inj hF))
set_option maxHeartbeats 4000000 in
set_option maxRecDepth 100000 in
theorem x_X5_readPart_150 {p : Program} {l : Launch} {e : Env} {s : State} {m : MethodId} {args : Array Value} {below : List Frame} {meth : Method} {c : Code} {D : va_G} {K : Nat → ClassId} {A : Nat → Prop} {ad la : Nat → Nat} {rest : va_W} (kS : Int32 → xS → Option (Int32 × xS)) (fS lS : Nat) (HS : ∀ (a1 : Int32) (σ : xS) (z : Int32 × xS), kS a1 σ = some z → CI l D K yX5_readSum cX5_readSum 4 (some .boolean) fS lS [.ref (ad 47), .int a1] (CW K ad la rest σ) z.1 (CW K ad la rest z.2)) (C : xC p s m args meth c D K A RX5 cX5_readPart 6 (some .boolean)) (z : Int32 × xS) : ∀ (y2 : Int32) (y3 : Int32) (y5 : Int32) (t1x : Int32) (σ : xS), F_X5_readPart_150 kS y2 y3 y5 t1x σ = some z → X p l e (xR (fS + 6) (lS + 200)) s m args below meth c D A 6 (xQi below D K A args s z.1 (CW K ad la rest z.2)) 0 0 150 [(0, .ref (ad 47)), (2, .int y2), (3, .int y3), (5, .int y5)] [.int t1x, .ref (ad 47)] (CW K ad la rest σ) := by
  intro y2 y3 y5 t1x σ hF
  unfold F_X5_readPart_150 at hF
  refine x_iload C 3 5 dX5_readPart_150 rfl ?_
  refine x_if_eq C 159 dX5_readPart_152 (by decide) hF (fun hF => ?_) (fun hF => ?_)
  · refine x_iload_n C 1 2 dX5_readPart_159 rfl rfl ?_
    refine x_loc [(0, .ref (ad 47))] [0] rfl ?_
    exact x_X5_readPart_160 kS fS lS HS C z t1x y2 σ hF
  · refine x_iload_n C 2 3 dX5_readPart_155 rfl rfl ?_
    refine x_goto C 160 dX5_readPart_156 (by decide) ?_
    refine x_loc [(0, .ref (ad 47))] [0] rfl ?_
    exact x_X5_readPart_160 kS fS lS HS C z t1x y3 σ hF
set_option maxHeartbeats 4000000 in
set_option maxRecDepth 100000 in
theorem x_X5_readPart_115 {p : Program} {l : Launch} {e : Env} {s : State} {m : MethodId} {args : Array Value} {below : List Frame} {meth : Method} {c : Code} {D : va_G} {K : Nat → ClassId} {A : Nat → Prop} {ad la : Nat → Nat} {rest : va_W} (kS : Int32 → xS → Option (Int32 × xS)) (fS lS : Nat) (HS : ∀ (a1 : Int32) (σ : xS) (z : Int32 × xS), kS a1 σ = some z → CI l D K yX5_readSum cX5_readSum 4 (some .boolean) fS lS [.ref (ad 47), .int a1] (CW K ad la rest σ) z.1 (CW K ad la rest z.2)) (C : xC p s m args meth c D K A RX5 cX5_readPart 6 (some .boolean)) (z : Int32 × xS) : ∀ (y2 : Int32) (y3 : Int32) (y5 : Int32) (σ : xS), F_X5_readPart_115 kS y2 y3 y5 σ = some z → X p l e (xR (fS + 6) (lS + 200)) s m args below meth c D A 6 (xQi below D K A args s z.1 (CW K ad la rest z.2)) 0 0 115 [(0, .ref (ad 47)), (2, .int y2), (3, .int y3), (5, .int y5)] [] (CW K ad la rest σ) := by
  intro y2 y3 y5 σ hF
  unfold F_X5_readPart_115 at hF
  refine x_aload_n C 0 0 dX5_readPart_115 rfl rfl ?_
  refine x_get C 47 dX5_readPart_116 fl_X5_39 (CW_47 K ad la rest σ) rfl ?_
  refine x_bipush C 50 dX5_readPart_119 (by decide +kernel) ?_
  refine x_icmp_lt C 129 dX5_readPart_121 (by decide) hF (fun hF => ?_) (fun hF => ?_)
  · refine x_aload_n C 0 0 dX5_readPart_129 rfl rfl ?_
    refine x_dup C rfl dX5_readPart_130 ?_
    refine x_get C 47 dX5_readPart_131 fl_X5_39 (CW_47 K ad la rest σ) rfl ?_
    refine x_iconst C 1 dX5_readPart_134 (by decide +kernel) ?_
    refine x_iadd C dX5_readPart_135 ?_
    refine x_put C 47 dX5_readPart_136 fl_X5_39 fm_X5_5 rfl rfl (CW_47 K ad la rest σ) (Nat.le_of_ble_eq_true rfl) (CW_s47_5 K ad la rest σ _) ?_
    refine x_st (wf := CW K ad la rest) hF (fun σ15 hF => ?_)
    refine x_aload_n C 0 0 dX5_readPart_139 rfl rfl ?_
    refine x_iload C 3 5 dX5_readPart_140 rfl ?_
    refine x_if_eq C 149 dX5_readPart_142 (by decide) hF (fun hF => ?_) (fun hF => ?_)
    · refine x_iconst C 0 dX5_readPart_149 (by decide +kernel) ?_
      exact x_X5_readPart_150 kS fS lS HS C z y2 y3 y5 0 σ15 hF
    · refine x_iconst C 1 dX5_readPart_145 (by decide +kernel) ?_
      refine x_goto C 150 dX5_readPart_146 (by decide) ?_
      exact x_X5_readPart_150 kS fS lS HS C z y2 y3 y5 1 σ15 hF
  · refine x_loc [(0, .ref (ad 47))] [0] rfl ?_
    exact x_X5_readPart_124 kS fS lS HS C z σ hF
set_option maxHeartbeats 4000000 in
set_option maxRecDepth 100000 in
theorem x_X5_readPart_103 {p : Program} {l : Launch} {e : Env} {s : State} {m : MethodId} {args : Array Value} {below : List Frame} {meth : Method} {c : Code} {D : va_G} {K : Nat → ClassId} {A : Nat → Prop} {ad la : Nat → Nat} {rest : va_W} (kS : Int32 → xS → Option (Int32 × xS)) (fS lS : Nat) (HS : ∀ (a1 : Int32) (σ : xS) (z : Int32 × xS), kS a1 σ = some z → CI l D K yX5_readSum cX5_readSum 4 (some .boolean) fS lS [.ref (ad 47), .int a1] (CW K ad la rest σ) z.1 (CW K ad la rest z.2)) (C : xC p s m args meth c D K A RX5 cX5_readPart 6 (some .boolean)) (z : Int32 × xS) : ∀ (y2 : Int32) (y3 : Int32) (y4 : Int32) (t0x : Int32) (σ : xS), F_X5_readPart_103 kS y2 y3 y4 t0x σ = some z → X p l e (xR (fS + 6) (lS + 200)) s m args below meth c D A 6 (xQi below D K A args s z.1 (CW K ad la rest z.2)) 0 0 103 [(0, .ref (ad 47)), (2, .int y2), (3, .int y3), (4, .int y4)] [.int t0x] (CW K ad la rest σ) := by
  intro y2 y3 y4 t0x σ hF
  unfold F_X5_readPart_103 at hF
  refine x_istore C [(5, .int t0x), (0, .ref (ad 47)), (2, .int y2), (3, .int y3), (4, .int y4)] dX5_readPart_103 (by decide) rfl ?_
  refine x_iload C 0 5 dX5_readPart_105 rfl ?_
  refine x_if_ne C 115 dX5_readPart_107 (by decide) hF (fun hF => ?_) (fun hF => ?_)
  · refine x_loc [(0, .ref (ad 47)), (2, .int y2), (3, .int y3), (5, .int t0x)] [1, 2, 3, 0] rfl ?_
    exact x_X5_readPart_115 kS fS lS HS C z y2 y3 t0x σ hF
  · refine x_iload C 4 4 dX5_readPart_110 rfl ?_
    refine x_if_eq C 124 dX5_readPart_112 (by decide) hF (fun hF => ?_) (fun hF => ?_)
    · refine x_loc [(0, .ref (ad 47))] [1] rfl ?_
      exact x_X5_readPart_124 kS fS lS HS C z σ hF
    · refine x_loc [(0, .ref (ad 47)), (2, .int y2), (3, .int y3), (5, .int t0x)] [1, 2, 3, 0] rfl ?_
      exact x_X5_readPart_115 kS fS lS HS C z y2 y3 t0x σ hF
set_option maxHeartbeats 4000000 in
set_option maxRecDepth 100000 in
theorem x_X5_readPart_102 {p : Program} {l : Launch} {e : Env} {s : State} {m : MethodId} {args : Array Value} {below : List Frame} {meth : Method} {c : Code} {D : va_G} {K : Nat → ClassId} {A : Nat → Prop} {ad la : Nat → Nat} {rest : va_W} (kS : Int32 → xS → Option (Int32 × xS)) (fS lS : Nat) (HS : ∀ (a1 : Int32) (σ : xS) (z : Int32 × xS), kS a1 σ = some z → CI l D K yX5_readSum cX5_readSum 4 (some .boolean) fS lS [.ref (ad 47), .int a1] (CW K ad la rest σ) z.1 (CW K ad la rest z.2)) (C : xC p s m args meth c D K A RX5 cX5_readPart 6 (some .boolean)) (z : Int32 × xS) : ∀ (y2 : Int32) (y3 : Int32) (y4 : Int32) (σ : xS), F_X5_readPart_102 kS y2 y3 y4 σ = some z → X p l e (xR (fS + 6) (lS + 200)) s m args below meth c D A 6 (xQi below D K A args s z.1 (CW K ad la rest z.2)) 0 0 102 [(0, .ref (ad 47)), (2, .int y2), (3, .int y3), (4, .int y4)] [] (CW K ad la rest σ) := by
  intro y2 y3 y4 σ hF
  unfold F_X5_readPart_102 at hF
  refine x_iconst C 0 dX5_readPart_102 (by decide +kernel) ?_
  exact x_X5_readPart_103 kS fS lS HS C z y2 y3 y4 0 σ hF
set_option maxHeartbeats 4000000 in
set_option maxRecDepth 100000 in
theorem x_X5_readPart_86 {p : Program} {l : Launch} {e : Env} {s : State} {m : MethodId} {args : Array Value} {below : List Frame} {meth : Method} {c : Code} {D : va_G} {K : Nat → ClassId} {A : Nat → Prop} {ad la : Nat → Nat} {rest : va_W} (kS : Int32 → xS → Option (Int32 × xS)) (fS lS : Nat) (HS : ∀ (a1 : Int32) (σ : xS) (z : Int32 × xS), kS a1 σ = some z → CI l D K yX5_readSum cX5_readSum 4 (some .boolean) fS lS [.ref (ad 47), .int a1] (CW K ad la rest σ) z.1 (CW K ad la rest z.2)) (C : xC p s m args meth c D K A RX5 cX5_readPart 6 (some .boolean)) (z : Int32 × xS) : ∀ (y2 : Int32) (y3 : Int32) (t0x : Int32) (σ : xS), F_X5_readPart_86 kS y2 y3 t0x σ = some z → X p l e (xR (fS + 6) (lS + 200)) s m args below meth c D A 6 (xQi below D K A args s z.1 (CW K ad la rest z.2)) 0 0 86 [(0, .ref (ad 47)), (2, .int y2), (3, .int y3)] [.int t0x] (CW K ad la rest σ) := by
  intro y2 y3 t0x σ hF
  unfold F_X5_readPart_86 at hF
  refine x_istore C [(4, .int t0x), (0, .ref (ad 47)), (2, .int y2), (3, .int y3)] dX5_readPart_86 (by decide) rfl ?_
  refine x_iload_n C 3 3 dX5_readPart_88 rfl rfl ?_
  refine x_if_lt C 102 dX5_readPart_89 (by decide) hF (fun hF => ?_) (fun hF => ?_)
  · refine x_loc [(0, .ref (ad 47)), (2, .int y2), (3, .int y3), (4, .int t0x)] [1, 2, 3, 0] rfl ?_
    exact x_X5_readPart_102 kS fS lS HS C z y2 y3 t0x σ hF
  · refine x_iload_n C 3 3 dX5_readPart_92 rfl rfl ?_
    refine x_bipush C 10 dX5_readPart_93 (by decide +kernel) ?_
    refine x_icmp_ge C 102 dX5_readPart_95 (by decide) hF (fun hF => ?_) (fun hF => ?_)
    · refine x_loc [(0, .ref (ad 47)), (2, .int y2), (3, .int y3), (4, .int t0x)] [1, 2, 3, 0] rfl ?_
      exact x_X5_readPart_102 kS fS lS HS C z y2 y3 t0x σ hF
    · refine x_iconst C 1 dX5_readPart_98 (by decide +kernel) ?_
      refine x_goto C 103 dX5_readPart_99 (by decide) ?_
      refine x_loc [(0, .ref (ad 47)), (2, .int y2), (3, .int y3), (4, .int t0x)] [1, 2, 3, 0] rfl ?_
      exact x_X5_readPart_103 kS fS lS HS C z y2 y3 t0x 1 σ hF
set_option maxHeartbeats 4000000 in
set_option maxRecDepth 100000 in
theorem x_X5_readPart_85 {p : Program} {l : Launch} {e : Env} {s : State} {m : MethodId} {args : Array Value} {below : List Frame} {meth : Method} {c : Code} {D : va_G} {K : Nat → ClassId} {A : Nat → Prop} {ad la : Nat → Nat} {rest : va_W} (kS : Int32 → xS → Option (Int32 × xS)) (fS lS : Nat) (HS : ∀ (a1 : Int32) (σ : xS) (z : Int32 × xS), kS a1 σ = some z → CI l D K yX5_readSum cX5_readSum 4 (some .boolean) fS lS [.ref (ad 47), .int a1] (CW K ad la rest σ) z.1 (CW K ad la rest z.2)) (C : xC p s m args meth c D K A RX5 cX5_readPart 6 (some .boolean)) (z : Int32 × xS) : ∀ (y2 : Int32) (y3 : Int32) (σ : xS), F_X5_readPart_85 kS y2 y3 σ = some z → X p l e (xR (fS + 6) (lS + 200)) s m args below meth c D A 6 (xQi below D K A args s z.1 (CW K ad la rest z.2)) 0 0 85 [(0, .ref (ad 47)), (2, .int y2), (3, .int y3)] [] (CW K ad la rest σ) := by
  intro y2 y3 σ hF
  unfold F_X5_readPart_85 at hF
  refine x_iconst C 0 dX5_readPart_85 (by decide +kernel) ?_
  exact x_X5_readPart_86 kS fS lS HS C z y2 y3 0 σ hF
set_option maxHeartbeats 4000000 in
set_option maxRecDepth 100000 in
theorem c_X5_readPart (l : Launch) (D : va_G) (K : Nat → ClassId) (ad la : Nat → Nat) (rest : va_W) (kS : Int32 → xS → Option (Int32 × xS)) (fS lS : Nat) (HS : ∀ (a1 : Int32) (σ : xS) (z : Int32 × xS), kS a1 σ = some z → CI l D K yX5_readSum cX5_readSum 4 (some .boolean) fS lS [.ref (ad 47), .int a1] (CW K ad la rest σ) z.1 (CW K ad la rest z.2)) (a1 : Int32) (σ : xS) (z : Int32 × xS) (hF : F_X5_readPart kS a1 σ = some z) : CI l D K yX5_readPart cX5_readPart 6 (some .boolean) (fS + 6) (lS + 200) [.ref (ad 47), .int a1] (CW K ad la rest σ) z.1 (CW K ad la rest z.2) := by
  refine x_enterI [(0, .ref (ad 47)), (1, .int a1)] pnX5 (Nat.le_of_ble_eq_true rfl) rfl ?_
  intro p e s m args below meth c A C
  unfold F_X5_readPart at hF
  refine x_aload_n C 0 0 dX5_readPart_0 rfl rfl ?_
  refine x_callVI C (wf := CW K ad la rest) (As := []) (rest := []) dX5_readPart_1 ml_X5_49 rfl rfl (Nat.le_of_ble_eq_true rfl) 47 (CW_47 K ad la rest σ) rfl (by show 0 + 1 ≤ fS + 6 ∧ 8 + (1 + 11) + (0) ≤ lS + 200; omega) ⟨Nat.zero_le _, Nat.zero_le _⟩ (fun q9 hq9 => c_X5_token l D K ad la rest σ q9 hq9) hF (fun v2 σ1 hF => ?_)
  refine x_bipush C 91 dX5_readPart_4 (by decide +kernel) ?_
  refine x_icmp_ne C 42 dX5_readPart_6 (by decide) hF (fun hF => ?_) (fun hF => ?_)
  · refine x_aload_n C 0 0 dX5_readPart_42 rfl rfl ?_
    refine x_get C 47 dX5_readPart_43 fl_X5_12 (CW_47 K ad la rest σ1) rfl ?_
    refine x_get C 51 dX5_readPart_46 fl_X5_126 (CW_51 K ad la rest σ1) rfl ?_
    refine x_aload_n C 0 0 dX5_readPart_49 rfl rfl ?_
    refine x_get C 47 dX5_readPart_50 fl_X5_36 (CW_47 K ad la rest σ1) rfl ?_
    refine x_iald C 54 dX5_readPart_53 (CW_54 K ad la rest σ1) hF (fun v3 hF => ?_)
    refine x_istore_n C [(2, .int v3), (0, .ref (ad 47)), (1, .int a1)] dX5_readPart_54 rfl (by decide) rfl ?_
    refine x_aload_n C 1 0 dX5_readPart_55 rfl rfl ?_
    refine x_callVI C (wf := CW K ad la rest) (As := []) (rest := []) dX5_readPart_56 ml_X5_49 rfl rfl (Nat.le_of_ble_eq_true rfl) 47 (CW_47 K ad la rest σ1) rfl (by show 0 + 1 ≤ fS + 6 ∧ 8 + (1 + 11) + (0) ≤ lS + 200; omega) ⟨Nat.zero_le _, Nat.zero_le _⟩ (fun q9 hq9 => c_X5_token l D K ad la rest σ1 q9 hq9) hF (fun v5 σ4 hF => ?_)
    refine x_sipush C 256 dX5_readPart_59 (by decide +kernel) ?_
    refine x_isub C dX5_readPart_62 ?_
    refine x_topI hF (fun x6 hF => ?_)
    refine x_istore_n C [(3, .int x6), (2, .int v3), (0, .ref (ad 47)), (1, .int a1)] dX5_readPart_63 rfl (by decide) rfl ?_
    refine x_aload_n C 2 0 dX5_readPart_64 rfl rfl ?_
    refine x_callVI C (wf := CW K ad la rest) (As := []) (rest := []) dX5_readPart_65 ml_X5_49 rfl rfl (Nat.le_of_ble_eq_true rfl) 47 (CW_47 K ad la rest σ4) rfl (by show 0 + 1 ≤ fS + 6 ∧ 8 + (1 + 11) + (0) ≤ lS + 200; omega) ⟨Nat.zero_le _, Nat.zero_le _⟩ (fun q9 hq9 => c_X5_token l D K ad la rest σ4 q9 hq9) hF (fun v8 σ7 hF => ?_)
    refine x_sipush C 274 dX5_readPart_68 (by decide +kernel) ?_
    refine x_icmp_ne C 85 dX5_readPart_71 (by decide) hF (fun hF => ?_) (fun hF => ?_)
    · refine x_loc [(0, .ref (ad 47)), (2, .int v3), (3, .int x6)] [2, 1, 0] rfl ?_
      exact x_X5_readPart_85 kS fS lS HS C z v3 x6 σ7 hF
    · refine x_iload_n C 1 2 dX5_readPart_74 rfl rfl ?_
      refine x_sipush C 1001 dX5_readPart_75 (by decide +kernel) ?_
      refine x_icmp_ge C 85 dX5_readPart_78 (by decide) hF (fun hF => ?_) (fun hF => ?_)
      · refine x_loc [(0, .ref (ad 47)), (2, .int v3), (3, .int x6)] [2, 1, 0] rfl ?_
        exact x_X5_readPart_85 kS fS lS HS C z v3 x6 σ7 hF
      · refine x_iconst C 1 dX5_readPart_81 (by decide +kernel) ?_
        refine x_goto C 86 dX5_readPart_82 (by decide) ?_
        refine x_loc [(0, .ref (ad 47)), (2, .int v3), (3, .int x6)] [2, 1, 0] rfl ?_
        exact x_X5_readPart_86 kS fS lS HS C z v3 x6 1 σ7 hF
  · refine x_aload_n C 0 0 dX5_readPart_9 rfl rfl ?_
    refine x_iload_n C 1 1 dX5_readPart_10 rfl rfl ?_
    refine x_callVI C (wf := CW K ad la rest) (As := [.int a1]) (rest := []) dX5_readPart_11 ml_X5_114 rfl rfl (Nat.le_of_ble_eq_true rfl) 47 (CW_47 K ad la rest σ1) rfl (by show 1 + 1 ≤ fS + 6 ∧ 8 + (2 + 11) + (20) ≤ lS + 200; omega) ⟨Nat.zero_le _, Nat.zero_le _⟩ (fun q9 hq9 => c_X5_opens l D K ad la rest a1 σ1 q9 hq9) hF (fun v10 σ9 hF => ?_)
    refine x_if_eq C 40 dX5_readPart_14 (by decide) hF (fun hF => ?_) (fun hF => ?_)
    · refine x_iconst C 0 dX5_readPart_40 (by decide +kernel) ?_
      have hz := (cz_some hF).1
      replace hF := (cz_some hF).2
      exact x_zret C dX5_readPart_41 rfl hz (congrArg Prod.fst (Option.some.inj hF)) (congrArg (fun q9 : Int32 × xS => CW K ad la rest q9.2) (Option.some.inj hF))
    · refine x_aload_n C 0 0 dX5_readPart_17 rfl rfl ?_
      refine x_iload_n C 1 1 dX5_readPart_18 rfl rfl ?_
      refine x_iconst C 1 dX5_readPart_19 (by decide +kernel) ?_
      refine x_iadd C dX5_readPart_20 ?_
      refine x_callVI C (wf := CW K ad la rest) (As := [.int (a1 + 1)]) (rest := []) dX5_readPart_21 ml_X5_84 rfl rfl (Nat.le_of_ble_eq_true rfl) 47 (CW_47 K ad la rest σ9) rfl (by show fS + 1 ≤ fS + 6 ∧ 8 + (4 + 11) + (lS) ≤ lS + 200; omega) ⟨Nat.zero_le _, Nat.zero_le _⟩ (fun q9 hq9 => HS (a1 + 1) σ9 q9 hq9) hF (fun v12 σ11 hF => ?_)
      refine x_if_eq C 40 dX5_readPart_24 (by decide) hF (fun hF => ?_) (fun hF => ?_)
      · refine x_iconst C 0 dX5_readPart_40 (by decide +kernel) ?_
        have hz := (cz_some hF).1
        replace hF := (cz_some hF).2
        exact x_zret C dX5_readPart_41 rfl hz (congrArg Prod.fst (Option.some.inj hF)) (congrArg (fun q9 : Int32 × xS => CW K ad la rest q9.2) (Option.some.inj hF))
      · refine x_aload_n C 0 0 dX5_readPart_27 rfl rfl ?_
        refine x_bipush C 93 dX5_readPart_28 (by decide +kernel) ?_
        refine x_callVI C (wf := CW K ad la rest) (As := [.int 93]) (rest := []) dX5_readPart_30 ml_X5_117 rfl rfl (Nat.le_of_ble_eq_true rfl) 47 (CW_47 K ad la rest σ11) rfl (by show 1 + 1 ≤ fS + 6 ∧ 8 + (2 + 11) + (20) ≤ lS + 200; omega) ⟨Nat.zero_le _, Nat.zero_le _⟩ (fun q9 hq9 => c_X5_closes l D K ad la rest 93 σ11 q9 hq9) hF (fun v14 σ13 hF => ?_)
        refine x_if_eq C 40 dX5_readPart_33 (by decide) hF (fun hF => ?_) (fun hF => ?_)
        · refine x_iconst C 0 dX5_readPart_40 (by decide +kernel) ?_
          have hz := (cz_some hF).1
          replace hF := (cz_some hF).2
          exact x_zret C dX5_readPart_41 rfl hz (congrArg Prod.fst (Option.some.inj hF)) (congrArg (fun q9 : Int32 × xS => CW K ad la rest q9.2) (Option.some.inj hF))
        · refine x_iconst C 1 dX5_readPart_36 (by decide +kernel) ?_
          refine x_goto C 41 dX5_readPart_37 (by decide) ?_
          have hz := (cz_some hF).1
          replace hF := (cz_some hF).2
          exact x_zret C dX5_readPart_41 rfl hz (congrArg Prod.fst (Option.some.inj hF)) (congrArg (fun q9 : Int32 × xS => CW K ad la rest q9.2) (Option.some.inj hF))
theorem dX5_readTerm_0 : decode cX5_readTerm 0 = .ok (.aload_n 0, 1) := by decide +kernel
theorem dX5_readTerm_1 : decode cX5_readTerm 1 = .ok (.iload_n 1, 1) := by decide +kernel
theorem dX5_readTerm_2 : decode cX5_readTerm 2 = .ok (.invokevirtual 123, 3) := by decide +kernel
theorem dX5_readTerm_5 : decode cX5_readTerm 5 = .ok (.ifCond .ne 5, 3) := by decide +kernel
theorem dX5_readTerm_8 : decode cX5_readTerm 8 = .ok (.iconst 0, 1) := by decide +kernel
theorem dX5_readTerm_9 : decode cX5_readTerm 9 = .ok (.ireturn, 1) := by decide +kernel
theorem dX5_readTerm_10 : decode cX5_readTerm 10 = .ok (.iconst 0, 1) := by decide +kernel
theorem dX5_readTerm_11 : decode cX5_readTerm 11 = .ok (.istore_n 2, 1) := by decide +kernel
theorem dX5_readTerm_12 : decode cX5_readTerm 12 = .ok (.iload_n 2, 1) := by decide +kernel
theorem dX5_readTerm_13 : decode cX5_readTerm 13 = .ok (.sipush 400, 3) := by decide +kernel
theorem dX5_readTerm_16 : decode cX5_readTerm 16 = .ok (.if_icmp .gt 62, 3) := by decide +kernel
theorem dX5_readTerm_19 : decode cX5_readTerm 19 = .ok (.aload_n 0, 1) := by decide +kernel
theorem dX5_readTerm_20 : decode cX5_readTerm 20 = .ok (.invokevirtual 49, 3) := by decide +kernel
theorem dX5_readTerm_23 : decode cX5_readTerm 23 = .ok (.bipush 42, 2) := by decide +kernel
theorem dX5_readTerm_25 : decode cX5_readTerm 25 = .ok (.if_icmp .eq 12, 3) := by decide +kernel
theorem dX5_readTerm_28 : decode cX5_readTerm 28 = .ok (.aload_n 0, 1) := by decide +kernel
theorem dX5_readTerm_29 : decode cX5_readTerm 29 = .ok (.invokevirtual 49, 3) := by decide +kernel
theorem dX5_readTerm_32 : decode cX5_readTerm 32 = .ok (.bipush 47, 2) := by decide +kernel
theorem dX5_readTerm_34 : decode cX5_readTerm 34 = .ok (.if_icmp .ne 44, 3) := by decide +kernel
theorem dX5_readTerm_37 : decode cX5_readTerm 37 = .ok (.aload_n 0, 1) := by decide +kernel
theorem dX5_readTerm_38 : decode cX5_readTerm 38 = .ok (.invokevirtual 49, 3) := by decide +kernel
theorem dX5_readTerm_41 : decode cX5_readTerm 41 = .ok (.istore_n 3, 1) := by decide +kernel
theorem dX5_readTerm_42 : decode cX5_readTerm 42 = .ok (.aload_n 0, 1) := by decide +kernel
theorem dX5_readTerm_43 : decode cX5_readTerm 43 = .ok (.invokevirtual 61, 3) := by decide +kernel
theorem dX5_readTerm_46 : decode cX5_readTerm 46 = .ok (.aload_n 0, 1) := by decide +kernel
theorem dX5_readTerm_47 : decode cX5_readTerm 47 = .ok (.iload_n 1, 1) := by decide +kernel
theorem dX5_readTerm_48 : decode cX5_readTerm 48 = .ok (.invokevirtual 123, 3) := by decide +kernel
theorem dX5_readTerm_51 : decode cX5_readTerm 51 = .ok (.ifCond .ne 5, 3) := by decide +kernel
theorem dX5_readTerm_54 : decode cX5_readTerm 54 = .ok (.iconst 0, 1) := by decide +kernel
theorem dX5_readTerm_55 : decode cX5_readTerm 55 = .ok (.ireturn, 1) := by decide +kernel
theorem dX5_readTerm_56 : decode cX5_readTerm 56 = .ok (.aload_n 0, 1) := by decide +kernel
theorem dX5_readTerm_57 : decode cX5_readTerm 57 = .ok (.iload_n 3, 1) := by decide +kernel
theorem dX5_readTerm_58 : decode cX5_readTerm 58 = .ok (.bipush 42, 2) := by decide +kernel
theorem dX5_readTerm_60 : decode cX5_readTerm 60 = .ok (.if_icmp .ne 7, 3) := by decide +kernel
theorem dX5_readTerm_63 : decode cX5_readTerm 63 = .ok (.iconst 4, 1) := by decide +kernel
theorem dX5_readTerm_64 : decode cX5_readTerm 64 = .ok (.goto 4, 3) := by decide +kernel
theorem dX5_readTerm_67 : decode cX5_readTerm 67 = .ok (.iconst 5, 1) := by decide +kernel
theorem dX5_readTerm_68 : decode cX5_readTerm 68 = .ok (.iconst 0, 1) := by decide +kernel
theorem dX5_readTerm_69 : decode cX5_readTerm 69 = .ok (.invokevirtual 87, 3) := by decide +kernel
theorem dX5_readTerm_72 : decode cX5_readTerm 72 = .ok (.iinc 2 1, 3) := by decide +kernel
theorem dX5_readTerm_75 : decode cX5_readTerm 75 = .ok (.goto (-63), 3) := by decide +kernel
theorem dX5_readTerm_78 : decode cX5_readTerm 78 = .ok (.iconst 1, 1) := by decide +kernel
theorem dX5_readTerm_79 : decode cX5_readTerm 79 = .ok (.ireturn, 1) := by decide +kernel
set_option maxHeartbeats 4000000 in
set_option maxRecDepth 100000 in
theorem x_X5_readTerm_68 {p : Program} {l : Launch} {e : Env} {s : State} {m : MethodId} {args : Array Value} {below : List Frame} {meth : Method} {c : Code} {D : va_G} {K : Nat → ClassId} {A : Nat → Prop} {ad la : Nat → Nat} {rest : va_W} (kS : Int32 → xS → Option (Int32 × xS)) (fS lS : Nat) (HS : ∀ (a1 : Int32) (σ : xS) (z : Int32 × xS), kS a1 σ = some z → CI l D K yX5_readSum cX5_readSum 4 (some .boolean) fS lS [.ref (ad 47), .int a1] (CW K ad la rest σ) z.1 (CW K ad la rest z.2)) (C : xC p s m args meth c D K A RX5 cX5_readTerm 4 (some .boolean)) (z : Int32 × xS) (k_12 : Int32 → Int32 → xS → Option (Int32 × xS)) (H_12 : ∀ (y1 : Int32) (y2 : Int32) (σ : xS), k_12 y1 y2 σ = some z → X p l e (xR (fS + 7) (lS + 240)) s m args below meth c D A 4 (xQi below D K A args s z.1 (CW K ad la rest z.2)) 0 0 12 [(0, .ref (ad 47)), (1, .int y1), (2, .int y2)] [] (CW K ad la rest σ)) : ∀ (y1 : Int32) (y2 : Int32) (t1x : Int32) (σ : xS), F_X5_readTerm_68 kS k_12 y1 y2 t1x σ = some z → X p l e (xR (fS + 7) (lS + 240)) s m args below meth c D A 4 (xQi below D K A args s z.1 (CW K ad la rest z.2)) 0 0 68 [(0, .ref (ad 47)), (1, .int y1), (2, .int y2)] [.int t1x, .ref (ad 47)] (CW K ad la rest σ) := by
  intro y1 y2 t1x σ hF
  unfold F_X5_readTerm_68 at hF
  refine x_iconst C 0 dX5_readTerm_68 (by decide +kernel) ?_
  refine x_callVV C (wf := CW K ad la rest) (As := [.int t1x, .int 0]) (rest := []) dX5_readTerm_69 ml_X5_87 rfl rfl (Nat.le_of_ble_eq_true rfl) 47 (CW_47 K ad la rest σ) rfl (by show 0 + 1 ≤ fS + 7 ∧ 8 + (3 + 11) + (0) ≤ lS + 240; omega) ⟨Nat.zero_le _, Nat.zero_le _⟩ (fun q9 hq9 => c_X5_step l D K ad la rest t1x 0 σ q9 hq9) hF (fun _ σ13 hF => ?_)
  refine x_iincN C 1 2 (fun x14 => [(2, .int x14), (0, .ref (ad 47)), (1, .int y1)]) dX5_readTerm_72 rfl (by decide +kernel) (by decide) (fun _ => rfl) hF (fun x14 hF => ?_)
  refine x_goto C 12 dX5_readTerm_75 (by decide) ?_
  refine x_loc [(0, .ref (ad 47)), (1, .int y1), (2, .int x14)] [1, 2, 0] rfl ?_
  exact H_12 y1 x14 σ13 hF
set_option maxHeartbeats 4000000 in
set_option maxRecDepth 100000 in
theorem x_X5_readTerm_37 {p : Program} {l : Launch} {e : Env} {s : State} {m : MethodId} {args : Array Value} {below : List Frame} {meth : Method} {c : Code} {D : va_G} {K : Nat → ClassId} {A : Nat → Prop} {ad la : Nat → Nat} {rest : va_W} (kS : Int32 → xS → Option (Int32 × xS)) (fS lS : Nat) (HS : ∀ (a1 : Int32) (σ : xS) (z : Int32 × xS), kS a1 σ = some z → CI l D K yX5_readSum cX5_readSum 4 (some .boolean) fS lS [.ref (ad 47), .int a1] (CW K ad la rest σ) z.1 (CW K ad la rest z.2)) (C : xC p s m args meth c D K A RX5 cX5_readTerm 4 (some .boolean)) (z : Int32 × xS) (k_12 : Int32 → Int32 → xS → Option (Int32 × xS)) (H_12 : ∀ (y1 : Int32) (y2 : Int32) (σ : xS), k_12 y1 y2 σ = some z → X p l e (xR (fS + 7) (lS + 240)) s m args below meth c D A 4 (xQi below D K A args s z.1 (CW K ad la rest z.2)) 0 0 12 [(0, .ref (ad 47)), (1, .int y1), (2, .int y2)] [] (CW K ad la rest σ)) : ∀ (y1 : Int32) (y2 : Int32) (σ : xS), F_X5_readTerm_37 kS k_12 y1 y2 σ = some z → X p l e (xR (fS + 7) (lS + 240)) s m args below meth c D A 4 (xQi below D K A args s z.1 (CW K ad la rest z.2)) 0 0 37 [(0, .ref (ad 47)), (1, .int y1), (2, .int y2)] [] (CW K ad la rest σ) := by
  intro y1 y2 σ hF
  unfold F_X5_readTerm_37 at hF
  refine x_aload_n C 0 0 dX5_readTerm_37 rfl rfl ?_
  refine x_callVI C (wf := CW K ad la rest) (As := []) (rest := []) dX5_readTerm_38 ml_X5_49 rfl rfl (Nat.le_of_ble_eq_true rfl) 47 (CW_47 K ad la rest σ) rfl (by show 0 + 1 ≤ fS + 7 ∧ 8 + (1 + 11) + (0) ≤ lS + 240; omega) ⟨Nat.zero_le _, Nat.zero_le _⟩ (fun q9 hq9 => c_X5_token l D K ad la rest σ q9 hq9) hF (fun v9 σ8 hF => ?_)
  refine x_istore_n C [(3, .int v9), (0, .ref (ad 47)), (1, .int y1), (2, .int y2)] dX5_readTerm_41 rfl (by decide) rfl ?_
  refine x_aload_n C 1 0 dX5_readTerm_42 rfl rfl ?_
  refine x_callVV C (wf := CW K ad la rest) (As := []) (rest := []) dX5_readTerm_43 ml_X5_61 rfl rfl (Nat.le_of_ble_eq_true rfl) 47 (CW_47 K ad la rest σ8) rfl (by show 0 + 1 ≤ fS + 7 ∧ 8 + (1 + 11) + (0) ≤ lS + 240; omega) ⟨Nat.zero_le _, Nat.zero_le _⟩ (fun q9 hq9 => c_X5_next l D K ad la rest σ8 q9 hq9) hF (fun _ σ10 hF => ?_)
  refine x_aload_n C 1 0 dX5_readTerm_46 rfl rfl ?_
  refine x_iload_n C 2 1 dX5_readTerm_47 rfl rfl ?_
  refine x_callVI C (wf := CW K ad la rest) (As := [.int y1]) (rest := []) dX5_readTerm_48 ml_X5_123 rfl rfl (Nat.le_of_ble_eq_true rfl) 47 (CW_47 K ad la rest σ10) rfl (by show fS + 6 + 1 ≤ fS + 7 ∧ 8 + (6 + 11) + (lS + 200) ≤ lS + 240; omega) ⟨Nat.zero_le _, Nat.zero_le _⟩ (fun q9 hq9 => c_X5_readPart l D K ad la rest kS fS lS HS y1 σ10 q9 hq9) hF (fun v12 σ11 hF => ?_)
  refine x_if_ne C 56 dX5_readTerm_51 (by decide) hF (fun hF => ?_) (fun hF => ?_)
  · refine x_aload_n C 1 0 dX5_readTerm_56 rfl rfl ?_
    refine x_iload_n C 0 3 dX5_readTerm_57 rfl rfl ?_
    refine x_bipush C 42 dX5_readTerm_58 (by decide +kernel) ?_
    refine x_icmp_ne C 67 dX5_readTerm_60 (by decide) hF (fun hF => ?_) (fun hF => ?_)
    · refine x_iconst C 5 dX5_readTerm_67 (by decide +kernel) ?_
      refine x_loc [(0, .ref (ad 47)), (1, .int y1), (2, .int y2)] [1, 2, 3] rfl ?_
      exact x_X5_readTerm_68 kS fS lS HS C z k_12 H_12 y1 y2 5 σ11 hF
    · refine x_iconst C 4 dX5_readTerm_63 (by decide +kernel) ?_
      refine x_goto C 68 dX5_readTerm_64 (by decide) ?_
      refine x_loc [(0, .ref (ad 47)), (1, .int y1), (2, .int y2)] [1, 2, 3] rfl ?_
      exact x_X5_readTerm_68 kS fS lS HS C z k_12 H_12 y1 y2 4 σ11 hF
  · refine x_iconst C 0 dX5_readTerm_54 (by decide +kernel) ?_
    have hz := (cz_some hF).1
    replace hF := (cz_some hF).2
    exact x_zret C dX5_readTerm_55 rfl hz (congrArg Prod.fst (Option.some.inj hF)) (congrArg (fun q9 : Int32 × xS => CW K ad la rest q9.2) (Option.some.inj hF))
set_option maxHeartbeats 4000000 in
set_option maxRecDepth 100000 in
theorem x_X5_readTerm_12 {p : Program} {l : Launch} {e : Env} {s : State} {m : MethodId} {args : Array Value} {below : List Frame} {meth : Method} {c : Code} {D : va_G} {K : Nat → ClassId} {A : Nat → Prop} {ad la : Nat → Nat} {rest : va_W} (kS : Int32 → xS → Option (Int32 × xS)) (fS lS : Nat) (HS : ∀ (a1 : Int32) (σ : xS) (z : Int32 × xS), kS a1 σ = some z → CI l D K yX5_readSum cX5_readSum 4 (some .boolean) fS lS [.ref (ad 47), .int a1] (CW K ad la rest σ) z.1 (CW K ad la rest z.2)) (C : xC p s m args meth c D K A RX5 cX5_readTerm 4 (some .boolean)) (z : Int32 × xS) : ∀ (n : Nat) (y1 : Int32) (y2 : Int32) (σ : xS), F_X5_readTerm_12 kS n y1 y2 σ = some z → X p l e (xR (fS + 7) (lS + 240)) s m args below meth c D A 4 (xQi below D K A args s z.1 (CW K ad la rest z.2)) 0 0 12 [(0, .ref (ad 47)), (1, .int y1), (2, .int y2)] [] (CW K ad la rest σ) := by
  intro n
  induction n with
  | zero =>
    intro y1 y2 σ hF
    cases hF
  | succ n ih =>
    intro y1 y2 σ hF
    rw [F_X5_readTerm_12] at hF
    refine x_iload_n C 2 2 dX5_readTerm_12 rfl rfl ?_
    refine x_sipush C 400 dX5_readTerm_13 (by decide +kernel) ?_
    refine x_icmp_gt C 78 dX5_readTerm_16 (by decide) hF (fun hF => ?_) (fun hF => ?_)
    · refine x_iconst C 1 dX5_readTerm_78 (by decide +kernel) ?_
      have hz := (cz_some hF).1
      replace hF := (cz_some hF).2
      exact x_zret C dX5_readTerm_79 rfl hz (congrArg Prod.fst (Option.some.inj hF)) (congrArg (fun q9 : Int32 × xS => CW K ad la rest q9.2) (Option.some.inj hF))
    · refine x_aload_n C 0 0 dX5_readTerm_19 rfl rfl ?_
      refine x_callVI C (wf := CW K ad la rest) (As := []) (rest := []) dX5_readTerm_20 ml_X5_49 rfl rfl (Nat.le_of_ble_eq_true rfl) 47 (CW_47 K ad la rest σ) rfl (by show 0 + 1 ≤ fS + 7 ∧ 8 + (1 + 11) + (0) ≤ lS + 240; omega) ⟨Nat.zero_le _, Nat.zero_le _⟩ (fun q9 hq9 => c_X5_token l D K ad la rest σ q9 hq9) hF (fun v5 σ4 hF => ?_)
      refine x_bipush C 42 dX5_readTerm_23 (by decide +kernel) ?_
      refine x_icmp_eq C 37 dX5_readTerm_25 (by decide) hF (fun hF => ?_) (fun hF => ?_)
      · exact x_X5_readTerm_37 kS fS lS HS C z ((F_X5_readTerm_12 kS n)) ih y1 y2 σ4 hF
      · refine x_aload_n C 0 0 dX5_readTerm_28 rfl rfl ?_
        refine x_callVI C (wf := CW K ad la rest) (As := []) (rest := []) dX5_readTerm_29 ml_X5_49 rfl rfl (Nat.le_of_ble_eq_true rfl) 47 (CW_47 K ad la rest σ4) rfl (by show 0 + 1 ≤ fS + 7 ∧ 8 + (1 + 11) + (0) ≤ lS + 240; omega) ⟨Nat.zero_le _, Nat.zero_le _⟩ (fun q9 hq9 => c_X5_token l D K ad la rest σ4 q9 hq9) hF (fun v7 σ6 hF => ?_)
        refine x_bipush C 47 dX5_readTerm_32 (by decide +kernel) ?_
        refine x_icmp_ne C 78 dX5_readTerm_34 (by decide) hF (fun hF => ?_) (fun hF => ?_)
        · refine x_iconst C 1 dX5_readTerm_78 (by decide +kernel) ?_
          have hz := (cz_some hF).1
          replace hF := (cz_some hF).2
          exact x_zret C dX5_readTerm_79 rfl hz (congrArg Prod.fst (Option.some.inj hF)) (congrArg (fun q9 : Int32 × xS => CW K ad la rest q9.2) (Option.some.inj hF))
        · exact x_X5_readTerm_37 kS fS lS HS C z ((F_X5_readTerm_12 kS n)) ih y1 y2 σ6 hF
set_option maxHeartbeats 4000000 in
set_option maxRecDepth 100000 in
theorem c_X5_readTerm (l : Launch) (D : va_G) (K : Nat → ClassId) (ad la : Nat → Nat) (rest : va_W) (kS : Int32 → xS → Option (Int32 × xS)) (fS lS : Nat) (HS : ∀ (a1 : Int32) (σ : xS) (z : Int32 × xS), kS a1 σ = some z → CI l D K yX5_readSum cX5_readSum 4 (some .boolean) fS lS [.ref (ad 47), .int a1] (CW K ad la rest σ) z.1 (CW K ad la rest z.2)) (a1 : Int32) (σ : xS) (z : Int32 × xS) (hF : F_X5_readTerm kS a1 σ = some z) : CI l D K yX5_readTerm cX5_readTerm 4 (some .boolean) (fS + 7) (lS + 240) [.ref (ad 47), .int a1] (CW K ad la rest σ) z.1 (CW K ad la rest z.2) := by
  refine x_enterI [(0, .ref (ad 47)), (1, .int a1)] pnX5 (Nat.le_of_ble_eq_true rfl) rfl ?_
  intro p e s m args below meth c A C
  unfold F_X5_readTerm at hF
  refine x_aload_n C 0 0 dX5_readTerm_0 rfl rfl ?_
  refine x_iload_n C 1 1 dX5_readTerm_1 rfl rfl ?_
  refine x_callVI C (wf := CW K ad la rest) (As := [.int a1]) (rest := []) dX5_readTerm_2 ml_X5_123 rfl rfl (Nat.le_of_ble_eq_true rfl) 47 (CW_47 K ad la rest σ) rfl (by show fS + 6 + 1 ≤ fS + 7 ∧ 8 + (6 + 11) + (lS + 200) ≤ lS + 240; omega) ⟨Nat.zero_le _, Nat.zero_le _⟩ (fun q9 hq9 => c_X5_readPart l D K ad la rest kS fS lS HS a1 σ q9 hq9) hF (fun v2 σ1 hF => ?_)
  refine x_if_ne C 10 dX5_readTerm_5 (by decide) hF (fun hF => ?_) (fun hF => ?_)
  · refine x_iconst C 0 dX5_readTerm_10 (by decide +kernel) ?_
    refine x_topI hF (fun x3 hF => ?_)
    refine x_istore_n C [(2, .int x3), (0, .ref (ad 47)), (1, .int a1)] dX5_readTerm_11 rfl (by decide) rfl ?_
    refine x_loc [(0, .ref (ad 47)), (1, .int a1), (2, .int x3)] [1, 2, 0] rfl ?_
    exact x_X5_readTerm_12 kS fS lS HS C z FU a1 x3 σ1 hF
  · refine x_iconst C 0 dX5_readTerm_8 (by decide +kernel) ?_
    have hz := (cz_some hF).1
    replace hF := (cz_some hF).2
    exact x_zret C dX5_readTerm_9 rfl hz (congrArg Prod.fst (Option.some.inj hF)) (congrArg (fun q9 : Int32 × xS => CW K ad la rest q9.2) (Option.some.inj hF))
theorem dX5_readSum_0 : decode cX5_readSum 0 = .ok (.aload_n 0, 1) := by decide +kernel
theorem dX5_readSum_1 : decode cX5_readSum 1 = .ok (.iload_n 1, 1) := by decide +kernel
theorem dX5_readSum_2 : decode cX5_readSum 2 = .ok (.invokevirtual 120, 3) := by decide +kernel
theorem dX5_readSum_5 : decode cX5_readSum 5 = .ok (.ifCond .ne 5, 3) := by decide +kernel
theorem dX5_readSum_8 : decode cX5_readSum 8 = .ok (.iconst 0, 1) := by decide +kernel
theorem dX5_readSum_9 : decode cX5_readSum 9 = .ok (.ireturn, 1) := by decide +kernel
theorem dX5_readSum_10 : decode cX5_readSum 10 = .ok (.iconst 0, 1) := by decide +kernel
theorem dX5_readSum_11 : decode cX5_readSum 11 = .ok (.istore_n 2, 1) := by decide +kernel
theorem dX5_readSum_12 : decode cX5_readSum 12 = .ok (.iload_n 2, 1) := by decide +kernel
theorem dX5_readSum_13 : decode cX5_readSum 13 = .ok (.sipush 400, 3) := by decide +kernel
theorem dX5_readSum_16 : decode cX5_readSum 16 = .ok (.if_icmp .gt 62, 3) := by decide +kernel
theorem dX5_readSum_19 : decode cX5_readSum 19 = .ok (.aload_n 0, 1) := by decide +kernel
theorem dX5_readSum_20 : decode cX5_readSum 20 = .ok (.invokevirtual 49, 3) := by decide +kernel
theorem dX5_readSum_23 : decode cX5_readSum 23 = .ok (.bipush 43, 2) := by decide +kernel
theorem dX5_readSum_25 : decode cX5_readSum 25 = .ok (.if_icmp .eq 12, 3) := by decide +kernel
theorem dX5_readSum_28 : decode cX5_readSum 28 = .ok (.aload_n 0, 1) := by decide +kernel
theorem dX5_readSum_29 : decode cX5_readSum 29 = .ok (.invokevirtual 49, 3) := by decide +kernel
theorem dX5_readSum_32 : decode cX5_readSum 32 = .ok (.bipush 45, 2) := by decide +kernel
theorem dX5_readSum_34 : decode cX5_readSum 34 = .ok (.if_icmp .ne 44, 3) := by decide +kernel
theorem dX5_readSum_37 : decode cX5_readSum 37 = .ok (.aload_n 0, 1) := by decide +kernel
theorem dX5_readSum_38 : decode cX5_readSum 38 = .ok (.invokevirtual 49, 3) := by decide +kernel
theorem dX5_readSum_41 : decode cX5_readSum 41 = .ok (.istore_n 3, 1) := by decide +kernel
theorem dX5_readSum_42 : decode cX5_readSum 42 = .ok (.aload_n 0, 1) := by decide +kernel
theorem dX5_readSum_43 : decode cX5_readSum 43 = .ok (.invokevirtual 61, 3) := by decide +kernel
theorem dX5_readSum_46 : decode cX5_readSum 46 = .ok (.aload_n 0, 1) := by decide +kernel
theorem dX5_readSum_47 : decode cX5_readSum 47 = .ok (.iload_n 1, 1) := by decide +kernel
theorem dX5_readSum_48 : decode cX5_readSum 48 = .ok (.invokevirtual 120, 3) := by decide +kernel
theorem dX5_readSum_51 : decode cX5_readSum 51 = .ok (.ifCond .ne 5, 3) := by decide +kernel
theorem dX5_readSum_54 : decode cX5_readSum 54 = .ok (.iconst 0, 1) := by decide +kernel
theorem dX5_readSum_55 : decode cX5_readSum 55 = .ok (.ireturn, 1) := by decide +kernel
theorem dX5_readSum_56 : decode cX5_readSum 56 = .ok (.aload_n 0, 1) := by decide +kernel
theorem dX5_readSum_57 : decode cX5_readSum 57 = .ok (.iload_n 3, 1) := by decide +kernel
theorem dX5_readSum_58 : decode cX5_readSum 58 = .ok (.bipush 43, 2) := by decide +kernel
theorem dX5_readSum_60 : decode cX5_readSum 60 = .ok (.if_icmp .ne 7, 3) := by decide +kernel
theorem dX5_readSum_63 : decode cX5_readSum 63 = .ok (.iconst 2, 1) := by decide +kernel
theorem dX5_readSum_64 : decode cX5_readSum 64 = .ok (.goto 4, 3) := by decide +kernel
theorem dX5_readSum_67 : decode cX5_readSum 67 = .ok (.iconst 3, 1) := by decide +kernel
theorem dX5_readSum_68 : decode cX5_readSum 68 = .ok (.iconst 0, 1) := by decide +kernel
theorem dX5_readSum_69 : decode cX5_readSum 69 = .ok (.invokevirtual 87, 3) := by decide +kernel
theorem dX5_readSum_72 : decode cX5_readSum 72 = .ok (.iinc 2 1, 3) := by decide +kernel
theorem dX5_readSum_75 : decode cX5_readSum 75 = .ok (.goto (-63), 3) := by decide +kernel
theorem dX5_readSum_78 : decode cX5_readSum 78 = .ok (.iconst 1, 1) := by decide +kernel
theorem dX5_readSum_79 : decode cX5_readSum 79 = .ok (.ireturn, 1) := by decide +kernel
set_option maxHeartbeats 4000000 in
set_option maxRecDepth 100000 in
theorem x_X5_readSum_68 {p : Program} {l : Launch} {e : Env} {s : State} {m : MethodId} {args : Array Value} {below : List Frame} {meth : Method} {c : Code} {D : va_G} {K : Nat → ClassId} {A : Nat → Prop} {ad la : Nat → Nat} {rest : va_W} (kS : Int32 → xS → Option (Int32 × xS)) (fS lS : Nat) (HS : ∀ (a1 : Int32) (σ : xS) (z : Int32 × xS), kS a1 σ = some z → CI l D K yX5_readSum cX5_readSum 4 (some .boolean) fS lS [.ref (ad 47), .int a1] (CW K ad la rest σ) z.1 (CW K ad la rest z.2)) (C : xC p s m args meth c D K A RX5 cX5_readSum 4 (some .boolean)) (z : Int32 × xS) (k_12 : Int32 → Int32 → xS → Option (Int32 × xS)) (H_12 : ∀ (y1 : Int32) (y2 : Int32) (σ : xS), k_12 y1 y2 σ = some z → X p l e (xR (fS + 8) (lS + 280)) s m args below meth c D A 4 (xQi below D K A args s z.1 (CW K ad la rest z.2)) 0 0 12 [(0, .ref (ad 47)), (1, .int y1), (2, .int y2)] [] (CW K ad la rest σ)) : ∀ (y1 : Int32) (y2 : Int32) (t1x : Int32) (σ : xS), F_X5_readSum_68 kS k_12 y1 y2 t1x σ = some z → X p l e (xR (fS + 8) (lS + 280)) s m args below meth c D A 4 (xQi below D K A args s z.1 (CW K ad la rest z.2)) 0 0 68 [(0, .ref (ad 47)), (1, .int y1), (2, .int y2)] [.int t1x, .ref (ad 47)] (CW K ad la rest σ) := by
  intro y1 y2 t1x σ hF
  unfold F_X5_readSum_68 at hF
  refine x_iconst C 0 dX5_readSum_68 (by decide +kernel) ?_
  refine x_callVV C (wf := CW K ad la rest) (As := [.int t1x, .int 0]) (rest := []) dX5_readSum_69 ml_X5_87 rfl rfl (Nat.le_of_ble_eq_true rfl) 47 (CW_47 K ad la rest σ) rfl (by show 0 + 1 ≤ fS + 8 ∧ 8 + (3 + 11) + (0) ≤ lS + 280; omega) ⟨Nat.zero_le _, Nat.zero_le _⟩ (fun q9 hq9 => c_X5_step l D K ad la rest t1x 0 σ q9 hq9) hF (fun _ σ13 hF => ?_)
  refine x_iincN C 1 2 (fun x14 => [(2, .int x14), (0, .ref (ad 47)), (1, .int y1)]) dX5_readSum_72 rfl (by decide +kernel) (by decide) (fun _ => rfl) hF (fun x14 hF => ?_)
  refine x_goto C 12 dX5_readSum_75 (by decide) ?_
  refine x_loc [(0, .ref (ad 47)), (1, .int y1), (2, .int x14)] [1, 2, 0] rfl ?_
  exact H_12 y1 x14 σ13 hF
set_option maxHeartbeats 4000000 in
set_option maxRecDepth 100000 in
theorem x_X5_readSum_37 {p : Program} {l : Launch} {e : Env} {s : State} {m : MethodId} {args : Array Value} {below : List Frame} {meth : Method} {c : Code} {D : va_G} {K : Nat → ClassId} {A : Nat → Prop} {ad la : Nat → Nat} {rest : va_W} (kS : Int32 → xS → Option (Int32 × xS)) (fS lS : Nat) (HS : ∀ (a1 : Int32) (σ : xS) (z : Int32 × xS), kS a1 σ = some z → CI l D K yX5_readSum cX5_readSum 4 (some .boolean) fS lS [.ref (ad 47), .int a1] (CW K ad la rest σ) z.1 (CW K ad la rest z.2)) (C : xC p s m args meth c D K A RX5 cX5_readSum 4 (some .boolean)) (z : Int32 × xS) (k_12 : Int32 → Int32 → xS → Option (Int32 × xS)) (H_12 : ∀ (y1 : Int32) (y2 : Int32) (σ : xS), k_12 y1 y2 σ = some z → X p l e (xR (fS + 8) (lS + 280)) s m args below meth c D A 4 (xQi below D K A args s z.1 (CW K ad la rest z.2)) 0 0 12 [(0, .ref (ad 47)), (1, .int y1), (2, .int y2)] [] (CW K ad la rest σ)) : ∀ (y1 : Int32) (y2 : Int32) (σ : xS), F_X5_readSum_37 kS k_12 y1 y2 σ = some z → X p l e (xR (fS + 8) (lS + 280)) s m args below meth c D A 4 (xQi below D K A args s z.1 (CW K ad la rest z.2)) 0 0 37 [(0, .ref (ad 47)), (1, .int y1), (2, .int y2)] [] (CW K ad la rest σ) := by
  intro y1 y2 σ hF
  unfold F_X5_readSum_37 at hF
  refine x_aload_n C 0 0 dX5_readSum_37 rfl rfl ?_
  refine x_callVI C (wf := CW K ad la rest) (As := []) (rest := []) dX5_readSum_38 ml_X5_49 rfl rfl (Nat.le_of_ble_eq_true rfl) 47 (CW_47 K ad la rest σ) rfl (by show 0 + 1 ≤ fS + 8 ∧ 8 + (1 + 11) + (0) ≤ lS + 280; omega) ⟨Nat.zero_le _, Nat.zero_le _⟩ (fun q9 hq9 => c_X5_token l D K ad la rest σ q9 hq9) hF (fun v9 σ8 hF => ?_)
  refine x_istore_n C [(3, .int v9), (0, .ref (ad 47)), (1, .int y1), (2, .int y2)] dX5_readSum_41 rfl (by decide) rfl ?_
  refine x_aload_n C 1 0 dX5_readSum_42 rfl rfl ?_
  refine x_callVV C (wf := CW K ad la rest) (As := []) (rest := []) dX5_readSum_43 ml_X5_61 rfl rfl (Nat.le_of_ble_eq_true rfl) 47 (CW_47 K ad la rest σ8) rfl (by show 0 + 1 ≤ fS + 8 ∧ 8 + (1 + 11) + (0) ≤ lS + 280; omega) ⟨Nat.zero_le _, Nat.zero_le _⟩ (fun q9 hq9 => c_X5_next l D K ad la rest σ8 q9 hq9) hF (fun _ σ10 hF => ?_)
  refine x_aload_n C 1 0 dX5_readSum_46 rfl rfl ?_
  refine x_iload_n C 2 1 dX5_readSum_47 rfl rfl ?_
  refine x_callVI C (wf := CW K ad la rest) (As := [.int y1]) (rest := []) dX5_readSum_48 ml_X5_120 rfl rfl (Nat.le_of_ble_eq_true rfl) 47 (CW_47 K ad la rest σ10) rfl (by show fS + 7 + 1 ≤ fS + 8 ∧ 8 + (4 + 11) + (lS + 240) ≤ lS + 280; omega) ⟨Nat.zero_le _, Nat.zero_le _⟩ (fun q9 hq9 => c_X5_readTerm l D K ad la rest kS fS lS HS y1 σ10 q9 hq9) hF (fun v12 σ11 hF => ?_)
  refine x_if_ne C 56 dX5_readSum_51 (by decide) hF (fun hF => ?_) (fun hF => ?_)
  · refine x_aload_n C 1 0 dX5_readSum_56 rfl rfl ?_
    refine x_iload_n C 0 3 dX5_readSum_57 rfl rfl ?_
    refine x_bipush C 43 dX5_readSum_58 (by decide +kernel) ?_
    refine x_icmp_ne C 67 dX5_readSum_60 (by decide) hF (fun hF => ?_) (fun hF => ?_)
    · refine x_iconst C 3 dX5_readSum_67 (by decide +kernel) ?_
      refine x_loc [(0, .ref (ad 47)), (1, .int y1), (2, .int y2)] [1, 2, 3] rfl ?_
      exact x_X5_readSum_68 kS fS lS HS C z k_12 H_12 y1 y2 3 σ11 hF
    · refine x_iconst C 2 dX5_readSum_63 (by decide +kernel) ?_
      refine x_goto C 68 dX5_readSum_64 (by decide) ?_
      refine x_loc [(0, .ref (ad 47)), (1, .int y1), (2, .int y2)] [1, 2, 3] rfl ?_
      exact x_X5_readSum_68 kS fS lS HS C z k_12 H_12 y1 y2 2 σ11 hF
  · refine x_iconst C 0 dX5_readSum_54 (by decide +kernel) ?_
    have hz := (cz_some hF).1
    replace hF := (cz_some hF).2
    exact x_zret C dX5_readSum_55 rfl hz (congrArg Prod.fst (Option.some.inj hF)) (congrArg (fun q9 : Int32 × xS => CW K ad la rest q9.2) (Option.some.inj hF))
set_option maxHeartbeats 4000000 in
set_option maxRecDepth 100000 in
theorem x_X5_readSum_12 {p : Program} {l : Launch} {e : Env} {s : State} {m : MethodId} {args : Array Value} {below : List Frame} {meth : Method} {c : Code} {D : va_G} {K : Nat → ClassId} {A : Nat → Prop} {ad la : Nat → Nat} {rest : va_W} (kS : Int32 → xS → Option (Int32 × xS)) (fS lS : Nat) (HS : ∀ (a1 : Int32) (σ : xS) (z : Int32 × xS), kS a1 σ = some z → CI l D K yX5_readSum cX5_readSum 4 (some .boolean) fS lS [.ref (ad 47), .int a1] (CW K ad la rest σ) z.1 (CW K ad la rest z.2)) (C : xC p s m args meth c D K A RX5 cX5_readSum 4 (some .boolean)) (z : Int32 × xS) : ∀ (n : Nat) (y1 : Int32) (y2 : Int32) (σ : xS), F_X5_readSum_12 kS n y1 y2 σ = some z → X p l e (xR (fS + 8) (lS + 280)) s m args below meth c D A 4 (xQi below D K A args s z.1 (CW K ad la rest z.2)) 0 0 12 [(0, .ref (ad 47)), (1, .int y1), (2, .int y2)] [] (CW K ad la rest σ) := by
  intro n
  induction n with
  | zero =>
    intro y1 y2 σ hF
    cases hF
  | succ n ih =>
    intro y1 y2 σ hF
    rw [F_X5_readSum_12] at hF
    refine x_iload_n C 2 2 dX5_readSum_12 rfl rfl ?_
    refine x_sipush C 400 dX5_readSum_13 (by decide +kernel) ?_
    refine x_icmp_gt C 78 dX5_readSum_16 (by decide) hF (fun hF => ?_) (fun hF => ?_)
    · refine x_iconst C 1 dX5_readSum_78 (by decide +kernel) ?_
      have hz := (cz_some hF).1
      replace hF := (cz_some hF).2
      exact x_zret C dX5_readSum_79 rfl hz (congrArg Prod.fst (Option.some.inj hF)) (congrArg (fun q9 : Int32 × xS => CW K ad la rest q9.2) (Option.some.inj hF))
    · refine x_aload_n C 0 0 dX5_readSum_19 rfl rfl ?_
      refine x_callVI C (wf := CW K ad la rest) (As := []) (rest := []) dX5_readSum_20 ml_X5_49 rfl rfl (Nat.le_of_ble_eq_true rfl) 47 (CW_47 K ad la rest σ) rfl (by show 0 + 1 ≤ fS + 8 ∧ 8 + (1 + 11) + (0) ≤ lS + 280; omega) ⟨Nat.zero_le _, Nat.zero_le _⟩ (fun q9 hq9 => c_X5_token l D K ad la rest σ q9 hq9) hF (fun v5 σ4 hF => ?_)
      refine x_bipush C 43 dX5_readSum_23 (by decide +kernel) ?_
      refine x_icmp_eq C 37 dX5_readSum_25 (by decide) hF (fun hF => ?_) (fun hF => ?_)
      · exact x_X5_readSum_37 kS fS lS HS C z ((F_X5_readSum_12 kS n)) ih y1 y2 σ4 hF
      · refine x_aload_n C 0 0 dX5_readSum_28 rfl rfl ?_
        refine x_callVI C (wf := CW K ad la rest) (As := []) (rest := []) dX5_readSum_29 ml_X5_49 rfl rfl (Nat.le_of_ble_eq_true rfl) 47 (CW_47 K ad la rest σ4) rfl (by show 0 + 1 ≤ fS + 8 ∧ 8 + (1 + 11) + (0) ≤ lS + 280; omega) ⟨Nat.zero_le _, Nat.zero_le _⟩ (fun q9 hq9 => c_X5_token l D K ad la rest σ4 q9 hq9) hF (fun v7 σ6 hF => ?_)
        refine x_bipush C 45 dX5_readSum_32 (by decide +kernel) ?_
        refine x_icmp_ne C 78 dX5_readSum_34 (by decide) hF (fun hF => ?_) (fun hF => ?_)
        · refine x_iconst C 1 dX5_readSum_78 (by decide +kernel) ?_
          have hz := (cz_some hF).1
          replace hF := (cz_some hF).2
          exact x_zret C dX5_readSum_79 rfl hz (congrArg Prod.fst (Option.some.inj hF)) (congrArg (fun q9 : Int32 × xS => CW K ad la rest q9.2) (Option.some.inj hF))
        · exact x_X5_readSum_37 kS fS lS HS C z ((F_X5_readSum_12 kS n)) ih y1 y2 σ6 hF
set_option maxHeartbeats 4000000 in
set_option maxRecDepth 100000 in
theorem c_X5_readSum (l : Launch) (D : va_G) (K : Nat → ClassId) (ad la : Nat → Nat) (rest : va_W) (kS : Int32 → xS → Option (Int32 × xS)) (fS lS : Nat) (HS : ∀ (a1 : Int32) (σ : xS) (z : Int32 × xS), kS a1 σ = some z → CI l D K yX5_readSum cX5_readSum 4 (some .boolean) fS lS [.ref (ad 47), .int a1] (CW K ad la rest σ) z.1 (CW K ad la rest z.2)) (a1 : Int32) (σ : xS) (z : Int32 × xS) (hF : F_X5_readSum kS a1 σ = some z) : CI l D K yX5_readSum cX5_readSum 4 (some .boolean) (fS + 8) (lS + 280) [.ref (ad 47), .int a1] (CW K ad la rest σ) z.1 (CW K ad la rest z.2) := by
  refine x_enterI [(0, .ref (ad 47)), (1, .int a1)] pnX5 (Nat.le_of_ble_eq_true rfl) rfl ?_
  intro p e s m args below meth c A C
  unfold F_X5_readSum at hF
  refine x_aload_n C 0 0 dX5_readSum_0 rfl rfl ?_
  refine x_iload_n C 1 1 dX5_readSum_1 rfl rfl ?_
  refine x_callVI C (wf := CW K ad la rest) (As := [.int a1]) (rest := []) dX5_readSum_2 ml_X5_120 rfl rfl (Nat.le_of_ble_eq_true rfl) 47 (CW_47 K ad la rest σ) rfl (by show fS + 7 + 1 ≤ fS + 8 ∧ 8 + (4 + 11) + (lS + 240) ≤ lS + 280; omega) ⟨Nat.zero_le _, Nat.zero_le _⟩ (fun q9 hq9 => c_X5_readTerm l D K ad la rest kS fS lS HS a1 σ q9 hq9) hF (fun v2 σ1 hF => ?_)
  refine x_if_ne C 10 dX5_readSum_5 (by decide) hF (fun hF => ?_) (fun hF => ?_)
  · refine x_iconst C 0 dX5_readSum_10 (by decide +kernel) ?_
    refine x_topI hF (fun x3 hF => ?_)
    refine x_istore_n C [(2, .int x3), (0, .ref (ad 47)), (1, .int a1)] dX5_readSum_11 rfl (by decide) rfl ?_
    refine x_loc [(0, .ref (ad 47)), (1, .int a1), (2, .int x3)] [1, 2, 0] rfl ?_
    exact x_X5_readSum_12 kS fS lS HS C z FU a1 x3 σ1 hF
  · refine x_iconst C 0 dX5_readSum_8 (by decide +kernel) ?_
    have hz := (cz_some hF).1
    replace hF := (cz_some hF).2
    exact x_zret C dX5_readSum_9 rfl hz (congrArg Prod.fst (Option.some.inj hF)) (congrArg (fun q9 : Int32 × xS => CW K ad la rest q9.2) (Option.some.inj hF))
theorem c_X5_readSumD (l : Launch) (D : va_G) (K : Nat → ClassId) (ad la : Nat → Nat) (rest : va_W) : ∀ (d : Nat) (a1 : Int32) (σ : xS) (z : Int32 × xS), F_X5_readSumD d a1 σ = some z → CI l D K yX5_readSum cX5_readSum 4 (some .boolean) (8 * d) (280 * d) [.ref (ad 47), .int a1] (CW K ad la rest σ) z.1 (CW K ad la rest z.2) := by
  intro d
  induction d with
  | zero =>
    intro a1 σ z hF
    cases hF
  | succ d ih =>
    intro a1 σ z hF
    rw [F_X5_readSumD] at hF
    exact c_X5_readSum l D K ad la rest (F_X5_readSumD d) (8 * d) (280 * d) ih a1 σ z hF
theorem c_X5_readSumR (l : Launch) (D : va_G) (K : Nat → ClassId) (ad la : Nat → Nat) (rest : va_W) (a1 : Int32) (σ : xS) (z : Int32 × xS) (hF : F_X5_readSumR a1 σ = some z) : CI l D K yX5_readSum cX5_readSum 4 (some .boolean) 80 2800 [.ref (ad 47), .int a1] (CW K ad la rest σ) z.1 (CW K ad la rest z.2) := c_X5_readSumD l D K ad la rest 10 a1 σ z hF
theorem dX5_readTestInBrackets_0 : decode cX5_readTestInBrackets 0 = .ok (.aload_n 0, 1) := by decide +kernel
theorem dX5_readTestInBrackets_1 : decode cX5_readTestInBrackets 1 = .ok (.iload_n 1, 1) := by decide +kernel
theorem dX5_readTestInBrackets_2 : decode cX5_readTestInBrackets 2 = .ok (.invokevirtual 114, 3) := by decide +kernel
theorem dX5_readTestInBrackets_5 : decode cX5_readTestInBrackets 5 = .ok (.ifCond .eq 26, 3) := by decide +kernel
theorem dX5_readTestInBrackets_8 : decode cX5_readTestInBrackets 8 = .ok (.aload_n 0, 1) := by decide +kernel
theorem dX5_readTestInBrackets_9 : decode cX5_readTestInBrackets 9 = .ok (.iload_n 1, 1) := by decide +kernel
theorem dX5_readTestInBrackets_10 : decode cX5_readTestInBrackets 10 = .ok (.iconst 1, 1) := by decide +kernel
theorem dX5_readTestInBrackets_11 : decode cX5_readTestInBrackets 11 = .ok (.iadd, 1) := by decide +kernel
theorem dX5_readTestInBrackets_12 : decode cX5_readTestInBrackets 12 = .ok (.invokevirtual 91, 3) := by decide +kernel
theorem dX5_readTestInBrackets_15 : decode cX5_readTestInBrackets 15 = .ok (.ifCond .eq 16, 3) := by decide +kernel
theorem dX5_readTestInBrackets_18 : decode cX5_readTestInBrackets 18 = .ok (.aload_n 0, 1) := by decide +kernel
theorem dX5_readTestInBrackets_19 : decode cX5_readTestInBrackets 19 = .ok (.bipush 41, 2) := by decide +kernel
theorem dX5_readTestInBrackets_21 : decode cX5_readTestInBrackets 21 = .ok (.invokevirtual 117, 3) := by decide +kernel
theorem dX5_readTestInBrackets_24 : decode cX5_readTestInBrackets 24 = .ok (.ifCond .eq 7, 3) := by decide +kernel
theorem dX5_readTestInBrackets_27 : decode cX5_readTestInBrackets 27 = .ok (.iconst 1, 1) := by decide +kernel
theorem dX5_readTestInBrackets_28 : decode cX5_readTestInBrackets 28 = .ok (.goto 4, 3) := by decide +kernel
theorem dX5_readTestInBrackets_31 : decode cX5_readTestInBrackets 31 = .ok (.iconst 0, 1) := by decide +kernel
theorem dX5_readTestInBrackets_32 : decode cX5_readTestInBrackets 32 = .ok (.ireturn, 1) := by decide +kernel
set_option maxHeartbeats 4000000 in
set_option maxRecDepth 100000 in
theorem c_X5_readTestInBrackets (l : Launch) (D : va_G) (K : Nat → ClassId) (ad la : Nat → Nat) (rest : va_W) (kT : Int32 → xS → Option (Int32 × xS)) (fT lT : Nat) (HT : ∀ (a1 : Int32) (σ : xS) (z : Int32 × xS), kT a1 σ = some z → CI l D K yX5_readTest cX5_readTest 4 (some .boolean) fT lT [.ref (ad 47), .int a1] (CW K ad la rest σ) z.1 (CW K ad la rest z.2)) (a1 : Int32) (σ : xS) (z : Int32 × xS) (hF : F_X5_readTestInBrackets kT a1 σ = some z) : CI l D K yX5_readTestInBrackets cX5_readTestInBrackets 2 (some .boolean) (fT + 6) (lT + 200) [.ref (ad 47), .int a1] (CW K ad la rest σ) z.1 (CW K ad la rest z.2) := by
  refine x_enterI [(0, .ref (ad 47)), (1, .int a1)] pnX5 (Nat.le_of_ble_eq_true rfl) rfl ?_
  intro p e s m args below meth c A C
  unfold F_X5_readTestInBrackets at hF
  refine x_aload_n C 0 0 dX5_readTestInBrackets_0 rfl rfl ?_
  refine x_iload_n C 1 1 dX5_readTestInBrackets_1 rfl rfl ?_
  refine x_callVI C (wf := CW K ad la rest) (As := [.int a1]) (rest := []) dX5_readTestInBrackets_2 ml_X5_114 rfl rfl (Nat.le_of_ble_eq_true rfl) 47 (CW_47 K ad la rest σ) rfl (by show 1 + 1 ≤ fT + 6 ∧ 8 + (2 + 11) + (20) ≤ lT + 200; omega) ⟨Nat.zero_le _, Nat.zero_le _⟩ (fun q9 hq9 => c_X5_opens l D K ad la rest a1 σ q9 hq9) hF (fun v2 σ1 hF => ?_)
  refine x_if_eq C 31 dX5_readTestInBrackets_5 (by decide) hF (fun hF => ?_) (fun hF => ?_)
  · refine x_iconst C 0 dX5_readTestInBrackets_31 (by decide +kernel) ?_
    have hz := (cz_some hF).1
    replace hF := (cz_some hF).2
    exact x_zret C dX5_readTestInBrackets_32 rfl hz (congrArg Prod.fst (Option.some.inj hF)) (congrArg (fun q9 : Int32 × xS => CW K ad la rest q9.2) (Option.some.inj hF))
  · refine x_aload_n C 0 0 dX5_readTestInBrackets_8 rfl rfl ?_
    refine x_iload_n C 1 1 dX5_readTestInBrackets_9 rfl rfl ?_
    refine x_iconst C 1 dX5_readTestInBrackets_10 (by decide +kernel) ?_
    refine x_iadd C dX5_readTestInBrackets_11 ?_
    refine x_callVI C (wf := CW K ad la rest) (As := [.int (a1 + 1)]) (rest := []) dX5_readTestInBrackets_12 ml_X5_91 rfl rfl (Nat.le_of_ble_eq_true rfl) 47 (CW_47 K ad la rest σ1) rfl (by show fT + 1 ≤ fT + 6 ∧ 8 + (4 + 11) + (lT) ≤ lT + 200; omega) ⟨Nat.zero_le _, Nat.zero_le _⟩ (fun q9 hq9 => HT (a1 + 1) σ1 q9 hq9) hF (fun v4 σ3 hF => ?_)
    refine x_if_eq C 31 dX5_readTestInBrackets_15 (by decide) hF (fun hF => ?_) (fun hF => ?_)
    · refine x_iconst C 0 dX5_readTestInBrackets_31 (by decide +kernel) ?_
      have hz := (cz_some hF).1
      replace hF := (cz_some hF).2
      exact x_zret C dX5_readTestInBrackets_32 rfl hz (congrArg Prod.fst (Option.some.inj hF)) (congrArg (fun q9 : Int32 × xS => CW K ad la rest q9.2) (Option.some.inj hF))
    · refine x_aload_n C 0 0 dX5_readTestInBrackets_18 rfl rfl ?_
      refine x_bipush C 41 dX5_readTestInBrackets_19 (by decide +kernel) ?_
      refine x_callVI C (wf := CW K ad la rest) (As := [.int 41]) (rest := []) dX5_readTestInBrackets_21 ml_X5_117 rfl rfl (Nat.le_of_ble_eq_true rfl) 47 (CW_47 K ad la rest σ3) rfl (by show 1 + 1 ≤ fT + 6 ∧ 8 + (2 + 11) + (20) ≤ lT + 200; omega) ⟨Nat.zero_le _, Nat.zero_le _⟩ (fun q9 hq9 => c_X5_closes l D K ad la rest 41 σ3 q9 hq9) hF (fun v6 σ5 hF => ?_)
      refine x_if_eq C 31 dX5_readTestInBrackets_24 (by decide) hF (fun hF => ?_) (fun hF => ?_)
      · refine x_iconst C 0 dX5_readTestInBrackets_31 (by decide +kernel) ?_
        have hz := (cz_some hF).1
        replace hF := (cz_some hF).2
        exact x_zret C dX5_readTestInBrackets_32 rfl hz (congrArg Prod.fst (Option.some.inj hF)) (congrArg (fun q9 : Int32 × xS => CW K ad la rest q9.2) (Option.some.inj hF))
      · refine x_iconst C 1 dX5_readTestInBrackets_27 (by decide +kernel) ?_
        refine x_goto C 32 dX5_readTestInBrackets_28 (by decide) ?_
        have hz := (cz_some hF).1
        replace hF := (cz_some hF).2
        exact x_zret C dX5_readTestInBrackets_32 rfl hz (congrArg Prod.fst (Option.some.inj hF)) (congrArg (fun q9 : Int32 × xS => CW K ad la rest q9.2) (Option.some.inj hF))
theorem dX5_readCompared_0 : decode cX5_readCompared 0 = .ok (.aload_n 0, 1) := by decide +kernel
theorem dX5_readCompared_1 : decode cX5_readCompared 1 = .ok (.iload_n 1, 1) := by decide +kernel
theorem dX5_readCompared_2 : decode cX5_readCompared 2 = .ok (.invokevirtual 84, 3) := by decide +kernel
theorem dX5_readCompared_5 : decode cX5_readCompared 5 = .ok (.ifCond .ne 5, 3) := by decide +kernel
theorem dX5_readCompared_8 : decode cX5_readCompared 8 = .ok (.iconst 0, 1) := by decide +kernel
theorem dX5_readCompared_9 : decode cX5_readCompared 9 = .ok (.ireturn, 1) := by decide +kernel
theorem dX5_readCompared_10 : decode cX5_readCompared 10 = .ok (.aload_n 0, 1) := by decide +kernel
theorem dX5_readCompared_11 : decode cX5_readCompared 11 = .ok (.invokevirtual 49, 3) := by decide +kernel
theorem dX5_readCompared_14 : decode cX5_readCompared 14 = .ok (.istore_n 2, 1) := by decide +kernel
theorem dX5_readCompared_15 : decode cX5_readCompared 15 = .ok (.iload_n 2, 1) := by decide +kernel
theorem dX5_readCompared_16 : decode cX5_readCompared 16 = .ok (.bipush 60, 2) := by decide +kernel
theorem dX5_readCompared_18 : decode cX5_readCompared 18 = .ok (.if_icmp .eq 20, 3) := by decide +kernel
theorem dX5_readCompared_21 : decode cX5_readCompared 21 = .ok (.iload_n 2, 1) := by decide +kernel
theorem dX5_readCompared_22 : decode cX5_readCompared 22 = .ok (.bipush 62, 2) := by decide +kernel
theorem dX5_readCompared_24 : decode cX5_readCompared 24 = .ok (.if_icmp .eq 14, 3) := by decide +kernel
theorem dX5_readCompared_27 : decode cX5_readCompared 27 = .ok (.iload_n 2, 1) := by decide +kernel
theorem dX5_readCompared_28 : decode cX5_readCompared 28 = .ok (.bipush 61, 2) := by decide +kernel
theorem dX5_readCompared_30 : decode cX5_readCompared 30 = .ok (.if_icmp .eq 8, 3) := by decide +kernel
theorem dX5_readCompared_33 : decode cX5_readCompared 33 = .ok (.aload_n 0, 1) := by decide +kernel
theorem dX5_readCompared_34 : decode cX5_readCompared 34 = .ok (.invokevirtual 57, 3) := by decide +kernel
theorem dX5_readCompared_37 : decode cX5_readCompared 37 = .ok (.ireturn, 1) := by decide +kernel
theorem dX5_readCompared_38 : decode cX5_readCompared 38 = .ok (.aload_n 0, 1) := by decide +kernel
theorem dX5_readCompared_39 : decode cX5_readCompared 39 = .ok (.invokevirtual 61, 3) := by decide +kernel
theorem dX5_readCompared_42 : decode cX5_readCompared 42 = .ok (.aload_n 0, 1) := by decide +kernel
theorem dX5_readCompared_43 : decode cX5_readCompared 43 = .ok (.iload_n 1, 1) := by decide +kernel
theorem dX5_readCompared_44 : decode cX5_readCompared 44 = .ok (.invokevirtual 84, 3) := by decide +kernel
theorem dX5_readCompared_47 : decode cX5_readCompared 47 = .ok (.ifCond .ne 5, 3) := by decide +kernel
theorem dX5_readCompared_50 : decode cX5_readCompared 50 = .ok (.iconst 0, 1) := by decide +kernel
theorem dX5_readCompared_51 : decode cX5_readCompared 51 = .ok (.ireturn, 1) := by decide +kernel
theorem dX5_readCompared_52 : decode cX5_readCompared 52 = .ok (.aload_n 0, 1) := by decide +kernel
theorem dX5_readCompared_53 : decode cX5_readCompared 53 = .ok (.iload_n 2, 1) := by decide +kernel
theorem dX5_readCompared_54 : decode cX5_readCompared 54 = .ok (.bipush 60, 2) := by decide +kernel
theorem dX5_readCompared_56 : decode cX5_readCompared 56 = .ok (.if_icmp .ne 8, 3) := by decide +kernel
theorem dX5_readCompared_59 : decode cX5_readCompared 59 = .ok (.bipush 6, 2) := by decide +kernel
theorem dX5_readCompared_61 : decode cX5_readCompared 61 = .ok (.goto 16, 3) := by decide +kernel
theorem dX5_readCompared_64 : decode cX5_readCompared 64 = .ok (.iload_n 2, 1) := by decide +kernel
theorem dX5_readCompared_65 : decode cX5_readCompared 65 = .ok (.bipush 62, 2) := by decide +kernel
theorem dX5_readCompared_67 : decode cX5_readCompared 67 = .ok (.if_icmp .ne 8, 3) := by decide +kernel
theorem dX5_readCompared_70 : decode cX5_readCompared 70 = .ok (.bipush 7, 2) := by decide +kernel
theorem dX5_readCompared_72 : decode cX5_readCompared 72 = .ok (.goto 5, 3) := by decide +kernel
theorem dX5_readCompared_75 : decode cX5_readCompared 75 = .ok (.bipush 8, 2) := by decide +kernel
theorem dX5_readCompared_77 : decode cX5_readCompared 77 = .ok (.iconst 0, 1) := by decide +kernel
theorem dX5_readCompared_78 : decode cX5_readCompared 78 = .ok (.invokevirtual 87, 3) := by decide +kernel
theorem dX5_readCompared_81 : decode cX5_readCompared 81 = .ok (.iconst 1, 1) := by decide +kernel
theorem dX5_readCompared_82 : decode cX5_readCompared 82 = .ok (.ireturn, 1) := by decide +kernel
set_option maxHeartbeats 4000000 in
set_option maxRecDepth 100000 in
theorem x_X5_readCompared_77 {p : Program} {l : Launch} {e : Env} {s : State} {m : MethodId} {args : Array Value} {below : List Frame} {meth : Method} {c : Code} {D : va_G} {K : Nat → ClassId} {A : Nat → Prop} {ad la : Nat → Nat} {rest : va_W} (C : xC p s m args meth c D K A RX5 cX5_readCompared 3 (some .boolean)) (z : Int32 × xS) : ∀ (t1x : Int32) (σ : xS), F_X5_readCompared_77  t1x σ = some z → X p l e (xR 81 2823) s m args below meth c D A 3 (xQi below D K A args s z.1 (CW K ad la rest z.2)) 0 0 77 [] [.int t1x, .ref (ad 47)] (CW K ad la rest σ) := by
  intro t1x σ hF
  unfold F_X5_readCompared_77 at hF
  refine x_iconst C 0 dX5_readCompared_77 (by decide +kernel) ?_
  refine x_callVV C (wf := CW K ad la rest) (As := [.int t1x, .int 0]) (rest := []) dX5_readCompared_78 ml_X5_87 rfl rfl (Nat.le_of_ble_eq_true rfl) 47 (CW_47 K ad la rest σ) rfl ⟨Nat.le_of_ble_eq_true rfl, Nat.le_of_ble_eq_true rfl⟩ ⟨Nat.zero_le _, Nat.zero_le _⟩ (fun q9 hq9 => c_X5_step l D K ad la rest t1x 0 σ q9 hq9) hF (fun _ σ10 hF => ?_)
  refine x_iconst C 1 dX5_readCompared_81 (by decide +kernel) ?_
  have hz := (cz_some hF).1
  replace hF := (cz_some hF).2
  exact x_zret C dX5_readCompared_82 rfl hz (congrArg Prod.fst (Option.some.inj hF)) (congrArg (fun q9 : Int32 × xS => CW K ad la rest q9.2) (Option.some.inj hF))
set_option maxHeartbeats 4000000 in
set_option maxRecDepth 100000 in
theorem x_X5_readCompared_38 {p : Program} {l : Launch} {e : Env} {s : State} {m : MethodId} {args : Array Value} {below : List Frame} {meth : Method} {c : Code} {D : va_G} {K : Nat → ClassId} {A : Nat → Prop} {ad la : Nat → Nat} {rest : va_W} (C : xC p s m args meth c D K A RX5 cX5_readCompared 3 (some .boolean)) (z : Int32 × xS) : ∀ (y1 : Int32) (y2 : Int32) (σ : xS), F_X5_readCompared_38  y1 y2 σ = some z → X p l e (xR 81 2823) s m args below meth c D A 3 (xQi below D K A args s z.1 (CW K ad la rest z.2)) 0 0 38 [(0, .ref (ad 47)), (1, .int y1), (2, .int y2)] [] (CW K ad la rest σ) := by
  intro y1 y2 σ hF
  unfold F_X5_readCompared_38 at hF
  refine x_aload_n C 0 0 dX5_readCompared_38 rfl rfl ?_
  refine x_callVV C (wf := CW K ad la rest) (As := []) (rest := []) dX5_readCompared_39 ml_X5_61 rfl rfl (Nat.le_of_ble_eq_true rfl) 47 (CW_47 K ad la rest σ) rfl ⟨Nat.le_of_ble_eq_true rfl, Nat.le_of_ble_eq_true rfl⟩ ⟨Nat.zero_le _, Nat.zero_le _⟩ (fun q9 hq9 => c_X5_next l D K ad la rest σ q9 hq9) hF (fun _ σ7 hF => ?_)
  refine x_aload_n C 0 0 dX5_readCompared_42 rfl rfl ?_
  refine x_iload_n C 1 1 dX5_readCompared_43 rfl rfl ?_
  refine x_callVI C (wf := CW K ad la rest) (As := [.int y1]) (rest := []) dX5_readCompared_44 ml_X5_84 rfl rfl (Nat.le_of_ble_eq_true rfl) 47 (CW_47 K ad la rest σ7) rfl ⟨Nat.le_of_ble_eq_true rfl, Nat.le_of_ble_eq_true rfl⟩ ⟨Nat.zero_le _, Nat.zero_le _⟩ (fun q9 hq9 => c_X5_readSumR l D K ad la rest y1 σ7 q9 hq9) hF (fun v9 σ8 hF => ?_)
  refine x_if_ne C 52 dX5_readCompared_47 (by decide) hF (fun hF => ?_) (fun hF => ?_)
  · refine x_aload_n C 0 0 dX5_readCompared_52 rfl rfl ?_
    refine x_iload_n C 2 2 dX5_readCompared_53 rfl rfl ?_
    refine x_bipush C 60 dX5_readCompared_54 (by decide +kernel) ?_
    refine x_icmp_ne C 64 dX5_readCompared_56 (by decide) hF (fun hF => ?_) (fun hF => ?_)
    · refine x_iload_n C 2 2 dX5_readCompared_64 rfl rfl ?_
      refine x_bipush C 62 dX5_readCompared_65 (by decide +kernel) ?_
      refine x_icmp_ne C 75 dX5_readCompared_67 (by decide) hF (fun hF => ?_) (fun hF => ?_)
      · refine x_bipush C 8 dX5_readCompared_75 (by decide +kernel) ?_
        refine x_loc [] [] rfl ?_
        exact x_X5_readCompared_77 C z 8 σ8 hF
      · refine x_bipush C 7 dX5_readCompared_70 (by decide +kernel) ?_
        refine x_goto C 77 dX5_readCompared_72 (by decide) ?_
        refine x_loc [] [] rfl ?_
        exact x_X5_readCompared_77 C z 7 σ8 hF
    · refine x_bipush C 6 dX5_readCompared_59 (by decide +kernel) ?_
      refine x_goto C 77 dX5_readCompared_61 (by decide) ?_
      refine x_loc [] [] rfl ?_
      exact x_X5_readCompared_77 C z 6 σ8 hF
  · refine x_iconst C 0 dX5_readCompared_50 (by decide +kernel) ?_
    have hz := (cz_some hF).1
    replace hF := (cz_some hF).2
    exact x_zret C dX5_readCompared_51 rfl hz (congrArg Prod.fst (Option.some.inj hF)) (congrArg (fun q9 : Int32 × xS => CW K ad la rest q9.2) (Option.some.inj hF))
set_option maxHeartbeats 4000000 in
set_option maxRecDepth 100000 in
theorem c_X5_readCompared (l : Launch) (D : va_G) (K : Nat → ClassId) (ad la : Nat → Nat) (rest : va_W)  (a1 : Int32) (σ : xS) (z : Int32 × xS) (hF : F_X5_readCompared a1 σ = some z) : CI l D K yX5_readCompared cX5_readCompared 3 (some .boolean) 81 2823 [.ref (ad 47), .int a1] (CW K ad la rest σ) z.1 (CW K ad la rest z.2) := by
  refine x_enterI [(0, .ref (ad 47)), (1, .int a1)] pnX5 (Nat.le_of_ble_eq_true rfl) rfl ?_
  intro p e s m args below meth c A C
  unfold F_X5_readCompared at hF
  refine x_aload_n C 0 0 dX5_readCompared_0 rfl rfl ?_
  refine x_iload_n C 1 1 dX5_readCompared_1 rfl rfl ?_
  refine x_callVI C (wf := CW K ad la rest) (As := [.int a1]) (rest := []) dX5_readCompared_2 ml_X5_84 rfl rfl (Nat.le_of_ble_eq_true rfl) 47 (CW_47 K ad la rest σ) rfl ⟨Nat.le_of_ble_eq_true rfl, Nat.le_of_ble_eq_true rfl⟩ ⟨Nat.zero_le _, Nat.zero_le _⟩ (fun q9 hq9 => c_X5_readSumR l D K ad la rest a1 σ q9 hq9) hF (fun v2 σ1 hF => ?_)
  refine x_if_ne C 10 dX5_readCompared_5 (by decide) hF (fun hF => ?_) (fun hF => ?_)
  · refine x_aload_n C 0 0 dX5_readCompared_10 rfl rfl ?_
    refine x_callVI C (wf := CW K ad la rest) (As := []) (rest := []) dX5_readCompared_11 ml_X5_49 rfl rfl (Nat.le_of_ble_eq_true rfl) 47 (CW_47 K ad la rest σ1) rfl ⟨Nat.le_of_ble_eq_true rfl, Nat.le_of_ble_eq_true rfl⟩ ⟨Nat.zero_le _, Nat.zero_le _⟩ (fun q9 hq9 => c_X5_token l D K ad la rest σ1 q9 hq9) hF (fun v4 σ3 hF => ?_)
    refine x_istore_n C [(2, .int v4), (0, .ref (ad 47)), (1, .int a1)] dX5_readCompared_14 rfl (by decide) rfl ?_
    refine x_iload_n C 0 2 dX5_readCompared_15 rfl rfl ?_
    refine x_bipush C 60 dX5_readCompared_16 (by decide +kernel) ?_
    refine x_icmp_eq C 38 dX5_readCompared_18 (by decide) hF (fun hF => ?_) (fun hF => ?_)
    · refine x_loc [(0, .ref (ad 47)), (1, .int a1), (2, .int v4)] [1, 2, 0] rfl ?_
      exact x_X5_readCompared_38 C z a1 v4 σ3 hF
    · refine x_iload_n C 0 2 dX5_readCompared_21 rfl rfl ?_
      refine x_bipush C 62 dX5_readCompared_22 (by decide +kernel) ?_
      refine x_icmp_eq C 38 dX5_readCompared_24 (by decide) hF (fun hF => ?_) (fun hF => ?_)
      · refine x_loc [(0, .ref (ad 47)), (1, .int a1), (2, .int v4)] [1, 2, 0] rfl ?_
        exact x_X5_readCompared_38 C z a1 v4 σ3 hF
      · refine x_iload_n C 0 2 dX5_readCompared_27 rfl rfl ?_
        refine x_bipush C 61 dX5_readCompared_28 (by decide +kernel) ?_
        refine x_icmp_eq C 38 dX5_readCompared_30 (by decide) hF (fun hF => ?_) (fun hF => ?_)
        · refine x_loc [(0, .ref (ad 47)), (1, .int a1), (2, .int v4)] [1, 2, 0] rfl ?_
          exact x_X5_readCompared_38 C z a1 v4 σ3 hF
        · refine x_aload_n C 1 0 dX5_readCompared_33 rfl rfl ?_
          refine x_callVI C (wf := CW K ad la rest) (As := []) (rest := []) dX5_readCompared_34 ml_X5_57 rfl rfl (Nat.le_of_ble_eq_true rfl) 47 (CW_47 K ad la rest σ3) rfl ⟨Nat.le_of_ble_eq_true rfl, Nat.le_of_ble_eq_true rfl⟩ ⟨Nat.zero_le _, Nat.zero_le _⟩ (fun q9 hq9 => c_X5_fails l D K ad la rest σ3 q9 hq9) hF (fun v6 σ5 hF => ?_)
          have hz := (cz_some hF).1
          replace hF := (cz_some hF).2
          exact x_zret C dX5_readCompared_37 rfl hz (congrArg Prod.fst (Option.some.inj hF)) (congrArg (fun q9 : Int32 × xS => CW K ad la rest q9.2) (Option.some.inj hF))
  · refine x_iconst C 0 dX5_readCompared_8 (by decide +kernel) ?_
    have hz := (cz_some hF).1
    replace hF := (cz_some hF).2
    exact x_zret C dX5_readCompared_9 rfl hz (congrArg Prod.fst (Option.some.inj hF)) (congrArg (fun q9 : Int32 × xS => CW K ad la rest q9.2) (Option.some.inj hF))
theorem dX5_readPlain_0 : decode cX5_readPlain 0 = .ok (.iconst 0, 1) := by decide +kernel
theorem dX5_readPlain_1 : decode cX5_readPlain 1 = .ok (.istore_n 2, 1) := by decide +kernel
theorem dX5_readPlain_2 : decode cX5_readPlain 2 = .ok (.iconst 0, 1) := by decide +kernel
theorem dX5_readPlain_3 : decode cX5_readPlain 3 = .ok (.istore_n 3, 1) := by decide +kernel
theorem dX5_readPlain_4 : decode cX5_readPlain 4 = .ok (.iload_n 3, 1) := by decide +kernel
theorem dX5_readPlain_5 : decode cX5_readPlain 5 = .ok (.sipush 400, 3) := by decide +kernel
theorem dX5_readPlain_8 : decode cX5_readPlain 8 = .ok (.if_icmp .gt 33, 3) := by decide +kernel
theorem dX5_readPlain_11 : decode cX5_readPlain 11 = .ok (.aload_n 0, 1) := by decide +kernel
theorem dX5_readPlain_12 : decode cX5_readPlain 12 = .ok (.invokevirtual 49, 3) := by decide +kernel
theorem dX5_readPlain_15 : decode cX5_readPlain 15 = .ok (.sipush 273, 3) := by decide +kernel
theorem dX5_readPlain_18 : decode cX5_readPlain 18 = .ok (.if_icmp .ne 23, 3) := by decide +kernel
theorem dX5_readPlain_21 : decode cX5_readPlain 21 = .ok (.iload_n 2, 1) := by decide +kernel
theorem dX5_readPlain_22 : decode cX5_readPlain 22 = .ok (.ifCond .ne 7, 3) := by decide +kernel
theorem dX5_readPlain_25 : decode cX5_readPlain 25 = .ok (.iconst 1, 1) := by decide +kernel
theorem dX5_readPlain_26 : decode cX5_readPlain 26 = .ok (.goto 4, 3) := by decide +kernel
theorem dX5_readPlain_29 : decode cX5_readPlain 29 = .ok (.iconst 0, 1) := by decide +kernel
theorem dX5_readPlain_30 : decode cX5_readPlain 30 = .ok (.istore_n 2, 1) := by decide +kernel
theorem dX5_readPlain_31 : decode cX5_readPlain 31 = .ok (.aload_n 0, 1) := by decide +kernel
theorem dX5_readPlain_32 : decode cX5_readPlain 32 = .ok (.invokevirtual 61, 3) := by decide +kernel
theorem dX5_readPlain_35 : decode cX5_readPlain 35 = .ok (.iinc 3 1, 3) := by decide +kernel
theorem dX5_readPlain_38 : decode cX5_readPlain 38 = .ok (.goto (-34), 3) := by decide +kernel
theorem dX5_readPlain_41 : decode cX5_readPlain 41 = .ok (.aload_n 0, 1) := by decide +kernel
theorem dX5_readPlain_42 : decode cX5_readPlain 42 = .ok (.invokevirtual 49, 3) := by decide +kernel
theorem dX5_readPlain_45 : decode cX5_readPlain 45 = .ok (.bipush 40, 2) := by decide +kernel
theorem dX5_readPlain_47 : decode cX5_readPlain 47 = .ok (.if_icmp .ne 14, 3) := by decide +kernel
theorem dX5_readPlain_50 : decode cX5_readPlain 50 = .ok (.aload_n 0, 1) := by decide +kernel
theorem dX5_readPlain_51 : decode cX5_readPlain 51 = .ok (.iload_n 1, 1) := by decide +kernel
theorem dX5_readPlain_52 : decode cX5_readPlain 52 = .ok (.invokevirtual 108, 3) := by decide +kernel
theorem dX5_readPlain_55 : decode cX5_readPlain 55 = .ok (.ifCond .eq 14, 3) := by decide +kernel
theorem dX5_readPlain_58 : decode cX5_readPlain 58 = .ok (.goto 13, 3) := by decide +kernel
theorem dX5_readPlain_61 : decode cX5_readPlain 61 = .ok (.aload_n 0, 1) := by decide +kernel
theorem dX5_readPlain_62 : decode cX5_readPlain 62 = .ok (.iload_n 1, 1) := by decide +kernel
theorem dX5_readPlain_63 : decode cX5_readPlain 63 = .ok (.invokevirtual 111, 3) := by decide +kernel
theorem dX5_readPlain_66 : decode cX5_readPlain 66 = .ok (.ifCond .ne 5, 3) := by decide +kernel
theorem dX5_readPlain_69 : decode cX5_readPlain 69 = .ok (.iconst 0, 1) := by decide +kernel
theorem dX5_readPlain_70 : decode cX5_readPlain 70 = .ok (.ireturn, 1) := by decide +kernel
theorem dX5_readPlain_71 : decode cX5_readPlain 71 = .ok (.iload_n 2, 1) := by decide +kernel
theorem dX5_readPlain_72 : decode cX5_readPlain 72 = .ok (.ifCond .eq 10, 3) := by decide +kernel
theorem dX5_readPlain_75 : decode cX5_readPlain 75 = .ok (.aload_n 0, 1) := by decide +kernel
theorem dX5_readPlain_76 : decode cX5_readPlain 76 = .ok (.bipush 9, 2) := by decide +kernel
theorem dX5_readPlain_78 : decode cX5_readPlain 78 = .ok (.iconst 0, 1) := by decide +kernel
theorem dX5_readPlain_79 : decode cX5_readPlain 79 = .ok (.invokevirtual 87, 3) := by decide +kernel
theorem dX5_readPlain_82 : decode cX5_readPlain 82 = .ok (.iconst 1, 1) := by decide +kernel
theorem dX5_readPlain_83 : decode cX5_readPlain 83 = .ok (.ireturn, 1) := by decide +kernel
set_option maxHeartbeats 4000000 in
set_option maxRecDepth 100000 in
theorem x_X5_readPlain_30 {p : Program} {l : Launch} {e : Env} {s : State} {m : MethodId} {args : Array Value} {below : List Frame} {meth : Method} {c : Code} {D : va_G} {K : Nat → ClassId} {A : Nat → Prop} {ad la : Nat → Nat} {rest : va_W} (kT : Int32 → xS → Option (Int32 × xS)) (fT lT : Nat) (HT : ∀ (a1 : Int32) (σ : xS) (z : Int32 × xS), kT a1 σ = some z → CI l D K yX5_readTest cX5_readTest 4 (some .boolean) fT lT [.ref (ad 47), .int a1] (CW K ad la rest σ) z.1 (CW K ad la rest z.2)) (C : xC p s m args meth c D K A RX5 cX5_readPlain 4 (some .boolean)) (z : Int32 × xS) (k_4 : Int32 → Int32 → Int32 → xS → Option (Int32 × xS)) (H_4 : ∀ (y1 : Int32) (y2 : Int32) (y3 : Int32) (σ : xS), k_4 y1 y2 y3 σ = some z → X p l e (xR (fT + 120) (lT + 5000)) s m args below meth c D A 4 (xQi below D K A args s z.1 (CW K ad la rest z.2)) 0 0 4 [(0, .ref (ad 47)), (1, .int y1), (2, .int y2), (3, .int y3)] [] (CW K ad la rest σ)) : ∀ (y1 : Int32) (y3 : Int32) (t0x : Int32) (σ : xS), F_X5_readPlain_30 kT k_4 y1 y3 t0x σ = some z → X p l e (xR (fT + 120) (lT + 5000)) s m args below meth c D A 4 (xQi below D K A args s z.1 (CW K ad la rest z.2)) 0 0 30 [(0, .ref (ad 47)), (1, .int y1), (3, .int y3)] [.int t0x] (CW K ad la rest σ) := by
  intro y1 y3 t0x σ hF
  unfold F_X5_readPlain_30 at hF
  refine x_istore_n C [(2, .int t0x), (0, .ref (ad 47)), (1, .int y1), (3, .int y3)] dX5_readPlain_30 rfl (by decide) rfl ?_
  refine x_aload_n C 1 0 dX5_readPlain_31 rfl rfl ?_
  refine x_callVV C (wf := CW K ad la rest) (As := []) (rest := []) dX5_readPlain_32 ml_X5_61 rfl rfl (Nat.le_of_ble_eq_true rfl) 47 (CW_47 K ad la rest σ) rfl (by show 0 + 1 ≤ fT + 120 ∧ 8 + (1 + 11) + (0) ≤ lT + 5000; omega) ⟨Nat.zero_le _, Nat.zero_le _⟩ (fun q9 hq9 => c_X5_next l D K ad la rest σ q9 hq9) hF (fun _ σ11 hF => ?_)
  refine x_iincN C 1 3 (fun x12 => [(3, .int x12), (2, .int t0x), (0, .ref (ad 47)), (1, .int y1)]) dX5_readPlain_35 rfl (by decide +kernel) (by decide) (fun _ => rfl) hF (fun x12 hF => ?_)
  refine x_goto C 4 dX5_readPlain_38 (by decide) ?_
  refine x_loc [(0, .ref (ad 47)), (1, .int y1), (2, .int t0x), (3, .int x12)] [2, 3, 1, 0] rfl ?_
  exact H_4 y1 t0x x12 σ11 hF
set_option maxHeartbeats 4000000 in
set_option maxRecDepth 100000 in
theorem x_X5_readPlain_71 {p : Program} {l : Launch} {e : Env} {s : State} {m : MethodId} {args : Array Value} {below : List Frame} {meth : Method} {c : Code} {D : va_G} {K : Nat → ClassId} {A : Nat → Prop} {ad la : Nat → Nat} {rest : va_W} (kT : Int32 → xS → Option (Int32 × xS)) (fT lT : Nat) (HT : ∀ (a1 : Int32) (σ : xS) (z : Int32 × xS), kT a1 σ = some z → CI l D K yX5_readTest cX5_readTest 4 (some .boolean) fT lT [.ref (ad 47), .int a1] (CW K ad la rest σ) z.1 (CW K ad la rest z.2)) (C : xC p s m args meth c D K A RX5 cX5_readPlain 4 (some .boolean)) (z : Int32 × xS) : ∀ (y2 : Int32) (σ : xS), F_X5_readPlain_71 kT y2 σ = some z → X p l e (xR (fT + 120) (lT + 5000)) s m args below meth c D A 4 (xQi below D K A args s z.1 (CW K ad la rest z.2)) 0 0 71 [(0, .ref (ad 47)), (2, .int y2)] [] (CW K ad la rest σ) := by
  intro y2 σ hF
  unfold F_X5_readPlain_71 at hF
  refine x_iload_n C 1 2 dX5_readPlain_71 rfl rfl ?_
  refine x_if_eq C 82 dX5_readPlain_72 (by decide) hF (fun hF => ?_) (fun hF => ?_)
  · refine x_iconst C 1 dX5_readPlain_82 (by decide +kernel) ?_
    have hz := (cz_some hF).1
    replace hF := (cz_some hF).2
    exact x_zret C dX5_readPlain_83 rfl hz (congrArg Prod.fst (Option.some.inj hF)) (congrArg (fun q9 : Int32 × xS => CW K ad la rest q9.2) (Option.some.inj hF))
  · refine x_aload_n C 0 0 dX5_readPlain_75 rfl rfl ?_
    refine x_bipush C 9 dX5_readPlain_76 (by decide +kernel) ?_
    refine x_iconst C 0 dX5_readPlain_78 (by decide +kernel) ?_
    refine x_callVV C (wf := CW K ad la rest) (As := [.int 9, .int 0]) (rest := []) dX5_readPlain_79 ml_X5_87 rfl rfl (Nat.le_of_ble_eq_true rfl) 47 (CW_47 K ad la rest σ) rfl (by show 0 + 1 ≤ fT + 120 ∧ 8 + (3 + 11) + (0) ≤ lT + 5000; omega) ⟨Nat.zero_le _, Nat.zero_le _⟩ (fun q9 hq9 => c_X5_step l D K ad la rest 9 0 σ q9 hq9) hF (fun _ σ13 hF => ?_)
    refine x_iconst C 1 dX5_readPlain_82 (by decide +kernel) ?_
    have hz := (cz_some hF).1
    replace hF := (cz_some hF).2
    exact x_zret C dX5_readPlain_83 rfl hz (congrArg Prod.fst (Option.some.inj hF)) (congrArg (fun q9 : Int32 × xS => CW K ad la rest q9.2) (Option.some.inj hF))
set_option maxHeartbeats 4000000 in
set_option maxRecDepth 100000 in
theorem x_X5_readPlain_41 {p : Program} {l : Launch} {e : Env} {s : State} {m : MethodId} {args : Array Value} {below : List Frame} {meth : Method} {c : Code} {D : va_G} {K : Nat → ClassId} {A : Nat → Prop} {ad la : Nat → Nat} {rest : va_W} (kT : Int32 → xS → Option (Int32 × xS)) (fT lT : Nat) (HT : ∀ (a1 : Int32) (σ : xS) (z : Int32 × xS), kT a1 σ = some z → CI l D K yX5_readTest cX5_readTest 4 (some .boolean) fT lT [.ref (ad 47), .int a1] (CW K ad la rest σ) z.1 (CW K ad la rest z.2)) (C : xC p s m args meth c D K A RX5 cX5_readPlain 4 (some .boolean)) (z : Int32 × xS) : ∀ (y1 : Int32) (y2 : Int32) (σ : xS), F_X5_readPlain_41 kT y1 y2 σ = some z → X p l e (xR (fT + 120) (lT + 5000)) s m args below meth c D A 4 (xQi below D K A args s z.1 (CW K ad la rest z.2)) 0 0 41 [(0, .ref (ad 47)), (1, .int y1), (2, .int y2)] [] (CW K ad la rest σ) := by
  intro y1 y2 σ hF
  unfold F_X5_readPlain_41 at hF
  refine x_aload_n C 0 0 dX5_readPlain_41 rfl rfl ?_
  refine x_callVI C (wf := CW K ad la rest) (As := []) (rest := []) dX5_readPlain_42 ml_X5_49 rfl rfl (Nat.le_of_ble_eq_true rfl) 47 (CW_47 K ad la rest σ) rfl (by show 0 + 1 ≤ fT + 120 ∧ 8 + (1 + 11) + (0) ≤ lT + 5000; omega) ⟨Nat.zero_le _, Nat.zero_le _⟩ (fun q9 hq9 => c_X5_token l D K ad la rest σ q9 hq9) hF (fun v6 σ5 hF => ?_)
  refine x_bipush C 40 dX5_readPlain_45 (by decide +kernel) ?_
  refine x_icmp_ne C 61 dX5_readPlain_47 (by decide) hF (fun hF => ?_) (fun hF => ?_)
  · refine x_aload_n C 0 0 dX5_readPlain_61 rfl rfl ?_
    refine x_iload_n C 1 1 dX5_readPlain_62 rfl rfl ?_
    refine x_callVI C (wf := CW K ad la rest) (As := [.int y1]) (rest := []) dX5_readPlain_63 ml_X5_111 rfl rfl (Nat.le_of_ble_eq_true rfl) 47 (CW_47 K ad la rest σ5) rfl (by show 81 + 1 ≤ fT + 120 ∧ 8 + (3 + 11) + (2823) ≤ lT + 5000; omega) ⟨Nat.zero_le _, Nat.zero_le _⟩ (fun q9 hq9 => c_X5_readCompared l D K ad la rest y1 σ5 q9 hq9) hF (fun v8 σ7 hF => ?_)
    refine x_if_ne C 71 dX5_readPlain_66 (by decide) hF (fun hF => ?_) (fun hF => ?_)
    · refine x_loc [(0, .ref (ad 47)), (2, .int y2)] [0, 2] rfl ?_
      exact x_X5_readPlain_71 kT fT lT HT C z y2 σ7 hF
    · refine x_iconst C 0 dX5_readPlain_69 (by decide +kernel) ?_
      have hz := (cz_some hF).1
      replace hF := (cz_some hF).2
      exact x_zret C dX5_readPlain_70 rfl hz (congrArg Prod.fst (Option.some.inj hF)) (congrArg (fun q9 : Int32 × xS => CW K ad la rest q9.2) (Option.some.inj hF))
  · refine x_aload_n C 0 0 dX5_readPlain_50 rfl rfl ?_
    refine x_iload_n C 1 1 dX5_readPlain_51 rfl rfl ?_
    refine x_callVI C (wf := CW K ad la rest) (As := [.int y1]) (rest := []) dX5_readPlain_52 ml_X5_108 rfl rfl (Nat.le_of_ble_eq_true rfl) 47 (CW_47 K ad la rest σ5) rfl (by show fT + 6 + 1 ≤ fT + 120 ∧ 8 + (2 + 11) + (lT + 200) ≤ lT + 5000; omega) ⟨Nat.zero_le _, Nat.zero_le _⟩ (fun q9 hq9 => c_X5_readTestInBrackets l D K ad la rest kT fT lT HT y1 σ5 q9 hq9) hF (fun v10 σ9 hF => ?_)
    refine x_if_eq C 69 dX5_readPlain_55 (by decide) hF (fun hF => ?_) (fun hF => ?_)
    · refine x_iconst C 0 dX5_readPlain_69 (by decide +kernel) ?_
      have hz := (cz_some hF).1
      replace hF := (cz_some hF).2
      exact x_zret C dX5_readPlain_70 rfl hz (congrArg Prod.fst (Option.some.inj hF)) (congrArg (fun q9 : Int32 × xS => CW K ad la rest q9.2) (Option.some.inj hF))
    · refine x_goto C 71 dX5_readPlain_58 (by decide) ?_
      refine x_loc [(0, .ref (ad 47)), (2, .int y2)] [0, 2] rfl ?_
      exact x_X5_readPlain_71 kT fT lT HT C z y2 σ9 hF
set_option maxHeartbeats 4000000 in
set_option maxRecDepth 100000 in
theorem x_X5_readPlain_4 {p : Program} {l : Launch} {e : Env} {s : State} {m : MethodId} {args : Array Value} {below : List Frame} {meth : Method} {c : Code} {D : va_G} {K : Nat → ClassId} {A : Nat → Prop} {ad la : Nat → Nat} {rest : va_W} (kT : Int32 → xS → Option (Int32 × xS)) (fT lT : Nat) (HT : ∀ (a1 : Int32) (σ : xS) (z : Int32 × xS), kT a1 σ = some z → CI l D K yX5_readTest cX5_readTest 4 (some .boolean) fT lT [.ref (ad 47), .int a1] (CW K ad la rest σ) z.1 (CW K ad la rest z.2)) (C : xC p s m args meth c D K A RX5 cX5_readPlain 4 (some .boolean)) (z : Int32 × xS) : ∀ (n : Nat) (y1 : Int32) (y2 : Int32) (y3 : Int32) (σ : xS), F_X5_readPlain_4 kT n y1 y2 y3 σ = some z → X p l e (xR (fT + 120) (lT + 5000)) s m args below meth c D A 4 (xQi below D K A args s z.1 (CW K ad la rest z.2)) 0 0 4 [(0, .ref (ad 47)), (1, .int y1), (2, .int y2), (3, .int y3)] [] (CW K ad la rest σ) := by
  intro n
  induction n with
  | zero =>
    intro y1 y2 y3 σ hF
    cases hF
  | succ n ih =>
    intro y1 y2 y3 σ hF
    rw [F_X5_readPlain_4] at hF
    refine x_iload_n C 3 3 dX5_readPlain_4 rfl rfl ?_
    refine x_sipush C 400 dX5_readPlain_5 (by decide +kernel) ?_
    refine x_icmp_gt C 41 dX5_readPlain_8 (by decide) hF (fun hF => ?_) (fun hF => ?_)
    · refine x_loc [(0, .ref (ad 47)), (1, .int y1), (2, .int y2)] [0, 1, 2] rfl ?_
      exact x_X5_readPlain_41 kT fT lT HT C z y1 y2 σ hF
    · refine x_aload_n C 0 0 dX5_readPlain_11 rfl rfl ?_
      refine x_callVI C (wf := CW K ad la rest) (As := []) (rest := []) dX5_readPlain_12 ml_X5_49 rfl rfl (Nat.le_of_ble_eq_true rfl) 47 (CW_47 K ad la rest σ) rfl (by show 0 + 1 ≤ fT + 120 ∧ 8 + (1 + 11) + (0) ≤ lT + 5000; omega) ⟨Nat.zero_le _, Nat.zero_le _⟩ (fun q9 hq9 => c_X5_token l D K ad la rest σ q9 hq9) hF (fun v4 σ3 hF => ?_)
      refine x_sipush C 273 dX5_readPlain_15 (by decide +kernel) ?_
      refine x_icmp_ne C 41 dX5_readPlain_18 (by decide) hF (fun hF => ?_) (fun hF => ?_)
      · refine x_loc [(0, .ref (ad 47)), (1, .int y1), (2, .int y2)] [0, 1, 2] rfl ?_
        exact x_X5_readPlain_41 kT fT lT HT C z y1 y2 σ3 hF
      · refine x_iload_n C 2 2 dX5_readPlain_21 rfl rfl ?_
        refine x_if_ne C 29 dX5_readPlain_22 (by decide) hF (fun hF => ?_) (fun hF => ?_)
        · refine x_iconst C 0 dX5_readPlain_29 (by decide +kernel) ?_
          refine x_loc [(0, .ref (ad 47)), (1, .int y1), (3, .int y3)] [0, 1, 3] rfl ?_
          exact x_X5_readPlain_30 kT fT lT HT C z ((F_X5_readPlain_4 kT n)) ih y1 y3 0 σ3 hF
        · refine x_iconst C 1 dX5_readPlain_25 (by decide +kernel) ?_
          refine x_goto C 30 dX5_readPlain_26 (by decide) ?_
          refine x_loc [(0, .ref (ad 47)), (1, .int y1), (3, .int y3)] [0, 1, 3] rfl ?_
          exact x_X5_readPlain_30 kT fT lT HT C z ((F_X5_readPlain_4 kT n)) ih y1 y3 1 σ3 hF
set_option maxHeartbeats 4000000 in
set_option maxRecDepth 100000 in
theorem c_X5_readPlain (l : Launch) (D : va_G) (K : Nat → ClassId) (ad la : Nat → Nat) (rest : va_W) (kT : Int32 → xS → Option (Int32 × xS)) (fT lT : Nat) (HT : ∀ (a1 : Int32) (σ : xS) (z : Int32 × xS), kT a1 σ = some z → CI l D K yX5_readTest cX5_readTest 4 (some .boolean) fT lT [.ref (ad 47), .int a1] (CW K ad la rest σ) z.1 (CW K ad la rest z.2)) (a1 : Int32) (σ : xS) (z : Int32 × xS) (hF : F_X5_readPlain kT a1 σ = some z) : CI l D K yX5_readPlain cX5_readPlain 4 (some .boolean) (fT + 120) (lT + 5000) [.ref (ad 47), .int a1] (CW K ad la rest σ) z.1 (CW K ad la rest z.2) := by
  refine x_enterI [(0, .ref (ad 47)), (1, .int a1)] pnX5 (Nat.le_of_ble_eq_true rfl) rfl ?_
  intro p e s m args below meth c A C
  unfold F_X5_readPlain at hF
  refine x_iconst C 0 dX5_readPlain_0 (by decide +kernel) ?_
  refine x_topI hF (fun x1 hF => ?_)
  refine x_istore_n C [(2, .int x1), (0, .ref (ad 47)), (1, .int a1)] dX5_readPlain_1 rfl (by decide) rfl ?_
  refine x_iconst C 0 dX5_readPlain_2 (by decide +kernel) ?_
  refine x_topI hF (fun x2 hF => ?_)
  refine x_istore_n C [(3, .int x2), (2, .int x1), (0, .ref (ad 47)), (1, .int a1)] dX5_readPlain_3 rfl (by decide) rfl ?_
  refine x_loc [(0, .ref (ad 47)), (1, .int a1), (2, .int x1), (3, .int x2)] [2, 3, 1, 0] rfl ?_
  exact x_X5_readPlain_4 kT fT lT HT C z FU a1 x1 x2 σ hF
theorem dX5_land_0 : decode cX5_land 0 = .ok (.iload_n 1, 1) := by decide +kernel
theorem dX5_land_1 : decode cX5_land 1 = .ok (.istore_n 2, 1) := by decide +kernel
theorem dX5_land_2 : decode cX5_land 2 = .ok (.iconst 0, 1) := by decide +kernel
theorem dX5_land_3 : decode cX5_land 3 = .ok (.istore_n 3, 1) := by decide +kernel
theorem dX5_land_4 : decode cX5_land 4 = .ok (.iload_n 3, 1) := by decide +kernel
theorem dX5_land_5 : decode cX5_land 5 = .ok (.sipush 400, 3) := by decide +kernel
theorem dX5_land_8 : decode cX5_land 8 = .ok (.if_icmp .gt 50, 3) := by decide +kernel
theorem dX5_land_11 : decode cX5_land 11 = .ok (.iload_n 2, 1) := by decide +kernel
theorem dX5_land_12 : decode cX5_land 12 = .ok (.ifCond .lt 46, 3) := by decide +kernel
theorem dX5_land_15 : decode cX5_land 15 = .ok (.aload_n 0, 1) := by decide +kernel
theorem dX5_land_16 : decode cX5_land 16 = .ok (.getfield 25, 3) := by decide +kernel
theorem dX5_land_19 : decode cX5_land 19 = .ok (.iload_n 2, 1) := by decide +kernel
theorem dX5_land_20 : decode cX5_land 20 = .ok (.iaload, 1) := by decide +kernel
theorem dX5_land_21 : decode cX5_land 21 = .ok (.iconst 4, 1) := by decide +kernel
theorem dX5_land_22 : decode cX5_land 22 = .ok (.ishr, 1) := by decide +kernel
theorem dX5_land_23 : decode cX5_land 23 = .ok (.iconst 1, 1) := by decide +kernel
theorem dX5_land_24 : decode cX5_land 24 = .ok (.isub, 1) := by decide +kernel
theorem dX5_land_25 : decode cX5_land 25 = .ok (.istore 4, 2) := by decide +kernel
theorem dX5_land_27 : decode cX5_land 27 = .ok (.aload_n 0, 1) := by decide +kernel
theorem dX5_land_28 : decode cX5_land 28 = .ok (.getfield 25, 3) := by decide +kernel
theorem dX5_land_31 : decode cX5_land 31 = .ok (.iload_n 2, 1) := by decide +kernel
theorem dX5_land_32 : decode cX5_land 32 = .ok (.aload_n 0, 1) := by decide +kernel
theorem dX5_land_33 : decode cX5_land 33 = .ok (.getfield 25, 3) := by decide +kernel
theorem dX5_land_36 : decode cX5_land 36 = .ok (.iload_n 2, 1) := by decide +kernel
theorem dX5_land_37 : decode cX5_land 37 = .ok (.iaload, 1) := by decide +kernel
theorem dX5_land_38 : decode cX5_land 38 = .ok (.bipush 15, 2) := by decide +kernel
theorem dX5_land_40 : decode cX5_land 40 = .ok (.iand, 1) := by decide +kernel
theorem dX5_land_41 : decode cX5_land 41 = .ok (.aload_n 0, 1) := by decide +kernel
theorem dX5_land_42 : decode cX5_land 42 = .ok (.getfield 42, 3) := by decide +kernel
theorem dX5_land_45 : decode cX5_land 45 = .ok (.iconst 4, 1) := by decide +kernel
theorem dX5_land_46 : decode cX5_land 46 = .ok (.ishl, 1) := by decide +kernel
theorem dX5_land_47 : decode cX5_land 47 = .ok (.ior, 1) := by decide +kernel
theorem dX5_land_48 : decode cX5_land 48 = .ok (.iastore, 1) := by decide +kernel
theorem dX5_land_49 : decode cX5_land 49 = .ok (.iload 4, 2) := by decide +kernel
theorem dX5_land_51 : decode cX5_land 51 = .ok (.istore_n 2, 1) := by decide +kernel
theorem dX5_land_52 : decode cX5_land 52 = .ok (.iinc 3 1, 3) := by decide +kernel
theorem dX5_land_55 : decode cX5_land 55 = .ok (.goto (-51), 3) := by decide +kernel
theorem dX5_land_58 : decode cX5_land 58 = .ok (.return_, 1) := by decide +kernel
set_option maxHeartbeats 4000000 in
set_option maxRecDepth 100000 in
theorem x_X5_land_4 {p : Program} {l : Launch} {e : Env} {s : State} {m : MethodId} {args : Array Value} {below : List Frame} {meth : Method} {c : Code} {D : va_G} {K : Nat → ClassId} {A : Nat → Prop} {ad la : Nat → Nat} {rest : va_W} (C : xC p s m args meth c D K A RX5 cX5_land 5 none) (z : Unit × xS) : ∀ (n : Nat) (y2 : Int32) (y3 : Int32) (σ : xS), F_X5_land_4  n y2 y3 σ = some z → X p l e (xR 0 0) s m args below meth c D A 5 (xQv below D K A args s (CW K ad la rest z.2)) 0 0 4 [(0, .ref (ad 47)), (2, .int y2), (3, .int y3)] [] (CW K ad la rest σ) := by
  intro n
  induction n with
  | zero =>
    intro y2 y3 σ hF
    cases hF
  | succ n ih =>
    intro y2 y3 σ hF
    rw [F_X5_land_4] at hF
    refine x_iload_n C 2 3 dX5_land_4 rfl rfl ?_
    refine x_sipush C 400 dX5_land_5 (by decide +kernel) ?_
    refine x_icmp_gt C 58 dX5_land_8 (by decide) hF (fun hF => ?_) (fun hF => ?_)
    · exact x_vret C dX5_land_58 rfl (congrArg (fun q9 : Unit × xS => CW K ad la rest q9.2) (Option.some.inj hF))
    · refine x_iload_n C 1 2 dX5_land_11 rfl rfl ?_
      refine x_if_lt C 58 dX5_land_12 (by decide) hF (fun hF => ?_) (fun hF => ?_)
      · exact x_vret C dX5_land_58 rfl (congrArg (fun q9 : Unit × xS => CW K ad la rest q9.2) (Option.some.inj hF))
      · refine x_aload_n C 0 0 dX5_land_15 rfl rfl ?_
        refine x_get C 47 dX5_land_16 fl_X5_25 (CW_47 K ad la rest σ) rfl ?_
        refine x_iload_n C 1 2 dX5_land_19 rfl rfl ?_
        refine x_iald C 50 dX5_land_20 (CW_50 K ad la rest σ) hF (fun v2 hF => ?_)
        refine x_iconst C 4 dX5_land_21 (by decide +kernel) ?_
        refine x_ishr C dX5_land_22 ?_
        refine x_iconst C 1 dX5_land_23 (by decide +kernel) ?_
        refine x_isub C dX5_land_24 ?_
        refine x_topI hF (fun x3 hF => ?_)
        refine x_istore C [(4, .int x3), (0, .ref (ad 47)), (2, .int y2), (3, .int y3)] dX5_land_25 (by decide) rfl ?_
        refine x_aload_n C 1 0 dX5_land_27 rfl rfl ?_
        refine x_get C 47 dX5_land_28 fl_X5_25 (CW_47 K ad la rest σ) rfl ?_
        refine x_iload_n C 2 2 dX5_land_31 rfl rfl ?_
        refine x_aload_n C 1 0 dX5_land_32 rfl rfl ?_
        refine x_get C 47 dX5_land_33 fl_X5_25 (CW_47 K ad la rest σ) rfl ?_
        refine x_iload_n C 2 2 dX5_land_36 rfl rfl ?_
        refine x_iald C 50 dX5_land_37 (CW_50 K ad la rest σ) hF (fun v4 hF => ?_)
        refine x_bipush C 15 dX5_land_38 (by decide +kernel) ?_
        refine x_iand C dX5_land_40 ?_
        refine x_aload_n C 1 0 dX5_land_41 rfl rfl ?_
        refine x_get C 47 dX5_land_42 fl_X5_42 (CW_47 K ad la rest σ) rfl ?_
        refine x_iconst C 4 dX5_land_45 (by decide +kernel) ?_
        refine x_ishl C dX5_land_46 ?_
        refine x_ior C dX5_land_47 ?_
        refine x_iast C 50 dX5_land_48 (CW_50 K ad la rest σ) hF (CW_s50 K ad la rest σ _) (fun hF => ?_)
        refine x_st (wf := CW K ad la rest) hF (fun σ5 hF => ?_)
        refine x_iload C 0 4 dX5_land_49 rfl ?_
        refine x_istore_n C [(2, .int x3), (4, .int x3), (0, .ref (ad 47)), (3, .int y3)] dX5_land_51 rfl (by decide) rfl ?_
        refine x_iincN C 1 3 (fun x6 => [(3, .int x6), (2, .int x3), (4, .int x3), (0, .ref (ad 47))]) dX5_land_52 rfl (by decide +kernel) (by decide) (fun _ => rfl) hF (fun x6 hF => ?_)
        refine x_goto C 4 dX5_land_55 (by decide) ?_
        refine x_loc [(0, .ref (ad 47)), (2, .int x3), (3, .int x6)] [3, 1, 0] rfl ?_
        exact ih x3 x6 σ5 hF
set_option maxHeartbeats 4000000 in
set_option maxRecDepth 100000 in
theorem c_X5_land (l : Launch) (D : va_G) (K : Nat → ClassId) (ad la : Nat → Nat) (rest : va_W)  (a1 : Int32) (σ : xS) (z : Unit × xS) (hF : F_X5_land a1 σ = some z) : CV l D K yX5_land cX5_land 5 none 0 0 [.ref (ad 47), .int a1] (CW K ad la rest σ) (CW K ad la rest z.2) := by
  refine x_enterV [(0, .ref (ad 47)), (1, .int a1)] pnX5 (Nat.le_of_ble_eq_true rfl) rfl ?_
  intro p e s m args below meth c A C
  unfold F_X5_land at hF
  refine x_iload_n C 1 1 dX5_land_0 rfl rfl ?_
  refine x_istore_n C [(2, .int a1), (0, .ref (ad 47)), (1, .int a1)] dX5_land_1 rfl (by decide) rfl ?_
  refine x_iconst C 0 dX5_land_2 (by decide +kernel) ?_
  refine x_topI hF (fun x1 hF => ?_)
  refine x_istore_n C [(3, .int x1), (2, .int a1), (0, .ref (ad 47)), (1, .int a1)] dX5_land_3 rfl (by decide) rfl ?_
  refine x_loc [(0, .ref (ad 47)), (2, .int a1), (3, .int x1)] [2, 1, 0] rfl ?_
  exact x_X5_land_4 C z FU a1 x1 σ hF
theorem dX5_jump_0 : decode cX5_jump 0 = .ok (.aload_n 0, 1) := by decide +kernel
theorem dX5_jump_1 : decode cX5_jump 1 = .ok (.iload_n 1, 1) := by decide +kernel
theorem dX5_jump_2 : decode cX5_jump 2 = .ok (.iload_n 2, 1) := by decide +kernel
theorem dX5_jump_3 : decode cX5_jump 3 = .ok (.iconst 1, 1) := by decide +kernel
theorem dX5_jump_4 : decode cX5_jump 4 = .ok (.iadd, 1) := by decide +kernel
theorem dX5_jump_5 : decode cX5_jump 5 = .ok (.invokevirtual 87, 3) := by decide +kernel
theorem dX5_jump_8 : decode cX5_jump 8 = .ok (.aload_n 0, 1) := by decide +kernel
theorem dX5_jump_9 : decode cX5_jump 9 = .ok (.getfield 42, 3) := by decide +kernel
theorem dX5_jump_12 : decode cX5_jump 12 = .ok (.iconst 1, 1) := by decide +kernel
theorem dX5_jump_13 : decode cX5_jump 13 = .ok (.isub, 1) := by decide +kernel
theorem dX5_jump_14 : decode cX5_jump 14 = .ok (.ireturn, 1) := by decide +kernel
set_option maxHeartbeats 4000000 in
set_option maxRecDepth 100000 in
theorem c_X5_jump (l : Launch) (D : va_G) (K : Nat → ClassId) (ad la : Nat → Nat) (rest : va_W)  (a1 : Int32) (a2 : Int32) (σ : xS) (z : Int32 × xS) (hF : F_X5_jump a1 a2 σ = some z) : CI l D K yX5_jump cX5_jump 3 (some .int) 1 22 [.ref (ad 47), .int a1, .int a2] (CW K ad la rest σ) z.1 (CW K ad la rest z.2) := by
  refine x_enterI [(0, .ref (ad 47)), (1, .int a1), (2, .int a2)] pnX5 (Nat.le_of_ble_eq_true rfl) rfl ?_
  intro p e s m args below meth c A C
  unfold F_X5_jump at hF
  refine x_aload_n C 0 0 dX5_jump_0 rfl rfl ?_
  refine x_iload_n C 1 1 dX5_jump_1 rfl rfl ?_
  refine x_iload_n C 2 2 dX5_jump_2 rfl rfl ?_
  refine x_iconst C 1 dX5_jump_3 (by decide +kernel) ?_
  refine x_iadd C dX5_jump_4 ?_
  refine x_callVV C (wf := CW K ad la rest) (As := [.int a1, .int (a2 + 1)]) (rest := []) dX5_jump_5 ml_X5_87 rfl rfl (Nat.le_of_ble_eq_true rfl) 47 (CW_47 K ad la rest σ) rfl ⟨Nat.le_of_ble_eq_true rfl, Nat.le_of_ble_eq_true rfl⟩ ⟨Nat.zero_le _, Nat.zero_le _⟩ (fun q9 hq9 => c_X5_step l D K ad la rest a1 (a2 + 1) σ q9 hq9) hF (fun _ σ1 hF => ?_)
  refine x_aload_n C 0 0 dX5_jump_8 rfl rfl ?_
  refine x_get C 47 dX5_jump_9 fl_X5_42 (CW_47 K ad la rest σ1) rfl ?_
  refine x_iconst C 1 dX5_jump_12 (by decide +kernel) ?_
  refine x_isub C dX5_jump_13 ?_
  exact x_iret C dX5_jump_14 rfl (congrArg Prod.fst (Option.some.inj hF)) (congrArg (fun q9 : Int32 × xS => CW K ad la rest q9.2) (Option.some.inj hF))
theorem dX5_readBoth_0 : decode cX5_readBoth 0 = .ok (.iconst (-1), 1) := by decide +kernel
theorem dX5_readBoth_1 : decode cX5_readBoth 1 = .ok (.istore_n 2, 1) := by decide +kernel
theorem dX5_readBoth_2 : decode cX5_readBoth 2 = .ok (.iconst 0, 1) := by decide +kernel
theorem dX5_readBoth_3 : decode cX5_readBoth 3 = .ok (.istore_n 3, 1) := by decide +kernel
theorem dX5_readBoth_4 : decode cX5_readBoth 4 = .ok (.iload_n 3, 1) := by decide +kernel
theorem dX5_readBoth_5 : decode cX5_readBoth 5 = .ok (.sipush 400, 3) := by decide +kernel
theorem dX5_readBoth_8 : decode cX5_readBoth 8 = .ok (.if_icmp .gt 48, 3) := by decide +kernel
theorem dX5_readBoth_11 : decode cX5_readBoth 11 = .ok (.aload_n 0, 1) := by decide +kernel
theorem dX5_readBoth_12 : decode cX5_readBoth 12 = .ok (.iload_n 1, 1) := by decide +kernel
theorem dX5_readBoth_13 : decode cX5_readBoth 13 = .ok (.invokevirtual 105, 3) := by decide +kernel
theorem dX5_readBoth_16 : decode cX5_readBoth 16 = .ok (.ifCond .ne 5, 3) := by decide +kernel
theorem dX5_readBoth_19 : decode cX5_readBoth 19 = .ok (.iconst 0, 1) := by decide +kernel
theorem dX5_readBoth_20 : decode cX5_readBoth 20 = .ok (.ireturn, 1) := by decide +kernel
theorem dX5_readBoth_21 : decode cX5_readBoth 21 = .ok (.aload_n 0, 1) := by decide +kernel
theorem dX5_readBoth_22 : decode cX5_readBoth 22 = .ok (.invokevirtual 49, 3) := by decide +kernel
theorem dX5_readBoth_25 : decode cX5_readBoth 25 = .ok (.sipush 272, 3) := by decide +kernel
theorem dX5_readBoth_28 : decode cX5_readBoth 28 = .ok (.if_icmp .eq 10, 3) := by decide +kernel
theorem dX5_readBoth_31 : decode cX5_readBoth 31 = .ok (.aload_n 0, 1) := by decide +kernel
theorem dX5_readBoth_32 : decode cX5_readBoth 32 = .ok (.iload_n 2, 1) := by decide +kernel
theorem dX5_readBoth_33 : decode cX5_readBoth 33 = .ok (.invokevirtual 97, 3) := by decide +kernel
theorem dX5_readBoth_36 : decode cX5_readBoth 36 = .ok (.iconst 1, 1) := by decide +kernel
theorem dX5_readBoth_37 : decode cX5_readBoth 37 = .ok (.ireturn, 1) := by decide +kernel
theorem dX5_readBoth_38 : decode cX5_readBoth 38 = .ok (.aload_n 0, 1) := by decide +kernel
theorem dX5_readBoth_39 : decode cX5_readBoth 39 = .ok (.bipush 11, 2) := by decide +kernel
theorem dX5_readBoth_41 : decode cX5_readBoth 41 = .ok (.iload_n 2, 1) := by decide +kernel
theorem dX5_readBoth_42 : decode cX5_readBoth 42 = .ok (.invokevirtual 101, 3) := by decide +kernel
theorem dX5_readBoth_45 : decode cX5_readBoth 45 = .ok (.istore_n 2, 1) := by decide +kernel
theorem dX5_readBoth_46 : decode cX5_readBoth 46 = .ok (.aload_n 0, 1) := by decide +kernel
theorem dX5_readBoth_47 : decode cX5_readBoth 47 = .ok (.invokevirtual 61, 3) := by decide +kernel
theorem dX5_readBoth_50 : decode cX5_readBoth 50 = .ok (.iinc 3 1, 3) := by decide +kernel
theorem dX5_readBoth_53 : decode cX5_readBoth 53 = .ok (.goto (-49), 3) := by decide +kernel
theorem dX5_readBoth_56 : decode cX5_readBoth 56 = .ok (.aload_n 0, 1) := by decide +kernel
theorem dX5_readBoth_57 : decode cX5_readBoth 57 = .ok (.invokevirtual 57, 3) := by decide +kernel
theorem dX5_readBoth_60 : decode cX5_readBoth 60 = .ok (.ireturn, 1) := by decide +kernel
set_option maxHeartbeats 4000000 in
set_option maxRecDepth 100000 in
theorem x_X5_readBoth_4 {p : Program} {l : Launch} {e : Env} {s : State} {m : MethodId} {args : Array Value} {below : List Frame} {meth : Method} {c : Code} {D : va_G} {K : Nat → ClassId} {A : Nat → Prop} {ad la : Nat → Nat} {rest : va_W} (kT : Int32 → xS → Option (Int32 × xS)) (fT lT : Nat) (HT : ∀ (a1 : Int32) (σ : xS) (z : Int32 × xS), kT a1 σ = some z → CI l D K yX5_readTest cX5_readTest 4 (some .boolean) fT lT [.ref (ad 47), .int a1] (CW K ad la rest σ) z.1 (CW K ad la rest z.2)) (C : xC p s m args meth c D K A RX5 cX5_readBoth 4 (some .boolean)) (z : Int32 × xS) : ∀ (n : Nat) (y1 : Int32) (y2 : Int32) (y3 : Int32) (σ : xS), F_X5_readBoth_4 kT n y1 y2 y3 σ = some z → X p l e (xR (fT + 121) (lT + 5040)) s m args below meth c D A 4 (xQi below D K A args s z.1 (CW K ad la rest z.2)) 0 0 4 [(0, .ref (ad 47)), (1, .int y1), (2, .int y2), (3, .int y3)] [] (CW K ad la rest σ) := by
  intro n
  induction n with
  | zero =>
    intro y1 y2 y3 σ hF
    cases hF
  | succ n ih =>
    intro y1 y2 y3 σ hF
    rw [F_X5_readBoth_4] at hF
    refine x_iload_n C 3 3 dX5_readBoth_4 rfl rfl ?_
    refine x_sipush C 400 dX5_readBoth_5 (by decide +kernel) ?_
    refine x_icmp_gt C 56 dX5_readBoth_8 (by decide) hF (fun hF => ?_) (fun hF => ?_)
    · refine x_aload_n C 0 0 dX5_readBoth_56 rfl rfl ?_
      refine x_callVI C (wf := CW K ad la rest) (As := []) (rest := []) dX5_readBoth_57 ml_X5_57 rfl rfl (Nat.le_of_ble_eq_true rfl) 47 (CW_47 K ad la rest σ) rfl (by show 0 + 1 ≤ fT + 121 ∧ 8 + (1 + 11) + (0) ≤ lT + 5040; omega) ⟨Nat.zero_le _, Nat.zero_le _⟩ (fun q9 hq9 => c_X5_fails l D K ad la rest σ q9 hq9) hF (fun v4 σ3 hF => ?_)
      have hz := (cz_some hF).1
      replace hF := (cz_some hF).2
      exact x_zret C dX5_readBoth_60 rfl hz (congrArg Prod.fst (Option.some.inj hF)) (congrArg (fun q9 : Int32 × xS => CW K ad la rest q9.2) (Option.some.inj hF))
    · refine x_aload_n C 0 0 dX5_readBoth_11 rfl rfl ?_
      refine x_iload_n C 1 1 dX5_readBoth_12 rfl rfl ?_
      refine x_callVI C (wf := CW K ad la rest) (As := [.int y1]) (rest := []) dX5_readBoth_13 ml_X5_105 rfl rfl (Nat.le_of_ble_eq_true rfl) 47 (CW_47 K ad la rest σ) rfl (by show fT + 120 + 1 ≤ fT + 121 ∧ 8 + (4 + 11) + (lT + 5000) ≤ lT + 5040; omega) ⟨Nat.zero_le _, Nat.zero_le _⟩ (fun q9 hq9 => c_X5_readPlain l D K ad la rest kT fT lT HT y1 σ q9 hq9) hF (fun v6 σ5 hF => ?_)
      refine x_if_ne C 21 dX5_readBoth_16 (by decide) hF (fun hF => ?_) (fun hF => ?_)
      · refine x_aload_n C 0 0 dX5_readBoth_21 rfl rfl ?_
        refine x_callVI C (wf := CW K ad la rest) (As := []) (rest := []) dX5_readBoth_22 ml_X5_49 rfl rfl (Nat.le_of_ble_eq_true rfl) 47 (CW_47 K ad la rest σ5) rfl (by show 0 + 1 ≤ fT + 121 ∧ 8 + (1 + 11) + (0) ≤ lT + 5040; omega) ⟨Nat.zero_le _, Nat.zero_le _⟩ (fun q9 hq9 => c_X5_token l D K ad la rest σ5 q9 hq9) hF (fun v8 σ7 hF => ?_)
        refine x_sipush C 272 dX5_readBoth_25 (by decide +kernel) ?_
        refine x_icmp_eq C 38 dX5_readBoth_28 (by decide) hF (fun hF => ?_) (fun hF => ?_)
        · refine x_aload_n C 0 0 dX5_readBoth_38 rfl rfl ?_
          refine x_bipush C 11 dX5_readBoth_39 (by decide +kernel) ?_
          refine x_iload_n C 2 2 dX5_readBoth_41 rfl rfl ?_
          refine x_callVI C (wf := CW K ad la rest) (As := [.int 11, .int y2]) (rest := []) dX5_readBoth_42 ml_X5_101 rfl rfl (Nat.le_of_ble_eq_true rfl) 47 (CW_47 K ad la rest σ7) rfl (by show 1 + 1 ≤ fT + 121 ∧ 8 + (3 + 11) + (22) ≤ lT + 5040; omega) ⟨Nat.zero_le _, Nat.zero_le _⟩ (fun q9 hq9 => c_X5_jump l D K ad la rest 11 y2 σ7 q9 hq9) hF (fun v10 σ9 hF => ?_)
          refine x_istore_n C [(2, .int v10), (0, .ref (ad 47)), (1, .int y1), (3, .int y3)] dX5_readBoth_45 rfl (by decide) rfl ?_
          refine x_aload_n C 1 0 dX5_readBoth_46 rfl rfl ?_
          refine x_callVV C (wf := CW K ad la rest) (As := []) (rest := []) dX5_readBoth_47 ml_X5_61 rfl rfl (Nat.le_of_ble_eq_true rfl) 47 (CW_47 K ad la rest σ9) rfl (by show 0 + 1 ≤ fT + 121 ∧ 8 + (1 + 11) + (0) ≤ lT + 5040; omega) ⟨Nat.zero_le _, Nat.zero_le _⟩ (fun q9 hq9 => c_X5_next l D K ad la rest σ9 q9 hq9) hF (fun _ σ11 hF => ?_)
          refine x_iincN C 1 3 (fun x12 => [(3, .int x12), (2, .int v10), (0, .ref (ad 47)), (1, .int y1)]) dX5_readBoth_50 rfl (by decide +kernel) (by decide) (fun _ => rfl) hF (fun x12 hF => ?_)
          refine x_goto C 4 dX5_readBoth_53 (by decide) ?_
          refine x_loc [(0, .ref (ad 47)), (1, .int y1), (2, .int v10), (3, .int x12)] [2, 3, 1, 0] rfl ?_
          exact ih y1 v10 x12 σ11 hF
        · refine x_aload_n C 0 0 dX5_readBoth_31 rfl rfl ?_
          refine x_iload_n C 2 2 dX5_readBoth_32 rfl rfl ?_
          refine x_callVV C (wf := CW K ad la rest) (As := [.int y2]) (rest := []) dX5_readBoth_33 ml_X5_97 rfl rfl (Nat.le_of_ble_eq_true rfl) 47 (CW_47 K ad la rest σ7) rfl (by show 0 + 1 ≤ fT + 121 ∧ 8 + (5 + 11) + (0) ≤ lT + 5040; omega) ⟨Nat.zero_le _, Nat.zero_le _⟩ (fun q9 hq9 => c_X5_land l D K ad la rest y2 σ7 q9 hq9) hF (fun _ σ13 hF => ?_)
          refine x_iconst C 1 dX5_readBoth_36 (by decide +kernel) ?_
          have hz := (cz_some hF).1
          replace hF := (cz_some hF).2
          exact x_zret C dX5_readBoth_37 rfl hz (congrArg Prod.fst (Option.some.inj hF)) (congrArg (fun q9 : Int32 × xS => CW K ad la rest q9.2) (Option.some.inj hF))
      · refine x_iconst C 0 dX5_readBoth_19 (by decide +kernel) ?_
        have hz := (cz_some hF).1
        replace hF := (cz_some hF).2
        exact x_zret C dX5_readBoth_20 rfl hz (congrArg Prod.fst (Option.some.inj hF)) (congrArg (fun q9 : Int32 × xS => CW K ad la rest q9.2) (Option.some.inj hF))
set_option maxHeartbeats 4000000 in
set_option maxRecDepth 100000 in
theorem c_X5_readBoth (l : Launch) (D : va_G) (K : Nat → ClassId) (ad la : Nat → Nat) (rest : va_W) (kT : Int32 → xS → Option (Int32 × xS)) (fT lT : Nat) (HT : ∀ (a1 : Int32) (σ : xS) (z : Int32 × xS), kT a1 σ = some z → CI l D K yX5_readTest cX5_readTest 4 (some .boolean) fT lT [.ref (ad 47), .int a1] (CW K ad la rest σ) z.1 (CW K ad la rest z.2)) (a1 : Int32) (σ : xS) (z : Int32 × xS) (hF : F_X5_readBoth kT a1 σ = some z) : CI l D K yX5_readBoth cX5_readBoth 4 (some .boolean) (fT + 121) (lT + 5040) [.ref (ad 47), .int a1] (CW K ad la rest σ) z.1 (CW K ad la rest z.2) := by
  refine x_enterI [(0, .ref (ad 47)), (1, .int a1)] pnX5 (Nat.le_of_ble_eq_true rfl) rfl ?_
  intro p e s m args below meth c A C
  unfold F_X5_readBoth at hF
  refine x_iconst C (-1) dX5_readBoth_0 (by decide +kernel) ?_
  refine x_topI hF (fun x1 hF => ?_)
  refine x_istore_n C [(2, .int x1), (0, .ref (ad 47)), (1, .int a1)] dX5_readBoth_1 rfl (by decide) rfl ?_
  refine x_iconst C 0 dX5_readBoth_2 (by decide +kernel) ?_
  refine x_topI hF (fun x2 hF => ?_)
  refine x_istore_n C [(3, .int x2), (2, .int x1), (0, .ref (ad 47)), (1, .int a1)] dX5_readBoth_3 rfl (by decide) rfl ?_
  refine x_loc [(0, .ref (ad 47)), (1, .int a1), (2, .int x1), (3, .int x2)] [2, 3, 1, 0] rfl ?_
  exact x_X5_readBoth_4 kT fT lT HT C z FU a1 x1 x2 σ hF
theorem dX5_readTest_0 : decode cX5_readTest 0 = .ok (.iconst (-1), 1) := by decide +kernel
theorem dX5_readTest_1 : decode cX5_readTest 1 = .ok (.istore_n 2, 1) := by decide +kernel
theorem dX5_readTest_2 : decode cX5_readTest 2 = .ok (.iconst 0, 1) := by decide +kernel
theorem dX5_readTest_3 : decode cX5_readTest 3 = .ok (.istore_n 3, 1) := by decide +kernel
theorem dX5_readTest_4 : decode cX5_readTest 4 = .ok (.iload_n 3, 1) := by decide +kernel
theorem dX5_readTest_5 : decode cX5_readTest 5 = .ok (.sipush 400, 3) := by decide +kernel
theorem dX5_readTest_8 : decode cX5_readTest 8 = .ok (.if_icmp .gt 48, 3) := by decide +kernel
theorem dX5_readTest_11 : decode cX5_readTest 11 = .ok (.aload_n 0, 1) := by decide +kernel
theorem dX5_readTest_12 : decode cX5_readTest 12 = .ok (.iload_n 1, 1) := by decide +kernel
theorem dX5_readTest_13 : decode cX5_readTest 13 = .ok (.invokevirtual 94, 3) := by decide +kernel
theorem dX5_readTest_16 : decode cX5_readTest 16 = .ok (.ifCond .ne 5, 3) := by decide +kernel
theorem dX5_readTest_19 : decode cX5_readTest 19 = .ok (.iconst 0, 1) := by decide +kernel
theorem dX5_readTest_20 : decode cX5_readTest 20 = .ok (.ireturn, 1) := by decide +kernel
theorem dX5_readTest_21 : decode cX5_readTest 21 = .ok (.aload_n 0, 1) := by decide +kernel
theorem dX5_readTest_22 : decode cX5_readTest 22 = .ok (.invokevirtual 49, 3) := by decide +kernel
theorem dX5_readTest_25 : decode cX5_readTest 25 = .ok (.sipush 271, 3) := by decide +kernel
theorem dX5_readTest_28 : decode cX5_readTest 28 = .ok (.if_icmp .eq 10, 3) := by decide +kernel
theorem dX5_readTest_31 : decode cX5_readTest 31 = .ok (.aload_n 0, 1) := by decide +kernel
theorem dX5_readTest_32 : decode cX5_readTest 32 = .ok (.iload_n 2, 1) := by decide +kernel
theorem dX5_readTest_33 : decode cX5_readTest 33 = .ok (.invokevirtual 97, 3) := by decide +kernel
theorem dX5_readTest_36 : decode cX5_readTest 36 = .ok (.iconst 1, 1) := by decide +kernel
theorem dX5_readTest_37 : decode cX5_readTest 37 = .ok (.ireturn, 1) := by decide +kernel
theorem dX5_readTest_38 : decode cX5_readTest 38 = .ok (.aload_n 0, 1) := by decide +kernel
theorem dX5_readTest_39 : decode cX5_readTest 39 = .ok (.bipush 10, 2) := by decide +kernel
theorem dX5_readTest_41 : decode cX5_readTest 41 = .ok (.iload_n 2, 1) := by decide +kernel
theorem dX5_readTest_42 : decode cX5_readTest 42 = .ok (.invokevirtual 101, 3) := by decide +kernel
theorem dX5_readTest_45 : decode cX5_readTest 45 = .ok (.istore_n 2, 1) := by decide +kernel
theorem dX5_readTest_46 : decode cX5_readTest 46 = .ok (.aload_n 0, 1) := by decide +kernel
theorem dX5_readTest_47 : decode cX5_readTest 47 = .ok (.invokevirtual 61, 3) := by decide +kernel
theorem dX5_readTest_50 : decode cX5_readTest 50 = .ok (.iinc 3 1, 3) := by decide +kernel
theorem dX5_readTest_53 : decode cX5_readTest 53 = .ok (.goto (-49), 3) := by decide +kernel
theorem dX5_readTest_56 : decode cX5_readTest 56 = .ok (.aload_n 0, 1) := by decide +kernel
theorem dX5_readTest_57 : decode cX5_readTest 57 = .ok (.invokevirtual 57, 3) := by decide +kernel
theorem dX5_readTest_60 : decode cX5_readTest 60 = .ok (.ireturn, 1) := by decide +kernel
set_option maxHeartbeats 4000000 in
set_option maxRecDepth 100000 in
theorem x_X5_readTest_4 {p : Program} {l : Launch} {e : Env} {s : State} {m : MethodId} {args : Array Value} {below : List Frame} {meth : Method} {c : Code} {D : va_G} {K : Nat → ClassId} {A : Nat → Prop} {ad la : Nat → Nat} {rest : va_W} (kT : Int32 → xS → Option (Int32 × xS)) (fT lT : Nat) (HT : ∀ (a1 : Int32) (σ : xS) (z : Int32 × xS), kT a1 σ = some z → CI l D K yX5_readTest cX5_readTest 4 (some .boolean) fT lT [.ref (ad 47), .int a1] (CW K ad la rest σ) z.1 (CW K ad la rest z.2)) (C : xC p s m args meth c D K A RX5 cX5_readTest 4 (some .boolean)) (z : Int32 × xS) : ∀ (n : Nat) (y1 : Int32) (y2 : Int32) (y3 : Int32) (σ : xS), F_X5_readTest_4 kT n y1 y2 y3 σ = some z → X p l e (xR (fT + 122) (lT + 5080)) s m args below meth c D A 4 (xQi below D K A args s z.1 (CW K ad la rest z.2)) 0 0 4 [(0, .ref (ad 47)), (1, .int y1), (2, .int y2), (3, .int y3)] [] (CW K ad la rest σ) := by
  intro n
  induction n with
  | zero =>
    intro y1 y2 y3 σ hF
    cases hF
  | succ n ih =>
    intro y1 y2 y3 σ hF
    rw [F_X5_readTest_4] at hF
    refine x_iload_n C 3 3 dX5_readTest_4 rfl rfl ?_
    refine x_sipush C 400 dX5_readTest_5 (by decide +kernel) ?_
    refine x_icmp_gt C 56 dX5_readTest_8 (by decide) hF (fun hF => ?_) (fun hF => ?_)
    · refine x_aload_n C 0 0 dX5_readTest_56 rfl rfl ?_
      refine x_callVI C (wf := CW K ad la rest) (As := []) (rest := []) dX5_readTest_57 ml_X5_57 rfl rfl (Nat.le_of_ble_eq_true rfl) 47 (CW_47 K ad la rest σ) rfl (by show 0 + 1 ≤ fT + 122 ∧ 8 + (1 + 11) + (0) ≤ lT + 5080; omega) ⟨Nat.zero_le _, Nat.zero_le _⟩ (fun q9 hq9 => c_X5_fails l D K ad la rest σ q9 hq9) hF (fun v4 σ3 hF => ?_)
      have hz := (cz_some hF).1
      replace hF := (cz_some hF).2
      exact x_zret C dX5_readTest_60 rfl hz (congrArg Prod.fst (Option.some.inj hF)) (congrArg (fun q9 : Int32 × xS => CW K ad la rest q9.2) (Option.some.inj hF))
    · refine x_aload_n C 0 0 dX5_readTest_11 rfl rfl ?_
      refine x_iload_n C 1 1 dX5_readTest_12 rfl rfl ?_
      refine x_callVI C (wf := CW K ad la rest) (As := [.int y1]) (rest := []) dX5_readTest_13 ml_X5_94 rfl rfl (Nat.le_of_ble_eq_true rfl) 47 (CW_47 K ad la rest σ) rfl (by show fT + 121 + 1 ≤ fT + 122 ∧ 8 + (4 + 11) + (lT + 5040) ≤ lT + 5080; omega) ⟨Nat.zero_le _, Nat.zero_le _⟩ (fun q9 hq9 => c_X5_readBoth l D K ad la rest kT fT lT HT y1 σ q9 hq9) hF (fun v6 σ5 hF => ?_)
      refine x_if_ne C 21 dX5_readTest_16 (by decide) hF (fun hF => ?_) (fun hF => ?_)
      · refine x_aload_n C 0 0 dX5_readTest_21 rfl rfl ?_
        refine x_callVI C (wf := CW K ad la rest) (As := []) (rest := []) dX5_readTest_22 ml_X5_49 rfl rfl (Nat.le_of_ble_eq_true rfl) 47 (CW_47 K ad la rest σ5) rfl (by show 0 + 1 ≤ fT + 122 ∧ 8 + (1 + 11) + (0) ≤ lT + 5080; omega) ⟨Nat.zero_le _, Nat.zero_le _⟩ (fun q9 hq9 => c_X5_token l D K ad la rest σ5 q9 hq9) hF (fun v8 σ7 hF => ?_)
        refine x_sipush C 271 dX5_readTest_25 (by decide +kernel) ?_
        refine x_icmp_eq C 38 dX5_readTest_28 (by decide) hF (fun hF => ?_) (fun hF => ?_)
        · refine x_aload_n C 0 0 dX5_readTest_38 rfl rfl ?_
          refine x_bipush C 10 dX5_readTest_39 (by decide +kernel) ?_
          refine x_iload_n C 2 2 dX5_readTest_41 rfl rfl ?_
          refine x_callVI C (wf := CW K ad la rest) (As := [.int 10, .int y2]) (rest := []) dX5_readTest_42 ml_X5_101 rfl rfl (Nat.le_of_ble_eq_true rfl) 47 (CW_47 K ad la rest σ7) rfl (by show 1 + 1 ≤ fT + 122 ∧ 8 + (3 + 11) + (22) ≤ lT + 5080; omega) ⟨Nat.zero_le _, Nat.zero_le _⟩ (fun q9 hq9 => c_X5_jump l D K ad la rest 10 y2 σ7 q9 hq9) hF (fun v10 σ9 hF => ?_)
          refine x_istore_n C [(2, .int v10), (0, .ref (ad 47)), (1, .int y1), (3, .int y3)] dX5_readTest_45 rfl (by decide) rfl ?_
          refine x_aload_n C 1 0 dX5_readTest_46 rfl rfl ?_
          refine x_callVV C (wf := CW K ad la rest) (As := []) (rest := []) dX5_readTest_47 ml_X5_61 rfl rfl (Nat.le_of_ble_eq_true rfl) 47 (CW_47 K ad la rest σ9) rfl (by show 0 + 1 ≤ fT + 122 ∧ 8 + (1 + 11) + (0) ≤ lT + 5080; omega) ⟨Nat.zero_le _, Nat.zero_le _⟩ (fun q9 hq9 => c_X5_next l D K ad la rest σ9 q9 hq9) hF (fun _ σ11 hF => ?_)
          refine x_iincN C 1 3 (fun x12 => [(3, .int x12), (2, .int v10), (0, .ref (ad 47)), (1, .int y1)]) dX5_readTest_50 rfl (by decide +kernel) (by decide) (fun _ => rfl) hF (fun x12 hF => ?_)
          refine x_goto C 4 dX5_readTest_53 (by decide) ?_
          refine x_loc [(0, .ref (ad 47)), (1, .int y1), (2, .int v10), (3, .int x12)] [2, 3, 1, 0] rfl ?_
          exact ih y1 v10 x12 σ11 hF
        · refine x_aload_n C 0 0 dX5_readTest_31 rfl rfl ?_
          refine x_iload_n C 2 2 dX5_readTest_32 rfl rfl ?_
          refine x_callVV C (wf := CW K ad la rest) (As := [.int y2]) (rest := []) dX5_readTest_33 ml_X5_97 rfl rfl (Nat.le_of_ble_eq_true rfl) 47 (CW_47 K ad la rest σ7) rfl (by show 0 + 1 ≤ fT + 122 ∧ 8 + (5 + 11) + (0) ≤ lT + 5080; omega) ⟨Nat.zero_le _, Nat.zero_le _⟩ (fun q9 hq9 => c_X5_land l D K ad la rest y2 σ7 q9 hq9) hF (fun _ σ13 hF => ?_)
          refine x_iconst C 1 dX5_readTest_36 (by decide +kernel) ?_
          have hz := (cz_some hF).1
          replace hF := (cz_some hF).2
          exact x_zret C dX5_readTest_37 rfl hz (congrArg Prod.fst (Option.some.inj hF)) (congrArg (fun q9 : Int32 × xS => CW K ad la rest q9.2) (Option.some.inj hF))
      · refine x_iconst C 0 dX5_readTest_19 (by decide +kernel) ?_
        have hz := (cz_some hF).1
        replace hF := (cz_some hF).2
        exact x_zret C dX5_readTest_20 rfl hz (congrArg Prod.fst (Option.some.inj hF)) (congrArg (fun q9 : Int32 × xS => CW K ad la rest q9.2) (Option.some.inj hF))
set_option maxHeartbeats 4000000 in
set_option maxRecDepth 100000 in
theorem c_X5_readTest (l : Launch) (D : va_G) (K : Nat → ClassId) (ad la : Nat → Nat) (rest : va_W) (kT : Int32 → xS → Option (Int32 × xS)) (fT lT : Nat) (HT : ∀ (a1 : Int32) (σ : xS) (z : Int32 × xS), kT a1 σ = some z → CI l D K yX5_readTest cX5_readTest 4 (some .boolean) fT lT [.ref (ad 47), .int a1] (CW K ad la rest σ) z.1 (CW K ad la rest z.2)) (a1 : Int32) (σ : xS) (z : Int32 × xS) (hF : F_X5_readTest kT a1 σ = some z) : CI l D K yX5_readTest cX5_readTest 4 (some .boolean) (fT + 122) (lT + 5080) [.ref (ad 47), .int a1] (CW K ad la rest σ) z.1 (CW K ad la rest z.2) := by
  refine x_enterI [(0, .ref (ad 47)), (1, .int a1)] pnX5 (Nat.le_of_ble_eq_true rfl) rfl ?_
  intro p e s m args below meth c A C
  unfold F_X5_readTest at hF
  refine x_iconst C (-1) dX5_readTest_0 (by decide +kernel) ?_
  refine x_topI hF (fun x1 hF => ?_)
  refine x_istore_n C [(2, .int x1), (0, .ref (ad 47)), (1, .int a1)] dX5_readTest_1 rfl (by decide) rfl ?_
  refine x_iconst C 0 dX5_readTest_2 (by decide +kernel) ?_
  refine x_topI hF (fun x2 hF => ?_)
  refine x_istore_n C [(3, .int x2), (2, .int x1), (0, .ref (ad 47)), (1, .int a1)] dX5_readTest_3 rfl (by decide) rfl ?_
  refine x_loc [(0, .ref (ad 47)), (1, .int a1), (2, .int x1), (3, .int x2)] [2, 3, 1, 0] rfl ?_
  exact x_X5_readTest_4 kT fT lT HT C z FU a1 x1 x2 σ hF
theorem c_X5_readTestD (l : Launch) (D : va_G) (K : Nat → ClassId) (ad la : Nat → Nat) (rest : va_W) : ∀ (d : Nat) (a1 : Int32) (σ : xS) (z : Int32 × xS), F_X5_readTestD d a1 σ = some z → CI l D K yX5_readTest cX5_readTest 4 (some .boolean) (122 * d) (5080 * d) [.ref (ad 47), .int a1] (CW K ad la rest σ) z.1 (CW K ad la rest z.2) := by
  intro d
  induction d with
  | zero =>
    intro a1 σ z hF
    cases hF
  | succ d ih =>
    intro a1 σ z hF
    rw [F_X5_readTestD] at hF
    exact c_X5_readTest l D K ad la rest (F_X5_readTestD d) (122 * d) (5080 * d) ih a1 σ z hF
theorem c_X5_readTestR (l : Launch) (D : va_G) (K : Nat → ClassId) (ad la : Nat → Nat) (rest : va_W) (a1 : Int32) (σ : xS) (z : Int32 × xS) (hF : F_X5_readTestR a1 σ = some z) : CI l D K yX5_readTest cX5_readTest 4 (some .boolean) 1220 50800 [.ref (ad 47), .int a1] (CW K ad la rest σ) z.1 (CW K ad la rest z.2) := c_X5_readTestD l D K ad la rest 10 a1 σ z hF
theorem dX5_readClause_0 : decode cX5_readClause 0 = .ok (.aload_n 0, 1) := by decide +kernel
theorem dX5_readClause_1 : decode cX5_readClause 1 = .ok (.invokevirtual 49, 3) := by decide +kernel
theorem dX5_readClause_4 : decode cX5_readClause 4 = .ok (.sipush 256, 3) := by decide +kernel
theorem dX5_readClause_7 : decode cX5_readClause 7 = .ok (.isub, 1) := by decide +kernel
theorem dX5_readClause_8 : decode cX5_readClause 8 = .ok (.istore_n 2, 1) := by decide +kernel
theorem dX5_readClause_9 : decode cX5_readClause 9 = .ok (.iload_n 2, 1) := by decide +kernel
theorem dX5_readClause_10 : decode cX5_readClause 10 = .ok (.bipush 10, 2) := by decide +kernel
theorem dX5_readClause_12 : decode cX5_readClause 12 = .ok (.if_icmp .lt 9, 3) := by decide +kernel
theorem dX5_readClause_15 : decode cX5_readClause 15 = .ok (.iload_n 2, 1) := by decide +kernel
theorem dX5_readClause_16 : decode cX5_readClause 16 = .ok (.bipush 13, 2) := by decide +kernel
theorem dX5_readClause_18 : decode cX5_readClause 18 = .ok (.if_icmp .le 8, 3) := by decide +kernel
theorem dX5_readClause_21 : decode cX5_readClause 21 = .ok (.aload_n 0, 1) := by decide +kernel
theorem dX5_readClause_22 : decode cX5_readClause 22 = .ok (.invokevirtual 57, 3) := by decide +kernel
theorem dX5_readClause_25 : decode cX5_readClause 25 = .ok (.ireturn, 1) := by decide +kernel
theorem dX5_readClause_26 : decode cX5_readClause 26 = .ok (.aload_n 0, 1) := by decide +kernel
theorem dX5_readClause_27 : decode cX5_readClause 27 = .ok (.getfield 18, 3) := by decide +kernel
theorem dX5_readClause_30 : decode cX5_readClause 30 = .ok (.iload_n 1, 1) := by decide +kernel
theorem dX5_readClause_31 : decode cX5_readClause 31 = .ok (.iload_n 2, 1) := by decide +kernel
theorem dX5_readClause_32 : decode cX5_readClause 32 = .ok (.iastore, 1) := by decide +kernel
theorem dX5_readClause_33 : decode cX5_readClause 33 = .ok (.aload_n 0, 1) := by decide +kernel
theorem dX5_readClause_34 : decode cX5_readClause 34 = .ok (.getfield 22, 3) := by decide +kernel
theorem dX5_readClause_37 : decode cX5_readClause 37 = .ok (.iload_n 1, 1) := by decide +kernel
theorem dX5_readClause_38 : decode cX5_readClause 38 = .ok (.aload_n 0, 1) := by decide +kernel
theorem dX5_readClause_39 : decode cX5_readClause 39 = .ok (.getfield 42, 3) := by decide +kernel
theorem dX5_readClause_42 : decode cX5_readClause 42 = .ok (.iastore, 1) := by decide +kernel
theorem dX5_readClause_43 : decode cX5_readClause 43 = .ok (.aload_n 0, 1) := by decide +kernel
theorem dX5_readClause_44 : decode cX5_readClause 44 = .ok (.invokevirtual 61, 3) := by decide +kernel
theorem dX5_readClause_47 : decode cX5_readClause 47 = .ok (.iload_n 2, 1) := by decide +kernel
theorem dX5_readClause_48 : decode cX5_readClause 48 = .ok (.bipush 13, 2) := by decide +kernel
theorem dX5_readClause_50 : decode cX5_readClause 50 = .ok (.if_icmp .eq 20, 3) := by decide +kernel
theorem dX5_readClause_53 : decode cX5_readClause 53 = .ok (.aload_n 0, 1) := by decide +kernel
theorem dX5_readClause_54 : decode cX5_readClause 54 = .ok (.iconst 0, 1) := by decide +kernel
theorem dX5_readClause_55 : decode cX5_readClause 55 = .ok (.invokevirtual 84, 3) := by decide +kernel
theorem dX5_readClause_58 : decode cX5_readClause 58 = .ok (.ifCond .ne 5, 3) := by decide +kernel
theorem dX5_readClause_61 : decode cX5_readClause 61 = .ok (.iconst 0, 1) := by decide +kernel
theorem dX5_readClause_62 : decode cX5_readClause 62 = .ok (.ireturn, 1) := by decide +kernel
theorem dX5_readClause_63 : decode cX5_readClause 63 = .ok (.aload_n 0, 1) := by decide +kernel
theorem dX5_readClause_64 : decode cX5_readClause 64 = .ok (.bipush 12, 2) := by decide +kernel
theorem dX5_readClause_66 : decode cX5_readClause 66 = .ok (.iconst 0, 1) := by decide +kernel
theorem dX5_readClause_67 : decode cX5_readClause 67 = .ok (.invokevirtual 87, 3) := by decide +kernel
theorem dX5_readClause_70 : decode cX5_readClause 70 = .ok (.aload_n 0, 1) := by decide +kernel
theorem dX5_readClause_71 : decode cX5_readClause 71 = .ok (.invokevirtual 49, 3) := by decide +kernel
theorem dX5_readClause_74 : decode cX5_readClause 74 = .ok (.sipush 270, 3) := by decide +kernel
theorem dX5_readClause_77 : decode cX5_readClause 77 = .ok (.if_icmp .eq 5, 3) := by decide +kernel
theorem dX5_readClause_80 : decode cX5_readClause 80 = .ok (.iconst 1, 1) := by decide +kernel
theorem dX5_readClause_81 : decode cX5_readClause 81 = .ok (.ireturn, 1) := by decide +kernel
theorem dX5_readClause_82 : decode cX5_readClause 82 = .ok (.aload_n 0, 1) := by decide +kernel
theorem dX5_readClause_83 : decode cX5_readClause 83 = .ok (.invokevirtual 61, 3) := by decide +kernel
theorem dX5_readClause_86 : decode cX5_readClause 86 = .ok (.aload_n 0, 1) := by decide +kernel
theorem dX5_readClause_87 : decode cX5_readClause 87 = .ok (.iconst 0, 1) := by decide +kernel
theorem dX5_readClause_88 : decode cX5_readClause 88 = .ok (.invokevirtual 91, 3) := by decide +kernel
theorem dX5_readClause_91 : decode cX5_readClause 91 = .ok (.ireturn, 1) := by decide +kernel
set_option maxHeartbeats 4000000 in
set_option maxRecDepth 100000 in
theorem x_X5_readClause_21 {p : Program} {l : Launch} {e : Env} {s : State} {m : MethodId} {args : Array Value} {below : List Frame} {meth : Method} {c : Code} {D : va_G} {K : Nat → ClassId} {A : Nat → Prop} {ad la : Nat → Nat} {rest : va_W} (C : xC p s m args meth c D K A RX5 cX5_readClause 3 (some .boolean)) (z : Int32 × xS) : ∀  (σ : xS), F_X5_readClause_21  σ = some z → X p l e (xR 1221 50823) s m args below meth c D A 3 (xQi below D K A args s z.1 (CW K ad la rest z.2)) 0 0 21 [(0, .ref (ad 47))] [] (CW K ad la rest σ) := by
  intro σ hF
  unfold F_X5_readClause_21 at hF
  refine x_aload_n C 0 0 dX5_readClause_21 rfl rfl ?_
  refine x_callVI C (wf := CW K ad la rest) (As := []) (rest := []) dX5_readClause_22 ml_X5_57 rfl rfl (Nat.le_of_ble_eq_true rfl) 47 (CW_47 K ad la rest σ) rfl ⟨Nat.le_of_ble_eq_true rfl, Nat.le_of_ble_eq_true rfl⟩ ⟨Nat.zero_le _, Nat.zero_le _⟩ (fun q9 hq9 => c_X5_fails l D K ad la rest σ q9 hq9) hF (fun v11 σ10 hF => ?_)
  have hz := (cz_some hF).1
  replace hF := (cz_some hF).2
  exact x_zret C dX5_readClause_25 rfl hz (congrArg Prod.fst (Option.some.inj hF)) (congrArg (fun q9 : Int32 × xS => CW K ad la rest q9.2) (Option.some.inj hF))
set_option maxHeartbeats 4000000 in
set_option maxRecDepth 100000 in
theorem x_X5_readClause_70 {p : Program} {l : Launch} {e : Env} {s : State} {m : MethodId} {args : Array Value} {below : List Frame} {meth : Method} {c : Code} {D : va_G} {K : Nat → ClassId} {A : Nat → Prop} {ad la : Nat → Nat} {rest : va_W} (C : xC p s m args meth c D K A RX5 cX5_readClause 3 (some .boolean)) (z : Int32 × xS) : ∀  (σ : xS), F_X5_readClause_70  σ = some z → X p l e (xR 1221 50823) s m args below meth c D A 3 (xQi below D K A args s z.1 (CW K ad la rest z.2)) 0 0 70 [(0, .ref (ad 47))] [] (CW K ad la rest σ) := by
  intro σ hF
  unfold F_X5_readClause_70 at hF
  refine x_aload_n C 0 0 dX5_readClause_70 rfl rfl ?_
  refine x_callVI C (wf := CW K ad la rest) (As := []) (rest := []) dX5_readClause_71 ml_X5_49 rfl rfl (Nat.le_of_ble_eq_true rfl) 47 (CW_47 K ad la rest σ) rfl ⟨Nat.le_of_ble_eq_true rfl, Nat.le_of_ble_eq_true rfl⟩ ⟨Nat.zero_le _, Nat.zero_le _⟩ (fun q9 hq9 => c_X5_token l D K ad la rest σ q9 hq9) hF (fun v13 σ12 hF => ?_)
  refine x_sipush C 270 dX5_readClause_74 (by decide +kernel) ?_
  refine x_icmp_eq C 82 dX5_readClause_77 (by decide) hF (fun hF => ?_) (fun hF => ?_)
  · refine x_aload_n C 0 0 dX5_readClause_82 rfl rfl ?_
    refine x_callVV C (wf := CW K ad la rest) (As := []) (rest := []) dX5_readClause_83 ml_X5_61 rfl rfl (Nat.le_of_ble_eq_true rfl) 47 (CW_47 K ad la rest σ12) rfl ⟨Nat.le_of_ble_eq_true rfl, Nat.le_of_ble_eq_true rfl⟩ ⟨Nat.zero_le _, Nat.zero_le _⟩ (fun q9 hq9 => c_X5_next l D K ad la rest σ12 q9 hq9) hF (fun _ σ14 hF => ?_)
    refine x_aload_n C 0 0 dX5_readClause_86 rfl rfl ?_
    refine x_iconst C 0 dX5_readClause_87 (by decide +kernel) ?_
    refine x_callVI C (wf := CW K ad la rest) (As := [.int 0]) (rest := []) dX5_readClause_88 ml_X5_91 rfl rfl (Nat.le_of_ble_eq_true rfl) 47 (CW_47 K ad la rest σ14) rfl ⟨Nat.le_of_ble_eq_true rfl, Nat.le_of_ble_eq_true rfl⟩ ⟨Nat.zero_le _, Nat.zero_le _⟩ (fun q9 hq9 => c_X5_readTestR l D K ad la rest 0 σ14 q9 hq9) hF (fun v16 σ15 hF => ?_)
    have hz := (cz_some hF).1
    replace hF := (cz_some hF).2
    exact x_zret C dX5_readClause_91 rfl hz (congrArg Prod.fst (Option.some.inj hF)) (congrArg (fun q9 : Int32 × xS => CW K ad la rest q9.2) (Option.some.inj hF))
  · refine x_iconst C 1 dX5_readClause_80 (by decide +kernel) ?_
    have hz := (cz_some hF).1
    replace hF := (cz_some hF).2
    exact x_zret C dX5_readClause_81 rfl hz (congrArg Prod.fst (Option.some.inj hF)) (congrArg (fun q9 : Int32 × xS => CW K ad la rest q9.2) (Option.some.inj hF))
set_option maxHeartbeats 4000000 in
set_option maxRecDepth 100000 in
theorem c_X5_readClause (l : Launch) (D : va_G) (K : Nat → ClassId) (ad la : Nat → Nat) (rest : va_W)  (a1 : Int32) (σ : xS) (z : Int32 × xS) (hF : F_X5_readClause a1 σ = some z) : CI l D K yX5_readClause cX5_readClause 3 (some .boolean) 1221 50823 [.ref (ad 47), .int a1] (CW K ad la rest σ) z.1 (CW K ad la rest z.2) := by
  refine x_enterI [(0, .ref (ad 47)), (1, .int a1)] pnX5 (Nat.le_of_ble_eq_true rfl) rfl ?_
  intro p e s m args below meth c A C
  unfold F_X5_readClause at hF
  refine x_aload_n C 0 0 dX5_readClause_0 rfl rfl ?_
  refine x_callVI C (wf := CW K ad la rest) (As := []) (rest := []) dX5_readClause_1 ml_X5_49 rfl rfl (Nat.le_of_ble_eq_true rfl) 47 (CW_47 K ad la rest σ) rfl ⟨Nat.le_of_ble_eq_true rfl, Nat.le_of_ble_eq_true rfl⟩ ⟨Nat.zero_le _, Nat.zero_le _⟩ (fun q9 hq9 => c_X5_token l D K ad la rest σ q9 hq9) hF (fun v2 σ1 hF => ?_)
  refine x_sipush C 256 dX5_readClause_4 (by decide +kernel) ?_
  refine x_isub C dX5_readClause_7 ?_
  refine x_topI hF (fun x3 hF => ?_)
  refine x_istore_n C [(2, .int x3), (0, .ref (ad 47)), (1, .int a1)] dX5_readClause_8 rfl (by decide) rfl ?_
  refine x_iload_n C 0 2 dX5_readClause_9 rfl rfl ?_
  refine x_bipush C 10 dX5_readClause_10 (by decide +kernel) ?_
  refine x_icmp_lt C 21 dX5_readClause_12 (by decide) hF (fun hF => ?_) (fun hF => ?_)
  · refine x_loc [(0, .ref (ad 47))] [1] rfl ?_
    exact x_X5_readClause_21 C z σ1 hF
  · refine x_iload_n C 0 2 dX5_readClause_15 rfl rfl ?_
    refine x_bipush C 13 dX5_readClause_16 (by decide +kernel) ?_
    refine x_icmp_le C 26 dX5_readClause_18 (by decide) hF (fun hF => ?_) (fun hF => ?_)
    · refine x_aload_n C 1 0 dX5_readClause_26 rfl rfl ?_
      refine x_get C 47 dX5_readClause_27 fl_X5_18 (CW_47 K ad la rest σ1) rfl ?_
      refine x_iload_n C 2 1 dX5_readClause_30 rfl rfl ?_
      refine x_iload_n C 0 2 dX5_readClause_31 rfl rfl ?_
      refine x_iast C 48 dX5_readClause_32 (CW_48 K ad la rest σ1) hF (CW_s48 K ad la rest σ1 _) (fun hF => ?_)
      refine x_st (wf := CW K ad la rest) hF (fun σ4 hF => ?_)
      refine x_aload_n C 1 0 dX5_readClause_33 rfl rfl ?_
      refine x_get C 47 dX5_readClause_34 fl_X5_22 (CW_47 K ad la rest σ4) rfl ?_
      refine x_iload_n C 2 1 dX5_readClause_37 rfl rfl ?_
      refine x_aload_n C 1 0 dX5_readClause_38 rfl rfl ?_
      refine x_get C 47 dX5_readClause_39 fl_X5_42 (CW_47 K ad la rest σ4) rfl ?_
      refine x_iast C 49 dX5_readClause_42 (CW_49 K ad la rest σ4) hF (CW_s49 K ad la rest σ4 _) (fun hF => ?_)
      refine x_st (wf := CW K ad la rest) hF (fun σ5 hF => ?_)
      refine x_aload_n C 1 0 dX5_readClause_43 rfl rfl ?_
      refine x_callVV C (wf := CW K ad la rest) (As := []) (rest := []) dX5_readClause_44 ml_X5_61 rfl rfl (Nat.le_of_ble_eq_true rfl) 47 (CW_47 K ad la rest σ5) rfl ⟨Nat.le_of_ble_eq_true rfl, Nat.le_of_ble_eq_true rfl⟩ ⟨Nat.zero_le _, Nat.zero_le _⟩ (fun q9 hq9 => c_X5_next l D K ad la rest σ5 q9 hq9) hF (fun _ σ6 hF => ?_)
      refine x_iload_n C 0 2 dX5_readClause_47 rfl rfl ?_
      refine x_bipush C 13 dX5_readClause_48 (by decide +kernel) ?_
      refine x_icmp_eq C 70 dX5_readClause_50 (by decide) hF (fun hF => ?_) (fun hF => ?_)
      · refine x_loc [(0, .ref (ad 47))] [1] rfl ?_
        exact x_X5_readClause_70 C z σ6 hF
      · refine x_aload_n C 1 0 dX5_readClause_53 rfl rfl ?_
        refine x_iconst C 0 dX5_readClause_54 (by decide +kernel) ?_
        refine x_callVI C (wf := CW K ad la rest) (As := [.int 0]) (rest := []) dX5_readClause_55 ml_X5_84 rfl rfl (Nat.le_of_ble_eq_true rfl) 47 (CW_47 K ad la rest σ6) rfl ⟨Nat.le_of_ble_eq_true rfl, Nat.le_of_ble_eq_true rfl⟩ ⟨Nat.zero_le _, Nat.zero_le _⟩ (fun q9 hq9 => c_X5_readSumR l D K ad la rest 0 σ6 q9 hq9) hF (fun v8 σ7 hF => ?_)
        refine x_if_ne C 63 dX5_readClause_58 (by decide) hF (fun hF => ?_) (fun hF => ?_)
        · refine x_aload_n C 1 0 dX5_readClause_63 rfl rfl ?_
          refine x_bipush C 12 dX5_readClause_64 (by decide +kernel) ?_
          refine x_iconst C 0 dX5_readClause_66 (by decide +kernel) ?_
          refine x_callVV C (wf := CW K ad la rest) (As := [.int 12, .int 0]) (rest := []) dX5_readClause_67 ml_X5_87 rfl rfl (Nat.le_of_ble_eq_true rfl) 47 (CW_47 K ad la rest σ7) rfl ⟨Nat.le_of_ble_eq_true rfl, Nat.le_of_ble_eq_true rfl⟩ ⟨Nat.zero_le _, Nat.zero_le _⟩ (fun q9 hq9 => c_X5_step l D K ad la rest 12 0 σ7 q9 hq9) hF (fun _ σ9 hF => ?_)
          refine x_loc [(0, .ref (ad 47))] [1] rfl ?_
          exact x_X5_readClause_70 C z σ9 hF
        · refine x_iconst C 0 dX5_readClause_61 (by decide +kernel) ?_
          have hz := (cz_some hF).1
          replace hF := (cz_some hF).2
          exact x_zret C dX5_readClause_62 rfl hz (congrArg Prod.fst (Option.some.inj hF)) (congrArg (fun q9 : Int32 × xS => CW K ad la rest q9.2) (Option.some.inj hF))
    · refine x_loc [(0, .ref (ad 47))] [1] rfl ?_
      exact x_X5_readClause_21 C z σ1 hF
theorem dX6_open_0 : decode cX6_open 0 = .ok (.aload_n 0, 1) := by decide +kernel
theorem dX6_open_1 : decode cX6_open 1 = .ok (.getfield 22, 3) := by decide +kernel
theorem dX6_open_4 : decode cX6_open 4 = .ok (.aload_n 0, 1) := by decide +kernel
theorem dX6_open_5 : decode cX6_open 5 = .ok (.getfield 9, 3) := by decide +kernel
theorem dX6_open_8 : decode cX6_open 8 = .ok (.if_icmp .lt 5, 3) := by decide +kernel
theorem dX6_open_11 : decode cX6_open 11 = .ok (.iconst (-1), 1) := by decide +kernel
theorem dX6_open_12 : decode cX6_open 12 = .ok (.ireturn, 1) := by decide +kernel
theorem dX6_open_13 : decode cX6_open 13 = .ok (.aload_n 0, 1) := by decide +kernel
theorem dX6_open_14 : decode cX6_open 14 = .ok (.dup, 1) := by decide +kernel
theorem dX6_open_15 : decode cX6_open 15 = .ok (.getfield 22, 3) := by decide +kernel
theorem dX6_open_18 : decode cX6_open 18 = .ok (.iconst 1, 1) := by decide +kernel
theorem dX6_open_19 : decode cX6_open 19 = .ok (.iadd, 1) := by decide +kernel
theorem dX6_open_20 : decode cX6_open 20 = .ok (.putfield 22, 3) := by decide +kernel
theorem dX6_open_23 : decode cX6_open 23 = .ok (.aload_n 0, 1) := by decide +kernel
theorem dX6_open_24 : decode cX6_open 24 = .ok (.getfield 22, 3) := by decide +kernel
theorem dX6_open_27 : decode cX6_open 27 = .ok (.iconst 1, 1) := by decide +kernel
theorem dX6_open_28 : decode cX6_open 28 = .ok (.isub, 1) := by decide +kernel
theorem dX6_open_29 : decode cX6_open 29 = .ok (.ireturn, 1) := by decide +kernel
set_option maxHeartbeats 4000000 in
set_option maxRecDepth 100000 in
theorem c_X6_open (l : Launch) (D : va_G) (K : Nat → ClassId) (ad la : Nat → Nat) (rest : va_W) (r : Nat) (hr : r < 15)  (σ : xS) (z : Int32 × xS) (hF : F_X6_open r σ = some z) : CI l D K yX6_open cX6_open 1 (some .int) 0 0 [.ref (ad (8 + 2 * r))] (CW K ad la rest σ) z.1 (CW K ad la rest z.2) := by
  refine x_enterI [(0, .ref (ad (8 + 2 * r)))] pnX6 (Nat.le_of_ble_eq_true rfl) rfl ?_
  intro p e s m args below meth c A C
  unfold F_X6_open at hF
  refine x_aload_n C 0 0 dX6_open_0 rfl rfl ?_
  refine x_get C (8 + 2 * r) dX6_open_1 fl_X6_22 (CW_r K ad la rest σ r hr) rfl ?_
  refine x_aload_n C 0 0 dX6_open_4 rfl rfl ?_
  refine x_get C (8 + 2 * r) dX6_open_5 fl_X6_9 (CW_r K ad la rest σ r hr) rfl ?_
  refine x_icmp_lt C 13 dX6_open_8 (by decide) hF (fun hF => ?_) (fun hF => ?_)
  · refine x_aload_n C 0 0 dX6_open_13 rfl rfl ?_
    refine x_dup C rfl dX6_open_14 ?_
    refine x_get C (8 + 2 * r) dX6_open_15 fl_X6_22 (CW_r K ad la rest σ r hr) rfl ?_
    refine x_iconst C 1 dX6_open_18 (by decide +kernel) ?_
    refine x_iadd C dX6_open_19 ?_
    refine x_put C (8 + 2 * r) dX6_open_20 fl_X6_22 fm_X6_3 rfl rfl (CW_r K ad la rest σ r hr) (Nat.le_of_ble_eq_true rfl) (CW_rs K ad la rest σ _ r hr) ?_
    refine x_st (wf := CW K ad la rest) hF (fun σ1 hF => ?_)
    refine x_aload_n C 0 0 dX6_open_23 rfl rfl ?_
    refine x_get C (8 + 2 * r) dX6_open_24 fl_X6_22 (CW_r K ad la rest σ1 r hr) rfl ?_
    refine x_iconst C 1 dX6_open_27 (by decide +kernel) ?_
    refine x_isub C dX6_open_28 ?_
    exact x_iret C dX6_open_29 rfl (congrArg Prod.fst (Option.some.inj hF)) (congrArg (fun q9 : Int32 × xS => CW K ad la rest q9.2) (Option.some.inj hF))
  · refine x_iconst C (-1) dX6_open_11 (by decide +kernel) ?_
    exact x_iret C dX6_open_12 rfl (congrArg Prod.fst (Option.some.inj hF)) (congrArg (fun q9 : Int32 × xS => CW K ad la rest q9.2) (Option.some.inj hF))
theorem dX6_set_0 : decode cX6_set 0 = .ok (.aload_n 0, 1) := by decide +kernel
theorem dX6_set_1 : decode cX6_set 1 = .ok (.iload_n 1, 1) := by decide +kernel
theorem dX6_set_2 : decode cX6_set 2 = .ok (.invokevirtual 25, 3) := by decide +kernel
theorem dX6_set_5 : decode cX6_set 5 = .ok (.ifCond .eq 29, 3) := by decide +kernel
theorem dX6_set_8 : decode cX6_set 8 = .ok (.iload_n 2, 1) := by decide +kernel
theorem dX6_set_9 : decode cX6_set 9 = .ok (.ifCond .lt 25, 3) := by decide +kernel
theorem dX6_set_12 : decode cX6_set 12 = .ok (.iload_n 2, 1) := by decide +kernel
theorem dX6_set_13 : decode cX6_set 13 = .ok (.aload_n 0, 1) := by decide +kernel
theorem dX6_set_14 : decode cX6_set 14 = .ok (.getfield 15, 3) := by decide +kernel
theorem dX6_set_17 : decode cX6_set 17 = .ok (.if_icmp .ge 17, 3) := by decide +kernel
theorem dX6_set_20 : decode cX6_set 20 = .ok (.aload_n 0, 1) := by decide +kernel
theorem dX6_set_21 : decode cX6_set 21 = .ok (.getfield 18, 3) := by decide +kernel
theorem dX6_set_24 : decode cX6_set 24 = .ok (.iload_n 1, 1) := by decide +kernel
theorem dX6_set_25 : decode cX6_set 25 = .ok (.aload_n 0, 1) := by decide +kernel
theorem dX6_set_26 : decode cX6_set 26 = .ok (.getfield 15, 3) := by decide +kernel
theorem dX6_set_29 : decode cX6_set 29 = .ok (.imul, 1) := by decide +kernel
theorem dX6_set_30 : decode cX6_set 30 = .ok (.iload_n 2, 1) := by decide +kernel
theorem dX6_set_31 : decode cX6_set 31 = .ok (.iadd, 1) := by decide +kernel
theorem dX6_set_32 : decode cX6_set 32 = .ok (.iload_n 3, 1) := by decide +kernel
theorem dX6_set_33 : decode cX6_set 33 = .ok (.iastore, 1) := by decide +kernel
theorem dX6_set_34 : decode cX6_set 34 = .ok (.return_, 1) := by decide +kernel
set_option maxHeartbeats 4000000 in
set_option maxRecDepth 100000 in
theorem c_X6_set (l : Launch) (D : va_G) (K : Nat → ClassId) (ad la : Nat → Nat) (rest : va_W) (r : Nat) (hr : r < 15) (a1 : Int32) (a2 : Int32) (a3 : Int32) (σ : xS) (z : Unit × xS) (hF : F_X6_set r a1 a2 a3 σ = some z) : CV l D K yX6_set cX6_set 4 none 1 21 [.ref (ad (8 + 2 * r)), .int a1, .int a2, .int a3] (CW K ad la rest σ) (CW K ad la rest z.2) := by
  refine x_enterV [(0, .ref (ad (8 + 2 * r))), (1, .int a1), (2, .int a2), (3, .int a3)] pnX6 (Nat.le_of_ble_eq_true rfl) rfl ?_
  intro p e s m args below meth c A C
  unfold F_X6_set at hF
  refine x_aload_n C 0 0 dX6_set_0 rfl rfl ?_
  refine x_iload_n C 1 1 dX6_set_1 rfl rfl ?_
  refine x_callVI C (wf := CW K ad la rest) (As := [.int a1]) (rest := []) dX6_set_2 ml_X6_25 rfl rfl (Nat.le_of_ble_eq_true rfl) (8 + 2 * r) (CW_r K ad la rest σ r hr) rfl ⟨Nat.le_of_ble_eq_true rfl, Nat.le_of_ble_eq_true rfl⟩ ⟨Nat.zero_le _, Nat.zero_le _⟩ (fun q9 hq9 => c_X6_has l D K ad la rest r hr a1 σ q9 hq9) hF (fun v2 σ1 hF => ?_)
  refine x_if_eq C 34 dX6_set_5 (by decide) hF (fun hF => ?_) (fun hF => ?_)
  · exact x_vret C dX6_set_34 rfl (congrArg (fun q9 : Unit × xS => CW K ad la rest q9.2) (Option.some.inj hF))
  · refine x_iload_n C 2 2 dX6_set_8 rfl rfl ?_
    refine x_if_lt C 34 dX6_set_9 (by decide) hF (fun hF => ?_) (fun hF => ?_)
    · exact x_vret C dX6_set_34 rfl (congrArg (fun q9 : Unit × xS => CW K ad la rest q9.2) (Option.some.inj hF))
    · refine x_iload_n C 2 2 dX6_set_12 rfl rfl ?_
      refine x_aload_n C 0 0 dX6_set_13 rfl rfl ?_
      refine x_get C (8 + 2 * r) dX6_set_14 fl_X6_15 (CW_r K ad la rest σ1 r hr) rfl ?_
      refine x_icmp_ge C 34 dX6_set_17 (by decide) hF (fun hF => ?_) (fun hF => ?_)
      · exact x_vret C dX6_set_34 rfl (congrArg (fun q9 : Unit × xS => CW K ad la rest q9.2) (Option.some.inj hF))
      · refine x_aload_n C 0 0 dX6_set_20 rfl rfl ?_
        refine x_get C (8 + 2 * r) dX6_set_21 fl_X6_18 (CW_r K ad la rest σ1 r hr) rfl ?_
        refine x_iload_n C 1 1 dX6_set_24 rfl rfl ?_
        refine x_aload_n C 0 0 dX6_set_25 rfl rfl ?_
        refine x_get C (8 + 2 * r) dX6_set_26 fl_X6_15 (CW_r K ad la rest σ1 r hr) rfl ?_
        refine x_imul C dX6_set_29 ?_
        refine x_iload_n C 2 2 dX6_set_30 rfl rfl ?_
        refine x_iadd C dX6_set_31 ?_
        refine x_iload_n C 3 3 dX6_set_32 rfl rfl ?_
        refine x_iast C (9 + 2 * r) dX6_set_33 (CW_rc K ad la rest σ1 r hr) hF (CW_rcs K ad la rest σ1 _ r hr) (fun hF => ?_)
        refine x_st (wf := CW K ad la rest) hF (fun σ3 hF => ?_)
        exact x_vret C dX6_set_34 rfl (congrArg (fun q9 : Unit × xS => CW K ad la rest q9.2) (Option.some.inj hF))
theorem dX6_remove_0 : decode cX6_remove 0 = .ok (.aload_n 0, 1) := by decide +kernel
theorem dX6_remove_1 : decode cX6_remove 1 = .ok (.iload_n 1, 1) := by decide +kernel
theorem dX6_remove_2 : decode cX6_remove 2 = .ok (.invokevirtual 25, 3) := by decide +kernel
theorem dX6_remove_5 : decode cX6_remove 5 = .ok (.ifCond .eq 51, 3) := by decide +kernel
theorem dX6_remove_8 : decode cX6_remove 8 = .ok (.aload_n 0, 1) := by decide +kernel
theorem dX6_remove_9 : decode cX6_remove 9 = .ok (.getfield 18, 3) := by decide +kernel
theorem dX6_remove_12 : decode cX6_remove 12 = .ok (.iload_n 1, 1) := by decide +kernel
theorem dX6_remove_13 : decode cX6_remove 13 = .ok (.iconst 1, 1) := by decide +kernel
theorem dX6_remove_14 : decode cX6_remove 14 = .ok (.iadd, 1) := by decide +kernel
theorem dX6_remove_15 : decode cX6_remove 15 = .ok (.aload_n 0, 1) := by decide +kernel
theorem dX6_remove_16 : decode cX6_remove 16 = .ok (.getfield 15, 3) := by decide +kernel
theorem dX6_remove_19 : decode cX6_remove 19 = .ok (.imul, 1) := by decide +kernel
theorem dX6_remove_20 : decode cX6_remove 20 = .ok (.aload_n 0, 1) := by decide +kernel
theorem dX6_remove_21 : decode cX6_remove 21 = .ok (.getfield 18, 3) := by decide +kernel
theorem dX6_remove_24 : decode cX6_remove 24 = .ok (.iload_n 1, 1) := by decide +kernel
theorem dX6_remove_25 : decode cX6_remove 25 = .ok (.aload_n 0, 1) := by decide +kernel
theorem dX6_remove_26 : decode cX6_remove 26 = .ok (.getfield 15, 3) := by decide +kernel
theorem dX6_remove_29 : decode cX6_remove 29 = .ok (.imul, 1) := by decide +kernel
theorem dX6_remove_30 : decode cX6_remove 30 = .ok (.aload_n 0, 1) := by decide +kernel
theorem dX6_remove_31 : decode cX6_remove 31 = .ok (.getfield 22, 3) := by decide +kernel
theorem dX6_remove_34 : decode cX6_remove 34 = .ok (.iload_n 1, 1) := by decide +kernel
theorem dX6_remove_35 : decode cX6_remove 35 = .ok (.isub, 1) := by decide +kernel
theorem dX6_remove_36 : decode cX6_remove 36 = .ok (.iconst 1, 1) := by decide +kernel
theorem dX6_remove_37 : decode cX6_remove 37 = .ok (.isub, 1) := by decide +kernel
theorem dX6_remove_38 : decode cX6_remove 38 = .ok (.aload_n 0, 1) := by decide +kernel
theorem dX6_remove_39 : decode cX6_remove 39 = .ok (.getfield 15, 3) := by decide +kernel
theorem dX6_remove_42 : decode cX6_remove 42 = .ok (.imul, 1) := by decide +kernel
theorem dX6_remove_43 : decode cX6_remove 43 = .ok (.invokestatic 29, 3) := by decide +kernel
theorem dX6_remove_46 : decode cX6_remove 46 = .ok (.aload_n 0, 1) := by decide +kernel
theorem dX6_remove_47 : decode cX6_remove 47 = .ok (.dup, 1) := by decide +kernel
theorem dX6_remove_48 : decode cX6_remove 48 = .ok (.getfield 22, 3) := by decide +kernel
theorem dX6_remove_51 : decode cX6_remove 51 = .ok (.iconst 1, 1) := by decide +kernel
theorem dX6_remove_52 : decode cX6_remove 52 = .ok (.isub, 1) := by decide +kernel
theorem dX6_remove_53 : decode cX6_remove 53 = .ok (.putfield 22, 3) := by decide +kernel
theorem dX6_remove_56 : decode cX6_remove 56 = .ok (.return_, 1) := by decide +kernel
set_option maxHeartbeats 4000000 in
set_option maxRecDepth 100000 in
theorem c_X6_remove (l : Launch) (D : va_G) (K : Nat → ClassId) (ad la : Nat → Nat) (rest : va_W) (r : Nat) (hr : r < 15) (a1 : Int32) (σ : xS) (z : Unit × xS) (hF : F_X6_remove r a1 σ = some z) : CV l D K yX6_remove cX6_remove 2 none 1 30 [.ref (ad (8 + 2 * r)), .int a1] (CW K ad la rest σ) (CW K ad la rest z.2) := by
  refine x_enterV [(0, .ref (ad (8 + 2 * r))), (1, .int a1)] pnX6 (Nat.le_of_ble_eq_true rfl) rfl ?_
  intro p e s m args below meth c A C
  unfold F_X6_remove at hF
  refine x_aload_n C 0 0 dX6_remove_0 rfl rfl ?_
  refine x_iload_n C 1 1 dX6_remove_1 rfl rfl ?_
  refine x_callVI C (wf := CW K ad la rest) (As := [.int a1]) (rest := []) dX6_remove_2 ml_X6_25 rfl rfl (Nat.le_of_ble_eq_true rfl) (8 + 2 * r) (CW_r K ad la rest σ r hr) rfl ⟨Nat.le_of_ble_eq_true rfl, Nat.le_of_ble_eq_true rfl⟩ ⟨Nat.zero_le _, Nat.zero_le _⟩ (fun q9 hq9 => c_X6_has l D K ad la rest r hr a1 σ q9 hq9) hF (fun v2 σ1 hF => ?_)
  refine x_if_eq C 56 dX6_remove_5 (by decide) hF (fun hF => ?_) (fun hF => ?_)
  · exact x_vret C dX6_remove_56 rfl (congrArg (fun q9 : Unit × xS => CW K ad la rest q9.2) (Option.some.inj hF))
  · refine x_aload_n C 0 0 dX6_remove_8 rfl rfl ?_
    refine x_get C (8 + 2 * r) dX6_remove_9 fl_X6_18 (CW_r K ad la rest σ1 r hr) rfl ?_
    refine x_iload_n C 1 1 dX6_remove_12 rfl rfl ?_
    refine x_iconst C 1 dX6_remove_13 (by decide +kernel) ?_
    refine x_iadd C dX6_remove_14 ?_
    refine x_aload_n C 0 0 dX6_remove_15 rfl rfl ?_
    refine x_get C (8 + 2 * r) dX6_remove_16 fl_X6_15 (CW_r K ad la rest σ1 r hr) rfl ?_
    refine x_imul C dX6_remove_19 ?_
    refine x_aload_n C 0 0 dX6_remove_20 rfl rfl ?_
    refine x_get C (8 + 2 * r) dX6_remove_21 fl_X6_18 (CW_r K ad la rest σ1 r hr) rfl ?_
    refine x_iload_n C 1 1 dX6_remove_24 rfl rfl ?_
    refine x_aload_n C 0 0 dX6_remove_25 rfl rfl ?_
    refine x_get C (8 + 2 * r) dX6_remove_26 fl_X6_15 (CW_r K ad la rest σ1 r hr) rfl ?_
    refine x_imul C dX6_remove_29 ?_
    refine x_aload_n C 0 0 dX6_remove_30 rfl rfl ?_
    refine x_get C (8 + 2 * r) dX6_remove_31 fl_X6_22 (CW_r K ad la rest σ1 r hr) rfl ?_
    refine x_iload_n C 1 1 dX6_remove_34 rfl rfl ?_
    refine x_isub C dX6_remove_35 ?_
    refine x_iconst C 1 dX6_remove_36 (by decide +kernel) ?_
    refine x_isub C dX6_remove_37 ?_
    refine x_aload_n C 0 0 dX6_remove_38 rfl rfl ?_
    refine x_get C (8 + 2 * r) dX6_remove_39 fl_X6_15 (CW_r K ad la rest σ1 r hr) rfl ?_
    refine x_imul C dX6_remove_42 ?_
    refine x_copyi C (9 + 2 * r) (9 + 2 * r) dX6_remove_43 wl_X6_29 jCopy ⟨Nat.le_of_ble_eq_true rfl, Nat.le_of_ble_eq_true rfl⟩ (CW_rc K ad la rest σ1 r hr) (CW_rc K ad la rest σ1 r hr) hF (CW_rcs K ad la rest σ1 _ r hr) (fun hF => ?_)
    refine x_st (wf := CW K ad la rest) hF (fun σ3 hF => ?_)
    refine x_aload_n C 0 0 dX6_remove_46 rfl rfl ?_
    refine x_dup C rfl dX6_remove_47 ?_
    refine x_get C (8 + 2 * r) dX6_remove_48 fl_X6_22 (CW_r K ad la rest σ3 r hr) rfl ?_
    refine x_iconst C 1 dX6_remove_51 (by decide +kernel) ?_
    refine x_isub C dX6_remove_52 ?_
    refine x_put C (8 + 2 * r) dX6_remove_53 fl_X6_22 fm_X6_3 rfl rfl (CW_r K ad la rest σ3 r hr) (Nat.le_of_ble_eq_true rfl) (CW_rs K ad la rest σ3 _ r hr) ?_
    refine x_st (wf := CW K ad la rest) hF (fun σ4 hF => ?_)
    exact x_vret C dX6_remove_56 rfl (congrArg (fun q9 : Unit × xS => CW K ad la rest q9.2) (Option.some.inj hF))
theorem dX6_becomeAs_0 : decode cX6_becomeAs 0 = .ok (.aload_n 1, 1) := by decide +kernel
theorem dX6_becomeAs_1 : decode cX6_becomeAs 1 = .ok (.getfield 18, 3) := by decide +kernel
theorem dX6_becomeAs_4 : decode cX6_becomeAs 4 = .ok (.iconst 0, 1) := by decide +kernel
theorem dX6_becomeAs_5 : decode cX6_becomeAs 5 = .ok (.aload_n 0, 1) := by decide +kernel
theorem dX6_becomeAs_6 : decode cX6_becomeAs 6 = .ok (.getfield 18, 3) := by decide +kernel
theorem dX6_becomeAs_9 : decode cX6_becomeAs 9 = .ok (.iconst 0, 1) := by decide +kernel
theorem dX6_becomeAs_10 : decode cX6_becomeAs 10 = .ok (.aload_n 0, 1) := by decide +kernel
theorem dX6_becomeAs_11 : decode cX6_becomeAs 11 = .ok (.getfield 18, 3) := by decide +kernel
theorem dX6_becomeAs_14 : decode cX6_becomeAs 14 = .ok (.arraylength, 1) := by decide +kernel
theorem dX6_becomeAs_15 : decode cX6_becomeAs 15 = .ok (.aload_n 1, 1) := by decide +kernel
theorem dX6_becomeAs_16 : decode cX6_becomeAs 16 = .ok (.getfield 18, 3) := by decide +kernel
theorem dX6_becomeAs_19 : decode cX6_becomeAs 19 = .ok (.arraylength, 1) := by decide +kernel
theorem dX6_becomeAs_20 : decode cX6_becomeAs 20 = .ok (.invokestatic 35, 3) := by decide +kernel
theorem dX6_becomeAs_23 : decode cX6_becomeAs 23 = .ok (.invokestatic 29, 3) := by decide +kernel
theorem dX6_becomeAs_26 : decode cX6_becomeAs 26 = .ok (.aload_n 0, 1) := by decide +kernel
theorem dX6_becomeAs_27 : decode cX6_becomeAs 27 = .ok (.aload_n 1, 1) := by decide +kernel
theorem dX6_becomeAs_28 : decode cX6_becomeAs 28 = .ok (.getfield 22, 3) := by decide +kernel
theorem dX6_becomeAs_31 : decode cX6_becomeAs 31 = .ok (.putfield 22, 3) := by decide +kernel
theorem dX6_becomeAs_34 : decode cX6_becomeAs 34 = .ok (.return_, 1) := by decide +kernel
set_option maxHeartbeats 4000000 in
set_option maxRecDepth 100000 in
theorem c_X6_becomeAs (l : Launch) (D : va_G) (K : Nat → ClassId) (ad la : Nat → Nat) (rest : va_W) (r : Nat) (hr : r < 15) (r1 : Nat) (hr1 : r1 < 15)  (σ : xS) (z : Unit × xS) (hF : F_X6_becomeAs r r1 σ = some z) : CV l D K yX6_becomeAs cX6_becomeAs 2 none 1 30 [.ref (ad (8 + 2 * r)), .ref (ad (8 + 2 * r1))] (CW K ad la rest σ) (CW K ad la rest z.2) := by
  refine x_enterV [(0, .ref (ad (8 + 2 * r))), (1, .ref (ad (8 + 2 * r1)))] pnX6 (Nat.le_of_ble_eq_true rfl) rfl ?_
  intro p e s m args below meth c A C
  unfold F_X6_becomeAs at hF
  refine x_aload_n C 1 1 dX6_becomeAs_0 rfl rfl ?_
  refine x_get C (8 + 2 * r1) dX6_becomeAs_1 fl_X6_18 (CW_r K ad la rest σ r1 hr1) rfl ?_
  refine x_iconst C 0 dX6_becomeAs_4 (by decide +kernel) ?_
  refine x_aload_n C 0 0 dX6_becomeAs_5 rfl rfl ?_
  refine x_get C (8 + 2 * r) dX6_becomeAs_6 fl_X6_18 (CW_r K ad la rest σ r hr) rfl ?_
  refine x_iconst C 0 dX6_becomeAs_9 (by decide +kernel) ?_
  refine x_aload_n C 0 0 dX6_becomeAs_10 rfl rfl ?_
  refine x_get C (8 + 2 * r) dX6_becomeAs_11 fl_X6_18 (CW_r K ad la rest σ r hr) rfl ?_
  refine x_alen C (t0 := 0) (Int32.ofNat (lenR r)) (9 + 2 * r) dX6_becomeAs_14 (CW_rc K ad la rest σ r hr) rfl rfl ?_
  refine x_aload_n C 1 1 dX6_becomeAs_15 rfl rfl ?_
  refine x_get C (8 + 2 * r1) dX6_becomeAs_16 fl_X6_18 (CW_r K ad la rest σ r1 hr1) rfl ?_
  refine x_alen C (t0 := 0) (Int32.ofNat (lenR r1)) (9 + 2 * r1) dX6_becomeAs_19 (CW_rc K ad la rest σ r1 hr1) rfl rfl ?_
  refine x_mmin C dX6_becomeAs_20 wl_X6_35 jMinI ⟨Nat.le_of_ble_eq_true rfl, Nat.le_of_ble_eq_true rfl⟩ ⟨Nat.zero_le _, Nat.zero_le _⟩ ?_
  refine x_copyi C (9 + 2 * r1) (9 + 2 * r) dX6_becomeAs_23 wl_X6_29 jCopy ⟨Nat.le_of_ble_eq_true rfl, Nat.le_of_ble_eq_true rfl⟩ (CW_rc K ad la rest σ r1 hr1) (CW_rc K ad la rest σ r hr) hF (CW_rcs K ad la rest σ _ r hr) (fun hF => ?_)
  refine x_st (wf := CW K ad la rest) hF (fun σ1 hF => ?_)
  refine x_aload_n C 0 0 dX6_becomeAs_26 rfl rfl ?_
  refine x_aload_n C 1 1 dX6_becomeAs_27 rfl rfl ?_
  refine x_get C (8 + 2 * r1) dX6_becomeAs_28 fl_X6_22 (CW_r K ad la rest σ1 r1 hr1) rfl ?_
  refine x_put C (8 + 2 * r) dX6_becomeAs_31 fl_X6_22 fm_X6_3 rfl rfl (CW_r K ad la rest σ1 r hr) (Nat.le_of_ble_eq_true rfl) (CW_rs K ad la rest σ1 _ r hr) ?_
  refine x_st (wf := CW K ad la rest) hF (fun σ2 hF => ?_)
  exact x_vret C dX6_becomeAs_34 rfl (congrArg (fun q9 : Unit × xS => CW K ad la rest q9.2) (Option.some.inj hF))
theorem dX7_becomeAs_0 : decode cX7_becomeAs 0 = .ok (.aload_n 0, 1) := by decide +kernel
theorem dX7_becomeAs_1 : decode cX7_becomeAs 1 = .ok (.getfield 14, 3) := by decide +kernel
theorem dX7_becomeAs_4 : decode cX7_becomeAs 4 = .ok (.aload_n 1, 1) := by decide +kernel
theorem dX7_becomeAs_5 : decode cX7_becomeAs 5 = .ok (.getfield 14, 3) := by decide +kernel
theorem dX7_becomeAs_8 : decode cX7_becomeAs 8 = .ok (.invokevirtual 49, 3) := by decide +kernel
theorem dX7_becomeAs_11 : decode cX7_becomeAs 11 = .ok (.aload_n 0, 1) := by decide +kernel
theorem dX7_becomeAs_12 : decode cX7_becomeAs 12 = .ok (.getfield 20, 3) := by decide +kernel
theorem dX7_becomeAs_15 : decode cX7_becomeAs 15 = .ok (.aload_n 1, 1) := by decide +kernel
theorem dX7_becomeAs_16 : decode cX7_becomeAs 16 = .ok (.getfield 20, 3) := by decide +kernel
theorem dX7_becomeAs_19 : decode cX7_becomeAs 19 = .ok (.invokevirtual 49, 3) := by decide +kernel
theorem dX7_becomeAs_22 : decode cX7_becomeAs 22 = .ok (.aload_n 0, 1) := by decide +kernel
theorem dX7_becomeAs_23 : decode cX7_becomeAs 23 = .ok (.getfield 23, 3) := by decide +kernel
theorem dX7_becomeAs_26 : decode cX7_becomeAs 26 = .ok (.aload_n 1, 1) := by decide +kernel
theorem dX7_becomeAs_27 : decode cX7_becomeAs 27 = .ok (.getfield 23, 3) := by decide +kernel
theorem dX7_becomeAs_30 : decode cX7_becomeAs 30 = .ok (.invokevirtual 49, 3) := by decide +kernel
theorem dX7_becomeAs_33 : decode cX7_becomeAs 33 = .ok (.aload_n 0, 1) := by decide +kernel
theorem dX7_becomeAs_34 : decode cX7_becomeAs 34 = .ok (.getfield 26, 3) := by decide +kernel
theorem dX7_becomeAs_37 : decode cX7_becomeAs 37 = .ok (.aload_n 1, 1) := by decide +kernel
theorem dX7_becomeAs_38 : decode cX7_becomeAs 38 = .ok (.getfield 26, 3) := by decide +kernel
theorem dX7_becomeAs_41 : decode cX7_becomeAs 41 = .ok (.invokevirtual 49, 3) := by decide +kernel
theorem dX7_becomeAs_44 : decode cX7_becomeAs 44 = .ok (.aload_n 0, 1) := by decide +kernel
theorem dX7_becomeAs_45 : decode cX7_becomeAs 45 = .ok (.getfield 29, 3) := by decide +kernel
theorem dX7_becomeAs_48 : decode cX7_becomeAs 48 = .ok (.aload_n 1, 1) := by decide +kernel
theorem dX7_becomeAs_49 : decode cX7_becomeAs 49 = .ok (.getfield 29, 3) := by decide +kernel
theorem dX7_becomeAs_52 : decode cX7_becomeAs 52 = .ok (.invokevirtual 49, 3) := by decide +kernel
theorem dX7_becomeAs_55 : decode cX7_becomeAs 55 = .ok (.aload_n 1, 1) := by decide +kernel
theorem dX7_becomeAs_56 : decode cX7_becomeAs 56 = .ok (.getfield 32, 3) := by decide +kernel
theorem dX7_becomeAs_59 : decode cX7_becomeAs 59 = .ok (.iconst 0, 1) := by decide +kernel
theorem dX7_becomeAs_60 : decode cX7_becomeAs 60 = .ok (.aload_n 0, 1) := by decide +kernel
theorem dX7_becomeAs_61 : decode cX7_becomeAs 61 = .ok (.getfield 32, 3) := by decide +kernel
theorem dX7_becomeAs_64 : decode cX7_becomeAs 64 = .ok (.iconst 0, 1) := by decide +kernel
theorem dX7_becomeAs_65 : decode cX7_becomeAs 65 = .ok (.bipush 6, 2) := by decide +kernel
theorem dX7_becomeAs_67 : decode cX7_becomeAs 67 = .ok (.invokestatic 53, 3) := by decide +kernel
theorem dX7_becomeAs_70 : decode cX7_becomeAs 70 = .ok (.iconst 0, 1) := by decide +kernel
theorem dX7_becomeAs_71 : decode cX7_becomeAs 71 = .ok (.istore_n 2, 1) := by decide +kernel
theorem dX7_becomeAs_72 : decode cX7_becomeAs 72 = .ok (.iload_n 2, 1) := by decide +kernel
theorem dX7_becomeAs_73 : decode cX7_becomeAs 73 = .ok (.bipush 6, 2) := by decide +kernel
theorem dX7_becomeAs_75 : decode cX7_becomeAs 75 = .ok (.if_icmp .ge 21, 3) := by decide +kernel
theorem dX7_becomeAs_78 : decode cX7_becomeAs 78 = .ok (.aload_n 0, 1) := by decide +kernel
theorem dX7_becomeAs_79 : decode cX7_becomeAs 79 = .ok (.getfield 38, 3) := by decide +kernel
theorem dX7_becomeAs_82 : decode cX7_becomeAs 82 = .ok (.iload_n 2, 1) := by decide +kernel
theorem dX7_becomeAs_83 : decode cX7_becomeAs 83 = .ok (.aload_n 1, 1) := by decide +kernel
theorem dX7_becomeAs_84 : decode cX7_becomeAs 84 = .ok (.getfield 38, 3) := by decide +kernel
theorem dX7_becomeAs_87 : decode cX7_becomeAs 87 = .ok (.iload_n 2, 1) := by decide +kernel
theorem dX7_becomeAs_88 : decode cX7_becomeAs 88 = .ok (.aaload, 1) := by decide +kernel
theorem dX7_becomeAs_89 : decode cX7_becomeAs 89 = .ok (.aastore, 1) := by decide +kernel
theorem dX7_becomeAs_90 : decode cX7_becomeAs 90 = .ok (.iinc 2 1, 3) := by decide +kernel
theorem dX7_becomeAs_93 : decode cX7_becomeAs 93 = .ok (.goto (-21), 3) := by decide +kernel
theorem dX7_becomeAs_96 : decode cX7_becomeAs 96 = .ok (.aload_n 0, 1) := by decide +kernel
theorem dX7_becomeAs_97 : decode cX7_becomeAs 97 = .ok (.aload_n 1, 1) := by decide +kernel
theorem dX7_becomeAs_98 : decode cX7_becomeAs 98 = .ok (.getfield 46, 3) := by decide +kernel
theorem dX7_becomeAs_101 : decode cX7_becomeAs 101 = .ok (.putfield 46, 3) := by decide +kernel
theorem dX7_becomeAs_104 : decode cX7_becomeAs 104 = .ok (.aload_n 0, 1) := by decide +kernel
theorem dX7_becomeAs_105 : decode cX7_becomeAs 105 = .ok (.aload_n 1, 1) := by decide +kernel
theorem dX7_becomeAs_106 : decode cX7_becomeAs 106 = .ok (.getfield 42, 3) := by decide +kernel
theorem dX7_becomeAs_109 : decode cX7_becomeAs 109 = .ok (.putfield 42, 3) := by decide +kernel
theorem dX7_becomeAs_112 : decode cX7_becomeAs 112 = .ok (.return_, 1) := by decide +kernel
set_option maxHeartbeats 4000000 in
set_option maxRecDepth 100000 in
theorem x_X7_becomeAs_72 {p : Program} {l : Launch} {e : Env} {s : State} {m : MethodId} {args : Array Value} {below : List Frame} {meth : Method} {c : Code} {D : va_G} {K : Nat → ClassId} {A : Nat → Prop} {ad la : Nat → Nat} {rest : va_W} (t : Nat) (ht : t < 3) (t1 : Nat) (ht1 : t1 < 3) (C : xC p s m args meth c D K A RX7 cX7_becomeAs 3 none) (z : Unit × xS) : ∀ (n : Nat) (y2 : Int32) (σ : xS), F_X7_becomeAs_72 t t1 n y2 σ = some z → X p l e (xR 2 51) s m args below meth c D A 3 (xQv below D K A args s (CW K ad la rest z.2)) 0 0 72 [(0, .ref (ad (5 + t))), (1, .ref (ad (5 + t1))), (2, .int y2)] [] (CW K ad la rest σ) := by
  intro n
  induction n with
  | zero =>
    intro y2 σ hF
    cases hF
  | succ n ih =>
    intro y2 σ hF
    rw [F_X7_becomeAs_72] at hF
    refine x_iload_n C 2 2 dX7_becomeAs_72 rfl rfl ?_
    refine x_bipush C 6 dX7_becomeAs_73 (by decide +kernel) ?_
    refine x_icmp_ge C 96 dX7_becomeAs_75 (by decide) hF (fun hF => ?_) (fun hF => ?_)
    · refine x_aload_n C 0 0 dX7_becomeAs_96 rfl rfl ?_
      refine x_aload_n C 1 1 dX7_becomeAs_97 rfl rfl ?_
      refine x_get C (5 + t1) dX7_becomeAs_98 fl_X7_46 (CW_t K ad la rest σ t1 ht1) rfl ?_
      refine x_put C (5 + t) dX7_becomeAs_101 fl_X7_46 fm_X7_7 rfl rfl (CW_t K ad la rest σ t ht) (Nat.le_of_ble_eq_true rfl) (CW_ts7 K ad la rest σ _ t ht) ?_
      refine x_st (wf := CW K ad la rest) hF (fun σ8 hF => ?_)
      refine x_aload_n C 0 0 dX7_becomeAs_104 rfl rfl ?_
      refine x_aload_n C 1 1 dX7_becomeAs_105 rfl rfl ?_
      refine x_get C (5 + t1) dX7_becomeAs_106 fl_X7_42 (CW_t K ad la rest σ8 t1 ht1) rfl ?_
      refine x_put C (5 + t) dX7_becomeAs_109 fl_X7_42 fm_X7_8 rfl rfl (CW_t K ad la rest σ8 t ht) (Nat.le_of_ble_eq_true rfl) (CW_ts8 K ad la rest σ8 _ t ht) ?_
      refine x_st (wf := CW K ad la rest) hF (fun σ9 hF => ?_)
      exact x_vret C dX7_becomeAs_112 rfl (congrArg (fun q9 : Unit × xS => CW K ad la rest q9.2) (Option.some.inj hF))
    · refine x_aload_n C 0 0 dX7_becomeAs_78 rfl rfl ?_
      refine x_get C (5 + t) dX7_becomeAs_79 fl_X7_38 (CW_t K ad la rest σ t ht) rfl ?_
      refine x_iload_n C 2 2 dX7_becomeAs_82 rfl rfl ?_
      refine x_aload_n C 1 1 dX7_becomeAs_83 rfl rfl ?_
      refine x_get C (5 + t1) dX7_becomeAs_84 fl_X7_38 (CW_t K ad la rest σ t1 ht1) rfl ?_
      refine x_iload_n C 2 2 dX7_becomeAs_87 rfl rfl ?_
      refine x_aald C (t0 := 3) (41 + t1) dX7_becomeAs_88 (CW_tl K ad la rest σ t1 ht1) rfl rfl hF (fun hF hj10 => ?_)
      refine x_if_cast (st2 := va_rf ((sQ σ (41 + t1) y2.toNatClampNeg).map (fun i => la (4 * i))) :: [.int y2, .ref (ad (41 + t))]) rfl ?_
      generalize sQ σ (41 + t1) y2.toNatClampNeg = o11 at hF ⊢
      cases o11 with
      | none =>
        rw [mo_none] at hF
        refine x_if_cast (st2 := .null :: [.int y2, .ref (ad (41 + t))]) rfl ?_
        refine x_astqN C (t0 := 3) (gh := fun i => la (4 * i)) (41 + t) dX7_becomeAs_89 (CW_tl K ad la rest σ t ht) rfl hF (CW_tls K ad la rest σ _ t ht) (fun hF => ?_)
        refine x_st (wf := CW K ad la rest) hF (fun σ13 hF => ?_)
        refine x_iincN C 1 2 (fun x14 => [(2, .int x14), (0, .ref (ad (5 + t))), (1, .ref (ad (5 + t1)))]) dX7_becomeAs_90 rfl (by decide +kernel) (by decide) (fun _ => rfl) hF (fun x14 hF => ?_)
        refine x_goto C 72 dX7_becomeAs_93 (by decide) ?_
        refine x_loc [(0, .ref (ad (5 + t))), (1, .ref (ad (5 + t1))), (2, .int x14)] [1, 2, 0] rfl ?_
        exact ih x14 σ13 hF
      | some i12 =>
        rw [mo_some] at hF
        refine x_if_cast (st2 := .ref (la (4 * i12)) :: [.int y2, .ref (ad (41 + t))]) rfl ?_
        obtain ⟨p16, hp16, hF⟩ := lw_some hF
        refine x_astq C (b := 0) (t0 := 3) (gh := fun i => la (4 * i)) (41 + t) ((rest.length + (4 * i12 + 0)) + 102) dX7_becomeAs_89 (CW_tl K ad la rest σ t ht) rfl (CW_law0 K ad la rest σ hp16) rfl hF (CW_tls K ad la rest σ _ t ht) (fun hF => ?_)
        refine x_st (wf := CW K ad la rest) hF (fun σ15 hF => ?_)
        refine x_iincN C 1 2 (fun x17 => [(2, .int x17), (0, .ref (ad (5 + t))), (1, .ref (ad (5 + t1)))]) dX7_becomeAs_90 rfl (by decide +kernel) (by decide) (fun _ => rfl) hF (fun x17 hF => ?_)
        refine x_goto C 72 dX7_becomeAs_93 (by decide) ?_
        refine x_loc [(0, .ref (ad (5 + t))), (1, .ref (ad (5 + t1))), (2, .int x17)] [1, 2, 0] rfl ?_
        exact ih x17 σ15 hF
set_option maxHeartbeats 4000000 in
set_option maxRecDepth 100000 in
theorem c_X7_becomeAs (l : Launch) (D : va_G) (K : Nat → ClassId) (ad la : Nat → Nat) (rest : va_W) (t : Nat) (ht : t < 3) (t1 : Nat) (ht1 : t1 < 3)  (σ : xS) (z : Unit × xS) (hF : F_X7_becomeAs t t1 σ = some z) : CV l D K yX7_becomeAs cX7_becomeAs 3 none 2 51 [.ref (ad (5 + t)), .ref (ad (5 + t1))] (CW K ad la rest σ) (CW K ad la rest z.2) := by
  refine x_enterV [(0, .ref (ad (5 + t))), (1, .ref (ad (5 + t1)))] pnX7 (Nat.le_of_ble_eq_true rfl) rfl ?_
  intro p e s m args below meth c A C
  unfold F_X7_becomeAs at hF
  refine x_aload_n C 0 0 dX7_becomeAs_0 rfl rfl ?_
  refine x_get C (5 + t) dX7_becomeAs_1 fl_X7_14 (CW_t K ad la rest σ t ht) rfl ?_
  refine x_aload_n C 1 1 dX7_becomeAs_4 rfl rfl ?_
  refine x_get C (5 + t1) dX7_becomeAs_5 fl_X7_14 (CW_t K ad la rest σ t1 ht1) rfl ?_
  refine x_callVV C (wf := CW K ad la rest) (As := [.ref (ad (8 + 2 * (5 * t1)))]) (rest := []) dX7_becomeAs_8 ml_X7_49 rfl rfl (Nat.le_of_ble_eq_true rfl) (8 + 2 * (5 * t)) (CW_r K ad la rest σ (5 * t) (by omega)) rfl ⟨Nat.le_of_ble_eq_true rfl, Nat.le_of_ble_eq_true rfl⟩ ⟨Nat.zero_le _, Nat.zero_le _⟩ (fun q9 hq9 => c_X6_becomeAs l D K ad la rest (5 * t) (by omega) (5 * t1) (by omega) σ q9 hq9) hF (fun _ σ1 hF => ?_)
  refine x_aload_n C 0 0 dX7_becomeAs_11 rfl rfl ?_
  refine x_get C (5 + t) dX7_becomeAs_12 fl_X7_20 (CW_t K ad la rest σ1 t ht) rfl ?_
  refine x_aload_n C 1 1 dX7_becomeAs_15 rfl rfl ?_
  refine x_get C (5 + t1) dX7_becomeAs_16 fl_X7_20 (CW_t K ad la rest σ1 t1 ht1) rfl ?_
  refine x_callVV C (wf := CW K ad la rest) (As := [.ref (ad (8 + 2 * (5 * t1 + 1)))]) (rest := []) dX7_becomeAs_19 ml_X7_49 rfl rfl (Nat.le_of_ble_eq_true rfl) (8 + 2 * (5 * t + 1)) (CW_r K ad la rest σ1 (5 * t + 1) (by omega)) rfl ⟨Nat.le_of_ble_eq_true rfl, Nat.le_of_ble_eq_true rfl⟩ ⟨Nat.zero_le _, Nat.zero_le _⟩ (fun q9 hq9 => c_X6_becomeAs l D K ad la rest (5 * t + 1) (by omega) (5 * t1 + 1) (by omega) σ1 q9 hq9) hF (fun _ σ2 hF => ?_)
  refine x_aload_n C 0 0 dX7_becomeAs_22 rfl rfl ?_
  refine x_get C (5 + t) dX7_becomeAs_23 fl_X7_23 (CW_t K ad la rest σ2 t ht) rfl ?_
  refine x_aload_n C 1 1 dX7_becomeAs_26 rfl rfl ?_
  refine x_get C (5 + t1) dX7_becomeAs_27 fl_X7_23 (CW_t K ad la rest σ2 t1 ht1) rfl ?_
  refine x_callVV C (wf := CW K ad la rest) (As := [.ref (ad (8 + 2 * (5 * t1 + 2)))]) (rest := []) dX7_becomeAs_30 ml_X7_49 rfl rfl (Nat.le_of_ble_eq_true rfl) (8 + 2 * (5 * t + 2)) (CW_r K ad la rest σ2 (5 * t + 2) (by omega)) rfl ⟨Nat.le_of_ble_eq_true rfl, Nat.le_of_ble_eq_true rfl⟩ ⟨Nat.zero_le _, Nat.zero_le _⟩ (fun q9 hq9 => c_X6_becomeAs l D K ad la rest (5 * t + 2) (by omega) (5 * t1 + 2) (by omega) σ2 q9 hq9) hF (fun _ σ3 hF => ?_)
  refine x_aload_n C 0 0 dX7_becomeAs_33 rfl rfl ?_
  refine x_get C (5 + t) dX7_becomeAs_34 fl_X7_26 (CW_t K ad la rest σ3 t ht) rfl ?_
  refine x_aload_n C 1 1 dX7_becomeAs_37 rfl rfl ?_
  refine x_get C (5 + t1) dX7_becomeAs_38 fl_X7_26 (CW_t K ad la rest σ3 t1 ht1) rfl ?_
  refine x_callVV C (wf := CW K ad la rest) (As := [.ref (ad (8 + 2 * (5 * t1 + 3)))]) (rest := []) dX7_becomeAs_41 ml_X7_49 rfl rfl (Nat.le_of_ble_eq_true rfl) (8 + 2 * (5 * t + 3)) (CW_r K ad la rest σ3 (5 * t + 3) (by omega)) rfl ⟨Nat.le_of_ble_eq_true rfl, Nat.le_of_ble_eq_true rfl⟩ ⟨Nat.zero_le _, Nat.zero_le _⟩ (fun q9 hq9 => c_X6_becomeAs l D K ad la rest (5 * t + 3) (by omega) (5 * t1 + 3) (by omega) σ3 q9 hq9) hF (fun _ σ4 hF => ?_)
  refine x_aload_n C 0 0 dX7_becomeAs_44 rfl rfl ?_
  refine x_get C (5 + t) dX7_becomeAs_45 fl_X7_29 (CW_t K ad la rest σ4 t ht) rfl ?_
  refine x_aload_n C 1 1 dX7_becomeAs_48 rfl rfl ?_
  refine x_get C (5 + t1) dX7_becomeAs_49 fl_X7_29 (CW_t K ad la rest σ4 t1 ht1) rfl ?_
  refine x_callVV C (wf := CW K ad la rest) (As := [.ref (ad (8 + 2 * (5 * t1 + 4)))]) (rest := []) dX7_becomeAs_52 ml_X7_49 rfl rfl (Nat.le_of_ble_eq_true rfl) (8 + 2 * (5 * t + 4)) (CW_r K ad la rest σ4 (5 * t + 4) (by omega)) rfl ⟨Nat.le_of_ble_eq_true rfl, Nat.le_of_ble_eq_true rfl⟩ ⟨Nat.zero_le _, Nat.zero_le _⟩ (fun q9 hq9 => c_X6_becomeAs l D K ad la rest (5 * t + 4) (by omega) (5 * t1 + 4) (by omega) σ4 q9 hq9) hF (fun _ σ5 hF => ?_)
  refine x_aload_n C 1 1 dX7_becomeAs_55 rfl rfl ?_
  refine x_get C (5 + t1) dX7_becomeAs_56 fl_X7_32 (CW_t K ad la rest σ5 t1 ht1) rfl ?_
  refine x_iconst C 0 dX7_becomeAs_59 (by decide +kernel) ?_
  refine x_aload_n C 0 0 dX7_becomeAs_60 rfl rfl ?_
  refine x_get C (5 + t) dX7_becomeAs_61 fl_X7_32 (CW_t K ad la rest σ5 t ht) rfl ?_
  refine x_iconst C 0 dX7_becomeAs_64 (by decide +kernel) ?_
  refine x_bipush C 6 dX7_becomeAs_65 (by decide +kernel) ?_
  refine x_copyi C (38 + t1) (38 + t) dX7_becomeAs_67 wl_X7_53 jCopy ⟨Nat.le_of_ble_eq_true rfl, Nat.le_of_ble_eq_true rfl⟩ (CW_tt K ad la rest σ5 t1 ht1) (CW_tt K ad la rest σ5 t ht) hF (CW_tts K ad la rest σ5 _ t ht) (fun hF => ?_)
  refine x_st (wf := CW K ad la rest) hF (fun σ6 hF => ?_)
  refine x_iconst C 0 dX7_becomeAs_70 (by decide +kernel) ?_
  refine x_topI hF (fun x7 hF => ?_)
  refine x_istore_n C [(2, .int x7), (0, .ref (ad (5 + t))), (1, .ref (ad (5 + t1)))] dX7_becomeAs_71 rfl (by decide) rfl ?_
  refine x_loc [(0, .ref (ad (5 + t))), (1, .ref (ad (5 + t1))), (2, .int x7)] [1, 2, 0] rfl ?_
  exact x_X7_becomeAs_72 t ht t1 ht1 C z FU x7 σ6 hF
