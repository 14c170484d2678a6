theorem dX12_in_0 : decode cX12_in 0 = .ok (.lload_n 0, 1) := by decide +kernel
theorem dX12_in_1 : decode cX12_in 1 = .ok (.lload_n 2, 1) := by decide +kernel
theorem dX12_in_2 : decode cX12_in 2 = .ok (.lcmp, 1) := by decide +kernel
theorem dX12_in_3 : decode cX12_in 3 = .ok (.ifCond .lt 14, 3) := by decide +kernel
theorem dX12_in_6 : decode cX12_in 6 = .ok (.lload_n 0, 1) := by decide +kernel
theorem dX12_in_7 : decode cX12_in 7 = .ok (.lload 4, 2) := by decide +kernel
theorem dX12_in_9 : decode cX12_in 9 = .ok (.lcmp, 1) := by decide +kernel
theorem dX12_in_10 : decode cX12_in 10 = .ok (.ifCond .gt 7, 3) := by decide +kernel
theorem dX12_in_13 : decode cX12_in 13 = .ok (.iconst 1, 1) := by decide +kernel
theorem dX12_in_14 : decode cX12_in 14 = .ok (.goto 4, 3) := by decide +kernel
theorem dX12_in_17 : decode cX12_in 17 = .ok (.iconst 0, 1) := by decide +kernel
theorem dX12_in_18 : decode cX12_in 18 = .ok (.ireturn, 1) := by decide +kernel
set_option maxHeartbeats 4000000 in
set_option maxRecDepth 100000 in
theorem c_X12_in (l : Launch) (D : va_G) (K : Nat → ClassId) (ad : Nat → Nat) (rest : va_W) (a1 : Int64) (a2 : Int64) (a3 : Int64) (σ : xS) (z : Int32 × xS) (hF : F_X12_in a1 a2 a3 σ = some z) : CI l D K yX12_in cX12_in 6 (some .boolean) 0 0 [.long a1, .long a2, .long a3] (RW K ad rest σ) z.1 (RW K ad rest z.2) := by
  refine x_enterI [(0, .long a1), (2, .long a2), (4, .long a3)] pnX12 (Nat.le_of_ble_eq_true rfl) rfl ?_
  intro p e s m args below meth c A C
  unfold F_X12_in at hF
  refine x_lload_n C 0 0 dX12_in_0 rfl rfl ?_
  refine x_lload_n C 1 2 dX12_in_1 rfl rfl ?_
  refine x_lcmp C dX12_in_2 ?_
  refine x_if_lt C 17 dX12_in_3 (by decide) hF (fun hF => ?_) (fun hF => ?_)
  · refine x_iconst C 0 dX12_in_17 (by decide +kernel) ?_
    have hz := (cz_some hF).1
    replace hF := (cz_some hF).2
    exact x_zret C dX12_in_18 rfl hz (congrArg Prod.fst (Option.some.inj hF)) (congrArg (fun q9 : Int32 × xS => RW K ad rest q9.2) (Option.some.inj hF))
  · refine x_lload_n C 0 0 dX12_in_6 rfl rfl ?_
    refine x_lload C 2 4 dX12_in_7 rfl ?_
    refine x_lcmp C dX12_in_9 ?_
    refine x_if_gt C 17 dX12_in_10 (by decide) hF (fun hF => ?_) (fun hF => ?_)
    · refine x_iconst C 0 dX12_in_17 (by decide +kernel) ?_
      have hz := (cz_some hF).1
      replace hF := (cz_some hF).2
      exact x_zret C dX12_in_18 rfl hz (congrArg Prod.fst (Option.some.inj hF)) (congrArg (fun q9 : Int32 × xS => RW K ad rest q9.2) (Option.some.inj hF))
    · refine x_iconst C 1 dX12_in_13 (by decide +kernel) ?_
      refine x_goto C 18 dX12_in_14 (by decide) ?_
      have hz := (cz_some hF).1
      replace hF := (cz_some hF).2
      exact x_zret C dX12_in_18 rfl hz (congrArg Prod.fst (Option.some.inj hF)) (congrArg (fun q9 : Int32 × xS => RW K ad rest q9.2) (Option.some.inj hF))
theorem dX12_is_0 : decode cX12_is 0 = .ok (.iload_n 0, 1) := by decide +kernel
theorem dX12_is_1 : decode cX12_is 1 = .ok (.iload_n 1, 1) := by decide +kernel
theorem dX12_is_2 : decode cX12_is 2 = .ok (.ishr, 1) := by decide +kernel
theorem dX12_is_3 : decode cX12_is 3 = .ok (.iconst 1, 1) := by decide +kernel
theorem dX12_is_4 : decode cX12_is 4 = .ok (.iand, 1) := by decide +kernel
theorem dX12_is_5 : decode cX12_is 5 = .ok (.iconst 1, 1) := by decide +kernel
theorem dX12_is_6 : decode cX12_is 6 = .ok (.if_icmp .ne 7, 3) := by decide +kernel
theorem dX12_is_9 : decode cX12_is 9 = .ok (.iconst 1, 1) := by decide +kernel
theorem dX12_is_10 : decode cX12_is 10 = .ok (.goto 4, 3) := by decide +kernel
theorem dX12_is_13 : decode cX12_is 13 = .ok (.iconst 0, 1) := by decide +kernel
theorem dX12_is_14 : decode cX12_is 14 = .ok (.ireturn, 1) := by decide +kernel
set_option maxHeartbeats 4000000 in
set_option maxRecDepth 100000 in
theorem c_X12_is (l : Launch) (D : va_G) (K : Nat → ClassId) (ad : Nat → Nat) (rest : va_W) (a1 : Int32) (a2 : Int32) (σ : xS) (z : Int32 × xS) (hF : F_X12_is a1 a2 σ = some z) : CI l D K yX12_is cX12_is 2 (some .boolean) 0 0 [.int a1, .int a2] (RW K ad rest σ) z.1 (RW K ad rest z.2) := by
  refine x_enterI [(0, .int a1), (1, .int a2)] pnX12 (Nat.le_of_ble_eq_true rfl) rfl ?_
  intro p e s m args below meth c A C
  unfold F_X12_is at hF
  refine x_iload_n C 0 0 dX12_is_0 rfl rfl ?_
  refine x_iload_n C 1 1 dX12_is_1 rfl rfl ?_
  refine x_ishr C dX12_is_2 ?_
  refine x_iconst C 1 dX12_is_3 (by decide +kernel) ?_
  refine x_iand C dX12_is_4 ?_
  refine x_iconst C 1 dX12_is_5 (by decide +kernel) ?_
  refine x_icmp_ne C 13 dX12_is_6 (by decide) hF (fun hF => ?_) (fun hF => ?_)
  · refine x_iconst C 0 dX12_is_13 (by decide +kernel) ?_
    have hz := (cz_some hF).1
    replace hF := (cz_some hF).2
    exact x_zret C dX12_is_14 rfl hz (congrArg Prod.fst (Option.some.inj hF)) (congrArg (fun q9 : Int32 × xS => RW K ad rest q9.2) (Option.some.inj hF))
  · refine x_iconst C 1 dX12_is_9 (by decide +kernel) ?_
    refine x_goto C 14 dX12_is_10 (by decide) ?_
    have hz := (cz_some hF).1
    replace hF := (cz_some hF).2
    exact x_zret C dX12_is_14 rfl hz (congrArg Prod.fst (Option.some.inj hF)) (congrArg (fun q9 : Int32 × xS => RW K ad rest q9.2) (Option.some.inj hF))
theorem dX12_tell_0 : decode cX12_tell 0 = .ok (.aload_n 0, 1) := by decide +kernel
theorem dX12_tell_1 : decode cX12_tell 1 = .ok (.iload_n 1, 1) := by decide +kernel
theorem dX12_tell_2 : decode cX12_tell 2 = .ok (.ifCond .ge 7, 3) := by decide +kernel
theorem dX12_tell_5 : decode cX12_tell 5 = .ok (.iload_n 1, 1) := by decide +kernel
theorem dX12_tell_6 : decode cX12_tell 6 = .ok (.goto 4, 3) := by decide +kernel
theorem dX12_tell_9 : decode cX12_tell 9 = .ok (.iconst 0, 1) := by decide +kernel
theorem dX12_tell_10 : decode cX12_tell 10 = .ok (.putfield 110, 3) := by decide +kernel
theorem dX12_tell_13 : decode cX12_tell 13 = .ok (.iload_n 1, 1) := by decide +kernel
theorem dX12_tell_14 : decode cX12_tell 14 = .ok (.ifCond .ge 14, 3) := by decide +kernel
theorem dX12_tell_17 : decode cX12_tell 17 = .ok (.aload_n 0, 1) := by decide +kernel
theorem dX12_tell_18 : decode cX12_tell 18 = .ok (.getfield 7, 3) := by decide +kernel
theorem dX12_tell_21 : decode cX12_tell 21 = .ok (.iload_n 1, 1) := by decide +kernel
theorem dX12_tell_22 : decode cX12_tell 22 = .ok (.ineg, 1) := by decide +kernel
theorem dX12_tell_23 : decode cX12_tell 23 = .ok (.dup2, 1) := by decide +kernel
theorem dX12_tell_24 : decode cX12_tell 24 = .ok (.iaload, 1) := by decide +kernel
theorem dX12_tell_25 : decode cX12_tell 25 = .ok (.iconst 1, 1) := by decide +kernel
theorem dX12_tell_26 : decode cX12_tell 26 = .ok (.iadd, 1) := by decide +kernel
theorem dX12_tell_27 : decode cX12_tell 27 = .ok (.iastore, 1) := by decide +kernel
theorem dX12_tell_28 : decode cX12_tell 28 = .ok (.iload_n 1, 1) := by decide +kernel
theorem dX12_tell_29 : decode cX12_tell 29 = .ok (.ireturn, 1) := by decide +kernel
set_option maxHeartbeats 4000000 in
set_option maxRecDepth 100000 in
theorem x_X12_tell_10 {p : Program} {l : Launch} {e : Env} {s : State} {m : MethodId} {args : Array Value} {below : List Frame} {meth : Method} {c : Code} {D : va_G} {K : Nat → ClassId} {A : Nat → Prop} {ad : Nat → Nat} {rest : va_W} (C : xC p s m args meth c D K A RX12 cX12_tell 2 (some .int)) (z : Int32 × xS) : ∀ (y1 : Int32) (t1 : Int32) (σ : xS), F_X12_tell_10  y1 t1 σ = some z → X p l e (xR 0 0) s m args below meth c D A 2 (xQi below D K A args s z.1 (RW K ad rest z.2)) 0 0 10 [(0, .ref (ad 0)), (1, .int y1)] [.int t1, .ref (ad 0)] (RW K ad rest σ) := by
  intro y1 t1 σ hF
  unfold F_X12_tell_10 at hF
  refine x_put C 0 dX12_tell_10 fl_X12_110 fm_X12_1 rfl rfl (RW_o K ad rest σ) (Nat.le_of_ble_eq_true rfl) (RW_s1 K ad rest σ _) ?_
  refine x_st (wf := RW K ad rest) hF (fun σ1 hF => ?_)
  refine x_iload_n C 1 1 dX12_tell_13 rfl rfl ?_
  refine x_if_ge C 28 dX12_tell_14 (by decide) hF (fun hF => ?_) (fun hF => ?_)
  · refine x_iload_n C 1 1 dX12_tell_28 rfl rfl ?_
    exact x_iret C dX12_tell_29 rfl (congrArg Prod.fst (Option.some.inj hF)) (congrArg (fun q9 : Int32 × xS => RW K ad rest q9.2) (Option.some.inj hF))
  · refine x_aload_n C 0 0 dX12_tell_17 rfl rfl ?_
    refine x_get C 0 dX12_tell_18 fl_X12_7 (RW_o K ad rest σ1) rfl ?_
    refine x_iload_n C 1 1 dX12_tell_21 rfl rfl ?_
    refine x_ineg C dX12_tell_22 ?_
    refine x_dup2 C rfl rfl dX12_tell_23 ?_
    refine x_iald C 1 dX12_tell_24 (RW_a2 K ad rest σ1) hF (fun v2 hF => ?_)
    refine x_iconst C 1 dX12_tell_25 (by decide +kernel) ?_
    refine x_iadd C dX12_tell_26 ?_
    refine x_iast C 1 dX12_tell_27 (RW_a2 K ad rest σ1) hF (RW_s2 K ad rest σ1 _) (fun hF => ?_)
    refine x_st (wf := RW K ad rest) hF (fun σ3 hF => ?_)
    refine x_iload_n C 1 1 dX12_tell_28 rfl rfl ?_
    exact x_iret C dX12_tell_29 rfl (congrArg Prod.fst (Option.some.inj hF)) (congrArg (fun q9 : Int32 × xS => RW K ad rest q9.2) (Option.some.inj hF))
set_option maxHeartbeats 4000000 in
set_option maxRecDepth 100000 in
theorem c_X12_tell (l : Launch) (D : va_G) (K : Nat → ClassId) (ad : Nat → Nat) (rest : va_W) (a1 : Int32) (σ : xS) (z : Int32 × xS) (hF : F_X12_tell a1 σ = some z) : CI l D K yX12_tell cX12_tell 2 (some .int) 0 0 [.ref (ad 0), .int a1] (RW K ad rest σ) z.1 (RW K ad rest z.2) := by
  refine x_enterI [(0, .ref (ad 0)), (1, .int a1)] pnX12 (Nat.le_of_ble_eq_true rfl) rfl ?_
  intro p e s m args below meth c A C
  unfold F_X12_tell at hF
  refine x_aload_n C 0 0 dX12_tell_0 rfl rfl ?_
  refine x_iload_n C 1 1 dX12_tell_1 rfl rfl ?_
  refine x_if_ge C 9 dX12_tell_2 (by decide) hF (fun hF => ?_) (fun hF => ?_)
  · refine x_iconst C 0 dX12_tell_9 (by decide +kernel) ?_
    exact x_X12_tell_10 C z a1 0 σ hF
  · refine x_iload_n C 1 1 dX12_tell_5 rfl rfl ?_
    refine x_goto C 10 dX12_tell_6 (by decide) ?_
    exact x_X12_tell_10 C z a1 a1 σ hF
theorem dX12_was_0 : decode cX12_was 0 = .ok (.aload_n 0, 1) := by decide +kernel
theorem dX12_was_1 : decode cX12_was 1 = .ok (.iconst 0, 1) := by decide +kernel
theorem dX12_was_2 : decode cX12_was 2 = .ok (.putfield 110, 3) := by decide +kernel
theorem dX12_was_5 : decode cX12_was 5 = .ok (.iload_n 1, 1) := by decide +kernel
theorem dX12_was_6 : decode cX12_was 6 = .ok (.ireturn, 1) := by decide +kernel
set_option maxHeartbeats 4000000 in
set_option maxRecDepth 100000 in
theorem c_X12_was (l : Launch) (D : va_G) (K : Nat → ClassId) (ad : Nat → Nat) (rest : va_W) (a1 : Int32) (σ : xS) (z : Int32 × xS) (hF : F_X12_was a1 σ = some z) : CI l D K yX12_was cX12_was 2 (some .int) 0 0 [.ref (ad 0), .int a1] (RW K ad rest σ) z.1 (RW K ad rest z.2) := by
  refine x_enterI [(0, .ref (ad 0)), (1, .int a1)] pnX12 (Nat.le_of_ble_eq_true rfl) rfl ?_
  intro p e s m args below meth c A C
  unfold F_X12_was at hF
  refine x_aload_n C 0 0 dX12_was_0 rfl rfl ?_
  refine x_iconst C 0 dX12_was_1 (by decide +kernel) ?_
  refine x_put C 0 dX12_was_2 fl_X12_110 fm_X12_1 rfl rfl (RW_o K ad rest σ) (Nat.le_of_ble_eq_true rfl) (RW_s1 K ad rest σ _) ?_
  refine x_st (wf := RW K ad rest) hF (fun σ1 hF => ?_)
  refine x_iload_n C 1 1 dX12_was_5 rfl rfl ?_
  exact x_iret C dX12_was_6 rfl (congrArg Prod.fst (Option.some.inj hF)) (congrArg (fun q9 : Int32 × xS => RW K ad rest q9.2) (Option.some.inj hF))
theorem dX12_change_0 : decode cX12_change 0 = .ok (.aload_n 0, 1) := by decide +kernel
theorem dX12_change_1 : decode cX12_change 1 = .ok (.getfield 13, 3) := by decide +kernel
theorem dX12_change_4 : decode cX12_change 4 = .ok (.iload_n 1, 1) := by decide +kernel
theorem dX12_change_5 : decode cX12_change 5 = .ok (.iaload, 1) := by decide +kernel
theorem dX12_change_6 : decode cX12_change 6 = .ok (.istore_n 3, 1) := by decide +kernel
theorem dX12_change_7 : decode cX12_change 7 = .ok (.aload_n 0, 1) := by decide +kernel
theorem dX12_change_8 : decode cX12_change 8 = .ok (.getfield 13, 3) := by decide +kernel
theorem dX12_change_11 : decode cX12_change 11 = .ok (.iload_n 1, 1) := by decide +kernel
theorem dX12_change_12 : decode cX12_change 12 = .ok (.iload_n 2, 1) := by decide +kernel
theorem dX12_change_13 : decode cX12_change 13 = .ok (.iastore, 1) := by decide +kernel
theorem dX12_change_14 : decode cX12_change 14 = .ok (.aload_n 0, 1) := by decide +kernel
theorem dX12_change_15 : decode cX12_change 15 = .ok (.iload_n 3, 1) := by decide +kernel
theorem dX12_change_16 : decode cX12_change 16 = .ok (.invokevirtual 113, 3) := by decide +kernel
theorem dX12_change_19 : decode cX12_change 19 = .ok (.ireturn, 1) := by decide +kernel
set_option maxHeartbeats 4000000 in
set_option maxRecDepth 100000 in
theorem c_X12_change (l : Launch) (D : va_G) (K : Nat → ClassId) (ad : Nat → Nat) (rest : va_W) (a1 : Int32) (a2 : Int32) (σ : xS) (z : Int32 × xS) (hF : F_X12_change a1 a2 σ = some z) : CI l D K yX12_change cX12_change 4 (some .int) 1 21 [.ref (ad 0), .int a1, .int a2] (RW K ad rest σ) z.1 (RW K ad rest z.2) := by
  refine x_enterI [(0, .ref (ad 0)), (1, .int a1), (2, .int a2)] pnX12 (Nat.le_of_ble_eq_true rfl) rfl ?_
  intro p e s m args below meth c A C
  unfold F_X12_change at hF
  refine x_aload_n C 0 0 dX12_change_0 rfl rfl ?_
  refine x_get C 0 dX12_change_1 fl_X12_13 (RW_o K ad rest σ) rfl ?_
  refine x_iload_n C 1 1 dX12_change_4 rfl rfl ?_
  refine x_iald C 2 dX12_change_5 (RW_a3 K ad rest σ) hF (fun v1 hF => ?_)
  refine x_istore_n C [(3, .int v1), (0, .ref (ad 0)), (1, .int a1), (2, .int a2)] dX12_change_6 rfl (by decide) rfl ?_
  refine x_aload_n C 1 0 dX12_change_7 rfl rfl ?_
  refine x_get C 0 dX12_change_8 fl_X12_13 (RW_o K ad rest σ) rfl ?_
  refine x_iload_n C 2 1 dX12_change_11 rfl rfl ?_
  refine x_iload_n C 3 2 dX12_change_12 rfl rfl ?_
  refine x_iast C 2 dX12_change_13 (RW_a3 K ad rest σ) hF (RW_s3 K ad rest σ _) (fun hF => ?_)
  refine x_st (wf := RW K ad rest) hF (fun σ2 hF => ?_)
  refine x_aload_n C 1 0 dX12_change_14 rfl rfl ?_
  refine x_iload_n C 0 3 dX12_change_15 rfl rfl ?_
  refine x_callVI C (wf := RW K ad rest) (As := [.int v1]) (rest := []) dX12_change_16 ml_X12_113 rfl rfl (Nat.le_of_ble_eq_true rfl) 0 (RW_o K ad rest σ2) rfl ⟨Nat.le_of_ble_eq_true rfl, Nat.le_of_ble_eq_true rfl⟩ ⟨Nat.zero_le _, Nat.zero_le _⟩ (fun q9 hq9 => c_X12_was l D K ad rest v1 σ2 q9 hq9) hF (fun v4 σ3 hF => ?_)
  exact x_iret C dX12_change_19 rfl (congrArg Prod.fst (Option.some.inj hF)) (congrArg (fun q9 : Int32 × xS => RW K ad rest q9.2) (Option.some.inj hF))
theorem dX12_image_0 : decode cX12_image 0 = .ok (.aload_n 0, 1) := by decide +kernel
theorem dX12_image_1 : decode cX12_image 1 = .ok (.iconst 0, 1) := by decide +kernel
theorem dX12_image_2 : decode cX12_image 2 = .ok (.putfield 107, 3) := by decide +kernel
theorem dX12_image_5 : decode cX12_image 5 = .ok (.iload_n 1, 1) := by decide +kernel
theorem dX12_image_6 : decode cX12_image 6 = .ok (.i2l, 1) := by decide +kernel
theorem dX12_image_7 : decode cX12_image 7 = .ok (.lconst 0, 1) := by decide +kernel
theorem dX12_image_8 : decode cX12_image 8 = .ok (.lconst 1, 1) := by decide +kernel
theorem dX12_image_9 : decode cX12_image 9 = .ok (.invokestatic 117, 3) := by decide +kernel
theorem dX12_image_12 : decode cX12_image 12 = .ok (.ifCond .ne 9, 3) := by decide +kernel
theorem dX12_image_15 : decode cX12_image 15 = .ok (.aload_n 0, 1) := by decide +kernel
theorem dX12_image_16 : decode cX12_image 16 = .ok (.iconst (-1), 1) := by decide +kernel
theorem dX12_image_17 : decode cX12_image 17 = .ok (.invokevirtual 121, 3) := by decide +kernel
theorem dX12_image_20 : decode cX12_image 20 = .ok (.ireturn, 1) := by decide +kernel
theorem dX12_image_21 : decode cX12_image 21 = .ok (.iconst 0, 1) := by decide +kernel
theorem dX12_image_22 : decode cX12_image 22 = .ok (.istore_n 2, 1) := by decide +kernel
theorem dX12_image_23 : decode cX12_image 23 = .ok (.iload_n 2, 1) := by decide +kernel
theorem dX12_image_24 : decode cX12_image 24 = .ok (.sipush 5550, 3) := by decide +kernel
theorem dX12_image_27 : decode cX12_image 27 = .ok (.if_icmp .ge 27, 3) := by decide +kernel
theorem dX12_image_30 : decode cX12_image 30 = .ok (.aload_n 0, 1) := by decide +kernel
theorem dX12_image_31 : decode cX12_image 31 = .ok (.getfield 16, 3) := by decide +kernel
theorem dX12_image_34 : decode cX12_image 34 = .ok (.sipush 5550, 3) := by decide +kernel
theorem dX12_image_37 : decode cX12_image 37 = .ok (.iload_n 1, 1) := by decide +kernel
theorem dX12_image_38 : decode cX12_image 38 = .ok (.imul, 1) := by decide +kernel
theorem dX12_image_39 : decode cX12_image 39 = .ok (.iload_n 2, 1) := by decide +kernel
theorem dX12_image_40 : decode cX12_image 40 = .ok (.iadd, 1) := by decide +kernel
theorem dX12_image_41 : decode cX12_image 41 = .ok (.aload_n 0, 1) := by decide +kernel
theorem dX12_image_42 : decode cX12_image 42 = .ok (.getfield 13, 3) := by decide +kernel
theorem dX12_image_45 : decode cX12_image 45 = .ok (.iload_n 2, 1) := by decide +kernel
theorem dX12_image_46 : decode cX12_image 46 = .ok (.iaload, 1) := by decide +kernel
theorem dX12_image_47 : decode cX12_image 47 = .ok (.iastore, 1) := by decide +kernel
theorem dX12_image_48 : decode cX12_image 48 = .ok (.iinc 2 1, 3) := by decide +kernel
theorem dX12_image_51 : decode cX12_image 51 = .ok (.goto (-28), 3) := by decide +kernel
theorem dX12_image_54 : decode cX12_image 54 = .ok (.aload_n 0, 1) := by decide +kernel
theorem dX12_image_55 : decode cX12_image 55 = .ok (.getfield 19, 3) := by decide +kernel
theorem dX12_image_58 : decode cX12_image 58 = .ok (.iload_n 1, 1) := by decide +kernel
theorem dX12_image_59 : decode cX12_image 59 = .ok (.iconst 1, 1) := by decide +kernel
theorem dX12_image_60 : decode cX12_image 60 = .ok (.bastore, 1) := by decide +kernel
theorem dX12_image_61 : decode cX12_image 61 = .ok (.aload_n 0, 1) := by decide +kernel
theorem dX12_image_62 : decode cX12_image 62 = .ok (.iconst 0, 1) := by decide +kernel
theorem dX12_image_63 : decode cX12_image 63 = .ok (.invokevirtual 121, 3) := by decide +kernel
theorem dX12_image_66 : decode cX12_image 66 = .ok (.ireturn, 1) := by decide +kernel
set_option maxHeartbeats 4000000 in
set_option maxRecDepth 100000 in
theorem x_X12_image_23 {p : Program} {l : Launch} {e : Env} {s : State} {m : MethodId} {args : Array Value} {below : List Frame} {meth : Method} {c : Code} {D : va_G} {K : Nat → ClassId} {A : Nat → Prop} {ad : Nat → Nat} {rest : va_W} (C : xC p s m args meth c D K A RX12 cX12_image 3 (some .int)) (z : Int32 × xS) : ∀ (n : Nat) (y1 : Int32) (y2 : Int32) (σ : xS), F_X12_image_23  n y1 y2 σ = some z → X p l e (xR 1 25) s m args below meth c D A 3 (xQi below D K A args s z.1 (RW K ad rest z.2)) 0 0 23 [(0, .ref (ad 0)), (1, .int y1), (2, .int y2)] [] (RW K ad rest σ) := by
  intro n
  induction n with
  | zero =>
    intro y1 y2 σ hF
    cases hF
  | succ n ih =>
    intro y1 y2 σ hF
    rw [F_X12_image_23] at hF
    refine x_iload_n C 2 2 dX12_image_23 rfl rfl ?_
    refine x_sipush C 5550 dX12_image_24 (by decide +kernel) ?_
    refine x_icmp_ge C 54 dX12_image_27 (by decide) hF (fun hF => ?_) (fun hF => ?_)
    · refine x_aload_n C 0 0 dX12_image_54 rfl rfl ?_
      refine x_get C 0 dX12_image_55 fl_X12_19 (RW_o K ad rest σ) rfl ?_
      refine x_iload_n C 1 1 dX12_image_58 rfl rfl ?_
      refine x_iconst C 1 dX12_image_59 (by decide +kernel) ?_
      refine x_zast C 4 dX12_image_60 (RW_a5 K ad rest σ) hF (RW_s5 K ad rest σ _) (fun hF => ?_)
      refine x_st (wf := RW K ad rest) hF (fun σ7 hF => ?_)
      refine x_aload_n C 0 0 dX12_image_61 rfl rfl ?_
      refine x_iconst C 0 dX12_image_62 (by decide +kernel) ?_
      refine x_callVI C (wf := RW K ad rest) (As := [.int 0]) (rest := []) dX12_image_63 ml_X12_121 rfl rfl (Nat.le_of_ble_eq_true rfl) 0 (RW_o K ad rest σ7) rfl ⟨Nat.le_of_ble_eq_true rfl, Nat.le_of_ble_eq_true rfl⟩ ⟨Nat.zero_le _, Nat.zero_le _⟩ (fun q9 hq9 => c_X12_tell l D K ad rest 0 σ7 q9 hq9) hF (fun v9 σ8 hF => ?_)
      exact x_iret C dX12_image_66 rfl (congrArg Prod.fst (Option.some.inj hF)) (congrArg (fun q9 : Int32 × xS => RW K ad rest q9.2) (Option.some.inj hF))
    · refine x_aload_n C 0 0 dX12_image_30 rfl rfl ?_
      refine x_get C 0 dX12_image_31 fl_X12_16 (RW_o K ad rest σ) rfl ?_
      refine x_sipush C 5550 dX12_image_34 (by decide +kernel) ?_
      refine x_iload_n C 1 1 dX12_image_37 rfl rfl ?_
      refine x_imul C dX12_image_38 ?_
      refine x_iload_n C 2 2 dX12_image_39 rfl rfl ?_
      refine x_iadd C dX12_image_40 ?_
      refine x_aload_n C 0 0 dX12_image_41 rfl rfl ?_
      refine x_get C 0 dX12_image_42 fl_X12_13 (RW_o K ad rest σ) rfl ?_
      refine x_iload_n C 2 2 dX12_image_45 rfl rfl ?_
      refine x_iald C 2 dX12_image_46 (RW_a3 K ad rest σ) hF (fun v10 hF => ?_)
      refine x_iast C 3 dX12_image_47 (RW_a4 K ad rest σ) hF (RW_s4 K ad rest σ _) (fun hF => ?_)
      refine x_st (wf := RW K ad rest) hF (fun σ11 hF => ?_)
      refine x_iincN C 1 2 (fun x12 => [(2, .int x12), (0, .ref (ad 0)), (1, .int y1)]) dX12_image_48 rfl (by decide +kernel) (by decide) (fun _ => rfl) hF (fun x12 hF => ?_)
      refine x_goto C 23 dX12_image_51 (by decide) ?_
      refine x_loc [(0, .ref (ad 0)), (1, .int y1), (2, .int x12)] [1, 2, 0] rfl ?_
      exact ih y1 x12 σ11 hF
set_option maxHeartbeats 4000000 in
set_option maxRecDepth 100000 in
theorem c_X12_image (l : Launch) (D : va_G) (K : Nat → ClassId) (ad : Nat → Nat) (rest : va_W) (a1 : Int32) (σ : xS) (z : Int32 × xS) (hF : F_X12_image a1 σ = some z) : CI l D K yX12_image cX12_image 3 (some .int) 1 25 [.ref (ad 0), .int a1] (RW K ad rest σ) z.1 (RW K ad rest z.2) := by
  refine x_enterI [(0, .ref (ad 0)), (1, .int a1)] pnX12 (Nat.le_of_ble_eq_true rfl) rfl ?_
  intro p e s m args below meth c A C
  unfold F_X12_image at hF
  refine x_aload_n C 0 0 dX12_image_0 rfl rfl ?_
  refine x_iconst C 0 dX12_image_1 (by decide +kernel) ?_
  refine x_put C 0 dX12_image_2 fl_X12_107 fm_X12_0 rfl rfl (RW_o K ad rest σ) (Nat.le_of_ble_eq_true rfl) (RW_s0 K ad rest σ _) ?_
  refine x_st (wf := RW K ad rest) hF (fun σ1 hF => ?_)
  refine x_iload_n C 1 1 dX12_image_5 rfl rfl ?_
  refine x_i2l C dX12_image_6 ?_
  refine x_lconst C 0 dX12_image_7 (by decide +kernel) ?_
  refine x_lconst C 1 dX12_image_8 (by decide +kernel) ?_
  refine x_callSI C (wf := RW K ad rest) (As := [.long (a1.toInt64), .long 0, .long 1]) (rest := []) dX12_image_9 ml_X12_117 rfl rfl (Nat.le_of_ble_eq_true rfl) ⟨Nat.le_of_ble_eq_true rfl, Nat.le_of_ble_eq_true rfl⟩ ⟨Nat.zero_le _, Nat.zero_le _⟩ (fun q9 hq9 => c_X12_in l D K ad rest (a1.toInt64) 0 1 σ1 q9 hq9) hF (fun v3 σ2 hF => ?_)
  refine x_if_ne C 21 dX12_image_12 (by decide) hF (fun hF => ?_) (fun hF => ?_)
  · refine x_iconst C 0 dX12_image_21 (by decide +kernel) ?_
    refine x_topI hF (fun x4 hF => ?_)
    refine x_istore_n C [(2, .int x4), (0, .ref (ad 0)), (1, .int a1)] dX12_image_22 rfl (by decide) rfl ?_
    refine x_loc [(0, .ref (ad 0)), (1, .int a1), (2, .int x4)] [1, 2, 0] rfl ?_
    exact x_X12_image_23 C z FU a1 x4 σ2 hF
  · refine x_aload_n C 0 0 dX12_image_15 rfl rfl ?_
    refine x_iconst C (-1) dX12_image_16 (by decide +kernel) ?_
    refine x_callVI C (wf := RW K ad rest) (As := [.int ((-1))]) (rest := []) dX12_image_17 ml_X12_121 rfl rfl (Nat.le_of_ble_eq_true rfl) 0 (RW_o K ad rest σ2) rfl ⟨Nat.le_of_ble_eq_true rfl, Nat.le_of_ble_eq_true rfl⟩ ⟨Nat.zero_le _, Nat.zero_le _⟩ (fun q9 hq9 => c_X12_tell l D K ad rest ((-1)) σ2 q9 hq9) hF (fun v6 σ5 hF => ?_)
    exact x_iret C dX12_image_20 rfl (congrArg Prod.fst (Option.some.inj hF)) (congrArg (fun q9 : Int32 × xS => RW K ad rest q9.2) (Option.some.inj hF))
theorem dX12_back_0 : decode cX12_back 0 = .ok (.aload_n 0, 1) := by decide +kernel
theorem dX12_back_1 : decode cX12_back 1 = .ok (.iconst 0, 1) := by decide +kernel
theorem dX12_back_2 : decode cX12_back 2 = .ok (.putfield 107, 3) := by decide +kernel
theorem dX12_back_5 : decode cX12_back 5 = .ok (.iload_n 1, 1) := by decide +kernel
theorem dX12_back_6 : decode cX12_back 6 = .ok (.i2l, 1) := by decide +kernel
theorem dX12_back_7 : decode cX12_back 7 = .ok (.lconst 0, 1) := by decide +kernel
theorem dX12_back_8 : decode cX12_back 8 = .ok (.lconst 1, 1) := by decide +kernel
theorem dX12_back_9 : decode cX12_back 9 = .ok (.invokestatic 117, 3) := by decide +kernel
theorem dX12_back_12 : decode cX12_back 12 = .ok (.ifCond .ne 9, 3) := by decide +kernel
theorem dX12_back_15 : decode cX12_back 15 = .ok (.aload_n 0, 1) := by decide +kernel
theorem dX12_back_16 : decode cX12_back 16 = .ok (.iconst (-1), 1) := by decide +kernel
theorem dX12_back_17 : decode cX12_back 17 = .ok (.invokevirtual 121, 3) := by decide +kernel
theorem dX12_back_20 : decode cX12_back 20 = .ok (.ireturn, 1) := by decide +kernel
theorem dX12_back_21 : decode cX12_back 21 = .ok (.aload_n 0, 1) := by decide +kernel
theorem dX12_back_22 : decode cX12_back 22 = .ok (.getfield 19, 3) := by decide +kernel
theorem dX12_back_25 : decode cX12_back 25 = .ok (.iload_n 1, 1) := by decide +kernel
theorem dX12_back_26 : decode cX12_back 26 = .ok (.baload, 1) := by decide +kernel
theorem dX12_back_27 : decode cX12_back 27 = .ok (.ifCond .ne 10, 3) := by decide +kernel
theorem dX12_back_30 : decode cX12_back 30 = .ok (.aload_n 0, 1) := by decide +kernel
theorem dX12_back_31 : decode cX12_back 31 = .ok (.bipush (-2), 2) := by decide +kernel
theorem dX12_back_33 : decode cX12_back 33 = .ok (.invokevirtual 121, 3) := by decide +kernel
theorem dX12_back_36 : decode cX12_back 36 = .ok (.ireturn, 1) := by decide +kernel
theorem dX12_back_37 : decode cX12_back 37 = .ok (.iconst 0, 1) := by decide +kernel
theorem dX12_back_38 : decode cX12_back 38 = .ok (.istore_n 2, 1) := by decide +kernel
theorem dX12_back_39 : decode cX12_back 39 = .ok (.iload_n 2, 1) := by decide +kernel
theorem dX12_back_40 : decode cX12_back 40 = .ok (.sipush 5550, 3) := by decide +kernel
theorem dX12_back_43 : decode cX12_back 43 = .ok (.if_icmp .ge 27, 3) := by decide +kernel
theorem dX12_back_46 : decode cX12_back 46 = .ok (.aload_n 0, 1) := by decide +kernel
theorem dX12_back_47 : decode cX12_back 47 = .ok (.getfield 13, 3) := by decide +kernel
theorem dX12_back_50 : decode cX12_back 50 = .ok (.iload_n 2, 1) := by decide +kernel
theorem dX12_back_51 : decode cX12_back 51 = .ok (.aload_n 0, 1) := by decide +kernel
theorem dX12_back_52 : decode cX12_back 52 = .ok (.getfield 16, 3) := by decide +kernel
theorem dX12_back_55 : decode cX12_back 55 = .ok (.sipush 5550, 3) := by decide +kernel
theorem dX12_back_58 : decode cX12_back 58 = .ok (.iload_n 1, 1) := by decide +kernel
theorem dX12_back_59 : decode cX12_back 59 = .ok (.imul, 1) := by decide +kernel
theorem dX12_back_60 : decode cX12_back 60 = .ok (.iload_n 2, 1) := by decide +kernel
theorem dX12_back_61 : decode cX12_back 61 = .ok (.iadd, 1) := by decide +kernel
theorem dX12_back_62 : decode cX12_back 62 = .ok (.iaload, 1) := by decide +kernel
theorem dX12_back_63 : decode cX12_back 63 = .ok (.iastore, 1) := by decide +kernel
theorem dX12_back_64 : decode cX12_back 64 = .ok (.iinc 2 1, 3) := by decide +kernel
theorem dX12_back_67 : decode cX12_back 67 = .ok (.goto (-28), 3) := by decide +kernel
theorem dX12_back_70 : decode cX12_back 70 = .ok (.aload_n 0, 1) := by decide +kernel
theorem dX12_back_71 : decode cX12_back 71 = .ok (.iconst 0, 1) := by decide +kernel
theorem dX12_back_72 : decode cX12_back 72 = .ok (.invokevirtual 121, 3) := by decide +kernel
theorem dX12_back_75 : decode cX12_back 75 = .ok (.ireturn, 1) := by decide +kernel
set_option maxHeartbeats 4000000 in
set_option maxRecDepth 100000 in
theorem x_X12_back_39 {p : Program} {l : Launch} {e : Env} {s : State} {m : MethodId} {args : Array Value} {below : List Frame} {meth : Method} {c : Code} {D : va_G} {K : Nat → ClassId} {A : Nat → Prop} {ad : Nat → Nat} {rest : va_W} (C : xC p s m args meth c D K A RX12 cX12_back 3 (some .int)) (z : Int32 × xS) : ∀ (n : Nat) (y1 : Int32) (y2 : Int32) (σ : xS), F_X12_back_39  n y1 y2 σ = some z → X p l e (xR 1 25) s m args below meth c D A 3 (xQi below D K A args s z.1 (RW K ad rest z.2)) 0 0 39 [(0, .ref (ad 0)), (1, .int y1), (2, .int y2)] [] (RW K ad rest σ) := by
  intro n
  induction n with
  | zero =>
    intro y1 y2 σ hF
    cases hF
  | succ n ih =>
    intro y1 y2 σ hF
    rw [F_X12_back_39] at hF
    refine x_iload_n C 2 2 dX12_back_39 rfl rfl ?_
    refine x_sipush C 5550 dX12_back_40 (by decide +kernel) ?_
    refine x_icmp_ge C 70 dX12_back_43 (by decide) hF (fun hF => ?_) (fun hF => ?_)
    · refine x_aload_n C 0 0 dX12_back_70 rfl rfl ?_
      refine x_iconst C 0 dX12_back_71 (by decide +kernel) ?_
      refine x_callVI C (wf := RW K ad rest) (As := [.int 0]) (rest := []) dX12_back_72 ml_X12_121 rfl rfl (Nat.le_of_ble_eq_true rfl) 0 (RW_o K ad rest σ) rfl ⟨Nat.le_of_ble_eq_true rfl, Nat.le_of_ble_eq_true rfl⟩ ⟨Nat.zero_le _, Nat.zero_le _⟩ (fun q9 hq9 => c_X12_tell l D K ad rest 0 σ q9 hq9) hF (fun v11 σ10 hF => ?_)
      exact x_iret C dX12_back_75 rfl (congrArg Prod.fst (Option.some.inj hF)) (congrArg (fun q9 : Int32 × xS => RW K ad rest q9.2) (Option.some.inj hF))
    · refine x_aload_n C 0 0 dX12_back_46 rfl rfl ?_
      refine x_get C 0 dX12_back_47 fl_X12_13 (RW_o K ad rest σ) rfl ?_
      refine x_iload_n C 2 2 dX12_back_50 rfl rfl ?_
      refine x_aload_n C 0 0 dX12_back_51 rfl rfl ?_
      refine x_get C 0 dX12_back_52 fl_X12_16 (RW_o K ad rest σ) rfl ?_
      refine x_sipush C 5550 dX12_back_55 (by decide +kernel) ?_
      refine x_iload_n C 1 1 dX12_back_58 rfl rfl ?_
      refine x_imul C dX12_back_59 ?_
      refine x_iload_n C 2 2 dX12_back_60 rfl rfl ?_
      refine x_iadd C dX12_back_61 ?_
      refine x_iald C 3 dX12_back_62 (RW_a4 K ad rest σ) hF (fun v12 hF => ?_)
      refine x_iast C 2 dX12_back_63 (RW_a3 K ad rest σ) hF (RW_s3 K ad rest σ _) (fun hF => ?_)
      refine x_st (wf := RW K ad rest) hF (fun σ13 hF => ?_)
      refine x_iincN C 1 2 (fun x14 => [(2, .int x14), (0, .ref (ad 0)), (1, .int y1)]) dX12_back_64 rfl (by decide +kernel) (by decide) (fun _ => rfl) hF (fun x14 hF => ?_)
      refine x_goto C 39 dX12_back_67 (by decide) ?_
      refine x_loc [(0, .ref (ad 0)), (1, .int y1), (2, .int x14)] [1, 2, 0] rfl ?_
      exact ih y1 x14 σ13 hF
set_option maxHeartbeats 4000000 in
set_option maxRecDepth 100000 in
theorem c_X12_back (l : Launch) (D : va_G) (K : Nat → ClassId) (ad : Nat → Nat) (rest : va_W) (a1 : Int32) (σ : xS) (z : Int32 × xS) (hF : F_X12_back a1 σ = some z) : CI l D K yX12_back cX12_back 3 (some .int) 1 25 [.ref (ad 0), .int a1] (RW K ad rest σ) z.1 (RW K ad rest z.2) := by
  refine x_enterI [(0, .ref (ad 0)), (1, .int a1)] pnX12 (Nat.le_of_ble_eq_true rfl) rfl ?_
  intro p e s m args below meth c A C
  unfold F_X12_back at hF
  refine x_aload_n C 0 0 dX12_back_0 rfl rfl ?_
  refine x_iconst C 0 dX12_back_1 (by decide +kernel) ?_
  refine x_put C 0 dX12_back_2 fl_X12_107 fm_X12_0 rfl rfl (RW_o K ad rest σ) (Nat.le_of_ble_eq_true rfl) (RW_s0 K ad rest σ _) ?_
  refine x_st (wf := RW K ad rest) hF (fun σ1 hF => ?_)
  refine x_iload_n C 1 1 dX12_back_5 rfl rfl ?_
  refine x_i2l C dX12_back_6 ?_
  refine x_lconst C 0 dX12_back_7 (by decide +kernel) ?_
  refine x_lconst C 1 dX12_back_8 (by decide +kernel) ?_
  refine x_callSI C (wf := RW K ad rest) (As := [.long (a1.toInt64), .long 0, .long 1]) (rest := []) dX12_back_9 ml_X12_117 rfl rfl (Nat.le_of_ble_eq_true rfl) ⟨Nat.le_of_ble_eq_true rfl, Nat.le_of_ble_eq_true rfl⟩ ⟨Nat.zero_le _, Nat.zero_le _⟩ (fun q9 hq9 => c_X12_in l D K ad rest (a1.toInt64) 0 1 σ1 q9 hq9) hF (fun v3 σ2 hF => ?_)
  refine x_if_ne C 21 dX12_back_12 (by decide) hF (fun hF => ?_) (fun hF => ?_)
  · refine x_aload_n C 0 0 dX12_back_21 rfl rfl ?_
    refine x_get C 0 dX12_back_22 fl_X12_19 (RW_o K ad rest σ2) rfl ?_
    refine x_iload_n C 1 1 dX12_back_25 rfl rfl ?_
    refine x_zald C 4 dX12_back_26 (RW_a5 K ad rest σ2) hF (fun v4 hF => ?_)
    refine x_if_ne C 37 dX12_back_27 (by decide) hF (fun hF => ?_) (fun hF => ?_)
    · refine x_iconst C 0 dX12_back_37 (by decide +kernel) ?_
      refine x_topI hF (fun x5 hF => ?_)
      refine x_istore_n C [(2, .int x5), (0, .ref (ad 0)), (1, .int a1)] dX12_back_38 rfl (by decide) rfl ?_
      refine x_loc [(0, .ref (ad 0)), (1, .int a1), (2, .int x5)] [1, 2, 0] rfl ?_
      exact x_X12_back_39 C z FU a1 x5 σ2 hF
    · refine x_aload_n C 0 0 dX12_back_30 rfl rfl ?_
      refine x_bipush C (-2) dX12_back_31 (by decide +kernel) ?_
      refine x_callVI C (wf := RW K ad rest) (As := [.int ((-2))]) (rest := []) dX12_back_33 ml_X12_121 rfl rfl (Nat.le_of_ble_eq_true rfl) 0 (RW_o K ad rest σ2) rfl ⟨Nat.le_of_ble_eq_true rfl, Nat.le_of_ble_eq_true rfl⟩ ⟨Nat.zero_le _, Nat.zero_le _⟩ (fun q9 hq9 => c_X12_tell l D K ad rest ((-2)) σ2 q9 hq9) hF (fun v7 σ6 hF => ?_)
      exact x_iret C dX12_back_36 rfl (congrArg Prod.fst (Option.some.inj hF)) (congrArg (fun q9 : Int32 × xS => RW K ad rest q9.2) (Option.some.inj hF))
  · refine x_aload_n C 0 0 dX12_back_15 rfl rfl ?_
    refine x_iconst C (-1) dX12_back_16 (by decide +kernel) ?_
    refine x_callVI C (wf := RW K ad rest) (As := [.int ((-1))]) (rest := []) dX12_back_17 ml_X12_121 rfl rfl (Nat.le_of_ble_eq_true rfl) 0 (RW_o K ad rest σ2) rfl ⟨Nat.le_of_ble_eq_true rfl, Nat.le_of_ble_eq_true rfl⟩ ⟨Nat.zero_le _, Nat.zero_le _⟩ (fun q9 hq9 => c_X12_tell l D K ad rest ((-1)) σ2 q9 hq9) hF (fun v9 σ8 hF => ?_)
    exact x_iret C dX12_back_20 rfl (congrArg Prod.fst (Option.some.inj hF)) (congrArg (fun q9 : Int32 × xS => RW K ad rest q9.2) (Option.some.inj hF))
theorem dX12_isBook_0 : decode cX12_isBook 0 = .ok (.iload_n 1, 1) := by decide +kernel
theorem dX12_isBook_1 : decode cX12_isBook 1 = .ok (.i2l, 1) := by decide +kernel
theorem dX12_isBook_2 : decode cX12_isBook 2 = .ok (.lconst 0, 1) := by decide +kernel
theorem dX12_isBook_3 : decode cX12_isBook 3 = .ok (.aload_n 0, 1) := by decide +kernel
theorem dX12_isBook_4 : decode cX12_isBook 4 = .ok (.getfield 13, 3) := by decide +kernel
theorem dX12_isBook_7 : decode cX12_isBook 7 = .ok (.iconst 0, 1) := by decide +kernel
theorem dX12_isBook_8 : decode cX12_isBook 8 = .ok (.iaload, 1) := by decide +kernel
theorem dX12_isBook_9 : decode cX12_isBook 9 = .ok (.i2l, 1) := by decide +kernel
theorem dX12_isBook_10 : decode cX12_isBook 10 = .ok (.lconst 1, 1) := by decide +kernel
theorem dX12_isBook_11 : decode cX12_isBook 11 = .ok (.lsub, 1) := by decide +kernel
theorem dX12_isBook_12 : decode cX12_isBook 12 = .ok (.invokestatic 117, 3) := by decide +kernel
theorem dX12_isBook_15 : decode cX12_isBook 15 = .ok (.ireturn, 1) := by decide +kernel
set_option maxHeartbeats 4000000 in
set_option maxRecDepth 100000 in
theorem c_X12_isBook (l : Launch) (D : va_G) (K : Nat → ClassId) (ad : Nat → Nat) (rest : va_W) (a1 : Int32) (σ : xS) (z : Int32 × xS) (hF : F_X12_isBook a1 σ = some z) : CI l D K yX12_isBook cX12_isBook 2 (some .boolean) 1 25 [.ref (ad 0), .int a1] (RW K ad rest σ) z.1 (RW K ad rest z.2) := by
  refine x_enterI [(0, .ref (ad 0)), (1, .int a1)] pnX12 (Nat.le_of_ble_eq_true rfl) rfl ?_
  intro p e s m args below meth c A C
  unfold F_X12_isBook at hF
  refine x_iload_n C 1 1 dX12_isBook_0 rfl rfl ?_
  refine x_i2l C dX12_isBook_1 ?_
  refine x_lconst C 0 dX12_isBook_2 (by decide +kernel) ?_
  refine x_aload_n C 0 0 dX12_isBook_3 rfl rfl ?_
  refine x_get C 0 dX12_isBook_4 fl_X12_13 (RW_o K ad rest σ) rfl ?_
  refine x_iconst C 0 dX12_isBook_7 (by decide +kernel) ?_
  refine x_iald C 2 dX12_isBook_8 (RW_a3 K ad rest σ) hF (fun v1 hF => ?_)
  refine x_i2l C dX12_isBook_9 ?_
  refine x_lconst C 1 dX12_isBook_10 (by decide +kernel) ?_
  refine x_lsub C dX12_isBook_11 ?_
  refine x_callSI C (wf := RW K ad rest) (As := [.long (a1.toInt64), .long 0, .long ((v1.toInt64) - 1)]) (rest := []) dX12_isBook_12 ml_X12_117 rfl rfl (Nat.le_of_ble_eq_true rfl) ⟨Nat.le_of_ble_eq_true rfl, Nat.le_of_ble_eq_true rfl⟩ ⟨Nat.zero_le _, Nat.zero_le _⟩ (fun q9 hq9 => c_X12_in l D K ad rest (a1.toInt64) 0 ((v1.toInt64) - 1) σ q9 hq9) hF (fun v3 σ2 hF => ?_)
  have hz := (cz_some hF).1
  replace hF := (cz_some hF).2
  exact x_zret C dX12_isBook_15 rfl hz (congrArg Prod.fst (Option.some.inj hF)) (congrArg (fun q9 : Int32 × xS => RW K ad rest q9.2) (Option.some.inj hF))
theorem dX12_ofBook_0 : decode cX12_ofBook 0 = .ok (.aload_n 0, 1) := by decide +kernel
theorem dX12_ofBook_1 : decode cX12_ofBook 1 = .ok (.getfield 13, 3) := by decide +kernel
theorem dX12_ofBook_4 : decode cX12_ofBook 4 = .ok (.bipush 13, 2) := by decide +kernel
theorem dX12_ofBook_6 : decode cX12_ofBook 6 = .ok (.iconst 5, 1) := by decide +kernel
theorem dX12_ofBook_7 : decode cX12_ofBook 7 = .ok (.iload_n 1, 1) := by decide +kernel
theorem dX12_ofBook_8 : decode cX12_ofBook 8 = .ok (.imul, 1) := by decide +kernel
theorem dX12_ofBook_9 : decode cX12_ofBook 9 = .ok (.iadd, 1) := by decide +kernel
theorem dX12_ofBook_10 : decode cX12_ofBook 10 = .ok (.iload_n 2, 1) := by decide +kernel
theorem dX12_ofBook_11 : decode cX12_ofBook 11 = .ok (.iadd, 1) := by decide +kernel
theorem dX12_ofBook_12 : decode cX12_ofBook 12 = .ok (.iaload, 1) := by decide +kernel
theorem dX12_ofBook_13 : decode cX12_ofBook 13 = .ok (.ireturn, 1) := by decide +kernel
set_option maxHeartbeats 4000000 in
set_option maxRecDepth 100000 in
theorem c_X12_ofBook (l : Launch) (D : va_G) (K : Nat → ClassId) (ad : Nat → Nat) (rest : va_W) (a1 : Int32) (a2 : Int32) (σ : xS) (z : Int32 × xS) (hF : F_X12_ofBook a1 a2 σ = some z) : CI l D K yX12_ofBook cX12_ofBook 3 (some .int) 0 0 [.ref (ad 0), .int a1, .int a2] (RW K ad rest σ) z.1 (RW K ad rest z.2) := by
  refine x_enterI [(0, .ref (ad 0)), (1, .int a1), (2, .int a2)] pnX12 (Nat.le_of_ble_eq_true rfl) rfl ?_
  intro p e s m args below meth c A C
  unfold F_X12_ofBook at hF
  refine x_aload_n C 0 0 dX12_ofBook_0 rfl rfl ?_
  refine x_get C 0 dX12_ofBook_1 fl_X12_13 (RW_o K ad rest σ) rfl ?_
  refine x_bipush C 13 dX12_ofBook_4 (by decide +kernel) ?_
  refine x_iconst C 5 dX12_ofBook_6 (by decide +kernel) ?_
  refine x_iload_n C 1 1 dX12_ofBook_7 rfl rfl ?_
  refine x_imul C dX12_ofBook_8 ?_
  refine x_iadd C dX12_ofBook_9 ?_
  refine x_iload_n C 2 2 dX12_ofBook_10 rfl rfl ?_
  refine x_iadd C dX12_ofBook_11 ?_
  refine x_iald C 2 dX12_ofBook_12 (RW_a3 K ad rest σ) hF (fun v1 hF => ?_)
  exact x_iret C dX12_ofBook_13 rfl (congrArg Prod.fst (Option.some.inj hF)) (congrArg (fun q9 : Int32 × xS => RW K ad rest q9.2) (Option.some.inj hF))
theorem dX12_fits_0 : decode cX12_fits 0 = .ok (.iload_n 0, 1) := by decide +kernel
theorem dX12_fits_1 : decode cX12_fits 1 = .ok (.tableswitch 85 0 4 #[35, 45, 55, 65, 75], 35) := by decide +kernel
theorem dX12_fits_36 : decode cX12_fits 36 = .ok (.iload_n 1, 1) := by decide +kernel
theorem dX12_fits_37 : decode cX12_fits 37 = .ok (.i2l, 1) := by decide +kernel
theorem dX12_fits_38 : decode cX12_fits 38 = .ok (.lconst 0, 1) := by decide +kernel
theorem dX12_fits_39 : decode cX12_fits 39 = .ok (.ldc2_w 124, 3) := by decide +kernel
theorem dX12_fits_42 : decode cX12_fits 42 = .ok (.invokestatic 117, 3) := by decide +kernel
theorem dX12_fits_45 : decode cX12_fits 45 = .ok (.ireturn, 1) := by decide +kernel
theorem dX12_fits_46 : decode cX12_fits 46 = .ok (.iload_n 1, 1) := by decide +kernel
theorem dX12_fits_47 : decode cX12_fits 47 = .ok (.i2l, 1) := by decide +kernel
theorem dX12_fits_48 : decode cX12_fits 48 = .ok (.lconst 0, 1) := by decide +kernel
theorem dX12_fits_49 : decode cX12_fits 49 = .ok (.ldc2_w 126, 3) := by decide +kernel
theorem dX12_fits_52 : decode cX12_fits 52 = .ok (.invokestatic 117, 3) := by decide +kernel
theorem dX12_fits_55 : decode cX12_fits 55 = .ok (.ireturn, 1) := by decide +kernel
theorem dX12_fits_56 : decode cX12_fits 56 = .ok (.iload_n 1, 1) := by decide +kernel
theorem dX12_fits_57 : decode cX12_fits 57 = .ok (.i2l, 1) := by decide +kernel
theorem dX12_fits_58 : decode cX12_fits 58 = .ok (.lconst 0, 1) := by decide +kernel
theorem dX12_fits_59 : decode cX12_fits 59 = .ok (.ldc2_w 128, 3) := by decide +kernel
theorem dX12_fits_62 : decode cX12_fits 62 = .ok (.invokestatic 117, 3) := by decide +kernel
theorem dX12_fits_65 : decode cX12_fits 65 = .ok (.ireturn, 1) := by decide +kernel
theorem dX12_fits_66 : decode cX12_fits 66 = .ok (.iload_n 1, 1) := by decide +kernel
theorem dX12_fits_67 : decode cX12_fits 67 = .ok (.i2l, 1) := by decide +kernel
theorem dX12_fits_68 : decode cX12_fits 68 = .ok (.lconst 0, 1) := by decide +kernel
theorem dX12_fits_69 : decode cX12_fits 69 = .ok (.ldc2_w 126, 3) := by decide +kernel
theorem dX12_fits_72 : decode cX12_fits 72 = .ok (.invokestatic 117, 3) := by decide +kernel
theorem dX12_fits_75 : decode cX12_fits 75 = .ok (.ireturn, 1) := by decide +kernel
theorem dX12_fits_76 : decode cX12_fits 76 = .ok (.iload_n 1, 1) := by decide +kernel
theorem dX12_fits_77 : decode cX12_fits 77 = .ok (.i2l, 1) := by decide +kernel
theorem dX12_fits_78 : decode cX12_fits 78 = .ok (.lconst 0, 1) := by decide +kernel
theorem dX12_fits_79 : decode cX12_fits 79 = .ok (.ldc2_w 130, 3) := by decide +kernel
theorem dX12_fits_82 : decode cX12_fits 82 = .ok (.invokestatic 117, 3) := by decide +kernel
theorem dX12_fits_85 : decode cX12_fits 85 = .ok (.ireturn, 1) := by decide +kernel
theorem dX12_fits_86 : decode cX12_fits 86 = .ok (.iconst 0, 1) := by decide +kernel
theorem dX12_fits_87 : decode cX12_fits 87 = .ok (.ireturn, 1) := by decide +kernel
set_option maxHeartbeats 4000000 in
set_option maxRecDepth 100000 in
theorem c_X12_fits (l : Launch) (D : va_G) (K : Nat → ClassId) (ad : Nat → Nat) (rest : va_W) (a1 : Int32) (a2 : Int32) (σ : xS) (z : Int32 × xS) (hF : F_X12_fits a1 a2 σ = some z) : CI l D K yX12_fits cX12_fits 2 (some .boolean) 1 25 [.int a1, .int a2] (RW K ad rest σ) z.1 (RW K ad rest z.2) := by
  refine x_enterI [(0, .int a1), (1, .int a2)] pnX12 (Nat.le_of_ble_eq_true rfl) rfl ?_
  intro p e s m args below meth c A C
  unfold F_X12_fits at hF
  refine x_iload_n C 0 0 dX12_fits_0 rfl rfl ?_
  by_cases h3 : a1 = 0
  · rw [if_pos h3] at hF
    refine x_tabIn C 36 dX12_fits_1 (by rw [h3]; decide +kernel) (by rw [h3]; decide +kernel) (by rw [h3]; rfl) (by decide) ?_
    refine x_iload_n C 1 1 dX12_fits_36 rfl rfl ?_
    refine x_i2l C dX12_fits_37 ?_
    refine x_lconst C 0 dX12_fits_38 (by decide +kernel) ?_
    refine x_ldc2 C 9 dX12_fits_39 cl_X12_124 ?_
    refine x_callSI C (wf := RW K ad rest) (As := [.long (a2.toInt64), .long 0, .long 9]) (rest := []) dX12_fits_42 ml_X12_117 rfl rfl (Nat.le_of_ble_eq_true rfl) ⟨Nat.le_of_ble_eq_true rfl, Nat.le_of_ble_eq_true rfl⟩ ⟨Nat.zero_le _, Nat.zero_le _⟩ (fun q9 hq9 => c_X12_in l D K ad rest (a2.toInt64) 0 9 σ q9 hq9) hF (fun v2 σ1 hF => ?_)
    have hz := (cz_some hF).1
    replace hF := (cz_some hF).2
    exact x_zret C dX12_fits_45 rfl hz (congrArg Prod.fst (Option.some.inj hF)) (congrArg (fun q9 : Int32 × xS => RW K ad rest q9.2) (Option.some.inj hF))
  · rw [if_neg h3] at hF
    by_cases h6 : a1 = 1
    · rw [if_pos h6] at hF
      refine x_tabIn C 46 dX12_fits_1 (by rw [h6]; decide +kernel) (by rw [h6]; decide +kernel) (by rw [h6]; rfl) (by decide) ?_
      refine x_iload_n C 1 1 dX12_fits_46 rfl rfl ?_
      refine x_i2l C dX12_fits_47 ?_
      refine x_lconst C 0 dX12_fits_48 (by decide +kernel) ?_
      refine x_ldc2 C 999 dX12_fits_49 cl_X12_126 ?_
      refine x_callSI C (wf := RW K ad rest) (As := [.long (a2.toInt64), .long 0, .long 999]) (rest := []) dX12_fits_52 ml_X12_117 rfl rfl (Nat.le_of_ble_eq_true rfl) ⟨Nat.le_of_ble_eq_true rfl, Nat.le_of_ble_eq_true rfl⟩ ⟨Nat.zero_le _, Nat.zero_le _⟩ (fun q9 hq9 => c_X12_in l D K ad rest (a2.toInt64) 0 999 σ q9 hq9) hF (fun v5 σ4 hF => ?_)
      have hz := (cz_some hF).1
      replace hF := (cz_some hF).2
      exact x_zret C dX12_fits_55 rfl hz (congrArg Prod.fst (Option.some.inj hF)) (congrArg (fun q9 : Int32 × xS => RW K ad rest q9.2) (Option.some.inj hF))
    · rw [if_neg h6] at hF
      by_cases h9 : a1 = 2
      · rw [if_pos h9] at hF
        refine x_tabIn C 56 dX12_fits_1 (by rw [h9]; decide +kernel) (by rw [h9]; decide +kernel) (by rw [h9]; rfl) (by decide) ?_
        refine x_iload_n C 1 1 dX12_fits_56 rfl rfl ?_
        refine x_i2l C dX12_fits_57 ?_
        refine x_lconst C 0 dX12_fits_58 (by decide +kernel) ?_
        refine x_ldc2 C 99 dX12_fits_59 cl_X12_128 ?_
        refine x_callSI C (wf := RW K ad rest) (As := [.long (a2.toInt64), .long 0, .long 99]) (rest := []) dX12_fits_62 ml_X12_117 rfl rfl (Nat.le_of_ble_eq_true rfl) ⟨Nat.le_of_ble_eq_true rfl, Nat.le_of_ble_eq_true rfl⟩ ⟨Nat.zero_le _, Nat.zero_le _⟩ (fun q9 hq9 => c_X12_in l D K ad rest (a2.toInt64) 0 99 σ q9 hq9) hF (fun v8 σ7 hF => ?_)
        have hz := (cz_some hF).1
        replace hF := (cz_some hF).2
        exact x_zret C dX12_fits_65 rfl hz (congrArg Prod.fst (Option.some.inj hF)) (congrArg (fun q9 : Int32 × xS => RW K ad rest q9.2) (Option.some.inj hF))
      · rw [if_neg h9] at hF
        by_cases h12 : a1 = 3
        · rw [if_pos h12] at hF
          refine x_tabIn C 66 dX12_fits_1 (by rw [h12]; decide +kernel) (by rw [h12]; decide +kernel) (by rw [h12]; rfl) (by decide) ?_
          refine x_iload_n C 1 1 dX12_fits_66 rfl rfl ?_
          refine x_i2l C dX12_fits_67 ?_
          refine x_lconst C 0 dX12_fits_68 (by decide +kernel) ?_
          refine x_ldc2 C 999 dX12_fits_69 cl_X12_126 ?_
          refine x_callSI C (wf := RW K ad rest) (As := [.long (a2.toInt64), .long 0, .long 999]) (rest := []) dX12_fits_72 ml_X12_117 rfl rfl (Nat.le_of_ble_eq_true rfl) ⟨Nat.le_of_ble_eq_true rfl, Nat.le_of_ble_eq_true rfl⟩ ⟨Nat.zero_le _, Nat.zero_le _⟩ (fun q9 hq9 => c_X12_in l D K ad rest (a2.toInt64) 0 999 σ q9 hq9) hF (fun v11 σ10 hF => ?_)
          have hz := (cz_some hF).1
          replace hF := (cz_some hF).2
          exact x_zret C dX12_fits_75 rfl hz (congrArg Prod.fst (Option.some.inj hF)) (congrArg (fun q9 : Int32 × xS => RW K ad rest q9.2) (Option.some.inj hF))
        · rw [if_neg h12] at hF
          by_cases h15 : a1 = 4
          · rw [if_pos h15] at hF
            refine x_tabIn C 76 dX12_fits_1 (by rw [h15]; decide +kernel) (by rw [h15]; decide +kernel) (by rw [h15]; rfl) (by decide) ?_
            refine x_iload_n C 1 1 dX12_fits_76 rfl rfl ?_
            refine x_i2l C dX12_fits_77 ?_
            refine x_lconst C 0 dX12_fits_78 (by decide +kernel) ?_
            refine x_ldc2 C 2 dX12_fits_79 cl_X12_130 ?_
            refine x_callSI C (wf := RW K ad rest) (As := [.long (a2.toInt64), .long 0, .long 2]) (rest := []) dX12_fits_82 ml_X12_117 rfl rfl (Nat.le_of_ble_eq_true rfl) ⟨Nat.le_of_ble_eq_true rfl, Nat.le_of_ble_eq_true rfl⟩ ⟨Nat.zero_le _, Nat.zero_le _⟩ (fun q9 hq9 => c_X12_in l D K ad rest (a2.toInt64) 0 2 σ q9 hq9) hF (fun v14 σ13 hF => ?_)
            have hz := (cz_some hF).1
            replace hF := (cz_some hF).2
            exact x_zret C dX12_fits_85 rfl hz (congrArg Prod.fst (Option.some.inj hF)) (congrArg (fun q9 : Int32 × xS => RW K ad rest q9.2) (Option.some.inj hF))
          · rw [if_neg h15] at hF
            refine x_tabOut C 86 dX12_fits_1 (by have e_h3 : a1.toInt ≠ 0 := x_neT h3; have e_h6 : a1.toInt ≠ 1 := x_neT h6; have e_h9 : a1.toInt ≠ 2 := x_neT h9; have e_h12 : a1.toInt ≠ 3 := x_neT h12; have e_h15 : a1.toInt ≠ 4 := x_neT h15; omega) (by decide) ?_
            refine x_iconst C 0 dX12_fits_86 (by decide +kernel) ?_
            have hz := (cz_some hF).1
            replace hF := (cz_some hF).2
            exact x_zret C dX12_fits_87 rfl hz (congrArg Prod.fst (Option.some.inj hF)) (congrArg (fun q9 : Int32 × xS => RW K ad rest q9.2) (Option.some.inj hF))
theorem dX12_addBook_0 : decode cX12_addBook 0 = .ok (.bipush 13, 2) := by decide +kernel
theorem dX12_addBook_2 : decode cX12_addBook 2 = .ok (.iconst 5, 1) := by decide +kernel
theorem dX12_addBook_3 : decode cX12_addBook 3 = .ok (.aload_n 0, 1) := by decide +kernel
theorem dX12_addBook_4 : decode cX12_addBook 4 = .ok (.getfield 13, 3) := by decide +kernel
theorem dX12_addBook_7 : decode cX12_addBook 7 = .ok (.iconst 0, 1) := by decide +kernel
theorem dX12_addBook_8 : decode cX12_addBook 8 = .ok (.iaload, 1) := by decide +kernel
theorem dX12_addBook_9 : decode cX12_addBook 9 = .ok (.imul, 1) := by decide +kernel
theorem dX12_addBook_10 : decode cX12_addBook 10 = .ok (.iadd, 1) := by decide +kernel
theorem dX12_addBook_11 : decode cX12_addBook 11 = .ok (.istore 6, 2) := by decide +kernel
theorem dX12_addBook_13 : decode cX12_addBook 13 = .ok (.aload_n 0, 1) := by decide +kernel
theorem dX12_addBook_14 : decode cX12_addBook 14 = .ok (.getfield 13, 3) := by decide +kernel
theorem dX12_addBook_17 : decode cX12_addBook 17 = .ok (.iload 6, 2) := by decide +kernel
theorem dX12_addBook_19 : decode cX12_addBook 19 = .ok (.iload_n 1, 1) := by decide +kernel
theorem dX12_addBook_20 : decode cX12_addBook 20 = .ok (.iastore, 1) := by decide +kernel
theorem dX12_addBook_21 : decode cX12_addBook 21 = .ok (.aload_n 0, 1) := by decide +kernel
theorem dX12_addBook_22 : decode cX12_addBook 22 = .ok (.getfield 13, 3) := by decide +kernel
theorem dX12_addBook_25 : decode cX12_addBook 25 = .ok (.iload 6, 2) := by decide +kernel
theorem dX12_addBook_27 : decode cX12_addBook 27 = .ok (.iconst 1, 1) := by decide +kernel
theorem dX12_addBook_28 : decode cX12_addBook 28 = .ok (.iadd, 1) := by decide +kernel
theorem dX12_addBook_29 : decode cX12_addBook 29 = .ok (.iload_n 2, 1) := by decide +kernel
theorem dX12_addBook_30 : decode cX12_addBook 30 = .ok (.iastore, 1) := by decide +kernel
theorem dX12_addBook_31 : decode cX12_addBook 31 = .ok (.aload_n 0, 1) := by decide +kernel
theorem dX12_addBook_32 : decode cX12_addBook 32 = .ok (.getfield 13, 3) := by decide +kernel
theorem dX12_addBook_35 : decode cX12_addBook 35 = .ok (.iload 6, 2) := by decide +kernel
theorem dX12_addBook_37 : decode cX12_addBook 37 = .ok (.iconst 2, 1) := by decide +kernel
theorem dX12_addBook_38 : decode cX12_addBook 38 = .ok (.iadd, 1) := by decide +kernel
theorem dX12_addBook_39 : decode cX12_addBook 39 = .ok (.iload_n 3, 1) := by decide +kernel
theorem dX12_addBook_40 : decode cX12_addBook 40 = .ok (.iastore, 1) := by decide +kernel
theorem dX12_addBook_41 : decode cX12_addBook 41 = .ok (.aload_n 0, 1) := by decide +kernel
theorem dX12_addBook_42 : decode cX12_addBook 42 = .ok (.getfield 13, 3) := by decide +kernel
theorem dX12_addBook_45 : decode cX12_addBook 45 = .ok (.iload 6, 2) := by decide +kernel
theorem dX12_addBook_47 : decode cX12_addBook 47 = .ok (.iconst 3, 1) := by decide +kernel
theorem dX12_addBook_48 : decode cX12_addBook 48 = .ok (.iadd, 1) := by decide +kernel
theorem dX12_addBook_49 : decode cX12_addBook 49 = .ok (.iload 4, 2) := by decide +kernel
theorem dX12_addBook_51 : decode cX12_addBook 51 = .ok (.iastore, 1) := by decide +kernel
theorem dX12_addBook_52 : decode cX12_addBook 52 = .ok (.aload_n 0, 1) := by decide +kernel
theorem dX12_addBook_53 : decode cX12_addBook 53 = .ok (.getfield 13, 3) := by decide +kernel
theorem dX12_addBook_56 : decode cX12_addBook 56 = .ok (.iload 6, 2) := by decide +kernel
theorem dX12_addBook_58 : decode cX12_addBook 58 = .ok (.iconst 4, 1) := by decide +kernel
theorem dX12_addBook_59 : decode cX12_addBook 59 = .ok (.iadd, 1) := by decide +kernel
theorem dX12_addBook_60 : decode cX12_addBook 60 = .ok (.iload 5, 2) := by decide +kernel
theorem dX12_addBook_62 : decode cX12_addBook 62 = .ok (.iastore, 1) := by decide +kernel
theorem dX12_addBook_63 : decode cX12_addBook 63 = .ok (.aload_n 0, 1) := by decide +kernel
theorem dX12_addBook_64 : decode cX12_addBook 64 = .ok (.getfield 13, 3) := by decide +kernel
theorem dX12_addBook_67 : decode cX12_addBook 67 = .ok (.iconst 0, 1) := by decide +kernel
theorem dX12_addBook_68 : decode cX12_addBook 68 = .ok (.dup2, 1) := by decide +kernel
theorem dX12_addBook_69 : decode cX12_addBook 69 = .ok (.iaload, 1) := by decide +kernel
theorem dX12_addBook_70 : decode cX12_addBook 70 = .ok (.iconst 1, 1) := by decide +kernel
theorem dX12_addBook_71 : decode cX12_addBook 71 = .ok (.iadd, 1) := by decide +kernel
theorem dX12_addBook_72 : decode cX12_addBook 72 = .ok (.iastore, 1) := by decide +kernel
theorem dX12_addBook_73 : decode cX12_addBook 73 = .ok (.return_, 1) := by decide +kernel
set_option maxHeartbeats 4000000 in
set_option maxRecDepth 100000 in
theorem c_X12_addBook (l : Launch) (D : va_G) (K : Nat → ClassId) (ad : Nat → Nat) (rest : va_W) (a1 : Int32) (a2 : Int32) (a3 : Int32) (a4 : Int32) (a5 : Int32) (σ : xS) (z : Unit × xS) (hF : F_X12_addBook a1 a2 a3 a4 a5 σ = some z) : CV l D K yX12_addBook cX12_addBook 7 none 0 0 [.ref (ad 0), .int a1, .int a2, .int a3, .int a4, .int a5] (RW K ad rest σ) (RW K ad rest z.2) := by
  refine x_enterV [(0, .ref (ad 0)), (1, .int a1), (2, .int a2), (3, .int a3), (4, .int a4), (5, .int a5)] pnX12 (Nat.le_of_ble_eq_true rfl) rfl ?_
  intro p e s m args below meth c A C
  unfold F_X12_addBook at hF
  refine x_bipush C 13 dX12_addBook_0 (by decide +kernel) ?_
  refine x_iconst C 5 dX12_addBook_2 (by decide +kernel) ?_
  refine x_aload_n C 0 0 dX12_addBook_3 rfl rfl ?_
  refine x_get C 0 dX12_addBook_4 fl_X12_13 (RW_o K ad rest σ) rfl ?_
  refine x_iconst C 0 dX12_addBook_7 (by decide +kernel) ?_
  refine x_iald C 2 dX12_addBook_8 (RW_a3 K ad rest σ) hF (fun v1 hF => ?_)
  refine x_imul C dX12_addBook_9 ?_
  refine x_iadd C dX12_addBook_10 ?_
  refine x_topI hF (fun x2 hF => ?_)
  refine x_istore C [(6, .int x2), (0, .ref (ad 0)), (1, .int a1), (2, .int a2), (3, .int a3), (4, .int a4), (5, .int a5)] dX12_addBook_11 (by decide) rfl ?_
  refine x_aload_n C 1 0 dX12_addBook_13 rfl rfl ?_
  refine x_get C 0 dX12_addBook_14 fl_X12_13 (RW_o K ad rest σ) rfl ?_
  refine x_iload C 0 6 dX12_addBook_17 rfl ?_
  refine x_iload_n C 2 1 dX12_addBook_19 rfl rfl ?_
  refine x_iast C 2 dX12_addBook_20 (RW_a3 K ad rest σ) hF (RW_s3 K ad rest σ _) (fun hF => ?_)
  refine x_st (wf := RW K ad rest) hF (fun σ3 hF => ?_)
  refine x_aload_n C 1 0 dX12_addBook_21 rfl rfl ?_
  refine x_get C 0 dX12_addBook_22 fl_X12_13 (RW_o K ad rest σ3) rfl ?_
  refine x_iload C 0 6 dX12_addBook_25 rfl ?_
  refine x_iconst C 1 dX12_addBook_27 (by decide +kernel) ?_
  refine x_iadd C dX12_addBook_28 ?_
  refine x_iload_n C 3 2 dX12_addBook_29 rfl rfl ?_
  refine x_iast C 2 dX12_addBook_30 (RW_a3 K ad rest σ3) hF (RW_s3 K ad rest σ3 _) (fun hF => ?_)
  refine x_st (wf := RW K ad rest) hF (fun σ4 hF => ?_)
  refine x_aload_n C 1 0 dX12_addBook_31 rfl rfl ?_
  refine x_get C 0 dX12_addBook_32 fl_X12_13 (RW_o K ad rest σ4) rfl ?_
  refine x_iload C 0 6 dX12_addBook_35 rfl ?_
  refine x_iconst C 2 dX12_addBook_37 (by decide +kernel) ?_
  refine x_iadd C dX12_addBook_38 ?_
  refine x_iload_n C 4 3 dX12_addBook_39 rfl rfl ?_
  refine x_iast C 2 dX12_addBook_40 (RW_a3 K ad rest σ4) hF (RW_s3 K ad rest σ4 _) (fun hF => ?_)
  refine x_st (wf := RW K ad rest) hF (fun σ5 hF => ?_)
  refine x_aload_n C 1 0 dX12_addBook_41 rfl rfl ?_
  refine x_get C 0 dX12_addBook_42 fl_X12_13 (RW_o K ad rest σ5) rfl ?_
  refine x_iload C 0 6 dX12_addBook_45 rfl ?_
  refine x_iconst C 3 dX12_addBook_47 (by decide +kernel) ?_
  refine x_iadd C dX12_addBook_48 ?_
  refine x_iload C 5 4 dX12_addBook_49 rfl ?_
  refine x_iast C 2 dX12_addBook_51 (RW_a3 K ad rest σ5) hF (RW_s3 K ad rest σ5 _) (fun hF => ?_)
  refine x_st (wf := RW K ad rest) hF (fun σ6 hF => ?_)
  refine x_aload_n C 1 0 dX12_addBook_52 rfl rfl ?_
  refine x_get C 0 dX12_addBook_53 fl_X12_13 (RW_o K ad rest σ6) rfl ?_
  refine x_iload C 0 6 dX12_addBook_56 rfl ?_
  refine x_iconst C 4 dX12_addBook_58 (by decide +kernel) ?_
  refine x_iadd C dX12_addBook_59 ?_
  refine x_iload C 6 5 dX12_addBook_60 rfl ?_
  refine x_iast C 2 dX12_addBook_62 (RW_a3 K ad rest σ6) hF (RW_s3 K ad rest σ6 _) (fun hF => ?_)
  refine x_st (wf := RW K ad rest) hF (fun σ7 hF => ?_)
  refine x_aload_n C 1 0 dX12_addBook_63 rfl rfl ?_
  refine x_get C 0 dX12_addBook_64 fl_X12_13 (RW_o K ad rest σ7) rfl ?_
  refine x_iconst C 0 dX12_addBook_67 (by decide +kernel) ?_
  refine x_dup2 C rfl rfl dX12_addBook_68 ?_
  refine x_iald C 2 dX12_addBook_69 (RW_a3 K ad rest σ7) hF (fun v8 hF => ?_)
  refine x_iconst C 1 dX12_addBook_70 (by decide +kernel) ?_
  refine x_iadd C dX12_addBook_71 ?_
  refine x_iast C 2 dX12_addBook_72 (RW_a3 K ad rest σ7) hF (RW_s3 K ad rest σ7 _) (fun hF => ?_)
  refine x_st (wf := RW K ad rest) hF (fun σ9 hF => ?_)
  exact x_vret C dX12_addBook_73 rfl (congrArg (fun q9 : Unit × xS => RW K ad rest q9.2) (Option.some.inj hF))
theorem dX12_book_0 : decode cX12_book 0 = .ok (.aload_n 0, 1) := by decide +kernel
theorem dX12_book_1 : decode cX12_book 1 = .ok (.iconst 0, 1) := by decide +kernel
theorem dX12_book_2 : decode cX12_book 2 = .ok (.putfield 107, 3) := by decide +kernel
theorem dX12_book_5 : decode cX12_book 5 = .ok (.iconst 0, 1) := by decide +kernel
theorem dX12_book_6 : decode cX12_book 6 = .ok (.iload_n 1, 1) := by decide +kernel
theorem dX12_book_7 : decode cX12_book 7 = .ok (.invokestatic 132, 3) := by decide +kernel
theorem dX12_book_10 : decode cX12_book 10 = .ok (.ifCond .eq 37, 3) := by decide +kernel
theorem dX12_book_13 : decode cX12_book 13 = .ok (.iconst 1, 1) := by decide +kernel
theorem dX12_book_14 : decode cX12_book 14 = .ok (.iload_n 2, 1) := by decide +kernel
theorem dX12_book_15 : decode cX12_book 15 = .ok (.invokestatic 132, 3) := by decide +kernel
theorem dX12_book_18 : decode cX12_book 18 = .ok (.ifCond .eq 29, 3) := by decide +kernel
theorem dX12_book_21 : decode cX12_book 21 = .ok (.iconst 2, 1) := by decide +kernel
theorem dX12_book_22 : decode cX12_book 22 = .ok (.iload_n 3, 1) := by decide +kernel
theorem dX12_book_23 : decode cX12_book 23 = .ok (.invokestatic 132, 3) := by decide +kernel
theorem dX12_book_26 : decode cX12_book 26 = .ok (.ifCond .eq 21, 3) := by decide +kernel
theorem dX12_book_29 : decode cX12_book 29 = .ok (.iconst 3, 1) := by decide +kernel
theorem dX12_book_30 : decode cX12_book 30 = .ok (.iload 4, 2) := by decide +kernel
theorem dX12_book_32 : decode cX12_book 32 = .ok (.invokestatic 132, 3) := by decide +kernel
theorem dX12_book_35 : decode cX12_book 35 = .ok (.ifCond .eq 12, 3) := by decide +kernel
theorem dX12_book_38 : decode cX12_book 38 = .ok (.iconst 4, 1) := by decide +kernel
theorem dX12_book_39 : decode cX12_book 39 = .ok (.iload 5, 2) := by decide +kernel
theorem dX12_book_41 : decode cX12_book 41 = .ok (.invokestatic 132, 3) := by decide +kernel
theorem dX12_book_44 : decode cX12_book 44 = .ok (.ifCond .ne 9, 3) := by decide +kernel
theorem dX12_book_47 : decode cX12_book 47 = .ok (.aload_n 0, 1) := by decide +kernel
theorem dX12_book_48 : decode cX12_book 48 = .ok (.iconst (-1), 1) := by decide +kernel
theorem dX12_book_49 : decode cX12_book 49 = .ok (.invokevirtual 121, 3) := by decide +kernel
theorem dX12_book_52 : decode cX12_book 52 = .ok (.ireturn, 1) := by decide +kernel
theorem dX12_book_53 : decode cX12_book 53 = .ok (.aload_n 0, 1) := by decide +kernel
theorem dX12_book_54 : decode cX12_book 54 = .ok (.getfield 13, 3) := by decide +kernel
theorem dX12_book_57 : decode cX12_book 57 = .ok (.iconst 0, 1) := by decide +kernel
theorem dX12_book_58 : decode cX12_book 58 = .ok (.iaload, 1) := by decide +kernel
theorem dX12_book_59 : decode cX12_book 59 = .ok (.bipush 10, 2) := by decide +kernel
theorem dX12_book_61 : decode cX12_book 61 = .ok (.if_icmp .ne 10, 3) := by decide +kernel
theorem dX12_book_64 : decode cX12_book 64 = .ok (.aload_n 0, 1) := by decide +kernel
theorem dX12_book_65 : decode cX12_book 65 = .ok (.bipush (-5), 2) := by decide +kernel
theorem dX12_book_67 : decode cX12_book 67 = .ok (.invokevirtual 121, 3) := by decide +kernel
theorem dX12_book_70 : decode cX12_book 70 = .ok (.ireturn, 1) := by decide +kernel
theorem dX12_book_71 : decode cX12_book 71 = .ok (.aload_n 0, 1) := by decide +kernel
theorem dX12_book_72 : decode cX12_book 72 = .ok (.iload_n 1, 1) := by decide +kernel
theorem dX12_book_73 : decode cX12_book 73 = .ok (.iload_n 2, 1) := by decide +kernel
theorem dX12_book_74 : decode cX12_book 74 = .ok (.iload_n 3, 1) := by decide +kernel
theorem dX12_book_75 : decode cX12_book 75 = .ok (.iload 4, 2) := by decide +kernel
theorem dX12_book_77 : decode cX12_book 77 = .ok (.iload 5, 2) := by decide +kernel
theorem dX12_book_79 : decode cX12_book 79 = .ok (.invokevirtual 136, 3) := by decide +kernel
theorem dX12_book_82 : decode cX12_book 82 = .ok (.aload_n 0, 1) := by decide +kernel
theorem dX12_book_83 : decode cX12_book 83 = .ok (.aload_n 0, 1) := by decide +kernel
theorem dX12_book_84 : decode cX12_book 84 = .ok (.getfield 13, 3) := by decide +kernel
theorem dX12_book_87 : decode cX12_book 87 = .ok (.iconst 0, 1) := by decide +kernel
theorem dX12_book_88 : decode cX12_book 88 = .ok (.iaload, 1) := by decide +kernel
theorem dX12_book_89 : decode cX12_book 89 = .ok (.iconst 1, 1) := by decide +kernel
theorem dX12_book_90 : decode cX12_book 90 = .ok (.isub, 1) := by decide +kernel
theorem dX12_book_91 : decode cX12_book 91 = .ok (.invokevirtual 121, 3) := by decide +kernel
theorem dX12_book_94 : decode cX12_book 94 = .ok (.ireturn, 1) := by decide +kernel
set_option maxHeartbeats 4000000 in
set_option maxRecDepth 100000 in
theorem x_X12_book_47 {p : Program} {l : Launch} {e : Env} {s : State} {m : MethodId} {args : Array Value} {below : List Frame} {meth : Method} {c : Code} {D : va_G} {K : Nat → ClassId} {A : Nat → Prop} {ad : Nat → Nat} {rest : va_W} (C : xC p s m args meth c D K A RX12 cX12_book 6 (some .int)) (z : Int32 × xS) : ∀  (σ : xS), F_X12_book_47  σ = some z → X p l e (xR 2 46) s m args below meth c D A 6 (xQi below D K A args s z.1 (RW K ad rest z.2)) 0 0 47 [(0, .ref (ad 0))] [] (RW K ad rest σ) := by
  intro σ hF
  unfold F_X12_book_47 at hF
  refine x_aload_n C 0 0 dX12_book_47 rfl rfl ?_
  refine x_iconst C (-1) dX12_book_48 (by decide +kernel) ?_
  refine x_callVI C (wf := RW K ad rest) (As := [.int ((-1))]) (rest := []) dX12_book_49 ml_X12_121 rfl rfl (Nat.le_of_ble_eq_true rfl) 0 (RW_o K ad rest σ) rfl ⟨Nat.le_of_ble_eq_true rfl, Nat.le_of_ble_eq_true rfl⟩ ⟨Nat.zero_le _, Nat.zero_le _⟩ (fun q9 hq9 => c_X12_tell l D K ad rest ((-1)) σ q9 hq9) hF (fun v20 σ19 hF => ?_)
  exact x_iret C dX12_book_52 rfl (congrArg Prod.fst (Option.some.inj hF)) (congrArg (fun q9 : Int32 × xS => RW K ad rest q9.2) (Option.some.inj hF))
set_option maxHeartbeats 4000000 in
set_option maxRecDepth 100000 in
theorem c_X12_book (l : Launch) (D : va_G) (K : Nat → ClassId) (ad : Nat → Nat) (rest : va_W) (a1 : Int32) (a2 : Int32) (a3 : Int32) (a4 : Int32) (a5 : Int32) (σ : xS) (z : Int32 × xS) (hF : F_X12_book a1 a2 a3 a4 a5 σ = some z) : CI l D K yX12_book cX12_book 6 (some .int) 2 46 [.ref (ad 0), .int a1, .int a2, .int a3, .int a4, .int a5] (RW K ad rest σ) z.1 (RW K ad rest z.2) := by
  refine x_enterI [(0, .ref (ad 0)), (1, .int a1), (2, .int a2), (3, .int a3), (4, .int a4), (5, .int a5)] pnX12 (Nat.le_of_ble_eq_true rfl) rfl ?_
  intro p e s m args below meth c A C
  unfold F_X12_book at hF
  refine x_aload_n C 0 0 dX12_book_0 rfl rfl ?_
  refine x_iconst C 0 dX12_book_1 (by decide +kernel) ?_
  refine x_put C 0 dX12_book_2 fl_X12_107 fm_X12_0 rfl rfl (RW_o K ad rest σ) (Nat.le_of_ble_eq_true rfl) (RW_s0 K ad rest σ _) ?_
  refine x_st (wf := RW K ad rest) hF (fun σ1 hF => ?_)
  refine x_iconst C 0 dX12_book_5 (by decide +kernel) ?_
  refine x_iload_n C 1 1 dX12_book_6 rfl rfl ?_
  refine x_callSI C (wf := RW K ad rest) (As := [.int 0, .int a1]) (rest := []) dX12_book_7 ml_X12_132 rfl rfl (Nat.le_of_ble_eq_true rfl) ⟨Nat.le_of_ble_eq_true rfl, Nat.le_of_ble_eq_true rfl⟩ ⟨Nat.zero_le _, Nat.zero_le _⟩ (fun q9 hq9 => c_X12_fits l D K ad rest 0 a1 σ1 q9 hq9) hF (fun v3 σ2 hF => ?_)
  refine x_if_eq C 47 dX12_book_10 (by decide) hF (fun hF => ?_) (fun hF => ?_)
  · refine x_loc [(0, .ref (ad 0))] [0] rfl ?_
    exact x_X12_book_47 C z σ2 hF
  · refine x_iconst C 1 dX12_book_13 (by decide +kernel) ?_
    refine x_iload_n C 2 2 dX12_book_14 rfl rfl ?_
    refine x_callSI C (wf := RW K ad rest) (As := [.int 1, .int a2]) (rest := []) dX12_book_15 ml_X12_132 rfl rfl (Nat.le_of_ble_eq_true rfl) ⟨Nat.le_of_ble_eq_true rfl, Nat.le_of_ble_eq_true rfl⟩ ⟨Nat.zero_le _, Nat.zero_le _⟩ (fun q9 hq9 => c_X12_fits l D K ad rest 1 a2 σ2 q9 hq9) hF (fun v5 σ4 hF => ?_)
    refine x_if_eq C 47 dX12_book_18 (by decide) hF (fun hF => ?_) (fun hF => ?_)
    · refine x_loc [(0, .ref (ad 0))] [0] rfl ?_
      exact x_X12_book_47 C z σ4 hF
    · refine x_iconst C 2 dX12_book_21 (by decide +kernel) ?_
      refine x_iload_n C 3 3 dX12_book_22 rfl rfl ?_
      refine x_callSI C (wf := RW K ad rest) (As := [.int 2, .int a3]) (rest := []) dX12_book_23 ml_X12_132 rfl rfl (Nat.le_of_ble_eq_true rfl) ⟨Nat.le_of_ble_eq_true rfl, Nat.le_of_ble_eq_true rfl⟩ ⟨Nat.zero_le _, Nat.zero_le _⟩ (fun q9 hq9 => c_X12_fits l D K ad rest 2 a3 σ4 q9 hq9) hF (fun v7 σ6 hF => ?_)
      refine x_if_eq C 47 dX12_book_26 (by decide) hF (fun hF => ?_) (fun hF => ?_)
      · refine x_loc [(0, .ref (ad 0))] [0] rfl ?_
        exact x_X12_book_47 C z σ6 hF
      · refine x_iconst C 3 dX12_book_29 (by decide +kernel) ?_
        refine x_iload C 4 4 dX12_book_30 rfl ?_
        refine x_callSI C (wf := RW K ad rest) (As := [.int 3, .int a4]) (rest := []) dX12_book_32 ml_X12_132 rfl rfl (Nat.le_of_ble_eq_true rfl) ⟨Nat.le_of_ble_eq_true rfl, Nat.le_of_ble_eq_true rfl⟩ ⟨Nat.zero_le _, Nat.zero_le _⟩ (fun q9 hq9 => c_X12_fits l D K ad rest 3 a4 σ6 q9 hq9) hF (fun v9 σ8 hF => ?_)
        refine x_if_eq C 47 dX12_book_35 (by decide) hF (fun hF => ?_) (fun hF => ?_)
        · refine x_loc [(0, .ref (ad 0))] [0] rfl ?_
          exact x_X12_book_47 C z σ8 hF
        · refine x_iconst C 4 dX12_book_38 (by decide +kernel) ?_
          refine x_iload C 5 5 dX12_book_39 rfl ?_
          refine x_callSI C (wf := RW K ad rest) (As := [.int 4, .int a5]) (rest := []) dX12_book_41 ml_X12_132 rfl rfl (Nat.le_of_ble_eq_true rfl) ⟨Nat.le_of_ble_eq_true rfl, Nat.le_of_ble_eq_true rfl⟩ ⟨Nat.zero_le _, Nat.zero_le _⟩ (fun q9 hq9 => c_X12_fits l D K ad rest 4 a5 σ8 q9 hq9) hF (fun v11 σ10 hF => ?_)
          refine x_if_ne C 53 dX12_book_44 (by decide) hF (fun hF => ?_) (fun hF => ?_)
          · refine x_aload_n C 0 0 dX12_book_53 rfl rfl ?_
            refine x_get C 0 dX12_book_54 fl_X12_13 (RW_o K ad rest σ10) rfl ?_
            refine x_iconst C 0 dX12_book_57 (by decide +kernel) ?_
            refine x_iald C 2 dX12_book_58 (RW_a3 K ad rest σ10) hF (fun v12 hF => ?_)
            refine x_bipush C 10 dX12_book_59 (by decide +kernel) ?_
            refine x_icmp_ne C 71 dX12_book_61 (by decide) hF (fun hF => ?_) (fun hF => ?_)
            · refine x_aload_n C 0 0 dX12_book_71 rfl rfl ?_
              refine x_iload_n C 1 1 dX12_book_72 rfl rfl ?_
              refine x_iload_n C 2 2 dX12_book_73 rfl rfl ?_
              refine x_iload_n C 3 3 dX12_book_74 rfl rfl ?_
              refine x_iload C 4 4 dX12_book_75 rfl ?_
              refine x_iload C 5 5 dX12_book_77 rfl ?_
              refine x_callVV C (wf := RW K ad rest) (As := [.int a1, .int a2, .int a3, .int a4, .int a5]) (rest := []) dX12_book_79 ml_X12_136 rfl rfl (Nat.le_of_ble_eq_true rfl) 0 (RW_o K ad rest σ10) rfl ⟨Nat.le_of_ble_eq_true rfl, Nat.le_of_ble_eq_true rfl⟩ ⟨Nat.zero_le _, Nat.zero_le _⟩ (fun q9 hq9 => c_X12_addBook l D K ad rest a1 a2 a3 a4 a5 σ10 q9 hq9) hF (fun _ σ13 hF => ?_)
              refine x_aload_n C 0 0 dX12_book_82 rfl rfl ?_
              refine x_aload_n C 0 0 dX12_book_83 rfl rfl ?_
              refine x_get C 0 dX12_book_84 fl_X12_13 (RW_o K ad rest σ13) rfl ?_
              refine x_iconst C 0 dX12_book_87 (by decide +kernel) ?_
              refine x_iald C 2 dX12_book_88 (RW_a3 K ad rest σ13) hF (fun v14 hF => ?_)
              refine x_iconst C 1 dX12_book_89 (by decide +kernel) ?_
              refine x_isub C dX12_book_90 ?_
              refine x_callVI C (wf := RW K ad rest) (As := [.int (v14 - 1)]) (rest := []) dX12_book_91 ml_X12_121 rfl rfl (Nat.le_of_ble_eq_true rfl) 0 (RW_o K ad rest σ13) rfl ⟨Nat.le_of_ble_eq_true rfl, Nat.le_of_ble_eq_true rfl⟩ ⟨Nat.zero_le _, Nat.zero_le _⟩ (fun q9 hq9 => c_X12_tell l D K ad rest (v14 - 1) σ13 q9 hq9) hF (fun v16 σ15 hF => ?_)
              exact x_iret C dX12_book_94 rfl (congrArg Prod.fst (Option.some.inj hF)) (congrArg (fun q9 : Int32 × xS => RW K ad rest q9.2) (Option.some.inj hF))
            · refine x_aload_n C 0 0 dX12_book_64 rfl rfl ?_
              refine x_bipush C (-5) dX12_book_65 (by decide +kernel) ?_
              refine x_callVI C (wf := RW K ad rest) (As := [.int ((-5))]) (rest := []) dX12_book_67 ml_X12_121 rfl rfl (Nat.le_of_ble_eq_true rfl) 0 (RW_o K ad rest σ10) rfl ⟨Nat.le_of_ble_eq_true rfl, Nat.le_of_ble_eq_true rfl⟩ ⟨Nat.zero_le _, Nat.zero_le _⟩ (fun q9 hq9 => c_X12_tell l D K ad rest ((-5)) σ10 q9 hq9) hF (fun v18 σ17 hF => ?_)
              exact x_iret C dX12_book_70 rfl (congrArg Prod.fst (Option.some.inj hF)) (congrArg (fun q9 : Int32 × xS => RW K ad rest q9.2) (Option.some.inj hF))
          · refine x_loc [(0, .ref (ad 0))] [0] rfl ?_
            exact x_X12_book_47 C z σ10 hF
theorem dX12_put_0 : decode cX12_put 0 = .ok (.aload_n 0, 1) := by decide +kernel
theorem dX12_put_1 : decode cX12_put 1 = .ok (.iconst 0, 1) := by decide +kernel
theorem dX12_put_2 : decode cX12_put 2 = .ok (.putfield 107, 3) := by decide +kernel
theorem dX12_put_5 : decode cX12_put 5 = .ok (.iload_n 2, 1) := by decide +kernel
theorem dX12_put_6 : decode cX12_put 6 = .ok (.iload_n 3, 1) := by decide +kernel
theorem dX12_put_7 : decode cX12_put 7 = .ok (.invokestatic 132, 3) := by decide +kernel
theorem dX12_put_10 : decode cX12_put 10 = .ok (.ifCond .ne 9, 3) := by decide +kernel
theorem dX12_put_13 : decode cX12_put 13 = .ok (.aload_n 0, 1) := by decide +kernel
theorem dX12_put_14 : decode cX12_put 14 = .ok (.iconst (-1), 1) := by decide +kernel
theorem dX12_put_15 : decode cX12_put 15 = .ok (.invokevirtual 121, 3) := by decide +kernel
theorem dX12_put_18 : decode cX12_put 18 = .ok (.ireturn, 1) := by decide +kernel
theorem dX12_put_19 : decode cX12_put 19 = .ok (.aload_n 0, 1) := by decide +kernel
theorem dX12_put_20 : decode cX12_put 20 = .ok (.iload_n 1, 1) := by decide +kernel
theorem dX12_put_21 : decode cX12_put 21 = .ok (.invokevirtual 140, 3) := by decide +kernel
theorem dX12_put_24 : decode cX12_put 24 = .ok (.ifCond .eq 19, 3) := by decide +kernel
theorem dX12_put_27 : decode cX12_put 27 = .ok (.aload_n 0, 1) := by decide +kernel
theorem dX12_put_28 : decode cX12_put 28 = .ok (.bipush 13, 2) := by decide +kernel
theorem dX12_put_30 : decode cX12_put 30 = .ok (.iconst 5, 1) := by decide +kernel
theorem dX12_put_31 : decode cX12_put 31 = .ok (.iload_n 1, 1) := by decide +kernel
theorem dX12_put_32 : decode cX12_put 32 = .ok (.imul, 1) := by decide +kernel
theorem dX12_put_33 : decode cX12_put 33 = .ok (.iadd, 1) := by decide +kernel
theorem dX12_put_34 : decode cX12_put 34 = .ok (.iload_n 2, 1) := by decide +kernel
theorem dX12_put_35 : decode cX12_put 35 = .ok (.iadd, 1) := by decide +kernel
theorem dX12_put_36 : decode cX12_put 36 = .ok (.iload_n 3, 1) := by decide +kernel
theorem dX12_put_37 : decode cX12_put 37 = .ok (.invokevirtual 144, 3) := by decide +kernel
theorem dX12_put_40 : decode cX12_put 40 = .ok (.goto 9, 3) := by decide +kernel
theorem dX12_put_43 : decode cX12_put 43 = .ok (.aload_n 0, 1) := by decide +kernel
theorem dX12_put_44 : decode cX12_put 44 = .ok (.bipush (-2), 2) := by decide +kernel
theorem dX12_put_46 : decode cX12_put 46 = .ok (.invokevirtual 121, 3) := by decide +kernel
theorem dX12_put_49 : decode cX12_put 49 = .ok (.ireturn, 1) := by decide +kernel
set_option maxHeartbeats 4000000 in
set_option maxRecDepth 100000 in
theorem c_X12_put (l : Launch) (D : va_G) (K : Nat → ClassId) (ad : Nat → Nat) (rest : va_W) (a1 : Int32) (a2 : Int32) (a3 : Int32) (σ : xS) (z : Int32 × xS) (hF : F_X12_put a1 a2 a3 σ = some z) : CI l D K yX12_put cX12_put 4 (some .int) 2 46 [.ref (ad 0), .int a1, .int a2, .int a3] (RW K ad rest σ) z.1 (RW K ad rest z.2) := by
  refine x_enterI [(0, .ref (ad 0)), (1, .int a1), (2, .int a2), (3, .int a3)] pnX12 (Nat.le_of_ble_eq_true rfl) rfl ?_
  intro p e s m args below meth c A C
  unfold F_X12_put at hF
  refine x_aload_n C 0 0 dX12_put_0 rfl rfl ?_
  refine x_iconst C 0 dX12_put_1 (by decide +kernel) ?_
  refine x_put C 0 dX12_put_2 fl_X12_107 fm_X12_0 rfl rfl (RW_o K ad rest σ) (Nat.le_of_ble_eq_true rfl) (RW_s0 K ad rest σ _) ?_
  refine x_st (wf := RW K ad rest) hF (fun σ1 hF => ?_)
  refine x_iload_n C 2 2 dX12_put_5 rfl rfl ?_
  refine x_iload_n C 3 3 dX12_put_6 rfl rfl ?_
  refine x_callSI C (wf := RW K ad rest) (As := [.int a2, .int a3]) (rest := []) dX12_put_7 ml_X12_132 rfl rfl (Nat.le_of_ble_eq_true rfl) ⟨Nat.le_of_ble_eq_true rfl, Nat.le_of_ble_eq_true rfl⟩ ⟨Nat.zero_le _, Nat.zero_le _⟩ (fun q9 hq9 => c_X12_fits l D K ad rest a2 a3 σ1 q9 hq9) hF (fun v3 σ2 hF => ?_)
  refine x_if_ne C 19 dX12_put_10 (by decide) hF (fun hF => ?_) (fun hF => ?_)
  · refine x_aload_n C 0 0 dX12_put_19 rfl rfl ?_
    refine x_iload_n C 1 1 dX12_put_20 rfl rfl ?_
    refine x_callVI C (wf := RW K ad rest) (As := [.int a1]) (rest := []) dX12_put_21 ml_X12_140 rfl rfl (Nat.le_of_ble_eq_true rfl) 0 (RW_o K ad rest σ2) rfl ⟨Nat.le_of_ble_eq_true rfl, Nat.le_of_ble_eq_true rfl⟩ ⟨Nat.zero_le _, Nat.zero_le _⟩ (fun q9 hq9 => c_X12_isBook l D K ad rest a1 σ2 q9 hq9) hF (fun v5 σ4 hF => ?_)
    refine x_if_eq C 43 dX12_put_24 (by decide) hF (fun hF => ?_) (fun hF => ?_)
    · refine x_aload_n C 0 0 dX12_put_43 rfl rfl ?_
      refine x_bipush C (-2) dX12_put_44 (by decide +kernel) ?_
      refine x_callVI C (wf := RW K ad rest) (As := [.int ((-2))]) (rest := []) dX12_put_46 ml_X12_121 rfl rfl (Nat.le_of_ble_eq_true rfl) 0 (RW_o K ad rest σ4) rfl ⟨Nat.le_of_ble_eq_true rfl, Nat.le_of_ble_eq_true rfl⟩ ⟨Nat.zero_le _, Nat.zero_le _⟩ (fun q9 hq9 => c_X12_tell l D K ad rest ((-2)) σ4 q9 hq9) hF (fun v7 σ6 hF => ?_)
      exact x_iret C dX12_put_49 rfl (congrArg Prod.fst (Option.some.inj hF)) (congrArg (fun q9 : Int32 × xS => RW K ad rest q9.2) (Option.some.inj hF))
    · refine x_aload_n C 0 0 dX12_put_27 rfl rfl ?_
      refine x_bipush C 13 dX12_put_28 (by decide +kernel) ?_
      refine x_iconst C 5 dX12_put_30 (by decide +kernel) ?_
      refine x_iload_n C 1 1 dX12_put_31 rfl rfl ?_
      refine x_imul C dX12_put_32 ?_
      refine x_iadd C dX12_put_33 ?_
      refine x_iload_n C 2 2 dX12_put_34 rfl rfl ?_
      refine x_iadd C dX12_put_35 ?_
      refine x_iload_n C 3 3 dX12_put_36 rfl rfl ?_
      refine x_callVI C (wf := RW K ad rest) (As := [.int ((13 + (5 * a1)) + a2), .int a3]) (rest := []) dX12_put_37 ml_X12_144 rfl rfl (Nat.le_of_ble_eq_true rfl) 0 (RW_o K ad rest σ4) rfl ⟨Nat.le_of_ble_eq_true rfl, Nat.le_of_ble_eq_true rfl⟩ ⟨Nat.zero_le _, Nat.zero_le _⟩ (fun q9 hq9 => c_X12_change l D K ad rest ((13 + (5 * a1)) + a2) a3 σ4 q9 hq9) hF (fun v9 σ8 hF => ?_)
      refine x_goto C 49 dX12_put_40 (by decide) ?_
      exact x_iret C dX12_put_49 rfl (congrArg Prod.fst (Option.some.inj hF)) (congrArg (fun q9 : Int32 × xS => RW K ad rest q9.2) (Option.some.inj hF))
  · refine x_aload_n C 0 0 dX12_put_13 rfl rfl ?_
    refine x_iconst C (-1) dX12_put_14 (by decide +kernel) ?_
    refine x_callVI C (wf := RW K ad rest) (As := [.int ((-1))]) (rest := []) dX12_put_15 ml_X12_121 rfl rfl (Nat.le_of_ble_eq_true rfl) 0 (RW_o K ad rest σ2) rfl ⟨Nat.le_of_ble_eq_true rfl, Nat.le_of_ble_eq_true rfl⟩ ⟨Nat.zero_le _, Nat.zero_le _⟩ (fun q9 hq9 => c_X12_tell l D K ad rest ((-1)) σ2 q9 hq9) hF (fun v11 σ10 hF => ?_)
    exact x_iret C dX12_put_18 rfl (congrArg Prod.fst (Option.some.inj hF)) (congrArg (fun q9 : Int32 × xS => RW K ad rest q9.2) (Option.some.inj hF))
theorem dX12_of_0 : decode cX12_of 0 = .ok (.aload_n 0, 1) := by decide +kernel
theorem dX12_of_1 : decode cX12_of 1 = .ok (.iconst 0, 1) := by decide +kernel
theorem dX12_of_2 : decode cX12_of 2 = .ok (.putfield 107, 3) := by decide +kernel
theorem dX12_of_5 : decode cX12_of 5 = .ok (.aload_n 0, 1) := by decide +kernel
theorem dX12_of_6 : decode cX12_of 6 = .ok (.iload_n 1, 1) := by decide +kernel
theorem dX12_of_7 : decode cX12_of 7 = .ok (.invokevirtual 140, 3) := by decide +kernel
theorem dX12_of_10 : decode cX12_of 10 = .ok (.ifCond .eq 24, 3) := by decide +kernel
theorem dX12_of_13 : decode cX12_of 13 = .ok (.iload_n 2, 1) := by decide +kernel
theorem dX12_of_14 : decode cX12_of 14 = .ok (.i2l, 1) := by decide +kernel
theorem dX12_of_15 : decode cX12_of 15 = .ok (.lconst 0, 1) := by decide +kernel
theorem dX12_of_16 : decode cX12_of 16 = .ok (.ldc2_w 148, 3) := by decide +kernel
theorem dX12_of_19 : decode cX12_of 19 = .ok (.invokestatic 117, 3) := by decide +kernel
theorem dX12_of_22 : decode cX12_of 22 = .ok (.ifCond .eq 12, 3) := by decide +kernel
theorem dX12_of_25 : decode cX12_of 25 = .ok (.aload_n 0, 1) := by decide +kernel
theorem dX12_of_26 : decode cX12_of 26 = .ok (.iload_n 1, 1) := by decide +kernel
theorem dX12_of_27 : decode cX12_of 27 = .ok (.iload_n 2, 1) := by decide +kernel
theorem dX12_of_28 : decode cX12_of 28 = .ok (.invokevirtual 150, 3) := by decide +kernel
theorem dX12_of_31 : decode cX12_of 31 = .ok (.goto 4, 3) := by decide +kernel
theorem dX12_of_34 : decode cX12_of 34 = .ok (.iconst (-1), 1) := by decide +kernel
theorem dX12_of_35 : decode cX12_of 35 = .ok (.ireturn, 1) := by decide +kernel
set_option maxHeartbeats 4000000 in
set_option maxRecDepth 100000 in
theorem c_X12_of (l : Launch) (D : va_G) (K : Nat → ClassId) (ad : Nat → Nat) (rest : va_W) (a1 : Int32) (a2 : Int32) (σ : xS) (z : Int32 × xS) (hF : F_X12_of a1 a2 σ = some z) : CI l D K yX12_of cX12_of 3 (some .int) 2 46 [.ref (ad 0), .int a1, .int a2] (RW K ad rest σ) z.1 (RW K ad rest z.2) := by
  refine x_enterI [(0, .ref (ad 0)), (1, .int a1), (2, .int a2)] pnX12 (Nat.le_of_ble_eq_true rfl) rfl ?_
  intro p e s m args below meth c A C
  unfold F_X12_of at hF
  refine x_aload_n C 0 0 dX12_of_0 rfl rfl ?_
  refine x_iconst C 0 dX12_of_1 (by decide +kernel) ?_
  refine x_put C 0 dX12_of_2 fl_X12_107 fm_X12_0 rfl rfl (RW_o K ad rest σ) (Nat.le_of_ble_eq_true rfl) (RW_s0 K ad rest σ _) ?_
  refine x_st (wf := RW K ad rest) hF (fun σ1 hF => ?_)
  refine x_aload_n C 0 0 dX12_of_5 rfl rfl ?_
  refine x_iload_n C 1 1 dX12_of_6 rfl rfl ?_
  refine x_callVI C (wf := RW K ad rest) (As := [.int a1]) (rest := []) dX12_of_7 ml_X12_140 rfl rfl (Nat.le_of_ble_eq_true rfl) 0 (RW_o K ad rest σ1) rfl ⟨Nat.le_of_ble_eq_true rfl, Nat.le_of_ble_eq_true rfl⟩ ⟨Nat.zero_le _, Nat.zero_le _⟩ (fun q9 hq9 => c_X12_isBook l D K ad rest a1 σ1 q9 hq9) hF (fun v3 σ2 hF => ?_)
  refine x_if_eq C 34 dX12_of_10 (by decide) hF (fun hF => ?_) (fun hF => ?_)
  · refine x_iconst C (-1) dX12_of_34 (by decide +kernel) ?_
    exact x_iret C dX12_of_35 rfl (congrArg Prod.fst (Option.some.inj hF)) (congrArg (fun q9 : Int32 × xS => RW K ad rest q9.2) (Option.some.inj hF))
  · refine x_iload_n C 2 2 dX12_of_13 rfl rfl ?_
    refine x_i2l C dX12_of_14 ?_
    refine x_lconst C 0 dX12_of_15 (by decide +kernel) ?_
    refine x_ldc2 C 4 dX12_of_16 cl_X12_148 ?_
    refine x_callSI C (wf := RW K ad rest) (As := [.long (a2.toInt64), .long 0, .long 4]) (rest := []) dX12_of_19 ml_X12_117 rfl rfl (Nat.le_of_ble_eq_true rfl) ⟨Nat.le_of_ble_eq_true rfl, Nat.le_of_ble_eq_true rfl⟩ ⟨Nat.zero_le _, Nat.zero_le _⟩ (fun q9 hq9 => c_X12_in l D K ad rest (a2.toInt64) 0 4 σ2 q9 hq9) hF (fun v5 σ4 hF => ?_)
    refine x_if_eq C 34 dX12_of_22 (by decide) hF (fun hF => ?_) (fun hF => ?_)
    · refine x_iconst C (-1) dX12_of_34 (by decide +kernel) ?_
      exact x_iret C dX12_of_35 rfl (congrArg Prod.fst (Option.some.inj hF)) (congrArg (fun q9 : Int32 × xS => RW K ad rest q9.2) (Option.some.inj hF))
    · refine x_aload_n C 0 0 dX12_of_25 rfl rfl ?_
      refine x_iload_n C 1 1 dX12_of_26 rfl rfl ?_
      refine x_iload_n C 2 2 dX12_of_27 rfl rfl ?_
      refine x_callVI C (wf := RW K ad rest) (As := [.int a1, .int a2]) (rest := []) dX12_of_28 ml_X12_150 rfl rfl (Nat.le_of_ble_eq_true rfl) 0 (RW_o K ad rest σ4) rfl ⟨Nat.le_of_ble_eq_true rfl, Nat.le_of_ble_eq_true rfl⟩ ⟨Nat.zero_le _, Nat.zero_le _⟩ (fun q9 hq9 => c_X12_ofBook l D K ad rest a1 a2 σ4 q9 hq9) hF (fun v7 σ6 hF => ?_)
      refine x_goto C 35 dX12_of_31 (by decide) ?_
      exact x_iret C dX12_of_35 rfl (congrArg Prod.fst (Option.some.inj hF)) (congrArg (fun q9 : Int32 × xS => RW K ad rest q9.2) (Option.some.inj hF))
theorem dX12_out_0 : decode cX12_out 0 = .ok (.iload_n 1, 1) := by decide +kernel
theorem dX12_out_1 : decode cX12_out 1 = .ok (.iload_n 2, 1) := by decide +kernel
theorem dX12_out_2 : decode cX12_out 2 = .ok (.iload_n 3, 1) := by decide +kernel
theorem dX12_out_3 : decode cX12_out 3 = .ok (.imul, 1) := by decide +kernel
theorem dX12_out_4 : decode cX12_out 4 = .ok (.iadd, 1) := by decide +kernel
theorem dX12_out_5 : decode cX12_out 5 = .ok (.istore 5, 2) := by decide +kernel
theorem dX12_out_7 : decode cX12_out 7 = .ok (.iload 5, 2) := by decide +kernel
theorem dX12_out_9 : decode cX12_out 9 = .ok (.iload_n 1, 1) := by decide +kernel
theorem dX12_out_10 : decode cX12_out 10 = .ok (.iload_n 2, 1) := by decide +kernel
theorem dX12_out_11 : decode cX12_out 11 = .ok (.iload 4, 2) := by decide +kernel
theorem dX12_out_13 : decode cX12_out 13 = .ok (.iconst 1, 1) := by decide +kernel
theorem dX12_out_14 : decode cX12_out 14 = .ok (.isub, 1) := by decide +kernel
theorem dX12_out_15 : decode cX12_out 15 = .ok (.imul, 1) := by decide +kernel
theorem dX12_out_16 : decode cX12_out 16 = .ok (.iadd, 1) := by decide +kernel
theorem dX12_out_17 : decode cX12_out 17 = .ok (.if_icmp .ge 25, 3) := by decide +kernel
theorem dX12_out_20 : decode cX12_out 20 = .ok (.aload_n 0, 1) := by decide +kernel
theorem dX12_out_21 : decode cX12_out 21 = .ok (.getfield 13, 3) := by decide +kernel
theorem dX12_out_24 : decode cX12_out 24 = .ok (.iload 5, 2) := by decide +kernel
theorem dX12_out_26 : decode cX12_out 26 = .ok (.aload_n 0, 1) := by decide +kernel
theorem dX12_out_27 : decode cX12_out 27 = .ok (.getfield 13, 3) := by decide +kernel
theorem dX12_out_30 : decode cX12_out 30 = .ok (.iload 5, 2) := by decide +kernel
theorem dX12_out_32 : decode cX12_out 32 = .ok (.iload_n 2, 1) := by decide +kernel
theorem dX12_out_33 : decode cX12_out 33 = .ok (.iadd, 1) := by decide +kernel
theorem dX12_out_34 : decode cX12_out 34 = .ok (.iaload, 1) := by decide +kernel
theorem dX12_out_35 : decode cX12_out 35 = .ok (.iastore, 1) := by decide +kernel
theorem dX12_out_36 : decode cX12_out 36 = .ok (.iinc 5 1, 3) := by decide +kernel
theorem dX12_out_39 : decode cX12_out 39 = .ok (.goto (-32), 3) := by decide +kernel
theorem dX12_out_42 : decode cX12_out 42 = .ok (.return_, 1) := by decide +kernel
set_option maxHeartbeats 4000000 in
set_option maxRecDepth 100000 in
theorem x_X12_out_7 {p : Program} {l : Launch} {e : Env} {s : State} {m : MethodId} {args : Array Value} {below : List Frame} {meth : Method} {c : Code} {D : va_G} {K : Nat → ClassId} {A : Nat → Prop} {ad : Nat → Nat} {rest : va_W} (C : xC p s m args meth c D K A RX12 cX12_out 6 none) (z : Unit × xS) : ∀ (n : Nat) (y1 : Int32) (y2 : Int32) (y4 : Int32) (y5 : Int32) (σ : xS), F_X12_out_7  n y1 y2 y4 y5 σ = some z → X p l e (xR 0 0) s m args below meth c D A 6 (xQv below D K A args s (RW K ad rest z.2)) 0 0 7 [(0, .ref (ad 0)), (1, .int y1), (2, .int y2), (4, .int y4), (5, .int y5)] [] (RW K ad rest σ) := by
  intro n
  induction n with
  | zero =>
    intro y1 y2 y4 y5 σ hF
    cases hF
  | succ n ih =>
    intro y1 y2 y4 y5 σ hF
    rw [F_X12_out_7] at hF
    refine x_iload C 4 5 dX12_out_7 rfl ?_
    refine x_iload_n C 1 1 dX12_out_9 rfl rfl ?_
    refine x_iload_n C 2 2 dX12_out_10 rfl rfl ?_
    refine x_iload C 3 4 dX12_out_11 rfl ?_
    refine x_iconst C 1 dX12_out_13 (by decide +kernel) ?_
    refine x_isub C dX12_out_14 ?_
    refine x_imul C dX12_out_15 ?_
    refine x_iadd C dX12_out_16 ?_
    refine x_icmp_ge C 42 dX12_out_17 (by decide) hF (fun hF => ?_) (fun hF => ?_)
    · exact x_vret C dX12_out_42 rfl (congrArg (fun q9 : Unit × xS => RW K ad rest q9.2) (Option.some.inj hF))
    · refine x_aload_n C 0 0 dX12_out_20 rfl rfl ?_
      refine x_get C 0 dX12_out_21 fl_X12_13 (RW_o K ad rest σ) rfl ?_
      refine x_iload C 4 5 dX12_out_24 rfl ?_
      refine x_aload_n C 0 0 dX12_out_26 rfl rfl ?_
      refine x_get C 0 dX12_out_27 fl_X12_13 (RW_o K ad rest σ) rfl ?_
      refine x_iload C 4 5 dX12_out_30 rfl ?_
      refine x_iload_n C 2 2 dX12_out_32 rfl rfl ?_
      refine x_iadd C dX12_out_33 ?_
      refine x_iald C 2 dX12_out_34 (RW_a3 K ad rest σ) hF (fun v2 hF => ?_)
      refine x_iast C 2 dX12_out_35 (RW_a3 K ad rest σ) hF (RW_s3 K ad rest σ _) (fun hF => ?_)
      refine x_st (wf := RW K ad rest) hF (fun σ3 hF => ?_)
      refine x_iincN C 1 4 (fun x4 => [(5, .int x4), (0, .ref (ad 0)), (1, .int y1), (2, .int y2), (4, .int y4)]) dX12_out_36 rfl (by decide +kernel) (by decide) (fun _ => rfl) hF (fun x4 hF => ?_)
      refine x_goto C 7 dX12_out_39 (by decide) ?_
      refine x_loc [(0, .ref (ad 0)), (1, .int y1), (2, .int y2), (4, .int y4), (5, .int x4)] [1, 2, 3, 4, 0] rfl ?_
      exact ih y1 y2 y4 x4 σ3 hF
set_option maxHeartbeats 4000000 in
set_option maxRecDepth 100000 in
theorem c_X12_out (l : Launch) (D : va_G) (K : Nat → ClassId) (ad : Nat → Nat) (rest : va_W) (a1 : Int32) (a2 : Int32) (a3 : Int32) (a4 : Int32) (σ : xS) (z : Unit × xS) (hF : F_X12_out a1 a2 a3 a4 σ = some z) : CV l D K yX12_out cX12_out 6 none 0 0 [.ref (ad 0), .int a1, .int a2, .int a3, .int a4] (RW K ad rest σ) (RW K ad rest z.2) := by
  refine x_enterV [(0, .ref (ad 0)), (1, .int a1), (2, .int a2), (3, .int a3), (4, .int a4)] pnX12 (Nat.le_of_ble_eq_true rfl) rfl ?_
  intro p e s m args below meth c A C
  unfold F_X12_out at hF
  refine x_iload_n C 1 1 dX12_out_0 rfl rfl ?_
  refine x_iload_n C 2 2 dX12_out_1 rfl rfl ?_
  refine x_iload_n C 3 3 dX12_out_2 rfl rfl ?_
  refine x_imul C dX12_out_3 ?_
  refine x_iadd C dX12_out_4 ?_
  refine x_topI hF (fun x1 hF => ?_)
  refine x_istore C [(5, .int x1), (0, .ref (ad 0)), (1, .int a1), (2, .int a2), (3, .int a3), (4, .int a4)] dX12_out_5 (by decide) rfl ?_
  refine x_loc [(0, .ref (ad 0)), (1, .int a1), (2, .int a2), (4, .int a4), (5, .int x1)] [1, 2, 3, 5, 0] rfl ?_
  exact x_X12_out_7 C z FU a1 a2 a4 x1 σ hF
theorem dX12_drop_0 : decode cX12_drop 0 = .ok (.aload_n 0, 1) := by decide +kernel
theorem dX12_drop_1 : decode cX12_drop 1 = .ok (.iconst 0, 1) := by decide +kernel
theorem dX12_drop_2 : decode cX12_drop 2 = .ok (.putfield 107, 3) := by decide +kernel
theorem dX12_drop_5 : decode cX12_drop 5 = .ok (.aload_n 0, 1) := by decide +kernel
theorem dX12_drop_6 : decode cX12_drop 6 = .ok (.iload_n 1, 1) := by decide +kernel
theorem dX12_drop_7 : decode cX12_drop 7 = .ok (.invokevirtual 140, 3) := by decide +kernel
theorem dX12_drop_10 : decode cX12_drop 10 = .ok (.ifCond .ne 10, 3) := by decide +kernel
theorem dX12_drop_13 : decode cX12_drop 13 = .ok (.aload_n 0, 1) := by decide +kernel
theorem dX12_drop_14 : decode cX12_drop 14 = .ok (.bipush (-2), 2) := by decide +kernel
theorem dX12_drop_16 : decode cX12_drop 16 = .ok (.invokevirtual 121, 3) := by decide +kernel
theorem dX12_drop_19 : decode cX12_drop 19 = .ok (.ireturn, 1) := by decide +kernel
theorem dX12_drop_20 : decode cX12_drop 20 = .ok (.aload_n 0, 1) := by decide +kernel
theorem dX12_drop_21 : decode cX12_drop 21 = .ok (.bipush 13, 2) := by decide +kernel
theorem dX12_drop_23 : decode cX12_drop 23 = .ok (.iconst 5, 1) := by decide +kernel
theorem dX12_drop_24 : decode cX12_drop 24 = .ok (.iload_n 1, 1) := by decide +kernel
theorem dX12_drop_25 : decode cX12_drop 25 = .ok (.aload_n 0, 1) := by decide +kernel
theorem dX12_drop_26 : decode cX12_drop 26 = .ok (.getfield 13, 3) := by decide +kernel
theorem dX12_drop_29 : decode cX12_drop 29 = .ok (.iconst 0, 1) := by decide +kernel
theorem dX12_drop_30 : decode cX12_drop 30 = .ok (.iaload, 1) := by decide +kernel
theorem dX12_drop_31 : decode cX12_drop 31 = .ok (.invokevirtual 153, 3) := by decide +kernel
theorem dX12_drop_34 : decode cX12_drop 34 = .ok (.aload_n 0, 1) := by decide +kernel
theorem dX12_drop_35 : decode cX12_drop 35 = .ok (.getfield 13, 3) := by decide +kernel
theorem dX12_drop_38 : decode cX12_drop 38 = .ok (.iconst 0, 1) := by decide +kernel
theorem dX12_drop_39 : decode cX12_drop 39 = .ok (.dup2, 1) := by decide +kernel
theorem dX12_drop_40 : decode cX12_drop 40 = .ok (.iaload, 1) := by decide +kernel
theorem dX12_drop_41 : decode cX12_drop 41 = .ok (.iconst 1, 1) := by decide +kernel
theorem dX12_drop_42 : decode cX12_drop 42 = .ok (.isub, 1) := by decide +kernel
theorem dX12_drop_43 : decode cX12_drop 43 = .ok (.iastore, 1) := by decide +kernel
theorem dX12_drop_44 : decode cX12_drop 44 = .ok (.aload_n 0, 1) := by decide +kernel
theorem dX12_drop_45 : decode cX12_drop 45 = .ok (.aload_n 0, 1) := by decide +kernel
theorem dX12_drop_46 : decode cX12_drop 46 = .ok (.getfield 13, 3) := by decide +kernel
theorem dX12_drop_49 : decode cX12_drop 49 = .ok (.iconst 0, 1) := by decide +kernel
theorem dX12_drop_50 : decode cX12_drop 50 = .ok (.iaload, 1) := by decide +kernel
theorem dX12_drop_51 : decode cX12_drop 51 = .ok (.invokevirtual 121, 3) := by decide +kernel
theorem dX12_drop_54 : decode cX12_drop 54 = .ok (.ireturn, 1) := by decide +kernel
set_option maxHeartbeats 4000000 in
set_option maxRecDepth 100000 in
theorem c_X12_drop (l : Launch) (D : va_G) (K : Nat → ClassId) (ad : Nat → Nat) (rest : va_W) (a1 : Int32) (σ : xS) (z : Int32 × xS) (hF : F_X12_drop a1 σ = some z) : CI l D K yX12_drop cX12_drop 2 (some .int) 2 46 [.ref (ad 0), .int a1] (RW K ad rest σ) z.1 (RW K ad rest z.2) := by
  refine x_enterI [(0, .ref (ad 0)), (1, .int a1)] pnX12 (Nat.le_of_ble_eq_true rfl) rfl ?_
  intro p e s m args below meth c A C
  unfold F_X12_drop at hF
  refine x_aload_n C 0 0 dX12_drop_0 rfl rfl ?_
  refine x_iconst C 0 dX12_drop_1 (by decide +kernel) ?_
  refine x_put C 0 dX12_drop_2 fl_X12_107 fm_X12_0 rfl rfl (RW_o K ad rest σ) (Nat.le_of_ble_eq_true rfl) (RW_s0 K ad rest σ _) ?_
  refine x_st (wf := RW K ad rest) hF (fun σ1 hF => ?_)
  refine x_aload_n C 0 0 dX12_drop_5 rfl rfl ?_
  refine x_iload_n C 1 1 dX12_drop_6 rfl rfl ?_
  refine x_callVI C (wf := RW K ad rest) (As := [.int a1]) (rest := []) dX12_drop_7 ml_X12_140 rfl rfl (Nat.le_of_ble_eq_true rfl) 0 (RW_o K ad rest σ1) rfl ⟨Nat.le_of_ble_eq_true rfl, Nat.le_of_ble_eq_true rfl⟩ ⟨Nat.zero_le _, Nat.zero_le _⟩ (fun q9 hq9 => c_X12_isBook l D K ad rest a1 σ1 q9 hq9) hF (fun v3 σ2 hF => ?_)
  refine x_if_ne C 20 dX12_drop_10 (by decide) hF (fun hF => ?_) (fun hF => ?_)
  · refine x_aload_n C 0 0 dX12_drop_20 rfl rfl ?_
    refine x_bipush C 13 dX12_drop_21 (by decide +kernel) ?_
    refine x_iconst C 5 dX12_drop_23 (by decide +kernel) ?_
    refine x_iload_n C 1 1 dX12_drop_24 rfl rfl ?_
    refine x_aload_n C 0 0 dX12_drop_25 rfl rfl ?_
    refine x_get C 0 dX12_drop_26 fl_X12_13 (RW_o K ad rest σ2) rfl ?_
    refine x_iconst C 0 dX12_drop_29 (by decide +kernel) ?_
    refine x_iald C 2 dX12_drop_30 (RW_a3 K ad rest σ2) hF (fun v4 hF => ?_)
    refine x_callVV C (wf := RW K ad rest) (As := [.int 13, .int 5, .int a1, .int v4]) (rest := []) dX12_drop_31 ml_X12_153 rfl rfl (Nat.le_of_ble_eq_true rfl) 0 (RW_o K ad rest σ2) rfl ⟨Nat.le_of_ble_eq_true rfl, Nat.le_of_ble_eq_true rfl⟩ ⟨Nat.zero_le _, Nat.zero_le _⟩ (fun q9 hq9 => c_X12_out l D K ad rest 13 5 a1 v4 σ2 q9 hq9) hF (fun _ σ5 hF => ?_)
    refine x_aload_n C 0 0 dX12_drop_34 rfl rfl ?_
    refine x_get C 0 dX12_drop_35 fl_X12_13 (RW_o K ad rest σ5) rfl ?_
    refine x_iconst C 0 dX12_drop_38 (by decide +kernel) ?_
    refine x_dup2 C rfl rfl dX12_drop_39 ?_
    refine x_iald C 2 dX12_drop_40 (RW_a3 K ad rest σ5) hF (fun v6 hF => ?_)
    refine x_iconst C 1 dX12_drop_41 (by decide +kernel) ?_
    refine x_isub C dX12_drop_42 ?_
    refine x_iast C 2 dX12_drop_43 (RW_a3 K ad rest σ5) hF (RW_s3 K ad rest σ5 _) (fun hF => ?_)
    refine x_st (wf := RW K ad rest) hF (fun σ7 hF => ?_)
    refine x_aload_n C 0 0 dX12_drop_44 rfl rfl ?_
    refine x_aload_n C 0 0 dX12_drop_45 rfl rfl ?_
    refine x_get C 0 dX12_drop_46 fl_X12_13 (RW_o K ad rest σ7) rfl ?_
    refine x_iconst C 0 dX12_drop_49 (by decide +kernel) ?_
    refine x_iald C 2 dX12_drop_50 (RW_a3 K ad rest σ7) hF (fun v8 hF => ?_)
    refine x_callVI C (wf := RW K ad rest) (As := [.int v8]) (rest := []) dX12_drop_51 ml_X12_121 rfl rfl (Nat.le_of_ble_eq_true rfl) 0 (RW_o K ad rest σ7) rfl ⟨Nat.le_of_ble_eq_true rfl, Nat.le_of_ble_eq_true rfl⟩ ⟨Nat.zero_le _, Nat.zero_le _⟩ (fun q9 hq9 => c_X12_tell l D K ad rest v8 σ7 q9 hq9) hF (fun v10 σ9 hF => ?_)
    exact x_iret C dX12_drop_54 rfl (congrArg Prod.fst (Option.some.inj hF)) (congrArg (fun q9 : Int32 × xS => RW K ad rest q9.2) (Option.some.inj hF))
  · refine x_aload_n C 0 0 dX12_drop_13 rfl rfl ?_
    refine x_bipush C (-2) dX12_drop_14 (by decide +kernel) ?_
    refine x_callVI C (wf := RW K ad rest) (As := [.int ((-2))]) (rest := []) dX12_drop_16 ml_X12_121 rfl rfl (Nat.le_of_ble_eq_true rfl) 0 (RW_o K ad rest σ2) rfl ⟨Nat.le_of_ble_eq_true rfl, Nat.le_of_ble_eq_true rfl⟩ ⟨Nat.zero_le _, Nat.zero_le _⟩ (fun q9 hq9 => c_X12_tell l D K ad rest ((-2)) σ2 q9 hq9) hF (fun v12 σ11 hF => ?_)
    exact x_iret C dX12_drop_19 rfl (congrArg Prod.fst (Option.some.inj hF)) (congrArg (fun q9 : Int32 × xS => RW K ad rest q9.2) (Option.some.inj hF))
theorem dX12_isTerm_0 : decode cX12_isTerm 0 = .ok (.iload_n 0, 1) := by decide +kernel
theorem dX12_isTerm_1 : decode cX12_isTerm 1 = .ok (.tableswitch 97 0 5 #[39, 49, 57, 67, 77, 87], 39) := by decide +kernel
theorem dX12_isTerm_40 : decode cX12_isTerm 40 = .ok (.iload_n 1, 1) := by decide +kernel
theorem dX12_isTerm_41 : decode cX12_isTerm 41 = .ok (.i2l, 1) := by decide +kernel
theorem dX12_isTerm_42 : decode cX12_isTerm 42 = .ok (.lconst 0, 1) := by decide +kernel
theorem dX12_isTerm_43 : decode cX12_isTerm 43 = .ok (.ldc2_w 157, 3) := by decide +kernel
theorem dX12_isTerm_46 : decode cX12_isTerm 46 = .ok (.invokestatic 117, 3) := by decide +kernel
theorem dX12_isTerm_49 : decode cX12_isTerm 49 = .ok (.ireturn, 1) := by decide +kernel
theorem dX12_isTerm_50 : decode cX12_isTerm 50 = .ok (.iload_n 1, 1) := by decide +kernel
theorem dX12_isTerm_51 : decode cX12_isTerm 51 = .ok (.i2l, 1) := by decide +kernel
theorem dX12_isTerm_52 : decode cX12_isTerm 52 = .ok (.lconst 0, 1) := by decide +kernel
theorem dX12_isTerm_53 : decode cX12_isTerm 53 = .ok (.lconst 1, 1) := by decide +kernel
theorem dX12_isTerm_54 : decode cX12_isTerm 54 = .ok (.invokestatic 117, 3) := by decide +kernel
theorem dX12_isTerm_57 : decode cX12_isTerm 57 = .ok (.ireturn, 1) := by decide +kernel
theorem dX12_isTerm_58 : decode cX12_isTerm 58 = .ok (.iload_n 1, 1) := by decide +kernel
theorem dX12_isTerm_59 : decode cX12_isTerm 59 = .ok (.i2l, 1) := by decide +kernel
theorem dX12_isTerm_60 : decode cX12_isTerm 60 = .ok (.lconst 0, 1) := by decide +kernel
theorem dX12_isTerm_61 : decode cX12_isTerm 61 = .ok (.ldc2_w 128, 3) := by decide +kernel
theorem dX12_isTerm_64 : decode cX12_isTerm 64 = .ok (.invokestatic 117, 3) := by decide +kernel
theorem dX12_isTerm_67 : decode cX12_isTerm 67 = .ok (.ireturn, 1) := by decide +kernel
theorem dX12_isTerm_68 : decode cX12_isTerm 68 = .ok (.iload_n 1, 1) := by decide +kernel
theorem dX12_isTerm_69 : decode cX12_isTerm 69 = .ok (.i2l, 1) := by decide +kernel
theorem dX12_isTerm_70 : decode cX12_isTerm 70 = .ok (.lconst 0, 1) := by decide +kernel
theorem dX12_isTerm_71 : decode cX12_isTerm 71 = .ok (.ldc2_w 126, 3) := by decide +kernel
theorem dX12_isTerm_74 : decode cX12_isTerm 74 = .ok (.invokestatic 117, 3) := by decide +kernel
theorem dX12_isTerm_77 : decode cX12_isTerm 77 = .ok (.ireturn, 1) := by decide +kernel
theorem dX12_isTerm_78 : decode cX12_isTerm 78 = .ok (.iload_n 1, 1) := by decide +kernel
theorem dX12_isTerm_79 : decode cX12_isTerm 79 = .ok (.i2l, 1) := by decide +kernel
theorem dX12_isTerm_80 : decode cX12_isTerm 80 = .ok (.lconst 0, 1) := by decide +kernel
theorem dX12_isTerm_81 : decode cX12_isTerm 81 = .ok (.ldc2_w 124, 3) := by decide +kernel
theorem dX12_isTerm_84 : decode cX12_isTerm 84 = .ok (.invokestatic 117, 3) := by decide +kernel
theorem dX12_isTerm_87 : decode cX12_isTerm 87 = .ok (.ireturn, 1) := by decide +kernel
theorem dX12_isTerm_88 : decode cX12_isTerm 88 = .ok (.iload_n 1, 1) := by decide +kernel
theorem dX12_isTerm_89 : decode cX12_isTerm 89 = .ok (.i2l, 1) := by decide +kernel
theorem dX12_isTerm_90 : decode cX12_isTerm 90 = .ok (.lconst 1, 1) := by decide +kernel
theorem dX12_isTerm_91 : decode cX12_isTerm 91 = .ok (.ldc2_w 128, 3) := by decide +kernel
theorem dX12_isTerm_94 : decode cX12_isTerm 94 = .ok (.invokestatic 117, 3) := by decide +kernel
theorem dX12_isTerm_97 : decode cX12_isTerm 97 = .ok (.ireturn, 1) := by decide +kernel
theorem dX12_isTerm_98 : decode cX12_isTerm 98 = .ok (.iconst 0, 1) := by decide +kernel
theorem dX12_isTerm_99 : decode cX12_isTerm 99 = .ok (.ireturn, 1) := by decide +kernel
set_option maxHeartbeats 4000000 in
set_option maxRecDepth 100000 in
theorem c_X12_isTerm (l : Launch) (D : va_G) (K : Nat → ClassId) (ad : Nat → Nat) (rest : va_W) (a1 : Int32) (a2 : Int32) (σ : xS) (z : Int32 × xS) (hF : F_X12_isTerm a1 a2 σ = some z) : CI l D K yX12_isTerm cX12_isTerm 2 (some .boolean) 1 25 [.int a1, .int a2] (RW K ad rest σ) z.1 (RW K ad rest z.2) := by
  refine x_enterI [(0, .int a1), (1, .int a2)] pnX12 (Nat.le_of_ble_eq_true rfl) rfl ?_
  intro p e s m args below meth c A C
  unfold F_X12_isTerm at hF
  refine x_iload_n C 0 0 dX12_isTerm_0 rfl rfl ?_
  by_cases h3 : a1 = 0
  · rw [if_pos h3] at hF
    refine x_tabIn C 40 dX12_isTerm_1 (by rw [h3]; decide +kernel) (by rw [h3]; decide +kernel) (by rw [h3]; rfl) (by decide) ?_
    refine x_iload_n C 1 1 dX12_isTerm_40 rfl rfl ?_
    refine x_i2l C dX12_isTerm_41 ?_
    refine x_lconst C 0 dX12_isTerm_42 (by decide +kernel) ?_
    refine x_ldc2 C 51 dX12_isTerm_43 cl_X12_157 ?_
    refine x_callSI C (wf := RW K ad rest) (As := [.long (a2.toInt64), .long 0, .long 51]) (rest := []) dX12_isTerm_46 ml_X12_117 rfl rfl (Nat.le_of_ble_eq_true rfl) ⟨Nat.le_of_ble_eq_true rfl, Nat.le_of_ble_eq_true rfl⟩ ⟨Nat.zero_le _, Nat.zero_le _⟩ (fun q9 hq9 => c_X12_in l D K ad rest (a2.toInt64) 0 51 σ q9 hq9) hF (fun v2 σ1 hF => ?_)
    have hz := (cz_some hF).1
    replace hF := (cz_some hF).2
    exact x_zret C dX12_isTerm_49 rfl hz (congrArg Prod.fst (Option.some.inj hF)) (congrArg (fun q9 : Int32 × xS => RW K ad rest q9.2) (Option.some.inj hF))
  · rw [if_neg h3] at hF
    by_cases h6 : a1 = 1
    · rw [if_pos h6] at hF
      refine x_tabIn C 50 dX12_isTerm_1 (by rw [h6]; decide +kernel) (by rw [h6]; decide +kernel) (by rw [h6]; rfl) (by decide) ?_
      refine x_iload_n C 1 1 dX12_isTerm_50 rfl rfl ?_
      refine x_i2l C dX12_isTerm_51 ?_
      refine x_lconst C 0 dX12_isTerm_52 (by decide +kernel) ?_
      refine x_lconst C 1 dX12_isTerm_53 (by decide +kernel) ?_
      refine x_callSI C (wf := RW K ad rest) (As := [.long (a2.toInt64), .long 0, .long 1]) (rest := []) dX12_isTerm_54 ml_X12_117 rfl rfl (Nat.le_of_ble_eq_true rfl) ⟨Nat.le_of_ble_eq_true rfl, Nat.le_of_ble_eq_true rfl⟩ ⟨Nat.zero_le _, Nat.zero_le _⟩ (fun q9 hq9 => c_X12_in l D K ad rest (a2.toInt64) 0 1 σ q9 hq9) hF (fun v5 σ4 hF => ?_)
      have hz := (cz_some hF).1
      replace hF := (cz_some hF).2
      exact x_zret C dX12_isTerm_57 rfl hz (congrArg Prod.fst (Option.some.inj hF)) (congrArg (fun q9 : Int32 × xS => RW K ad rest q9.2) (Option.some.inj hF))
    · rw [if_neg h6] at hF
      by_cases h9 : a1 = 2
      · rw [if_pos h9] at hF
        refine x_tabIn C 58 dX12_isTerm_1 (by rw [h9]; decide +kernel) (by rw [h9]; decide +kernel) (by rw [h9]; rfl) (by decide) ?_
        refine x_iload_n C 1 1 dX12_isTerm_58 rfl rfl ?_
        refine x_i2l C dX12_isTerm_59 ?_
        refine x_lconst C 0 dX12_isTerm_60 (by decide +kernel) ?_
        refine x_ldc2 C 99 dX12_isTerm_61 cl_X12_128 ?_
        refine x_callSI C (wf := RW K ad rest) (As := [.long (a2.toInt64), .long 0, .long 99]) (rest := []) dX12_isTerm_64 ml_X12_117 rfl rfl (Nat.le_of_ble_eq_true rfl) ⟨Nat.le_of_ble_eq_true rfl, Nat.le_of_ble_eq_true rfl⟩ ⟨Nat.zero_le _, Nat.zero_le _⟩ (fun q9 hq9 => c_X12_in l D K ad rest (a2.toInt64) 0 99 σ q9 hq9) hF (fun v8 σ7 hF => ?_)
        have hz := (cz_some hF).1
        replace hF := (cz_some hF).2
        exact x_zret C dX12_isTerm_67 rfl hz (congrArg Prod.fst (Option.some.inj hF)) (congrArg (fun q9 : Int32 × xS => RW K ad rest q9.2) (Option.some.inj hF))
      · rw [if_neg h9] at hF
        by_cases h12 : a1 = 3
        · rw [if_pos h12] at hF
          refine x_tabIn C 68 dX12_isTerm_1 (by rw [h12]; decide +kernel) (by rw [h12]; decide +kernel) (by rw [h12]; rfl) (by decide) ?_
          refine x_iload_n C 1 1 dX12_isTerm_68 rfl rfl ?_
          refine x_i2l C dX12_isTerm_69 ?_
          refine x_lconst C 0 dX12_isTerm_70 (by decide +kernel) ?_
          refine x_ldc2 C 999 dX12_isTerm_71 cl_X12_126 ?_
          refine x_callSI C (wf := RW K ad rest) (As := [.long (a2.toInt64), .long 0, .long 999]) (rest := []) dX12_isTerm_74 ml_X12_117 rfl rfl (Nat.le_of_ble_eq_true rfl) ⟨Nat.le_of_ble_eq_true rfl, Nat.le_of_ble_eq_true rfl⟩ ⟨Nat.zero_le _, Nat.zero_le _⟩ (fun q9 hq9 => c_X12_in l D K ad rest (a2.toInt64) 0 999 σ q9 hq9) hF (fun v11 σ10 hF => ?_)
          have hz := (cz_some hF).1
          replace hF := (cz_some hF).2
          exact x_zret C dX12_isTerm_77 rfl hz (congrArg Prod.fst (Option.some.inj hF)) (congrArg (fun q9 : Int32 × xS => RW K ad rest q9.2) (Option.some.inj hF))
        · rw [if_neg h12] at hF
          by_cases h15 : a1 = 4
          · rw [if_pos h15] at hF
            refine x_tabIn C 78 dX12_isTerm_1 (by rw [h15]; decide +kernel) (by rw [h15]; decide +kernel) (by rw [h15]; rfl) (by decide) ?_
            refine x_iload_n C 1 1 dX12_isTerm_78 rfl rfl ?_
            refine x_i2l C dX12_isTerm_79 ?_
            refine x_lconst C 0 dX12_isTerm_80 (by decide +kernel) ?_
            refine x_ldc2 C 9 dX12_isTerm_81 cl_X12_124 ?_
            refine x_callSI C (wf := RW K ad rest) (As := [.long (a2.toInt64), .long 0, .long 9]) (rest := []) dX12_isTerm_84 ml_X12_117 rfl rfl (Nat.le_of_ble_eq_true rfl) ⟨Nat.le_of_ble_eq_true rfl, Nat.le_of_ble_eq_true rfl⟩ ⟨Nat.zero_le _, Nat.zero_le _⟩ (fun q9 hq9 => c_X12_in l D K ad rest (a2.toInt64) 0 9 σ q9 hq9) hF (fun v14 σ13 hF => ?_)
            have hz := (cz_some hF).1
            replace hF := (cz_some hF).2
            exact x_zret C dX12_isTerm_87 rfl hz (congrArg Prod.fst (Option.some.inj hF)) (congrArg (fun q9 : Int32 × xS => RW K ad rest q9.2) (Option.some.inj hF))
          · rw [if_neg h15] at hF
            by_cases h18 : a1 = 5
            · rw [if_pos h18] at hF
              refine x_tabIn C 88 dX12_isTerm_1 (by rw [h18]; decide +kernel) (by rw [h18]; decide +kernel) (by rw [h18]; rfl) (by decide) ?_
              refine x_iload_n C 1 1 dX12_isTerm_88 rfl rfl ?_
              refine x_i2l C dX12_isTerm_89 ?_
              refine x_lconst C 1 dX12_isTerm_90 (by decide +kernel) ?_
              refine x_ldc2 C 99 dX12_isTerm_91 cl_X12_128 ?_
              refine x_callSI C (wf := RW K ad rest) (As := [.long (a2.toInt64), .long 1, .long 99]) (rest := []) dX12_isTerm_94 ml_X12_117 rfl rfl (Nat.le_of_ble_eq_true rfl) ⟨Nat.le_of_ble_eq_true rfl, Nat.le_of_ble_eq_true rfl⟩ ⟨Nat.zero_le _, Nat.zero_le _⟩ (fun q9 hq9 => c_X12_in l D K ad rest (a2.toInt64) 1 99 σ q9 hq9) hF (fun v17 σ16 hF => ?_)
              have hz := (cz_some hF).1
              replace hF := (cz_some hF).2
              exact x_zret C dX12_isTerm_97 rfl hz (congrArg Prod.fst (Option.some.inj hF)) (congrArg (fun q9 : Int32 × xS => RW K ad rest q9.2) (Option.some.inj hF))
            · rw [if_neg h18] at hF
              refine x_tabOut C 98 dX12_isTerm_1 (by have e_h3 : a1.toInt ≠ 0 := x_neT h3; have e_h6 : a1.toInt ≠ 1 := x_neT h6; have e_h9 : a1.toInt ≠ 2 := x_neT h9; have e_h12 : a1.toInt ≠ 3 := x_neT h12; have e_h15 : a1.toInt ≠ 4 := x_neT h15; have e_h18 : a1.toInt ≠ 5 := x_neT h18; omega) (by decide) ?_
              refine x_iconst C 0 dX12_isTerm_98 (by decide +kernel) ?_
              have hz := (cz_some hF).1
              replace hF := (cz_some hF).2
              exact x_zret C dX12_isTerm_99 rfl hz (congrArg Prod.fst (Option.some.inj hF)) (congrArg (fun q9 : Int32 × xS => RW K ad rest q9.2) (Option.some.inj hF))
theorem dX12_terms_0 : decode cX12_terms 0 = .ok (.aload_n 0, 1) := by decide +kernel
theorem dX12_terms_1 : decode cX12_terms 1 = .ok (.iconst 0, 1) := by decide +kernel
theorem dX12_terms_2 : decode cX12_terms 2 = .ok (.putfield 107, 3) := by decide +kernel
theorem dX12_terms_5 : decode cX12_terms 5 = .ok (.iload_n 1, 1) := by decide +kernel
theorem dX12_terms_6 : decode cX12_terms 6 = .ok (.iload_n 2, 1) := by decide +kernel
theorem dX12_terms_7 : decode cX12_terms 7 = .ok (.invokestatic 159, 3) := by decide +kernel
theorem dX12_terms_10 : decode cX12_terms 10 = .ok (.ifCond .eq 15, 3) := by decide +kernel
theorem dX12_terms_13 : decode cX12_terms 13 = .ok (.aload_n 0, 1) := by decide +kernel
theorem dX12_terms_14 : decode cX12_terms 14 = .ok (.bipush 7, 2) := by decide +kernel
theorem dX12_terms_16 : decode cX12_terms 16 = .ok (.iload_n 1, 1) := by decide +kernel
theorem dX12_terms_17 : decode cX12_terms 17 = .ok (.iadd, 1) := by decide +kernel
theorem dX12_terms_18 : decode cX12_terms 18 = .ok (.iload_n 2, 1) := by decide +kernel
theorem dX12_terms_19 : decode cX12_terms 19 = .ok (.invokevirtual 144, 3) := by decide +kernel
theorem dX12_terms_22 : decode cX12_terms 22 = .ok (.goto 8, 3) := by decide +kernel
theorem dX12_terms_25 : decode cX12_terms 25 = .ok (.aload_n 0, 1) := by decide +kernel
theorem dX12_terms_26 : decode cX12_terms 26 = .ok (.iconst (-1), 1) := by decide +kernel
theorem dX12_terms_27 : decode cX12_terms 27 = .ok (.invokevirtual 121, 3) := by decide +kernel
theorem dX12_terms_30 : decode cX12_terms 30 = .ok (.ireturn, 1) := by decide +kernel
set_option maxHeartbeats 4000000 in
set_option maxRecDepth 100000 in
theorem c_X12_terms (l : Launch) (D : va_G) (K : Nat → ClassId) (ad : Nat → Nat) (rest : va_W) (a1 : Int32) (a2 : Int32) (σ : xS) (z : Int32 × xS) (hF : F_X12_terms a1 a2 σ = some z) : CI l D K yX12_terms cX12_terms 3 (some .int) 2 46 [.ref (ad 0), .int a1, .int a2] (RW K ad rest σ) z.1 (RW K ad rest z.2) := by
  refine x_enterI [(0, .ref (ad 0)), (1, .int a1), (2, .int a2)] pnX12 (Nat.le_of_ble_eq_true rfl) rfl ?_
  intro p e s m args below meth c A C
  unfold F_X12_terms at hF
  refine x_aload_n C 0 0 dX12_terms_0 rfl rfl ?_
  refine x_iconst C 0 dX12_terms_1 (by decide +kernel) ?_
  refine x_put C 0 dX12_terms_2 fl_X12_107 fm_X12_0 rfl rfl (RW_o K ad rest σ) (Nat.le_of_ble_eq_true rfl) (RW_s0 K ad rest σ _) ?_
  refine x_st (wf := RW K ad rest) hF (fun σ1 hF => ?_)
  refine x_iload_n C 1 1 dX12_terms_5 rfl rfl ?_
  refine x_iload_n C 2 2 dX12_terms_6 rfl rfl ?_
  refine x_callSI C (wf := RW K ad rest) (As := [.int a1, .int a2]) (rest := []) dX12_terms_7 ml_X12_159 rfl rfl (Nat.le_of_ble_eq_true rfl) ⟨Nat.le_of_ble_eq_true rfl, Nat.le_of_ble_eq_true rfl⟩ ⟨Nat.zero_le _, Nat.zero_le _⟩ (fun q9 hq9 => c_X12_isTerm l D K ad rest a1 a2 σ1 q9 hq9) hF (fun v3 σ2 hF => ?_)
  refine x_if_eq C 25 dX12_terms_10 (by decide) hF (fun hF => ?_) (fun hF => ?_)
  · refine x_aload_n C 0 0 dX12_terms_25 rfl rfl ?_
    refine x_iconst C (-1) dX12_terms_26 (by decide +kernel) ?_
    refine x_callVI C (wf := RW K ad rest) (As := [.int ((-1))]) (rest := []) dX12_terms_27 ml_X12_121 rfl rfl (Nat.le_of_ble_eq_true rfl) 0 (RW_o K ad rest σ2) rfl ⟨Nat.le_of_ble_eq_true rfl, Nat.le_of_ble_eq_true rfl⟩ ⟨Nat.zero_le _, Nat.zero_le _⟩ (fun q9 hq9 => c_X12_tell l D K ad rest ((-1)) σ2 q9 hq9) hF (fun v5 σ4 hF => ?_)
    exact x_iret C dX12_terms_30 rfl (congrArg Prod.fst (Option.some.inj hF)) (congrArg (fun q9 : Int32 × xS => RW K ad rest q9.2) (Option.some.inj hF))
  · refine x_aload_n C 0 0 dX12_terms_13 rfl rfl ?_
    refine x_bipush C 7 dX12_terms_14 (by decide +kernel) ?_
    refine x_iload_n C 1 1 dX12_terms_16 rfl rfl ?_
    refine x_iadd C dX12_terms_17 ?_
    refine x_iload_n C 2 2 dX12_terms_18 rfl rfl ?_
    refine x_callVI C (wf := RW K ad rest) (As := [.int (7 + a1), .int a2]) (rest := []) dX12_terms_19 ml_X12_144 rfl rfl (Nat.le_of_ble_eq_true rfl) 0 (RW_o K ad rest σ2) rfl ⟨Nat.le_of_ble_eq_true rfl, Nat.le_of_ble_eq_true rfl⟩ ⟨Nat.zero_le _, Nat.zero_le _⟩ (fun q9 hq9 => c_X12_change l D K ad rest (7 + a1) a2 σ2 q9 hq9) hF (fun v7 σ6 hF => ?_)
    refine x_goto C 30 dX12_terms_22 (by decide) ?_
    exact x_iret C dX12_terms_30 rfl (congrArg Prod.fst (Option.some.inj hF)) (congrArg (fun q9 : Int32 × xS => RW K ad rest q9.2) (Option.some.inj hF))
theorem dX12_row_0 : decode cX12_row 0 = .ok (.aload_n 0, 1) := by decide +kernel
theorem dX12_row_1 : decode cX12_row 1 = .ok (.iconst 0, 1) := by decide +kernel
theorem dX12_row_2 : decode cX12_row 2 = .ok (.putfield 107, 3) := by decide +kernel
theorem dX12_row_5 : decode cX12_row 5 = .ok (.aload_n 0, 1) := by decide +kernel
theorem dX12_row_6 : decode cX12_row 6 = .ok (.getfield 162, 3) := by decide +kernel
theorem dX12_row_9 : decode cX12_row 9 = .ok (.istore_n 1, 1) := by decide +kernel
theorem dX12_row_10 : decode cX12_row 10 = .ok (.aload_n 0, 1) := by decide +kernel
theorem dX12_row_11 : decode cX12_row 11 = .ok (.iconst 0, 1) := by decide +kernel
theorem dX12_row_12 : decode cX12_row 12 = .ok (.putfield 162, 3) := by decide +kernel
theorem dX12_row_15 : decode cX12_row 15 = .ok (.iload_n 1, 1) := by decide +kernel
theorem dX12_row_16 : decode cX12_row 16 = .ok (.ifCond .ne 10, 3) := by decide +kernel
theorem dX12_row_19 : decode cX12_row 19 = .ok (.aload_n 0, 1) := by decide +kernel
theorem dX12_row_20 : decode cX12_row 20 = .ok (.bipush (-6), 2) := by decide +kernel
theorem dX12_row_22 : decode cX12_row 22 = .ok (.invokevirtual 121, 3) := by decide +kernel
theorem dX12_row_25 : decode cX12_row 25 = .ok (.ireturn, 1) := by decide +kernel
theorem dX12_row_26 : decode cX12_row 26 = .ok (.aload_n 0, 1) := by decide +kernel
theorem dX12_row_27 : decode cX12_row 27 = .ok (.iconst 0, 1) := by decide +kernel
theorem dX12_row_28 : decode cX12_row 28 = .ok (.putfield 165, 3) := by decide +kernel
theorem dX12_row_31 : decode cX12_row 31 = .ok (.iconst 0, 1) := by decide +kernel
theorem dX12_row_32 : decode cX12_row 32 = .ok (.istore_n 2, 1) := by decide +kernel
theorem dX12_row_33 : decode cX12_row 33 = .ok (.iconst 0, 1) := by decide +kernel
theorem dX12_row_34 : decode cX12_row 34 = .ok (.istore_n 3, 1) := by decide +kernel
theorem dX12_row_35 : decode cX12_row 35 = .ok (.iload_n 3, 1) := by decide +kernel
theorem dX12_row_36 : decode cX12_row 36 = .ok (.iload_n 1, 1) := by decide +kernel
theorem dX12_row_37 : decode cX12_row 37 = .ok (.if_icmp .ge 82, 3) := by decide +kernel
theorem dX12_row_40 : decode cX12_row 40 = .ok (.iload_n 3, 1) := by decide +kernel
theorem dX12_row_41 : decode cX12_row 41 = .ok (.iconst 2, 1) := by decide +kernel
theorem dX12_row_42 : decode cX12_row 42 = .ok (.iadd, 1) := by decide +kernel
theorem dX12_row_43 : decode cX12_row 43 = .ok (.iload_n 1, 1) := by decide +kernel
theorem dX12_row_44 : decode cX12_row 44 = .ok (.if_icmp .ge 59, 3) := by decide +kernel
theorem dX12_row_47 : decode cX12_row 47 = .ok (.aload_n 0, 1) := by decide +kernel
theorem dX12_row_48 : decode cX12_row 48 = .ok (.getfield 13, 3) := by decide +kernel
theorem dX12_row_51 : decode cX12_row 51 = .ok (.iconst 0, 1) := by decide +kernel
theorem dX12_row_52 : decode cX12_row 52 = .ok (.iaload, 1) := by decide +kernel
theorem dX12_row_53 : decode cX12_row 53 = .ok (.bipush 10, 2) := by decide +kernel
theorem dX12_row_55 : decode cX12_row 55 = .ok (.if_icmp .ge 48, 3) := by decide +kernel
theorem dX12_row_58 : decode cX12_row 58 = .ok (.aload_n 0, 1) := by decide +kernel
theorem dX12_row_59 : decode cX12_row 59 = .ok (.getfield 23, 3) := by decide +kernel
theorem dX12_row_62 : decode cX12_row 62 = .ok (.iload_n 3, 1) := by decide +kernel
theorem dX12_row_63 : decode cX12_row 63 = .ok (.iaload, 1) := by decide +kernel
theorem dX12_row_64 : decode cX12_row 64 = .ok (.bipush 10, 2) := by decide +kernel
theorem dX12_row_66 : decode cX12_row 66 = .ok (.if_icmp .ge 37, 3) := by decide +kernel
theorem dX12_row_69 : decode cX12_row 69 = .ok (.aload_n 0, 1) := by decide +kernel
theorem dX12_row_70 : decode cX12_row 70 = .ok (.aload_n 0, 1) := by decide +kernel
theorem dX12_row_71 : decode cX12_row 71 = .ok (.getfield 23, 3) := by decide +kernel
theorem dX12_row_74 : decode cX12_row 74 = .ok (.iload_n 3, 1) := by decide +kernel
theorem dX12_row_75 : decode cX12_row 75 = .ok (.iaload, 1) := by decide +kernel
theorem dX12_row_76 : decode cX12_row 76 = .ok (.aload_n 0, 1) := by decide +kernel
theorem dX12_row_77 : decode cX12_row 77 = .ok (.getfield 23, 3) := by decide +kernel
theorem dX12_row_80 : decode cX12_row 80 = .ok (.iload_n 3, 1) := by decide +kernel
theorem dX12_row_81 : decode cX12_row 81 = .ok (.iconst 1, 1) := by decide +kernel
theorem dX12_row_82 : decode cX12_row 82 = .ok (.iadd, 1) := by decide +kernel
theorem dX12_row_83 : decode cX12_row 83 = .ok (.iaload, 1) := by decide +kernel
theorem dX12_row_84 : decode cX12_row 84 = .ok (.iconst 0, 1) := by decide +kernel
theorem dX12_row_85 : decode cX12_row 85 = .ok (.aload_n 0, 1) := by decide +kernel
theorem dX12_row_86 : decode cX12_row 86 = .ok (.getfield 23, 3) := by decide +kernel
theorem dX12_row_89 : decode cX12_row 89 = .ok (.iload_n 3, 1) := by decide +kernel
theorem dX12_row_90 : decode cX12_row 90 = .ok (.iconst 2, 1) := by decide +kernel
theorem dX12_row_91 : decode cX12_row 91 = .ok (.iadd, 1) := by decide +kernel
theorem dX12_row_92 : decode cX12_row 92 = .ok (.iaload, 1) := by decide +kernel
theorem dX12_row_93 : decode cX12_row 93 = .ok (.iconst 0, 1) := by decide +kernel
theorem dX12_row_94 : decode cX12_row 94 = .ok (.invokevirtual 136, 3) := by decide +kernel
theorem dX12_row_97 : decode cX12_row 97 = .ok (.iinc 2 1, 3) := by decide +kernel
theorem dX12_row_100 : decode cX12_row 100 = .ok (.goto 13, 3) := by decide +kernel
theorem dX12_row_103 : decode cX12_row 103 = .ok (.aload_n 0, 1) := by decide +kernel
theorem dX12_row_104 : decode cX12_row 104 = .ok (.dup, 1) := by decide +kernel
theorem dX12_row_105 : decode cX12_row 105 = .ok (.getfield 165, 3) := by decide +kernel
theorem dX12_row_108 : decode cX12_row 108 = .ok (.iconst 1, 1) := by decide +kernel
theorem dX12_row_109 : decode cX12_row 109 = .ok (.iadd, 1) := by decide +kernel
theorem dX12_row_110 : decode cX12_row 110 = .ok (.putfield 165, 3) := by decide +kernel
theorem dX12_row_113 : decode cX12_row 113 = .ok (.iinc 3 3, 3) := by decide +kernel
theorem dX12_row_116 : decode cX12_row 116 = .ok (.goto (-81), 3) := by decide +kernel
theorem dX12_row_119 : decode cX12_row 119 = .ok (.aload_n 0, 1) := by decide +kernel
theorem dX12_row_120 : decode cX12_row 120 = .ok (.iload_n 2, 1) := by decide +kernel
theorem dX12_row_121 : decode cX12_row 121 = .ok (.invokevirtual 121, 3) := by decide +kernel
theorem dX12_row_124 : decode cX12_row 124 = .ok (.ireturn, 1) := by decide +kernel
set_option maxHeartbeats 4000000 in
set_option maxRecDepth 100000 in
theorem x_X12_row_103 {p : Program} {l : Launch} {e : Env} {s : State} {m : MethodId} {args : Array Value} {below : List Frame} {meth : Method} {c : Code} {D : va_G} {K : Nat → ClassId} {A : Nat → Prop} {ad : Nat → Nat} {rest : va_W} (C : xC p s m args meth c D K A RX12 cX12_row 4 (some .int)) (z : Int32 × xS) (k_35 : Int32 → Int32 → Int32 → xS → Option (Int32 × xS)) (H_35 : ∀ (y1 : Int32) (y2 : Int32) (y3 : Int32) (σ : xS), k_35 y1 y2 y3 σ = some z → X p l e (xR 1 26) s m args below meth c D A 4 (xQi below D K A args s z.1 (RW K ad rest z.2)) 0 0 35 [(0, .ref (ad 0)), (1, .int y1), (2, .int y2), (3, .int y3)] [] (RW K ad rest σ)) : ∀ (y1 : Int32) (y2 : Int32) (y3 : Int32) (σ : xS), F_X12_row_103 k_35 y1 y2 y3 σ = some z → X p l e (xR 1 26) s m args below meth c D A 4 (xQi below D K A args s z.1 (RW K ad rest z.2)) 0 0 103 [(0, .ref (ad 0)), (1, .int y1), (2, .int y2), (3, .int y3)] [] (RW K ad rest σ) := by
  intro y1 y2 y3 σ hF
  unfold F_X12_row_103 at hF
  refine x_aload_n C 0 0 dX12_row_103 rfl rfl ?_
  refine x_dup C rfl dX12_row_104 ?_
  refine x_get C 0 dX12_row_105 fl_X12_165 (RW_o K ad rest σ) rfl ?_
  refine x_iconst C 1 dX12_row_108 (by decide +kernel) ?_
  refine x_iadd C dX12_row_109 ?_
  refine x_put C 0 dX12_row_110 fl_X12_165 fm_X12_6 rfl rfl (RW_o K ad rest σ) (Nat.le_of_ble_eq_true rfl) (RW_s6 K ad rest σ _) ?_
  refine x_st (wf := RW K ad rest) hF (fun σ19 hF => ?_)
  refine x_iincN C 3 3 (fun x20 => [(3, .int x20), (0, .ref (ad 0)), (1, .int y1), (2, .int y2)]) dX12_row_113 rfl (by decide +kernel) (by decide) (fun _ => rfl) hF (fun x20 hF => ?_)
  refine x_goto C 35 dX12_row_116 (by decide) ?_
  refine x_loc [(0, .ref (ad 0)), (1, .int y1), (2, .int y2), (3, .int x20)] [1, 2, 3, 0] rfl ?_
  exact H_35 y1 y2 x20 σ19 hF
set_option maxHeartbeats 4000000 in
set_option maxRecDepth 100000 in
theorem x_X12_row_35 {p : Program} {l : Launch} {e : Env} {s : State} {m : MethodId} {args : Array Value} {below : List Frame} {meth : Method} {c : Code} {D : va_G} {K : Nat → ClassId} {A : Nat → Prop} {ad : Nat → Nat} {rest : va_W} (C : xC p s m args meth c D K A RX12 cX12_row 4 (some .int)) (z : Int32 × xS) : ∀ (n : Nat) (y1 : Int32) (y2 : Int32) (y3 : Int32) (σ : xS), F_X12_row_35  n y1 y2 y3 σ = some z → X p l e (xR 1 26) s m args below meth c D A 4 (xQi below D K A args s z.1 (RW K ad rest z.2)) 0 0 35 [(0, .ref (ad 0)), (1, .int y1), (2, .int y2), (3, .int y3)] [] (RW K ad rest σ) := by
  intro n
  induction n with
  | zero =>
    intro y1 y2 y3 σ hF
    cases hF
  | succ n ih =>
    intro y1 y2 y3 σ hF
    rw [F_X12_row_35] at hF
    refine x_iload_n C 3 3 dX12_row_35 rfl rfl ?_
    refine x_iload_n C 1 1 dX12_row_36 rfl rfl ?_
    refine x_icmp_ge C 119 dX12_row_37 (by decide) hF (fun hF => ?_) (fun hF => ?_)
    · refine x_aload_n C 0 0 dX12_row_119 rfl rfl ?_
      refine x_iload_n C 2 2 dX12_row_120 rfl rfl ?_
      refine x_callVI C (wf := RW K ad rest) (As := [.int y2]) (rest := []) dX12_row_121 ml_X12_121 rfl rfl (Nat.le_of_ble_eq_true rfl) 0 (RW_o K ad rest σ) rfl ⟨Nat.le_of_ble_eq_true rfl, Nat.le_of_ble_eq_true rfl⟩ ⟨Nat.zero_le _, Nat.zero_le _⟩ (fun q9 hq9 => c_X12_tell l D K ad rest y2 σ q9 hq9) hF (fun v10 σ9 hF => ?_)
      exact x_iret C dX12_row_124 rfl (congrArg Prod.fst (Option.some.inj hF)) (congrArg (fun q9 : Int32 × xS => RW K ad rest q9.2) (Option.some.inj hF))
    · refine x_iload_n C 3 3 dX12_row_40 rfl rfl ?_
      refine x_iconst C 2 dX12_row_41 (by decide +kernel) ?_
      refine x_iadd C dX12_row_42 ?_
      refine x_iload_n C 1 1 dX12_row_43 rfl rfl ?_
      refine x_icmp_ge C 103 dX12_row_44 (by decide) hF (fun hF => ?_) (fun hF => ?_)
      · exact x_X12_row_103 C z ((F_X12_row_35 n)) ih y1 y2 y3 σ hF
      · refine x_aload_n C 0 0 dX12_row_47 rfl rfl ?_
        refine x_get C 0 dX12_row_48 fl_X12_13 (RW_o K ad rest σ) rfl ?_
        refine x_iconst C 0 dX12_row_51 (by decide +kernel) ?_
        refine x_iald C 2 dX12_row_52 (RW_a3 K ad rest σ) hF (fun v11 hF => ?_)
        refine x_bipush C 10 dX12_row_53 (by decide +kernel) ?_
        refine x_icmp_ge C 103 dX12_row_55 (by decide) hF (fun hF => ?_) (fun hF => ?_)
        · exact x_X12_row_103 C z ((F_X12_row_35 n)) ih y1 y2 y3 σ hF
        · refine x_aload_n C 0 0 dX12_row_58 rfl rfl ?_
          refine x_get C 0 dX12_row_59 fl_X12_23 (RW_o K ad rest σ) rfl ?_
          refine x_iload_n C 3 3 dX12_row_62 rfl rfl ?_
          refine x_iald C 5 dX12_row_63 (RW_a7 K ad rest σ) hF (fun v12 hF => ?_)
          refine x_bipush C 10 dX12_row_64 (by decide +kernel) ?_
          refine x_icmp_ge C 103 dX12_row_66 (by decide) hF (fun hF => ?_) (fun hF => ?_)
          · exact x_X12_row_103 C z ((F_X12_row_35 n)) ih y1 y2 y3 σ hF
          · refine x_aload_n C 0 0 dX12_row_69 rfl rfl ?_
            refine x_aload_n C 0 0 dX12_row_70 rfl rfl ?_
            refine x_get C 0 dX12_row_71 fl_X12_23 (RW_o K ad rest σ) rfl ?_
            refine x_iload_n C 3 3 dX12_row_74 rfl rfl ?_
            refine x_iald C 5 dX12_row_75 (RW_a7 K ad rest σ) hF (fun v13 hF => ?_)
            refine x_aload_n C 0 0 dX12_row_76 rfl rfl ?_
            refine x_get C 0 dX12_row_77 fl_X12_23 (RW_o K ad rest σ) rfl ?_
            refine x_iload_n C 3 3 dX12_row_80 rfl rfl ?_
            refine x_iconst C 1 dX12_row_81 (by decide +kernel) ?_
            refine x_iadd C dX12_row_82 ?_
            refine x_iald C 5 dX12_row_83 (RW_a7 K ad rest σ) hF (fun v14 hF => ?_)
            refine x_iconst C 0 dX12_row_84 (by decide +kernel) ?_
            refine x_aload_n C 0 0 dX12_row_85 rfl rfl ?_
            refine x_get C 0 dX12_row_86 fl_X12_23 (RW_o K ad rest σ) rfl ?_
            refine x_iload_n C 3 3 dX12_row_89 rfl rfl ?_
            refine x_iconst C 2 dX12_row_90 (by decide +kernel) ?_
            refine x_iadd C dX12_row_91 ?_
            refine x_iald C 5 dX12_row_92 (RW_a7 K ad rest σ) hF (fun v15 hF => ?_)
            refine x_iconst C 0 dX12_row_93 (by decide +kernel) ?_
            refine x_callVV C (wf := RW K ad rest) (As := [.int v13, .int v14, .int 0, .int v15, .int 0]) (rest := []) dX12_row_94 ml_X12_136 rfl rfl (Nat.le_of_ble_eq_true rfl) 0 (RW_o K ad rest σ) rfl ⟨Nat.le_of_ble_eq_true rfl, Nat.le_of_ble_eq_true rfl⟩ ⟨Nat.zero_le _, Nat.zero_le _⟩ (fun q9 hq9 => c_X12_addBook l D K ad rest v13 v14 0 v15 0 σ q9 hq9) hF (fun _ σ16 hF => ?_)
            refine x_iincN C 1 2 (fun x17 => [(2, .int x17), (0, .ref (ad 0)), (1, .int y1), (3, .int y3)]) dX12_row_97 rfl (by decide +kernel) (by decide) (fun _ => rfl) hF (fun x17 hF => ?_)
            refine x_goto C 113 dX12_row_100 (by decide) ?_
            refine x_iincN C 3 3 (fun x18 => [(3, .int x18), (2, .int x17), (0, .ref (ad 0)), (1, .int y1)]) dX12_row_113 rfl (by decide +kernel) (by decide) (fun _ => rfl) hF (fun x18 hF => ?_)
            refine x_goto C 35 dX12_row_116 (by decide) ?_
            refine x_loc [(0, .ref (ad 0)), (1, .int y1), (2, .int x17), (3, .int x18)] [2, 3, 1, 0] rfl ?_
            exact ih y1 x17 x18 σ16 hF
set_option maxHeartbeats 4000000 in
set_option maxRecDepth 100000 in
theorem c_X12_row (l : Launch) (D : va_G) (K : Nat → ClassId) (ad : Nat → Nat) (rest : va_W)  (σ : xS) (z : Int32 × xS) (hF : F_X12_row σ = some z) : CI l D K yX12_row cX12_row 4 (some .int) 1 26 [.ref (ad 0)] (RW K ad rest σ) z.1 (RW K ad rest z.2) := by
  refine x_enterI [(0, .ref (ad 0))] pnX12 (Nat.le_of_ble_eq_true rfl) rfl ?_
  intro p e s m args below meth c A C
  unfold F_X12_row at hF
  refine x_aload_n C 0 0 dX12_row_0 rfl rfl ?_
  refine x_iconst C 0 dX12_row_1 (by decide +kernel) ?_
  refine x_put C 0 dX12_row_2 fl_X12_107 fm_X12_0 rfl rfl (RW_o K ad rest σ) (Nat.le_of_ble_eq_true rfl) (RW_s0 K ad rest σ _) ?_
  refine x_st (wf := RW K ad rest) hF (fun σ1 hF => ?_)
  refine x_aload_n C 0 0 dX12_row_5 rfl rfl ?_
  refine x_get C 0 dX12_row_6 fl_X12_162 (RW_o K ad rest σ1) rfl ?_
  refine x_topI hF (fun x2 hF => ?_)
  refine x_istore_n C [(1, .int x2), (0, .ref (ad 0))] dX12_row_9 rfl (by decide) rfl ?_
  refine x_aload_n C 1 0 dX12_row_10 rfl rfl ?_
  refine x_iconst C 0 dX12_row_11 (by decide +kernel) ?_
  refine x_put C 0 dX12_row_12 fl_X12_162 fm_X12_8 rfl rfl (RW_o K ad rest σ1) (Nat.le_of_ble_eq_true rfl) (RW_s8 K ad rest σ1 _) ?_
  refine x_st (wf := RW K ad rest) hF (fun σ3 hF => ?_)
  refine x_iload_n C 0 1 dX12_row_15 rfl rfl ?_
  refine x_if_ne C 26 dX12_row_16 (by decide) hF (fun hF => ?_) (fun hF => ?_)
  · refine x_aload_n C 1 0 dX12_row_26 rfl rfl ?_
    refine x_iconst C 0 dX12_row_27 (by decide +kernel) ?_
    refine x_put C 0 dX12_row_28 fl_X12_165 fm_X12_6 rfl rfl (RW_o K ad rest σ3) (Nat.le_of_ble_eq_true rfl) (RW_s6 K ad rest σ3 _) ?_
    refine x_st (wf := RW K ad rest) hF (fun σ4 hF => ?_)
    refine x_iconst C 0 dX12_row_31 (by decide +kernel) ?_
    refine x_topI hF (fun x5 hF => ?_)
    refine x_istore_n C [(2, .int x5), (1, .int x2), (0, .ref (ad 0))] dX12_row_32 rfl (by decide) rfl ?_
    refine x_iconst C 0 dX12_row_33 (by decide +kernel) ?_
    refine x_topI hF (fun x6 hF => ?_)
    refine x_istore_n C [(3, .int x6), (2, .int x5), (1, .int x2), (0, .ref (ad 0))] dX12_row_34 rfl (by decide) rfl ?_
    refine x_loc [(0, .ref (ad 0)), (1, .int x2), (2, .int x5), (3, .int x6)] [3, 2, 1, 0] rfl ?_
    exact x_X12_row_35 C z FU x2 x5 x6 σ4 hF
  · refine x_aload_n C 1 0 dX12_row_19 rfl rfl ?_
    refine x_bipush C (-6) dX12_row_20 (by decide +kernel) ?_
    refine x_callVI C (wf := RW K ad rest) (As := [.int ((-6))]) (rest := []) dX12_row_22 ml_X12_121 rfl rfl (Nat.le_of_ble_eq_true rfl) 0 (RW_o K ad rest σ3) rfl ⟨Nat.le_of_ble_eq_true rfl, Nat.le_of_ble_eq_true rfl⟩ ⟨Nat.zero_le _, Nat.zero_le _⟩ (fun q9 hq9 => c_X12_tell l D K ad rest ((-6)) σ3 q9 hq9) hF (fun v8 σ7 hF => ?_)
    exact x_iret C dX12_row_25 rfl (congrArg Prod.fst (Option.some.inj hF)) (congrArg (fun q9 : Int32 × xS => RW K ad rest q9.2) (Option.some.inj hF))
theorem dX12_foxed_0 : decode cX12_foxed 0 = .ok (.aload_n 0, 1) := by decide +kernel
theorem dX12_foxed_1 : decode cX12_foxed 1 = .ok (.iconst 0, 1) := by decide +kernel
theorem dX12_foxed_2 : decode cX12_foxed 2 = .ok (.putfield 107, 3) := by decide +kernel
theorem dX12_foxed_5 : decode cX12_foxed 5 = .ok (.aload_n 0, 1) := by decide +kernel
theorem dX12_foxed_6 : decode cX12_foxed 6 = .ok (.getfield 165, 3) := by decide +kernel
theorem dX12_foxed_9 : decode cX12_foxed 9 = .ok (.ireturn, 1) := by decide +kernel
set_option maxHeartbeats 4000000 in
set_option maxRecDepth 100000 in
theorem c_X12_foxed (l : Launch) (D : va_G) (K : Nat → ClassId) (ad : Nat → Nat) (rest : va_W)  (σ : xS) (z : Int32 × xS) (hF : F_X12_foxed σ = some z) : CI l D K yX12_foxed cX12_foxed 1 (some .int) 0 0 [.ref (ad 0)] (RW K ad rest σ) z.1 (RW K ad rest z.2) := by
  refine x_enterI [(0, .ref (ad 0))] pnX12 (Nat.le_of_ble_eq_true rfl) rfl ?_
  intro p e s m args below meth c A C
  unfold F_X12_foxed at hF
  refine x_aload_n C 0 0 dX12_foxed_0 rfl rfl ?_
  refine x_iconst C 0 dX12_foxed_1 (by decide +kernel) ?_
  refine x_put C 0 dX12_foxed_2 fl_X12_107 fm_X12_0 rfl rfl (RW_o K ad rest σ) (Nat.le_of_ble_eq_true rfl) (RW_s0 K ad rest σ _) ?_
  refine x_st (wf := RW K ad rest) hF (fun σ1 hF => ?_)
  refine x_aload_n C 0 0 dX12_foxed_5 rfl rfl ?_
  refine x_get C 0 dX12_foxed_6 fl_X12_165 (RW_o K ad rest σ1) rfl ?_
  exact x_iret C dX12_foxed_9 rfl (congrArg Prod.fst (Option.some.inj hF)) (congrArg (fun q9 : Int32 × xS => RW K ad rest q9.2) (Option.some.inj hF))
theorem dX12_four_0 : decode cX12_four 0 = .ok (.bipush 24, 2) := by decide +kernel
theorem dX12_four_2 : decode cX12_four 2 = .ok (.istore_n 2, 1) := by decide +kernel
theorem dX12_four_3 : decode cX12_four 3 = .ok (.iload_n 2, 1) := by decide +kernel
theorem dX12_four_4 : decode cX12_four 4 = .ok (.ifCond .lt 35, 3) := by decide +kernel
theorem dX12_four_7 : decode cX12_four 7 = .ok (.aload_n 0, 1) := by decide +kernel
theorem dX12_four_8 : decode cX12_four 8 = .ok (.getfield 23, 3) := by decide +kernel
theorem dX12_four_11 : decode cX12_four 11 = .ok (.aload_n 0, 1) := by decide +kernel
theorem dX12_four_12 : decode cX12_four 12 = .ok (.getfield 162, 3) := by decide +kernel
theorem dX12_four_15 : decode cX12_four 15 = .ok (.iload_n 1, 1) := by decide +kernel
theorem dX12_four_16 : decode cX12_four 16 = .ok (.iload_n 2, 1) := by decide +kernel
theorem dX12_four_17 : decode cX12_four 17 = .ok (.ishr, 1) := by decide +kernel
theorem dX12_four_18 : decode cX12_four 18 = .ok (.sipush 255, 3) := by decide +kernel
theorem dX12_four_21 : decode cX12_four 21 = .ok (.iand, 1) := by decide +kernel
theorem dX12_four_22 : decode cX12_four 22 = .ok (.iastore, 1) := by decide +kernel
theorem dX12_four_23 : decode cX12_four 23 = .ok (.aload_n 0, 1) := by decide +kernel
theorem dX12_four_24 : decode cX12_four 24 = .ok (.dup, 1) := by decide +kernel
theorem dX12_four_25 : decode cX12_four 25 = .ok (.getfield 162, 3) := by decide +kernel
theorem dX12_four_28 : decode cX12_four 28 = .ok (.iconst 1, 1) := by decide +kernel
theorem dX12_four_29 : decode cX12_four 29 = .ok (.iadd, 1) := by decide +kernel
theorem dX12_four_30 : decode cX12_four 30 = .ok (.putfield 162, 3) := by decide +kernel
theorem dX12_four_33 : decode cX12_four 33 = .ok (.iinc 2 (-8), 3) := by decide +kernel
theorem dX12_four_36 : decode cX12_four 36 = .ok (.goto (-33), 3) := by decide +kernel
theorem dX12_four_39 : decode cX12_four 39 = .ok (.return_, 1) := by decide +kernel
set_option maxHeartbeats 4000000 in
set_option maxRecDepth 100000 in
theorem x_X12_four_3 {p : Program} {l : Launch} {e : Env} {s : State} {m : MethodId} {args : Array Value} {below : List Frame} {meth : Method} {c : Code} {D : va_G} {K : Nat → ClassId} {A : Nat → Prop} {ad : Nat → Nat} {rest : va_W} (C : xC p s m args meth c D K A RX12 cX12_four 3 none) (z : Unit × xS) : ∀ (n : Nat) (y1 : Int32) (y2 : Int32) (σ : xS), F_X12_four_3  n y1 y2 σ = some z → X p l e (xR 0 0) s m args below meth c D A 3 (xQv below D K A args s (RW K ad rest z.2)) 0 0 3 [(0, .ref (ad 0)), (1, .int y1), (2, .int y2)] [] (RW K ad rest σ) := by
  intro n
  induction n with
  | zero =>
    intro y1 y2 σ hF
    cases hF
  | succ n ih =>
    intro y1 y2 σ hF
    rw [F_X12_four_3] at hF
    refine x_iload_n C 2 2 dX12_four_3 rfl rfl ?_
    refine x_if_lt C 39 dX12_four_4 (by decide) hF (fun hF => ?_) (fun hF => ?_)
    · exact x_vret C dX12_four_39 rfl (congrArg (fun q9 : Unit × xS => RW K ad rest q9.2) (Option.some.inj hF))
    · refine x_aload_n C 0 0 dX12_four_7 rfl rfl ?_
      refine x_get C 0 dX12_four_8 fl_X12_23 (RW_o K ad rest σ) rfl ?_
      refine x_aload_n C 0 0 dX12_four_11 rfl rfl ?_
      refine x_get C 0 dX12_four_12 fl_X12_162 (RW_o K ad rest σ) rfl ?_
      refine x_iload_n C 1 1 dX12_four_15 rfl rfl ?_
      refine x_iload_n C 2 2 dX12_four_16 rfl rfl ?_
      refine x_ishr C dX12_four_17 ?_
      refine x_sipush C 255 dX12_four_18 (by decide +kernel) ?_
      refine x_iand C dX12_four_21 ?_
      refine x_iast C 5 dX12_four_22 (RW_a7 K ad rest σ) hF (RW_s7 K ad rest σ _) (fun hF => ?_)
      refine x_st (wf := RW K ad rest) hF (fun σ2 hF => ?_)
      refine x_aload_n C 0 0 dX12_four_23 rfl rfl ?_
      refine x_dup C rfl dX12_four_24 ?_
      refine x_get C 0 dX12_four_25 fl_X12_162 (RW_o K ad rest σ2) rfl ?_
      refine x_iconst C 1 dX12_four_28 (by decide +kernel) ?_
      refine x_iadd C dX12_four_29 ?_
      refine x_put C 0 dX12_four_30 fl_X12_162 fm_X12_8 rfl rfl (RW_o K ad rest σ2) (Nat.le_of_ble_eq_true rfl) (RW_s8 K ad rest σ2 _) ?_
      refine x_st (wf := RW K ad rest) hF (fun σ3 hF => ?_)
      refine x_iincN C (-8) 2 (fun x4 => [(2, .int x4), (0, .ref (ad 0)), (1, .int y1)]) dX12_four_33 rfl (by decide +kernel) (by decide) (fun _ => rfl) hF (fun x4 hF => ?_)
      refine x_goto C 3 dX12_four_36 (by decide) ?_
      refine x_loc [(0, .ref (ad 0)), (1, .int y1), (2, .int x4)] [1, 2, 0] rfl ?_
      exact ih y1 x4 σ3 hF
set_option maxHeartbeats 4000000 in
set_option maxRecDepth 100000 in
theorem c_X12_four (l : Launch) (D : va_G) (K : Nat → ClassId) (ad : Nat → Nat) (rest : va_W) (a1 : Int32) (σ : xS) (z : Unit × xS) (hF : F_X12_four a1 σ = some z) : CV l D K yX12_four cX12_four 3 none 0 0 [.ref (ad 0), .int a1] (RW K ad rest σ) (RW K ad rest z.2) := by
  refine x_enterV [(0, .ref (ad 0)), (1, .int a1)] pnX12 (Nat.le_of_ble_eq_true rfl) rfl ?_
  intro p e s m args below meth c A C
  unfold F_X12_four at hF
  refine x_bipush C 24 dX12_four_0 (by decide +kernel) ?_
  refine x_topI hF (fun x1 hF => ?_)
  refine x_istore_n C [(2, .int x1), (0, .ref (ad 0)), (1, .int a1)] dX12_four_2 rfl (by decide) rfl ?_
  refine x_loc [(0, .ref (ad 0)), (1, .int a1), (2, .int x1)] [1, 2, 0] rfl ?_
  exact x_X12_four_3 C z FU a1 x1 σ hF
theorem dX12_feed_0 : decode cX12_feed 0 = .ok (.aload_n 0, 1) := by decide +kernel
theorem dX12_feed_1 : decode cX12_feed 1 = .ok (.iconst 0, 1) := by decide +kernel
theorem dX12_feed_2 : decode cX12_feed 2 = .ok (.putfield 107, 3) := by decide +kernel
theorem dX12_feed_5 : decode cX12_feed 5 = .ok (.aload_n 0, 1) := by decide +kernel
theorem dX12_feed_6 : decode cX12_feed 6 = .ok (.getfield 162, 3) := by decide +kernel
theorem dX12_feed_9 : decode cX12_feed 9 = .ok (.bipush 20, 2) := by decide +kernel
theorem dX12_feed_11 : decode cX12_feed 11 = .ok (.iadd, 1) := by decide +kernel
theorem dX12_feed_12 : decode cX12_feed 12 = .ok (.sipush 400, 3) := by decide +kernel
theorem dX12_feed_15 : decode cX12_feed 15 = .ok (.if_icmp .le 5, 3) := by decide +kernel
theorem dX12_feed_18 : decode cX12_feed 18 = .ok (.iconst (-1), 1) := by decide +kernel
theorem dX12_feed_19 : decode cX12_feed 19 = .ok (.ireturn, 1) := by decide +kernel
theorem dX12_feed_20 : decode cX12_feed 20 = .ok (.aload_n 0, 1) := by decide +kernel
theorem dX12_feed_21 : decode cX12_feed 21 = .ok (.iload_n 1, 1) := by decide +kernel
theorem dX12_feed_22 : decode cX12_feed 22 = .ok (.invokevirtual 168, 3) := by decide +kernel
theorem dX12_feed_25 : decode cX12_feed 25 = .ok (.aload_n 0, 1) := by decide +kernel
theorem dX12_feed_26 : decode cX12_feed 26 = .ok (.iload_n 2, 1) := by decide +kernel
theorem dX12_feed_27 : decode cX12_feed 27 = .ok (.invokevirtual 168, 3) := by decide +kernel
theorem dX12_feed_30 : decode cX12_feed 30 = .ok (.aload_n 0, 1) := by decide +kernel
theorem dX12_feed_31 : decode cX12_feed 31 = .ok (.iload_n 3, 1) := by decide +kernel
theorem dX12_feed_32 : decode cX12_feed 32 = .ok (.invokevirtual 168, 3) := by decide +kernel
theorem dX12_feed_35 : decode cX12_feed 35 = .ok (.aload_n 0, 1) := by decide +kernel
theorem dX12_feed_36 : decode cX12_feed 36 = .ok (.iload 4, 2) := by decide +kernel
theorem dX12_feed_38 : decode cX12_feed 38 = .ok (.invokevirtual 168, 3) := by decide +kernel
theorem dX12_feed_41 : decode cX12_feed 41 = .ok (.aload_n 0, 1) := by decide +kernel
theorem dX12_feed_42 : decode cX12_feed 42 = .ok (.iload 5, 2) := by decide +kernel
theorem dX12_feed_44 : decode cX12_feed 44 = .ok (.invokevirtual 168, 3) := by decide +kernel
theorem dX12_feed_47 : decode cX12_feed 47 = .ok (.aload_n 0, 1) := by decide +kernel
theorem dX12_feed_48 : decode cX12_feed 48 = .ok (.getfield 162, 3) := by decide +kernel
theorem dX12_feed_51 : decode cX12_feed 51 = .ok (.ireturn, 1) := by decide +kernel
set_option maxHeartbeats 4000000 in
set_option maxRecDepth 100000 in
theorem c_X12_feed (l : Launch) (D : va_G) (K : Nat → ClassId) (ad : Nat → Nat) (rest : va_W) (a1 : Int32) (a2 : Int32) (a3 : Int32) (a4 : Int32) (a5 : Int32) (σ : xS) (z : Int32 × xS) (hF : F_X12_feed a1 a2 a3 a4 a5 σ = some z) : CI l D K yX12_feed cX12_feed 6 (some .int) 1 22 [.ref (ad 0), .int a1, .int a2, .int a3, .int a4, .int a5] (RW K ad rest σ) z.1 (RW K ad rest z.2) := by
  refine x_enterI [(0, .ref (ad 0)), (1, .int a1), (2, .int a2), (3, .int a3), (4, .int a4), (5, .int a5)] pnX12 (Nat.le_of_ble_eq_true rfl) rfl ?_
  intro p e s m args below meth c A C
  unfold F_X12_feed at hF
  refine x_aload_n C 0 0 dX12_feed_0 rfl rfl ?_
  refine x_iconst C 0 dX12_feed_1 (by decide +kernel) ?_
  refine x_put C 0 dX12_feed_2 fl_X12_107 fm_X12_0 rfl rfl (RW_o K ad rest σ) (Nat.le_of_ble_eq_true rfl) (RW_s0 K ad rest σ _) ?_
  refine x_st (wf := RW K ad rest) hF (fun σ1 hF => ?_)
  refine x_aload_n C 0 0 dX12_feed_5 rfl rfl ?_
  refine x_get C 0 dX12_feed_6 fl_X12_162 (RW_o K ad rest σ1) rfl ?_
  refine x_bipush C 20 dX12_feed_9 (by decide +kernel) ?_
  refine x_iadd C dX12_feed_11 ?_
  refine x_sipush C 400 dX12_feed_12 (by decide +kernel) ?_
  refine x_icmp_le C 20 dX12_feed_15 (by decide) hF (fun hF => ?_) (fun hF => ?_)
  · refine x_aload_n C 0 0 dX12_feed_20 rfl rfl ?_
    refine x_iload_n C 1 1 dX12_feed_21 rfl rfl ?_
    refine x_callVV C (wf := RW K ad rest) (As := [.int a1]) (rest := []) dX12_feed_22 ml_X12_168 rfl rfl (Nat.le_of_ble_eq_true rfl) 0 (RW_o K ad rest σ1) rfl ⟨Nat.le_of_ble_eq_true rfl, Nat.le_of_ble_eq_true rfl⟩ ⟨Nat.zero_le _, Nat.zero_le _⟩ (fun q9 hq9 => c_X12_four l D K ad rest a1 σ1 q9 hq9) hF (fun _ σ2 hF => ?_)
    refine x_aload_n C 0 0 dX12_feed_25 rfl rfl ?_
    refine x_iload_n C 2 2 dX12_feed_26 rfl rfl ?_
    refine x_callVV C (wf := RW K ad rest) (As := [.int a2]) (rest := []) dX12_feed_27 ml_X12_168 rfl rfl (Nat.le_of_ble_eq_true rfl) 0 (RW_o K ad rest σ2) rfl ⟨Nat.le_of_ble_eq_true rfl, Nat.le_of_ble_eq_true rfl⟩ ⟨Nat.zero_le _, Nat.zero_le _⟩ (fun q9 hq9 => c_X12_four l D K ad rest a2 σ2 q9 hq9) hF (fun _ σ3 hF => ?_)
    refine x_aload_n C 0 0 dX12_feed_30 rfl rfl ?_
    refine x_iload_n C 3 3 dX12_feed_31 rfl rfl ?_
    refine x_callVV C (wf := RW K ad rest) (As := [.int a3]) (rest := []) dX12_feed_32 ml_X12_168 rfl rfl (Nat.le_of_ble_eq_true rfl) 0 (RW_o K ad rest σ3) rfl ⟨Nat.le_of_ble_eq_true rfl, Nat.le_of_ble_eq_true rfl⟩ ⟨Nat.zero_le _, Nat.zero_le _⟩ (fun q9 hq9 => c_X12_four l D K ad rest a3 σ3 q9 hq9) hF (fun _ σ4 hF => ?_)
    refine x_aload_n C 0 0 dX12_feed_35 rfl rfl ?_
    refine x_iload C 4 4 dX12_feed_36 rfl ?_
    refine x_callVV C (wf := RW K ad rest) (As := [.int a4]) (rest := []) dX12_feed_38 ml_X12_168 rfl rfl (Nat.le_of_ble_eq_true rfl) 0 (RW_o K ad rest σ4) rfl ⟨Nat.le_of_ble_eq_true rfl, Nat.le_of_ble_eq_true rfl⟩ ⟨Nat.zero_le _, Nat.zero_le _⟩ (fun q9 hq9 => c_X12_four l D K ad rest a4 σ4 q9 hq9) hF (fun _ σ5 hF => ?_)
    refine x_aload_n C 0 0 dX12_feed_41 rfl rfl ?_
    refine x_iload C 5 5 dX12_feed_42 rfl ?_
    refine x_callVV C (wf := RW K ad rest) (As := [.int a5]) (rest := []) dX12_feed_44 ml_X12_168 rfl rfl (Nat.le_of_ble_eq_true rfl) 0 (RW_o K ad rest σ5) rfl ⟨Nat.le_of_ble_eq_true rfl, Nat.le_of_ble_eq_true rfl⟩ ⟨Nat.zero_le _, Nat.zero_le _⟩ (fun q9 hq9 => c_X12_four l D K ad rest a5 σ5 q9 hq9) hF (fun _ σ6 hF => ?_)
    refine x_aload_n C 0 0 dX12_feed_47 rfl rfl ?_
    refine x_get C 0 dX12_feed_48 fl_X12_162 (RW_o K ad rest σ6) rfl ?_
    exact x_iret C dX12_feed_51 rfl (congrArg Prod.fst (Option.some.inj hF)) (congrArg (fun q9 : Int32 × xS => RW K ad rest q9.2) (Option.some.inj hF))
  · refine x_iconst C (-1) dX12_feed_18 (by decide +kernel) ?_
    exact x_iret C dX12_feed_19 rfl (congrArg Prod.fst (Option.some.inj hF)) (congrArg (fun q9 : Int32 × xS => RW K ad rest q9.2) (Option.some.inj hF))
theorem dX12_end_0 : decode cX12_end 0 = .ok (.aload_n 0, 1) := by decide +kernel
theorem dX12_end_1 : decode cX12_end 1 = .ok (.iconst 0, 1) := by decide +kernel
theorem dX12_end_2 : decode cX12_end 2 = .ok (.putfield 107, 3) := by decide +kernel
theorem dX12_end_5 : decode cX12_end 5 = .ok (.iload_n 1, 1) := by decide +kernel
theorem dX12_end_6 : decode cX12_end 6 = .ok (.ifCond .lt 11, 3) := by decide +kernel
theorem dX12_end_9 : decode cX12_end 9 = .ok (.iload_n 1, 1) := by decide +kernel
theorem dX12_end_10 : decode cX12_end 10 = .ok (.aload_n 0, 1) := by decide +kernel
theorem dX12_end_11 : decode cX12_end 11 = .ok (.getfield 162, 3) := by decide +kernel
theorem dX12_end_14 : decode cX12_end 14 = .ok (.if_icmp .le 5, 3) := by decide +kernel
theorem dX12_end_17 : decode cX12_end 17 = .ok (.iconst (-1), 1) := by decide +kernel
theorem dX12_end_18 : decode cX12_end 18 = .ok (.ireturn, 1) := by decide +kernel
theorem dX12_end_19 : decode cX12_end 19 = .ok (.aload_n 0, 1) := by decide +kernel
theorem dX12_end_20 : decode cX12_end 20 = .ok (.iload_n 1, 1) := by decide +kernel
theorem dX12_end_21 : decode cX12_end 21 = .ok (.putfield 162, 3) := by decide +kernel
theorem dX12_end_24 : decode cX12_end 24 = .ok (.iload_n 1, 1) := by decide +kernel
theorem dX12_end_25 : decode cX12_end 25 = .ok (.ireturn, 1) := by decide +kernel
set_option maxHeartbeats 4000000 in
set_option maxRecDepth 100000 in
theorem c_X12_end (l : Launch) (D : va_G) (K : Nat → ClassId) (ad : Nat → Nat) (rest : va_W) (a1 : Int32) (σ : xS) (z : Int32 × xS) (hF : F_X12_end a1 σ = some z) : CI l D K yX12_end cX12_end 2 (some .int) 0 0 [.ref (ad 0), .int a1] (RW K ad rest σ) z.1 (RW K ad rest z.2) := by
  refine x_enterI [(0, .ref (ad 0)), (1, .int a1)] pnX12 (Nat.le_of_ble_eq_true rfl) rfl ?_
  intro p e s m args below meth c A C
  unfold F_X12_end at hF
  refine x_aload_n C 0 0 dX12_end_0 rfl rfl ?_
  refine x_iconst C 0 dX12_end_1 (by decide +kernel) ?_
  refine x_put C 0 dX12_end_2 fl_X12_107 fm_X12_0 rfl rfl (RW_o K ad rest σ) (Nat.le_of_ble_eq_true rfl) (RW_s0 K ad rest σ _) ?_
  refine x_st (wf := RW K ad rest) hF (fun σ1 hF => ?_)
  refine x_iload_n C 1 1 dX12_end_5 rfl rfl ?_
  refine x_if_lt C 17 dX12_end_6 (by decide) hF (fun hF => ?_) (fun hF => ?_)
  · refine x_iconst C (-1) dX12_end_17 (by decide +kernel) ?_
    exact x_iret C dX12_end_18 rfl (congrArg Prod.fst (Option.some.inj hF)) (congrArg (fun q9 : Int32 × xS => RW K ad rest q9.2) (Option.some.inj hF))
  · refine x_iload_n C 1 1 dX12_end_9 rfl rfl ?_
    refine x_aload_n C 0 0 dX12_end_10 rfl rfl ?_
    refine x_get C 0 dX12_end_11 fl_X12_162 (RW_o K ad rest σ1) rfl ?_
    refine x_icmp_le C 19 dX12_end_14 (by decide) hF (fun hF => ?_) (fun hF => ?_)
    · refine x_aload_n C 0 0 dX12_end_19 rfl rfl ?_
      refine x_iload_n C 1 1 dX12_end_20 rfl rfl ?_
      refine x_put C 0 dX12_end_21 fl_X12_162 fm_X12_8 rfl rfl (RW_o K ad rest σ1) (Nat.le_of_ble_eq_true rfl) (RW_s8 K ad rest σ1 _) ?_
      refine x_st (wf := RW K ad rest) hF (fun σ2 hF => ?_)
      refine x_iload_n C 1 1 dX12_end_24 rfl rfl ?_
      exact x_iret C dX12_end_25 rfl (congrArg Prod.fst (Option.some.inj hF)) (congrArg (fun q9 : Int32 × xS => RW K ad rest q9.2) (Option.some.inj hF))
    · refine x_iconst C (-1) dX12_end_17 (by decide +kernel) ?_
      exact x_iret C dX12_end_18 rfl (congrArg Prod.fst (Option.some.inj hF)) (congrArg (fun q9 : Int32 × xS => RW K ad rest q9.2) (Option.some.inj hF))
theorem dX12_isSmall_0 : decode cX12_isSmall 0 = .ok (.iload_n 0, 1) := by decide +kernel
theorem dX12_isSmall_1 : decode cX12_isSmall 1 = .ok (.bipush 97, 2) := by decide +kernel
theorem dX12_isSmall_3 : decode cX12_isSmall 3 = .ok (.if_icmp .lt 13, 3) := by decide +kernel
theorem dX12_isSmall_6 : decode cX12_isSmall 6 = .ok (.iload_n 0, 1) := by decide +kernel
theorem dX12_isSmall_7 : decode cX12_isSmall 7 = .ok (.bipush 122, 2) := by decide +kernel
theorem dX12_isSmall_9 : decode cX12_isSmall 9 = .ok (.if_icmp .gt 7, 3) := by decide +kernel
theorem dX12_isSmall_12 : decode cX12_isSmall 12 = .ok (.iconst 1, 1) := by decide +kernel
theorem dX12_isSmall_13 : decode cX12_isSmall 13 = .ok (.goto 4, 3) := by decide +kernel
theorem dX12_isSmall_16 : decode cX12_isSmall 16 = .ok (.iconst 0, 1) := by decide +kernel
theorem dX12_isSmall_17 : decode cX12_isSmall 17 = .ok (.ireturn, 1) := by decide +kernel
set_option maxHeartbeats 4000000 in
set_option maxRecDepth 100000 in
theorem c_X12_isSmall (l : Launch) (D : va_G) (K : Nat → ClassId) (ad : Nat → Nat) (rest : va_W) (a1 : Int32) (σ : xS) (z : Int32 × xS) (hF : F_X12_isSmall a1 σ = some z) : CI l D K yX12_isSmall cX12_isSmall 1 (some .boolean) 0 0 [.int a1] (RW K ad rest σ) z.1 (RW K ad rest z.2) := by
  refine x_enterI [(0, .int a1)] pnX12 (Nat.le_of_ble_eq_true rfl) rfl ?_
  intro p e s m args below meth c A C
  unfold F_X12_isSmall at hF
  refine x_iload_n C 0 0 dX12_isSmall_0 rfl rfl ?_
  refine x_bipush C 97 dX12_isSmall_1 (by decide +kernel) ?_
  refine x_icmp_lt C 16 dX12_isSmall_3 (by decide) hF (fun hF => ?_) (fun hF => ?_)
  · refine x_iconst C 0 dX12_isSmall_16 (by decide +kernel) ?_
    have hz := (cz_some hF).1
    replace hF := (cz_some hF).2
    exact x_zret C dX12_isSmall_17 rfl hz (congrArg Prod.fst (Option.some.inj hF)) (congrArg (fun q9 : Int32 × xS => RW K ad rest q9.2) (Option.some.inj hF))
  · refine x_iload_n C 0 0 dX12_isSmall_6 rfl rfl ?_
    refine x_bipush C 122 dX12_isSmall_7 (by decide +kernel) ?_
    refine x_icmp_gt C 16 dX12_isSmall_9 (by decide) hF (fun hF => ?_) (fun hF => ?_)
    · refine x_iconst C 0 dX12_isSmall_16 (by decide +kernel) ?_
      have hz := (cz_some hF).1
      replace hF := (cz_some hF).2
      exact x_zret C dX12_isSmall_17 rfl hz (congrArg Prod.fst (Option.some.inj hF)) (congrArg (fun q9 : Int32 × xS => RW K ad rest q9.2) (Option.some.inj hF))
    · refine x_iconst C 1 dX12_isSmall_12 (by decide +kernel) ?_
      refine x_goto C 17 dX12_isSmall_13 (by decide) ?_
      have hz := (cz_some hF).1
      replace hF := (cz_some hF).2
      exact x_zret C dX12_isSmall_17 rfl hz (congrArg Prod.fst (Option.some.inj hF)) (congrArg (fun q9 : Int32 × xS => RW K ad rest q9.2) (Option.some.inj hF))
theorem dX12_isDigit_0 : decode cX12_isDigit 0 = .ok (.iload_n 0, 1) := by decide +kernel
theorem dX12_isDigit_1 : decode cX12_isDigit 1 = .ok (.bipush 48, 2) := by decide +kernel
theorem dX12_isDigit_3 : decode cX12_isDigit 3 = .ok (.if_icmp .lt 13, 3) := by decide +kernel
theorem dX12_isDigit_6 : decode cX12_isDigit 6 = .ok (.iload_n 0, 1) := by decide +kernel
theorem dX12_isDigit_7 : decode cX12_isDigit 7 = .ok (.bipush 57, 2) := by decide +kernel
theorem dX12_isDigit_9 : decode cX12_isDigit 9 = .ok (.if_icmp .gt 7, 3) := by decide +kernel
theorem dX12_isDigit_12 : decode cX12_isDigit 12 = .ok (.iconst 1, 1) := by decide +kernel
theorem dX12_isDigit_13 : decode cX12_isDigit 13 = .ok (.goto 4, 3) := by decide +kernel
theorem dX12_isDigit_16 : decode cX12_isDigit 16 = .ok (.iconst 0, 1) := by decide +kernel
theorem dX12_isDigit_17 : decode cX12_isDigit 17 = .ok (.ireturn, 1) := by decide +kernel
set_option maxHeartbeats 4000000 in
set_option maxRecDepth 100000 in
theorem c_X12_isDigit (l : Launch) (D : va_G) (K : Nat → ClassId) (ad : Nat → Nat) (rest : va_W) (a1 : Int32) (σ : xS) (z : Int32 × xS) (hF : F_X12_isDigit a1 σ = some z) : CI l D K yX12_isDigit cX12_isDigit 1 (some .boolean) 0 0 [.int a1] (RW K ad rest σ) z.1 (RW K ad rest z.2) := by
  refine x_enterI [(0, .int a1)] pnX12 (Nat.le_of_ble_eq_true rfl) rfl ?_
  intro p e s m args below meth c A C
  unfold F_X12_isDigit at hF
  refine x_iload_n C 0 0 dX12_isDigit_0 rfl rfl ?_
  refine x_bipush C 48 dX12_isDigit_1 (by decide +kernel) ?_
  refine x_icmp_lt C 16 dX12_isDigit_3 (by decide) hF (fun hF => ?_) (fun hF => ?_)
  · refine x_iconst C 0 dX12_isDigit_16 (by decide +kernel) ?_
    have hz := (cz_some hF).1
    replace hF := (cz_some hF).2
    exact x_zret C dX12_isDigit_17 rfl hz (congrArg Prod.fst (Option.some.inj hF)) (congrArg (fun q9 : Int32 × xS => RW K ad rest q9.2) (Option.some.inj hF))
  · refine x_iload_n C 0 0 dX12_isDigit_6 rfl rfl ?_
    refine x_bipush C 57 dX12_isDigit_7 (by decide +kernel) ?_
    refine x_icmp_gt C 16 dX12_isDigit_9 (by decide) hF (fun hF => ?_) (fun hF => ?_)
    · refine x_iconst C 0 dX12_isDigit_16 (by decide +kernel) ?_
      have hz := (cz_some hF).1
      replace hF := (cz_some hF).2
      exact x_zret C dX12_isDigit_17 rfl hz (congrArg Prod.fst (Option.some.inj hF)) (congrArg (fun q9 : Int32 × xS => RW K ad rest q9.2) (Option.some.inj hF))
    · refine x_iconst C 1 dX12_isDigit_12 (by decide +kernel) ?_
      refine x_goto C 17 dX12_isDigit_13 (by decide) ?_
      have hz := (cz_some hF).1
      replace hF := (cz_some hF).2
      exact x_zret C dX12_isDigit_17 rfl hz (congrArg Prod.fst (Option.some.inj hF)) (congrArg (fun q9 : Int32 × xS => RW K ad rest q9.2) (Option.some.inj hF))
theorem dX12_next_0 : decode cX12_next 0 = .ok (.aload_n 0, 1) := by decide +kernel
theorem dX12_next_1 : decode cX12_next 1 = .ok (.aload_n 0, 1) := by decide +kernel
theorem dX12_next_2 : decode cX12_next 2 = .ok (.getfield 172, 3) := by decide +kernel
theorem dX12_next_5 : decode cX12_next 5 = .ok (.putfield 182, 3) := by decide +kernel
theorem dX12_next_8 : decode cX12_next 8 = .ok (.aload_n 0, 1) := by decide +kernel
theorem dX12_next_9 : decode cX12_next 9 = .ok (.getfield 182, 3) := by decide +kernel
theorem dX12_next_12 : decode cX12_next 12 = .ok (.aload_n 0, 1) := by decide +kernel
theorem dX12_next_13 : decode cX12_next 13 = .ok (.getfield 162, 3) := by decide +kernel
theorem dX12_next_16 : decode cX12_next 16 = .ok (.if_icmp .ge 30, 3) := by decide +kernel
theorem dX12_next_19 : decode cX12_next 19 = .ok (.aload_n 0, 1) := by decide +kernel
theorem dX12_next_20 : decode cX12_next 20 = .ok (.getfield 23, 3) := by decide +kernel
theorem dX12_next_23 : decode cX12_next 23 = .ok (.aload_n 0, 1) := by decide +kernel
theorem dX12_next_24 : decode cX12_next 24 = .ok (.getfield 182, 3) := by decide +kernel
theorem dX12_next_27 : decode cX12_next 27 = .ok (.iaload, 1) := by decide +kernel
theorem dX12_next_28 : decode cX12_next 28 = .ok (.bipush 32, 2) := by decide +kernel
theorem dX12_next_30 : decode cX12_next 30 = .ok (.if_icmp .ne 16, 3) := by decide +kernel
theorem dX12_next_33 : decode cX12_next 33 = .ok (.aload_n 0, 1) := by decide +kernel
theorem dX12_next_34 : decode cX12_next 34 = .ok (.dup, 1) := by decide +kernel
theorem dX12_next_35 : decode cX12_next 35 = .ok (.getfield 182, 3) := by decide +kernel
theorem dX12_next_38 : decode cX12_next 38 = .ok (.iconst 1, 1) := by decide +kernel
theorem dX12_next_39 : decode cX12_next 39 = .ok (.iadd, 1) := by decide +kernel
theorem dX12_next_40 : decode cX12_next 40 = .ok (.putfield 182, 3) := by decide +kernel
theorem dX12_next_43 : decode cX12_next 43 = .ok (.goto (-35), 3) := by decide +kernel
theorem dX12_next_46 : decode cX12_next 46 = .ok (.aload_n 0, 1) := by decide +kernel
theorem dX12_next_47 : decode cX12_next 47 = .ok (.aload_n 0, 1) := by decide +kernel
theorem dX12_next_48 : decode cX12_next 48 = .ok (.getfield 182, 3) := by decide +kernel
theorem dX12_next_51 : decode cX12_next 51 = .ok (.putfield 172, 3) := by decide +kernel
theorem dX12_next_54 : decode cX12_next 54 = .ok (.aload_n 0, 1) := by decide +kernel
theorem dX12_next_55 : decode cX12_next 55 = .ok (.lconst 0, 1) := by decide +kernel
theorem dX12_next_56 : decode cX12_next 56 = .ok (.putfield 185, 3) := by decide +kernel
theorem dX12_next_59 : decode cX12_next 59 = .ok (.aload_n 0, 1) := by decide +kernel
theorem dX12_next_60 : decode cX12_next 60 = .ok (.aload_n 0, 1) := by decide +kernel
theorem dX12_next_61 : decode cX12_next 61 = .ok (.getfield 182, 3) := by decide +kernel
theorem dX12_next_64 : decode cX12_next 64 = .ok (.aload_n 0, 1) := by decide +kernel
theorem dX12_next_65 : decode cX12_next 65 = .ok (.getfield 162, 3) := by decide +kernel
theorem dX12_next_68 : decode cX12_next 68 = .ok (.if_icmp .ne 7, 3) := by decide +kernel
theorem dX12_next_71 : decode cX12_next 71 = .ok (.iconst 0, 1) := by decide +kernel
theorem dX12_next_72 : decode cX12_next 72 = .ok (.goto 42, 3) := by decide +kernel
theorem dX12_next_75 : decode cX12_next 75 = .ok (.aload_n 0, 1) := by decide +kernel
theorem dX12_next_76 : decode cX12_next 76 = .ok (.getfield 23, 3) := by decide +kernel
theorem dX12_next_79 : decode cX12_next 79 = .ok (.aload_n 0, 1) := by decide +kernel
theorem dX12_next_80 : decode cX12_next 80 = .ok (.getfield 182, 3) := by decide +kernel
theorem dX12_next_83 : decode cX12_next 83 = .ok (.iaload, 1) := by decide +kernel
theorem dX12_next_84 : decode cX12_next 84 = .ok (.invokestatic 189, 3) := by decide +kernel
theorem dX12_next_87 : decode cX12_next 87 = .ok (.ifCond .eq 7, 3) := by decide +kernel
theorem dX12_next_90 : decode cX12_next 90 = .ok (.iconst 1, 1) := by decide +kernel
theorem dX12_next_91 : decode cX12_next 91 = .ok (.goto 23, 3) := by decide +kernel
theorem dX12_next_94 : decode cX12_next 94 = .ok (.aload_n 0, 1) := by decide +kernel
theorem dX12_next_95 : decode cX12_next 95 = .ok (.getfield 23, 3) := by decide +kernel
theorem dX12_next_98 : decode cX12_next 98 = .ok (.aload_n 0, 1) := by decide +kernel
theorem dX12_next_99 : decode cX12_next 99 = .ok (.getfield 182, 3) := by decide +kernel
theorem dX12_next_102 : decode cX12_next 102 = .ok (.iaload, 1) := by decide +kernel
theorem dX12_next_103 : decode cX12_next 103 = .ok (.invokestatic 192, 3) := by decide +kernel
theorem dX12_next_106 : decode cX12_next 106 = .ok (.ifCond .eq 7, 3) := by decide +kernel
theorem dX12_next_109 : decode cX12_next 109 = .ok (.iconst 2, 1) := by decide +kernel
theorem dX12_next_110 : decode cX12_next 110 = .ok (.goto 4, 3) := by decide +kernel
theorem dX12_next_113 : decode cX12_next 113 = .ok (.iconst 3, 1) := by decide +kernel
theorem dX12_next_114 : decode cX12_next 114 = .ok (.putfield 195, 3) := by decide +kernel
theorem dX12_next_117 : decode cX12_next 117 = .ok (.aload_n 0, 1) := by decide +kernel
theorem dX12_next_118 : decode cX12_next 118 = .ok (.getfield 195, 3) := by decide +kernel
theorem dX12_next_121 : decode cX12_next 121 = .ok (.iconst 3, 1) := by decide +kernel
theorem dX12_next_122 : decode cX12_next 122 = .ok (.if_icmp .ne 27, 3) := by decide +kernel
theorem dX12_next_125 : decode cX12_next 125 = .ok (.aload_n 0, 1) := by decide +kernel
theorem dX12_next_126 : decode cX12_next 126 = .ok (.aload_n 0, 1) := by decide +kernel
theorem dX12_next_127 : decode cX12_next 127 = .ok (.getfield 23, 3) := by decide +kernel
theorem dX12_next_130 : decode cX12_next 130 = .ok (.aload_n 0, 1) := by decide +kernel
theorem dX12_next_131 : decode cX12_next 131 = .ok (.getfield 182, 3) := by decide +kernel
theorem dX12_next_134 : decode cX12_next 134 = .ok (.iaload, 1) := by decide +kernel
theorem dX12_next_135 : decode cX12_next 135 = .ok (.i2l, 1) := by decide +kernel
theorem dX12_next_136 : decode cX12_next 136 = .ok (.putfield 185, 3) := by decide +kernel
theorem dX12_next_139 : decode cX12_next 139 = .ok (.aload_n 0, 1) := by decide +kernel
theorem dX12_next_140 : decode cX12_next 140 = .ok (.dup, 1) := by decide +kernel
theorem dX12_next_141 : decode cX12_next 141 = .ok (.getfield 172, 3) := by decide +kernel
theorem dX12_next_144 : decode cX12_next 144 = .ok (.iconst 1, 1) := by decide +kernel
theorem dX12_next_145 : decode cX12_next 145 = .ok (.iadd, 1) := by decide +kernel
theorem dX12_next_146 : decode cX12_next 146 = .ok (.putfield 172, 3) := by decide +kernel
theorem dX12_next_149 : decode cX12_next 149 = .ok (.aload_n 0, 1) := by decide +kernel
theorem dX12_next_150 : decode cX12_next 150 = .ok (.getfield 195, 3) := by decide +kernel
theorem dX12_next_153 : decode cX12_next 153 = .ok (.iconst 1, 1) := by decide +kernel
theorem dX12_next_154 : decode cX12_next 154 = .ok (.if_icmp .ne 89, 3) := by decide +kernel
theorem dX12_next_157 : decode cX12_next 157 = .ok (.aload_n 0, 1) := by decide +kernel
theorem dX12_next_158 : decode cX12_next 158 = .ok (.getfield 172, 3) := by decide +kernel
theorem dX12_next_161 : decode cX12_next 161 = .ok (.aload_n 0, 1) := by decide +kernel
theorem dX12_next_162 : decode cX12_next 162 = .ok (.getfield 162, 3) := by decide +kernel
theorem dX12_next_165 : decode cX12_next 165 = .ok (.if_icmp .ge 78, 3) := by decide +kernel
theorem dX12_next_168 : decode cX12_next 168 = .ok (.aload_n 0, 1) := by decide +kernel
theorem dX12_next_169 : decode cX12_next 169 = .ok (.getfield 23, 3) := by decide +kernel
theorem dX12_next_172 : decode cX12_next 172 = .ok (.aload_n 0, 1) := by decide +kernel
theorem dX12_next_173 : decode cX12_next 173 = .ok (.getfield 172, 3) := by decide +kernel
theorem dX12_next_176 : decode cX12_next 176 = .ok (.iaload, 1) := by decide +kernel
theorem dX12_next_177 : decode cX12_next 177 = .ok (.invokestatic 189, 3) := by decide +kernel
theorem dX12_next_180 : decode cX12_next 180 = .ok (.ifCond .eq 63, 3) := by decide +kernel
theorem dX12_next_183 : decode cX12_next 183 = .ok (.aload_n 0, 1) := by decide +kernel
theorem dX12_next_184 : decode cX12_next 184 = .ok (.aload_n 0, 1) := by decide +kernel
theorem dX12_next_185 : decode cX12_next 185 = .ok (.getfield 172, 3) := by decide +kernel
theorem dX12_next_188 : decode cX12_next 188 = .ok (.aload_n 0, 1) := by decide +kernel
theorem dX12_next_189 : decode cX12_next 189 = .ok (.getfield 182, 3) := by decide +kernel
theorem dX12_next_192 : decode cX12_next 192 = .ok (.isub, 1) := by decide +kernel
theorem dX12_next_193 : decode cX12_next 193 = .ok (.bipush 10, 2) := by decide +kernel
theorem dX12_next_195 : decode cX12_next 195 = .ok (.if_icmp .ge 29, 3) := by decide +kernel
theorem dX12_next_198 : decode cX12_next 198 = .ok (.aload_n 0, 1) := by decide +kernel
theorem dX12_next_199 : decode cX12_next 199 = .ok (.getfield 185, 3) := by decide +kernel
theorem dX12_next_202 : decode cX12_next 202 = .ok (.ldc2_w 198, 3) := by decide +kernel
theorem dX12_next_205 : decode cX12_next 205 = .ok (.lmul, 1) := by decide +kernel
theorem dX12_next_206 : decode cX12_next 206 = .ok (.aload_n 0, 1) := by decide +kernel
theorem dX12_next_207 : decode cX12_next 207 = .ok (.getfield 23, 3) := by decide +kernel
theorem dX12_next_210 : decode cX12_next 210 = .ok (.aload_n 0, 1) := by decide +kernel
theorem dX12_next_211 : decode cX12_next 211 = .ok (.getfield 172, 3) := by decide +kernel
theorem dX12_next_214 : decode cX12_next 214 = .ok (.iaload, 1) := by decide +kernel
theorem dX12_next_215 : decode cX12_next 215 = .ok (.i2l, 1) := by decide +kernel
theorem dX12_next_216 : decode cX12_next 216 = .ok (.ladd, 1) := by decide +kernel
theorem dX12_next_217 : decode cX12_next 217 = .ok (.ldc2_w 200, 3) := by decide +kernel
theorem dX12_next_220 : decode cX12_next 220 = .ok (.lsub, 1) := by decide +kernel
theorem dX12_next_221 : decode cX12_next 221 = .ok (.goto 6, 3) := by decide +kernel
theorem dX12_next_224 : decode cX12_next 224 = .ok (.ldc2_w 202, 3) := by decide +kernel
theorem dX12_next_227 : decode cX12_next 227 = .ok (.putfield 185, 3) := by decide +kernel
theorem dX12_next_230 : decode cX12_next 230 = .ok (.aload_n 0, 1) := by decide +kernel
theorem dX12_next_231 : decode cX12_next 231 = .ok (.dup, 1) := by decide +kernel
theorem dX12_next_232 : decode cX12_next 232 = .ok (.getfield 172, 3) := by decide +kernel
theorem dX12_next_235 : decode cX12_next 235 = .ok (.iconst 1, 1) := by decide +kernel
theorem dX12_next_236 : decode cX12_next 236 = .ok (.iadd, 1) := by decide +kernel
theorem dX12_next_237 : decode cX12_next 237 = .ok (.putfield 172, 3) := by decide +kernel
theorem dX12_next_240 : decode cX12_next 240 = .ok (.goto (-91), 3) := by decide +kernel
theorem dX12_next_243 : decode cX12_next 243 = .ok (.aload_n 0, 1) := by decide +kernel
theorem dX12_next_244 : decode cX12_next 244 = .ok (.getfield 195, 3) := by decide +kernel
theorem dX12_next_247 : decode cX12_next 247 = .ok (.iconst 2, 1) := by decide +kernel
theorem dX12_next_248 : decode cX12_next 248 = .ok (.if_icmp .ne 87, 3) := by decide +kernel
theorem dX12_next_251 : decode cX12_next 251 = .ok (.aload_n 0, 1) := by decide +kernel
theorem dX12_next_252 : decode cX12_next 252 = .ok (.getfield 172, 3) := by decide +kernel
theorem dX12_next_255 : decode cX12_next 255 = .ok (.aload_n 0, 1) := by decide +kernel
theorem dX12_next_256 : decode cX12_next 256 = .ok (.getfield 162, 3) := by decide +kernel
theorem dX12_next_259 : decode cX12_next 259 = .ok (.if_icmp .ge 76, 3) := by decide +kernel
theorem dX12_next_262 : decode cX12_next 262 = .ok (.aload_n 0, 1) := by decide +kernel
theorem dX12_next_263 : decode cX12_next 263 = .ok (.getfield 23, 3) := by decide +kernel
theorem dX12_next_266 : decode cX12_next 266 = .ok (.aload_n 0, 1) := by decide +kernel
theorem dX12_next_267 : decode cX12_next 267 = .ok (.getfield 172, 3) := by decide +kernel
theorem dX12_next_270 : decode cX12_next 270 = .ok (.iaload, 1) := by decide +kernel
theorem dX12_next_271 : decode cX12_next 271 = .ok (.invokestatic 192, 3) := by decide +kernel
theorem dX12_next_274 : decode cX12_next 274 = .ok (.ifCond .eq 61, 3) := by decide +kernel
theorem dX12_next_277 : decode cX12_next 277 = .ok (.aload_n 0, 1) := by decide +kernel
theorem dX12_next_278 : decode cX12_next 278 = .ok (.aload_n 0, 1) := by decide +kernel
theorem dX12_next_279 : decode cX12_next 279 = .ok (.getfield 185, 3) := by decide +kernel
theorem dX12_next_282 : decode cX12_next 282 = .ok (.ldc2_w 204, 3) := by decide +kernel
theorem dX12_next_285 : decode cX12_next 285 = .ok (.lcmp, 1) := by decide +kernel
theorem dX12_next_286 : decode cX12_next 286 = .ok (.ifCond .le 10, 3) := by decide +kernel
theorem dX12_next_289 : decode cX12_next 289 = .ok (.aload_n 0, 1) := by decide +kernel
theorem dX12_next_290 : decode cX12_next 290 = .ok (.getfield 185, 3) := by decide +kernel
theorem dX12_next_293 : decode cX12_next 293 = .ok (.goto 26, 3) := by decide +kernel
theorem dX12_next_296 : decode cX12_next 296 = .ok (.aload_n 0, 1) := by decide +kernel
theorem dX12_next_297 : decode cX12_next 297 = .ok (.getfield 185, 3) := by decide +kernel
theorem dX12_next_300 : decode cX12_next 300 = .ok (.ldc2_w 206, 3) := by decide +kernel
theorem dX12_next_303 : decode cX12_next 303 = .ok (.lmul, 1) := by decide +kernel
theorem dX12_next_304 : decode cX12_next 304 = .ok (.aload_n 0, 1) := by decide +kernel
theorem dX12_next_305 : decode cX12_next 305 = .ok (.getfield 23, 3) := by decide +kernel
theorem dX12_next_308 : decode cX12_next 308 = .ok (.aload_n 0, 1) := by decide +kernel
theorem dX12_next_309 : decode cX12_next 309 = .ok (.getfield 172, 3) := by decide +kernel
theorem dX12_next_312 : decode cX12_next 312 = .ok (.iaload, 1) := by decide +kernel
theorem dX12_next_313 : decode cX12_next 313 = .ok (.i2l, 1) := by decide +kernel
theorem dX12_next_314 : decode cX12_next 314 = .ok (.ladd, 1) := by decide +kernel
theorem dX12_next_315 : decode cX12_next 315 = .ok (.ldc2_w 208, 3) := by decide +kernel
theorem dX12_next_318 : decode cX12_next 318 = .ok (.lsub, 1) := by decide +kernel
theorem dX12_next_319 : decode cX12_next 319 = .ok (.putfield 185, 3) := by decide +kernel
theorem dX12_next_322 : decode cX12_next 322 = .ok (.aload_n 0, 1) := by decide +kernel
theorem dX12_next_323 : decode cX12_next 323 = .ok (.dup, 1) := by decide +kernel
theorem dX12_next_324 : decode cX12_next 324 = .ok (.getfield 172, 3) := by decide +kernel
theorem dX12_next_327 : decode cX12_next 327 = .ok (.iconst 1, 1) := by decide +kernel
theorem dX12_next_328 : decode cX12_next 328 = .ok (.iadd, 1) := by decide +kernel
theorem dX12_next_329 : decode cX12_next 329 = .ok (.putfield 172, 3) := by decide +kernel
theorem dX12_next_332 : decode cX12_next 332 = .ok (.goto (-89), 3) := by decide +kernel
theorem dX12_next_335 : decode cX12_next 335 = .ok (.return_, 1) := by decide +kernel
set_option maxHeartbeats 4000000 in
set_option maxRecDepth 100000 in
theorem x_X12_next_319 {p : Program} {l : Launch} {e : Env} {s : State} {m : MethodId} {args : Array Value} {below : List Frame} {meth : Method} {c : Code} {D : va_G} {K : Nat → ClassId} {A : Nat → Prop} {ad : Nat → Nat} {rest : va_W} (C : xC p s m args meth c D K A RX12 cX12_next 1 none) (z : Unit × xS) (k_243 : xS → Option (Unit × xS)) (H_243 : ∀  (σ : xS), k_243 σ = some z → X p l e (xR 1 20) s m args below meth c D A 1 (xQv below D K A args s (RW K ad rest z.2)) 0 0 243 [(0, .ref (ad 0))] [] (RW K ad rest σ)) : ∀ (t1 : Int64) (σ : xS), F_X12_next_319 k_243 t1 σ = some z → X p l e (xR 1 20) s m args below meth c D A 1 (xQv below D K A args s (RW K ad rest z.2)) 0 0 319 [(0, .ref (ad 0))] [.long t1, .ref (ad 0)] (RW K ad rest σ) := by
  intro t1 σ hF
  unfold F_X12_next_319 at hF
  refine x_put C 0 dX12_next_319 fl_X12_185 fm_X12_12 rfl rfl (RW_o K ad rest σ) (Nat.le_of_ble_eq_true rfl) (RW_s12 K ad rest σ _) ?_
  refine x_st (wf := RW K ad rest) hF (fun σ26 hF => ?_)
  refine x_aload_n C 0 0 dX12_next_322 rfl rfl ?_
  refine x_dup C rfl dX12_next_323 ?_
  refine x_get C 0 dX12_next_324 fl_X12_172 (RW_o K ad rest σ26) rfl ?_
  refine x_iconst C 1 dX12_next_327 (by decide +kernel) ?_
  refine x_iadd C dX12_next_328 ?_
  refine x_put C 0 dX12_next_329 fl_X12_172 fm_X12_10 rfl rfl (RW_o K ad rest σ26) (Nat.le_of_ble_eq_true rfl) (RW_s10 K ad rest σ26 _) ?_
  refine x_st (wf := RW K ad rest) hF (fun σ27 hF => ?_)
  refine x_goto C 243 dX12_next_332 (by decide) ?_
  exact H_243 σ27 hF
set_option maxHeartbeats 4000000 in
set_option maxRecDepth 100000 in
theorem x_X12_next_243 {p : Program} {l : Launch} {e : Env} {s : State} {m : MethodId} {args : Array Value} {below : List Frame} {meth : Method} {c : Code} {D : va_G} {K : Nat → ClassId} {A : Nat → Prop} {ad : Nat → Nat} {rest : va_W} (C : xC p s m args meth c D K A RX12 cX12_next 1 none) (z : Unit × xS) : ∀ (n : Nat)  (σ : xS), F_X12_next_243  n σ = some z → X p l e (xR 1 20) s m args below meth c D A 1 (xQv below D K A args s (RW K ad rest z.2)) 0 0 243 [(0, .ref (ad 0))] [] (RW K ad rest σ) := by
  intro n
  induction n with
  | zero =>
    intro σ hF
    cases hF
  | succ n ih =>
    intro σ hF
    rw [F_X12_next_243] at hF
    refine x_aload_n C 0 0 dX12_next_243 rfl rfl ?_
    refine x_get C 0 dX12_next_244 fl_X12_195 (RW_o K ad rest σ) rfl ?_
    refine x_iconst C 2 dX12_next_247 (by decide +kernel) ?_
    refine x_icmp_ne C 335 dX12_next_248 (by decide) hF (fun hF => ?_) (fun hF => ?_)
    · exact x_vret C dX12_next_335 rfl (congrArg (fun q9 : Unit × xS => RW K ad rest q9.2) (Option.some.inj hF))
    · refine x_aload_n C 0 0 dX12_next_251 rfl rfl ?_
      refine x_get C 0 dX12_next_252 fl_X12_172 (RW_o K ad rest σ) rfl ?_
      refine x_aload_n C 0 0 dX12_next_255 rfl rfl ?_
      refine x_get C 0 dX12_next_256 fl_X12_162 (RW_o K ad rest σ) rfl ?_
      refine x_icmp_ge C 335 dX12_next_259 (by decide) hF (fun hF => ?_) (fun hF => ?_)
      · exact x_vret C dX12_next_335 rfl (congrArg (fun q9 : Unit × xS => RW K ad rest q9.2) (Option.some.inj hF))
      · refine x_aload_n C 0 0 dX12_next_262 rfl rfl ?_
        refine x_get C 0 dX12_next_263 fl_X12_23 (RW_o K ad rest σ) rfl ?_
        refine x_aload_n C 0 0 dX12_next_266 rfl rfl ?_
        refine x_get C 0 dX12_next_267 fl_X12_172 (RW_o K ad rest σ) rfl ?_
        refine x_iald C 5 dX12_next_270 (RW_a7 K ad rest σ) hF (fun v20 hF => ?_)
        refine x_callSI C (wf := RW K ad rest) (As := [.int v20]) (rest := []) dX12_next_271 ml_X12_192 rfl rfl (Nat.le_of_ble_eq_true rfl) ⟨Nat.le_of_ble_eq_true rfl, Nat.le_of_ble_eq_true rfl⟩ ⟨Nat.zero_le _, Nat.zero_le _⟩ (fun q9 hq9 => c_X12_isDigit l D K ad rest v20 σ q9 hq9) hF (fun v22 σ21 hF => ?_)
        refine x_if_eq C 335 dX12_next_274 (by decide) hF (fun hF => ?_) (fun hF => ?_)
        · exact x_vret C dX12_next_335 rfl (congrArg (fun q9 : Unit × xS => RW K ad rest q9.2) (Option.some.inj hF))
        · refine x_aload_n C 0 0 dX12_next_277 rfl rfl ?_
          refine x_aload_n C 0 0 dX12_next_278 rfl rfl ?_
          refine x_get C 0 dX12_next_279 fl_X12_185 (RW_o K ad rest σ21) rfl ?_
          refine x_ldc2 C 1000000 dX12_next_282 cl_X12_204 ?_
          refine x_lcmp C dX12_next_285 ?_
          refine x_if_le C 296 dX12_next_286 (by decide) hF (fun hF => ?_) (fun hF => ?_)
          · refine x_aload_n C 0 0 dX12_next_296 rfl rfl ?_
            refine x_get C 0 dX12_next_297 fl_X12_185 (RW_o K ad rest σ21) rfl ?_
            refine x_ldc2 C 10 dX12_next_300 cl_X12_206 ?_
            refine x_lmul C dX12_next_303 ?_
            refine x_aload_n C 0 0 dX12_next_304 rfl rfl ?_
            refine x_get C 0 dX12_next_305 fl_X12_23 (RW_o K ad rest σ21) rfl ?_
            refine x_aload_n C 0 0 dX12_next_308 rfl rfl ?_
            refine x_get C 0 dX12_next_309 fl_X12_172 (RW_o K ad rest σ21) rfl ?_
            refine x_iald C 5 dX12_next_312 (RW_a7 K ad rest σ21) hF (fun v23 hF => ?_)
            refine x_i2l C dX12_next_313 ?_
            refine x_ladd C dX12_next_314 ?_
            refine x_ldc2 C 48 dX12_next_315 cl_X12_208 ?_
            refine x_lsub C dX12_next_318 ?_
            exact x_X12_next_319 C z ((F_X12_next_243 n)) ih ((((sJ σ21 12) * 10) + (v23.toInt64)) - 48) σ21 hF
          · refine x_aload_n C 0 0 dX12_next_289 rfl rfl ?_
            refine x_get C 0 dX12_next_290 fl_X12_185 (RW_o K ad rest σ21) rfl ?_
            refine x_goto C 319 dX12_next_293 (by decide) ?_
            exact x_X12_next_319 C z ((F_X12_next_243 n)) ih (sJ σ21 12) σ21 hF
set_option maxHeartbeats 4000000 in
set_option maxRecDepth 100000 in
theorem x_X12_next_227 {p : Program} {l : Launch} {e : Env} {s : State} {m : MethodId} {args : Array Value} {below : List Frame} {meth : Method} {c : Code} {D : va_G} {K : Nat → ClassId} {A : Nat → Prop} {ad : Nat → Nat} {rest : va_W} (C : xC p s m args meth c D K A RX12 cX12_next 1 none) (z : Unit × xS) (k_149 : xS → Option (Unit × xS)) (H_149 : ∀  (σ : xS), k_149 σ = some z → X p l e (xR 1 20) s m args below meth c D A 1 (xQv below D K A args s (RW K ad rest z.2)) 0 0 149 [(0, .ref (ad 0))] [] (RW K ad rest σ)) : ∀ (t1 : Int64) (σ : xS), F_X12_next_227 k_149 t1 σ = some z → X p l e (xR 1 20) s m args below meth c D A 1 (xQv below D K A args s (RW K ad rest z.2)) 0 0 227 [(0, .ref (ad 0))] [.long t1, .ref (ad 0)] (RW K ad rest σ) := by
  intro t1 σ hF
  unfold F_X12_next_227 at hF
  refine x_put C 0 dX12_next_227 fl_X12_185 fm_X12_12 rfl rfl (RW_o K ad rest σ) (Nat.le_of_ble_eq_true rfl) (RW_s12 K ad rest σ _) ?_
  refine x_st (wf := RW K ad rest) hF (fun σ24 hF => ?_)
  refine x_aload_n C 0 0 dX12_next_230 rfl rfl ?_
  refine x_dup C rfl dX12_next_231 ?_
  refine x_get C 0 dX12_next_232 fl_X12_172 (RW_o K ad rest σ24) rfl ?_
  refine x_iconst C 1 dX12_next_235 (by decide +kernel) ?_
  refine x_iadd C dX12_next_236 ?_
  refine x_put C 0 dX12_next_237 fl_X12_172 fm_X12_10 rfl rfl (RW_o K ad rest σ24) (Nat.le_of_ble_eq_true rfl) (RW_s10 K ad rest σ24 _) ?_
  refine x_st (wf := RW K ad rest) hF (fun σ25 hF => ?_)
  refine x_goto C 149 dX12_next_240 (by decide) ?_
  exact H_149 σ25 hF
set_option maxHeartbeats 4000000 in
set_option maxRecDepth 100000 in
theorem x_X12_next_149 {p : Program} {l : Launch} {e : Env} {s : State} {m : MethodId} {args : Array Value} {below : List Frame} {meth : Method} {c : Code} {D : va_G} {K : Nat → ClassId} {A : Nat → Prop} {ad : Nat → Nat} {rest : va_W} (C : xC p s m args meth c D K A RX12 cX12_next 1 none) (z : Unit × xS) : ∀ (n : Nat)  (σ : xS), F_X12_next_149  n σ = some z → X p l e (xR 1 20) s m args below meth c D A 1 (xQv below D K A args s (RW K ad rest z.2)) 0 0 149 [(0, .ref (ad 0))] [] (RW K ad rest σ) := by
  intro n
  induction n with
  | zero =>
    intro σ hF
    cases hF
  | succ n ih =>
    intro σ hF
    rw [F_X12_next_149] at hF
    refine x_aload_n C 0 0 dX12_next_149 rfl rfl ?_
    refine x_get C 0 dX12_next_150 fl_X12_195 (RW_o K ad rest σ) rfl ?_
    refine x_iconst C 1 dX12_next_153 (by decide +kernel) ?_
    refine x_icmp_ne C 243 dX12_next_154 (by decide) hF (fun hF => ?_) (fun hF => ?_)
    · exact x_X12_next_243 C z FU σ hF
    · refine x_aload_n C 0 0 dX12_next_157 rfl rfl ?_
      refine x_get C 0 dX12_next_158 fl_X12_172 (RW_o K ad rest σ) rfl ?_
      refine x_aload_n C 0 0 dX12_next_161 rfl rfl ?_
      refine x_get C 0 dX12_next_162 fl_X12_162 (RW_o K ad rest σ) rfl ?_
      refine x_icmp_ge C 243 dX12_next_165 (by decide) hF (fun hF => ?_) (fun hF => ?_)
      · exact x_X12_next_243 C z FU σ hF
      · refine x_aload_n C 0 0 dX12_next_168 rfl rfl ?_
        refine x_get C 0 dX12_next_169 fl_X12_23 (RW_o K ad rest σ) rfl ?_
        refine x_aload_n C 0 0 dX12_next_172 rfl rfl ?_
        refine x_get C 0 dX12_next_173 fl_X12_172 (RW_o K ad rest σ) rfl ?_
        refine x_iald C 5 dX12_next_176 (RW_a7 K ad rest σ) hF (fun v16 hF => ?_)
        refine x_callSI C (wf := RW K ad rest) (As := [.int v16]) (rest := []) dX12_next_177 ml_X12_189 rfl rfl (Nat.le_of_ble_eq_true rfl) ⟨Nat.le_of_ble_eq_true rfl, Nat.le_of_ble_eq_true rfl⟩ ⟨Nat.zero_le _, Nat.zero_le _⟩ (fun q9 hq9 => c_X12_isSmall l D K ad rest v16 σ q9 hq9) hF (fun v18 σ17 hF => ?_)
        refine x_if_eq C 243 dX12_next_180 (by decide) hF (fun hF => ?_) (fun hF => ?_)
        · exact x_X12_next_243 C z FU σ17 hF
        · refine x_aload_n C 0 0 dX12_next_183 rfl rfl ?_
          refine x_aload_n C 0 0 dX12_next_184 rfl rfl ?_
          refine x_get C 0 dX12_next_185 fl_X12_172 (RW_o K ad rest σ17) rfl ?_
          refine x_aload_n C 0 0 dX12_next_188 rfl rfl ?_
          refine x_get C 0 dX12_next_189 fl_X12_182 (RW_o K ad rest σ17) rfl ?_
          refine x_isub C dX12_next_192 ?_
          refine x_bipush C 10 dX12_next_193 (by decide +kernel) ?_
          refine x_icmp_ge C 224 dX12_next_195 (by decide) hF (fun hF => ?_) (fun hF => ?_)
          · refine x_ldc2 C (-1) dX12_next_224 cl_X12_202 ?_
            exact x_X12_next_227 C z ((F_X12_next_149 n)) ih ((-1)) σ17 hF
          · refine x_aload_n C 0 0 dX12_next_198 rfl rfl ?_
            refine x_get C 0 dX12_next_199 fl_X12_185 (RW_o K ad rest σ17) rfl ?_
            refine x_ldc2 C 32 dX12_next_202 cl_X12_198 ?_
            refine x_lmul C dX12_next_205 ?_
            refine x_aload_n C 0 0 dX12_next_206 rfl rfl ?_
            refine x_get C 0 dX12_next_207 fl_X12_23 (RW_o K ad rest σ17) rfl ?_
            refine x_aload_n C 0 0 dX12_next_210 rfl rfl ?_
            refine x_get C 0 dX12_next_211 fl_X12_172 (RW_o K ad rest σ17) rfl ?_
            refine x_iald C 5 dX12_next_214 (RW_a7 K ad rest σ17) hF (fun v19 hF => ?_)
            refine x_i2l C dX12_next_215 ?_
            refine x_ladd C dX12_next_216 ?_
            refine x_ldc2 C 96 dX12_next_217 cl_X12_200 ?_
            refine x_lsub C dX12_next_220 ?_
            refine x_goto C 227 dX12_next_221 (by decide) ?_
            exact x_X12_next_227 C z ((F_X12_next_149 n)) ih ((((sJ σ17 12) * 32) + (v19.toInt64)) - 96) σ17 hF
set_option maxHeartbeats 4000000 in
set_option maxRecDepth 100000 in
theorem x_X12_next_114 {p : Program} {l : Launch} {e : Env} {s : State} {m : MethodId} {args : Array Value} {below : List Frame} {meth : Method} {c : Code} {D : va_G} {K : Nat → ClassId} {A : Nat → Prop} {ad : Nat → Nat} {rest : va_W} (C : xC p s m args meth c D K A RX12 cX12_next 1 none) (z : Unit × xS) : ∀ (t1 : Int32) (σ : xS), F_X12_next_114  t1 σ = some z → X p l e (xR 1 20) s m args below meth c D A 1 (xQv below D K A args s (RW K ad rest z.2)) 0 0 114 [(0, .ref (ad 0))] [.int t1, .ref (ad 0)] (RW K ad rest σ) := by
  intro t1 σ hF
  unfold F_X12_next_114 at hF
  refine x_put C 0 dX12_next_114 fl_X12_195 fm_X12_11 rfl rfl (RW_o K ad rest σ) (Nat.le_of_ble_eq_true rfl) (RW_s11 K ad rest σ _) ?_
  refine x_st (wf := RW K ad rest) hF (fun σ12 hF => ?_)
  refine x_aload_n C 0 0 dX12_next_117 rfl rfl ?_
  refine x_get C 0 dX12_next_118 fl_X12_195 (RW_o K ad rest σ12) rfl ?_
  refine x_iconst C 3 dX12_next_121 (by decide +kernel) ?_
  refine x_icmp_ne C 149 dX12_next_122 (by decide) hF (fun hF => ?_) (fun hF => ?_)
  · exact x_X12_next_149 C z FU σ12 hF
  · refine x_aload_n C 0 0 dX12_next_125 rfl rfl ?_
    refine x_aload_n C 0 0 dX12_next_126 rfl rfl ?_
    refine x_get C 0 dX12_next_127 fl_X12_23 (RW_o K ad rest σ12) rfl ?_
    refine x_aload_n C 0 0 dX12_next_130 rfl rfl ?_
    refine x_get C 0 dX12_next_131 fl_X12_182 (RW_o K ad rest σ12) rfl ?_
    refine x_iald C 5 dX12_next_134 (RW_a7 K ad rest σ12) hF (fun v13 hF => ?_)
    refine x_i2l C dX12_next_135 ?_
    refine x_put C 0 dX12_next_136 fl_X12_185 fm_X12_12 rfl rfl (RW_o K ad rest σ12) (Nat.le_of_ble_eq_true rfl) (RW_s12 K ad rest σ12 _) ?_
    refine x_st (wf := RW K ad rest) hF (fun σ14 hF => ?_)
    refine x_aload_n C 0 0 dX12_next_139 rfl rfl ?_
    refine x_dup C rfl dX12_next_140 ?_
    refine x_get C 0 dX12_next_141 fl_X12_172 (RW_o K ad rest σ14) rfl ?_
    refine x_iconst C 1 dX12_next_144 (by decide +kernel) ?_
    refine x_iadd C dX12_next_145 ?_
    refine x_put C 0 dX12_next_146 fl_X12_172 fm_X12_10 rfl rfl (RW_o K ad rest σ14) (Nat.le_of_ble_eq_true rfl) (RW_s10 K ad rest σ14 _) ?_
    refine x_st (wf := RW K ad rest) hF (fun σ15 hF => ?_)
    exact x_X12_next_149 C z FU σ15 hF
set_option maxHeartbeats 4000000 in
set_option maxRecDepth 100000 in
theorem x_X12_next_46 {p : Program} {l : Launch} {e : Env} {s : State} {m : MethodId} {args : Array Value} {below : List Frame} {meth : Method} {c : Code} {D : va_G} {K : Nat → ClassId} {A : Nat → Prop} {ad : Nat → Nat} {rest : va_W} (C : xC p s m args meth c D K A RX12 cX12_next 1 none) (z : Unit × xS) : ∀  (σ : xS), F_X12_next_46  σ = some z → X p l e (xR 1 20) s m args below meth c D A 1 (xQv below D K A args s (RW K ad rest z.2)) 0 0 46 [(0, .ref (ad 0))] [] (RW K ad rest σ) := by
  intro σ hF
  unfold F_X12_next_46 at hF
  refine x_aload_n C 0 0 dX12_next_46 rfl rfl ?_
  refine x_aload_n C 0 0 dX12_next_47 rfl rfl ?_
  refine x_get C 0 dX12_next_48 fl_X12_182 (RW_o K ad rest σ) rfl ?_
  refine x_put C 0 dX12_next_51 fl_X12_172 fm_X12_10 rfl rfl (RW_o K ad rest σ) (Nat.le_of_ble_eq_true rfl) (RW_s10 K ad rest σ _) ?_
  refine x_st (wf := RW K ad rest) hF (fun σ4 hF => ?_)
  refine x_aload_n C 0 0 dX12_next_54 rfl rfl ?_
  refine x_lconst C 0 dX12_next_55 (by decide +kernel) ?_
  refine x_put C 0 dX12_next_56 fl_X12_185 fm_X12_12 rfl rfl (RW_o K ad rest σ4) (Nat.le_of_ble_eq_true rfl) (RW_s12 K ad rest σ4 _) ?_
  refine x_st (wf := RW K ad rest) hF (fun σ5 hF => ?_)
  refine x_aload_n C 0 0 dX12_next_59 rfl rfl ?_
  refine x_aload_n C 0 0 dX12_next_60 rfl rfl ?_
  refine x_get C 0 dX12_next_61 fl_X12_182 (RW_o K ad rest σ5) rfl ?_
  refine x_aload_n C 0 0 dX12_next_64 rfl rfl ?_
  refine x_get C 0 dX12_next_65 fl_X12_162 (RW_o K ad rest σ5) rfl ?_
  refine x_icmp_ne C 75 dX12_next_68 (by decide) hF (fun hF => ?_) (fun hF => ?_)
  · refine x_aload_n C 0 0 dX12_next_75 rfl rfl ?_
    refine x_get C 0 dX12_next_76 fl_X12_23 (RW_o K ad rest σ5) rfl ?_
    refine x_aload_n C 0 0 dX12_next_79 rfl rfl ?_
    refine x_get C 0 dX12_next_80 fl_X12_182 (RW_o K ad rest σ5) rfl ?_
    refine x_iald C 5 dX12_next_83 (RW_a7 K ad rest σ5) hF (fun v6 hF => ?_)
    refine x_callSI C (wf := RW K ad rest) (As := [.int v6]) (rest := [.ref (ad 0)]) dX12_next_84 ml_X12_189 rfl rfl (Nat.le_of_ble_eq_true rfl) ⟨Nat.le_of_ble_eq_true rfl, Nat.le_of_ble_eq_true rfl⟩ ⟨Nat.zero_le _, Nat.zero_le _⟩ (fun q9 hq9 => c_X12_isSmall l D K ad rest v6 σ5 q9 hq9) hF (fun v8 σ7 hF => ?_)
    refine x_if_eq C 94 dX12_next_87 (by decide) hF (fun hF => ?_) (fun hF => ?_)
    · refine x_aload_n C 0 0 dX12_next_94 rfl rfl ?_
      refine x_get C 0 dX12_next_95 fl_X12_23 (RW_o K ad rest σ7) rfl ?_
      refine x_aload_n C 0 0 dX12_next_98 rfl rfl ?_
      refine x_get C 0 dX12_next_99 fl_X12_182 (RW_o K ad rest σ7) rfl ?_
      refine x_iald C 5 dX12_next_102 (RW_a7 K ad rest σ7) hF (fun v9 hF => ?_)
      refine x_callSI C (wf := RW K ad rest) (As := [.int v9]) (rest := [.ref (ad 0)]) dX12_next_103 ml_X12_192 rfl rfl (Nat.le_of_ble_eq_true rfl) ⟨Nat.le_of_ble_eq_true rfl, Nat.le_of_ble_eq_true rfl⟩ ⟨Nat.zero_le _, Nat.zero_le _⟩ (fun q9 hq9 => c_X12_isDigit l D K ad rest v9 σ7 q9 hq9) hF (fun v11 σ10 hF => ?_)
      refine x_if_eq C 113 dX12_next_106 (by decide) hF (fun hF => ?_) (fun hF => ?_)
      · refine x_iconst C 3 dX12_next_113 (by decide +kernel) ?_
        exact x_X12_next_114 C z 3 σ10 hF
      · refine x_iconst C 2 dX12_next_109 (by decide +kernel) ?_
        refine x_goto C 114 dX12_next_110 (by decide) ?_
        exact x_X12_next_114 C z 2 σ10 hF
    · refine x_iconst C 1 dX12_next_90 (by decide +kernel) ?_
      refine x_goto C 114 dX12_next_91 (by decide) ?_
      exact x_X12_next_114 C z 1 σ7 hF
  · refine x_iconst C 0 dX12_next_71 (by decide +kernel) ?_
    refine x_goto C 114 dX12_next_72 (by decide) ?_
    exact x_X12_next_114 C z 0 σ5 hF
set_option maxHeartbeats 4000000 in
set_option maxRecDepth 100000 in
theorem x_X12_next_8 {p : Program} {l : Launch} {e : Env} {s : State} {m : MethodId} {args : Array Value} {below : List Frame} {meth : Method} {c : Code} {D : va_G} {K : Nat → ClassId} {A : Nat → Prop} {ad : Nat → Nat} {rest : va_W} (C : xC p s m args meth c D K A RX12 cX12_next 1 none) (z : Unit × xS) : ∀ (n : Nat)  (σ : xS), F_X12_next_8  n σ = some z → X p l e (xR 1 20) s m args below meth c D A 1 (xQv below D K A args s (RW K ad rest z.2)) 0 0 8 [(0, .ref (ad 0))] [] (RW K ad rest σ) := by
  intro n
  induction n with
  | zero =>
    intro σ hF
    cases hF
  | succ n ih =>
    intro σ hF
    rw [F_X12_next_8] at hF
    refine x_aload_n C 0 0 dX12_next_8 rfl rfl ?_
    refine x_get C 0 dX12_next_9 fl_X12_182 (RW_o K ad rest σ) rfl ?_
    refine x_aload_n C 0 0 dX12_next_12 rfl rfl ?_
    refine x_get C 0 dX12_next_13 fl_X12_162 (RW_o K ad rest σ) rfl ?_
    refine x_icmp_ge C 46 dX12_next_16 (by decide) hF (fun hF => ?_) (fun hF => ?_)
    · exact x_X12_next_46 C z σ hF
    · refine x_aload_n C 0 0 dX12_next_19 rfl rfl ?_
      refine x_get C 0 dX12_next_20 fl_X12_23 (RW_o K ad rest σ) rfl ?_
      refine x_aload_n C 0 0 dX12_next_23 rfl rfl ?_
      refine x_get C 0 dX12_next_24 fl_X12_182 (RW_o K ad rest σ) rfl ?_
      refine x_iald C 5 dX12_next_27 (RW_a7 K ad rest σ) hF (fun v2 hF => ?_)
      refine x_bipush C 32 dX12_next_28 (by decide +kernel) ?_
      refine x_icmp_ne C 46 dX12_next_30 (by decide) hF (fun hF => ?_) (fun hF => ?_)
      · exact x_X12_next_46 C z σ hF
      · refine x_aload_n C 0 0 dX12_next_33 rfl rfl ?_
        refine x_dup C rfl dX12_next_34 ?_
        refine x_get C 0 dX12_next_35 fl_X12_182 (RW_o K ad rest σ) rfl ?_
        refine x_iconst C 1 dX12_next_38 (by decide +kernel) ?_
        refine x_iadd C dX12_next_39 ?_
        refine x_put C 0 dX12_next_40 fl_X12_182 fm_X12_9 rfl rfl (RW_o K ad rest σ) (Nat.le_of_ble_eq_true rfl) (RW_s9 K ad rest σ _) ?_
        refine x_st (wf := RW K ad rest) hF (fun σ3 hF => ?_)
        refine x_goto C 8 dX12_next_43 (by decide) ?_
        exact ih σ3 hF
set_option maxHeartbeats 4000000 in
set_option maxRecDepth 100000 in
theorem c_X12_next (l : Launch) (D : va_G) (K : Nat → ClassId) (ad : Nat → Nat) (rest : va_W)  (σ : xS) (z : Unit × xS) (hF : F_X12_next σ = some z) : CV l D K yX12_next cX12_next 1 none 1 20 [.ref (ad 0)] (RW K ad rest σ) (RW K ad rest z.2) := by
  refine x_enterV [(0, .ref (ad 0))] pnX12 (Nat.le_of_ble_eq_true rfl) rfl ?_
  intro p e s m args below meth c A C
  unfold F_X12_next at hF
  refine x_aload_n C 0 0 dX12_next_0 rfl rfl ?_
  refine x_aload_n C 0 0 dX12_next_1 rfl rfl ?_
  refine x_get C 0 dX12_next_2 fl_X12_172 (RW_o K ad rest σ) rfl ?_
  refine x_put C 0 dX12_next_5 fl_X12_182 fm_X12_9 rfl rfl (RW_o K ad rest σ) (Nat.le_of_ble_eq_true rfl) (RW_s9 K ad rest σ _) ?_
  refine x_st (wf := RW K ad rest) hF (fun σ1 hF => ?_)
  exact x_X12_next_8 C z FU σ1 hF
