theorem dX12_clear_0 : decode cX12_clear 0 = .ok (.aload_n 0, 1) := by decide +kernel
theorem dX12_clear_1 : decode cX12_clear 1 = .ok (.iconst 0, 1) := by decide +kernel
theorem dX12_clear_2 : decode cX12_clear 2 = .ok (.putfield 107, 3) := by decide +kernel
theorem dX12_clear_5 : decode cX12_clear 5 = .ok (.aload_n 0, 1) := by decide +kernel
theorem dX12_clear_6 : decode cX12_clear 6 = .ok (.getfield 13, 3) := by decide +kernel
theorem dX12_clear_9 : decode cX12_clear 9 = .ok (.bipush 6, 2) := by decide +kernel
theorem dX12_clear_11 : decode cX12_clear 11 = .ok (.iaload, 1) := by decide +kernel
theorem dX12_clear_12 : decode cX12_clear 12 = .ok (.istore_n 1, 1) := by decide +kernel
theorem dX12_clear_13 : decode cX12_clear 13 = .ok (.aload_n 0, 1) := by decide +kernel
theorem dX12_clear_14 : decode cX12_clear 14 = .ok (.getfield 13, 3) := by decide +kernel
theorem dX12_clear_17 : decode cX12_clear 17 = .ok (.bipush 6, 2) := by decide +kernel
theorem dX12_clear_19 : decode cX12_clear 19 = .ok (.iconst 0, 1) := by decide +kernel
theorem dX12_clear_20 : decode cX12_clear 20 = .ok (.iastore, 1) := by decide +kernel
theorem dX12_clear_21 : decode cX12_clear 21 = .ok (.iload_n 1, 1) := by decide +kernel
theorem dX12_clear_22 : decode cX12_clear 22 = .ok (.ireturn, 1) := by decide +kernel
set_option maxHeartbeats 4000000 in
set_option maxRecDepth 100000 in
theorem c_X12_clear (l : Launch) (D : va_G) (K : Nat → ClassId) (ad : Nat → Nat) (rest : va_W)  (σ : xS) (z : Int32 × xS) (hF : F_X12_clear σ = some z) : CI l D K yX12_clear cX12_clear 2 (some .int) 0 0 [.ref (ad 0)] (RW K ad rest σ) z.1 (RW K ad rest z.2) := by
  refine x_enterI [(0, .ref (ad 0))] pnX12 (Nat.le_of_ble_eq_true rfl) rfl ?_
  intro p e s m args below meth c A C
  unfold F_X12_clear at hF
  refine x_aload_n C 0 0 dX12_clear_0 rfl rfl ?_
  refine x_iconst C 0 dX12_clear_1 (by decide +kernel) ?_
  refine x_put C 0 dX12_clear_2 fl_X12_107 fm_X12_0 rfl rfl (RW_o K ad rest σ) (Nat.le_of_ble_eq_true rfl) (RW_s0 K ad rest σ _) ?_
  refine x_st (wf := RW K ad rest) hF (fun σ1 hF => ?_)
  refine x_aload_n C 0 0 dX12_clear_5 rfl rfl ?_
  refine x_get C 0 dX12_clear_6 fl_X12_13 (RW_o K ad rest σ1) rfl ?_
  refine x_bipush C 6 dX12_clear_9 (by decide +kernel) ?_
  refine x_iald C 2 dX12_clear_11 (RW_a3 K ad rest σ1) hF (fun v2 hF => ?_)
  refine x_istore_n C [(1, .int v2), (0, .ref (ad 0))] dX12_clear_12 rfl (by decide) rfl ?_
  refine x_aload_n C 1 0 dX12_clear_13 rfl rfl ?_
  refine x_get C 0 dX12_clear_14 fl_X12_13 (RW_o K ad rest σ1) rfl ?_
  refine x_bipush C 6 dX12_clear_17 (by decide +kernel) ?_
  refine x_iconst C 0 dX12_clear_19 (by decide +kernel) ?_
  refine x_iast C 2 dX12_clear_20 (RW_a3 K ad rest σ1) hF (RW_s3 K ad rest σ1 _) (fun hF => ?_)
  refine x_st (wf := RW K ad rest) hF (fun σ3 hF => ?_)
  refine x_iload_n C 0 1 dX12_clear_21 rfl rfl ?_
  exact x_iret C dX12_clear_22 rfl (congrArg Prod.fst (Option.some.inj hF)) (congrArg (fun q9 : Int32 × xS => RW K ad rest q9.2) (Option.some.inj hF))
theorem dX12_shows_0 : decode cX12_shows 0 = .ok (.lconst 1, 1) := by decide +kernel
theorem dX12_shows_1 : decode cX12_shows 1 = .ok (.lstore_n 3, 1) := by decide +kernel
theorem dX12_shows_2 : decode cX12_shows 2 = .ok (.iconst 0, 1) := by decide +kernel
theorem dX12_shows_3 : decode cX12_shows 3 = .ok (.istore 5, 2) := by decide +kernel
theorem dX12_shows_5 : decode cX12_shows 5 = .ok (.iload 5, 2) := by decide +kernel
theorem dX12_shows_7 : decode cX12_shows 7 = .ok (.aload_n 0, 1) := by decide +kernel
theorem dX12_shows_8 : decode cX12_shows 8 = .ok (.getfield 13, 3) := by decide +kernel
theorem dX12_shows_11 : decode cX12_shows 11 = .ok (.bipush 6, 2) := by decide +kernel
theorem dX12_shows_13 : decode cX12_shows 13 = .ok (.iaload, 1) := by decide +kernel
theorem dX12_shows_14 : decode cX12_shows 14 = .ok (.if_icmp .ge 50, 3) := by decide +kernel
theorem dX12_shows_17 : decode cX12_shows 17 = .ok (.aload_n 0, 1) := by decide +kernel
theorem dX12_shows_18 : decode cX12_shows 18 = .ok (.getfield 13, 3) := by decide +kernel
theorem dX12_shows_21 : decode cX12_shows 21 = .ok (.sipush 133, 3) := by decide +kernel
theorem dX12_shows_24 : decode cX12_shows 24 = .ok (.iconst 2, 1) := by decide +kernel
theorem dX12_shows_25 : decode cX12_shows 25 = .ok (.iload 5, 2) := by decide +kernel
theorem dX12_shows_27 : decode cX12_shows 27 = .ok (.imul, 1) := by decide +kernel
theorem dX12_shows_28 : decode cX12_shows 28 = .ok (.iadd, 1) := by decide +kernel
theorem dX12_shows_29 : decode cX12_shows 29 = .ok (.iload_n 2, 1) := by decide +kernel
theorem dX12_shows_30 : decode cX12_shows 30 = .ok (.iadd, 1) := by decide +kernel
theorem dX12_shows_31 : decode cX12_shows 31 = .ok (.iaload, 1) := by decide +kernel
theorem dX12_shows_32 : decode cX12_shows 32 = .ok (.istore 6, 2) := by decide +kernel
theorem dX12_shows_34 : decode cX12_shows 34 = .ok (.lload_n 3, 1) := by decide +kernel
theorem dX12_shows_35 : decode cX12_shows 35 = .ok (.iload_n 1, 1) := by decide +kernel
theorem dX12_shows_36 : decode cX12_shows 36 = .ok (.iload 5, 2) := by decide +kernel
theorem dX12_shows_38 : decode cX12_shows 38 = .ok (.invokestatic 397, 3) := by decide +kernel
theorem dX12_shows_41 : decode cX12_shows 41 = .ok (.ifCond .eq 9, 3) := by decide +kernel
theorem dX12_shows_44 : decode cX12_shows 44 = .ok (.iload 6, 2) := by decide +kernel
theorem dX12_shows_46 : decode cX12_shows 46 = .ok (.i2l, 1) := by decide +kernel
theorem dX12_shows_47 : decode cX12_shows 47 = .ok (.goto 9, 3) := by decide +kernel
theorem dX12_shows_50 : decode cX12_shows 50 = .ok (.bipush 100, 2) := by decide +kernel
theorem dX12_shows_52 : decode cX12_shows 52 = .ok (.iload 6, 2) := by decide +kernel
theorem dX12_shows_54 : decode cX12_shows 54 = .ok (.isub, 1) := by decide +kernel
theorem dX12_shows_55 : decode cX12_shows 55 = .ok (.i2l, 1) := by decide +kernel
theorem dX12_shows_56 : decode cX12_shows 56 = .ok (.lmul, 1) := by decide +kernel
theorem dX12_shows_57 : decode cX12_shows 57 = .ok (.lstore_n 3, 1) := by decide +kernel
theorem dX12_shows_58 : decode cX12_shows 58 = .ok (.iinc 5 1, 3) := by decide +kernel
theorem dX12_shows_61 : decode cX12_shows 61 = .ok (.goto (-56), 3) := by decide +kernel
theorem dX12_shows_64 : decode cX12_shows 64 = .ok (.lload_n 3, 1) := by decide +kernel
theorem dX12_shows_65 : decode cX12_shows 65 = .ok (.lreturn, 1) := by decide +kernel
set_option maxHeartbeats 4000000 in
set_option maxRecDepth 100000 in
theorem x_X12_shows_56 {p : Program} {l : Launch} {e : Env} {s : State} {m : MethodId} {args : Array Value} {below : List Frame} {meth : Method} {c : Code} {D : va_G} {K : Nat → ClassId} {A : Nat → Prop} {ad : Nat → Nat} {rest : va_W} (C : xC p s m args meth c D K A RX12 cX12_shows 7 (some .long)) (z : Int64 × xS) (k_5 : Int32 → Int32 → Int64 → Int32 → xS → Option (Int64 × xS)) (H_5 : ∀ (y1 : Int32) (y2 : Int32) (y3 : Int64) (y5 : Int32) (σ : xS), k_5 y1 y2 y3 y5 σ = some z → X p l e (xR 1 21) s m args below meth c D A 7 (xQl below D K A args s z.1 (RW K ad rest z.2)) 0 0 5 [(0, .ref (ad 0)), (1, .int y1), (2, .int y2), (3, .long y3), (5, .int y5)] [] (RW K ad rest σ)) : ∀ (y1 : Int32) (y2 : Int32) (y5 : Int32) (t0 : Int64) (t1 : Int64) (σ : xS), F_X12_shows_56 k_5 y1 y2 y5 t0 t1 σ = some z → X p l e (xR 1 21) s m args below meth c D A 7 (xQl below D K A args s z.1 (RW K ad rest z.2)) 0 0 56 [(0, .ref (ad 0)), (1, .int y1), (2, .int y2), (5, .int y5)] [.long t1, .long t0] (RW K ad rest σ) := by
  intro y1 y2 y5 t0 t1 σ hF
  unfold F_X12_shows_56 at hF
  refine x_lmul C dX12_shows_56 ?_
  refine x_topL hF (fun x7 hF => ?_)
  refine x_lstore_n C [(3, .long x7), (0, .ref (ad 0)), (1, .int y1), (2, .int y2), (5, .int y5)] dX12_shows_57 rfl (by decide) rfl ?_
  refine x_iincN C 1 4 (fun x8 => [(5, .int x8), (3, .long x7), (0, .ref (ad 0)), (1, .int y1), (2, .int y2)]) dX12_shows_58 rfl (by decide +kernel) (by decide) (fun _ => rfl) hF (fun x8 hF => ?_)
  refine x_goto C 5 dX12_shows_61 (by decide) ?_
  refine x_loc [(0, .ref (ad 0)), (1, .int y1), (2, .int y2), (3, .long x7), (5, .int x8)] [2, 3, 4, 1, 0] rfl ?_
  exact H_5 y1 y2 x7 x8 σ hF
set_option maxHeartbeats 4000000 in
set_option maxRecDepth 100000 in
theorem x_X12_shows_5 {p : Program} {l : Launch} {e : Env} {s : State} {m : MethodId} {args : Array Value} {below : List Frame} {meth : Method} {c : Code} {D : va_G} {K : Nat → ClassId} {A : Nat → Prop} {ad : Nat → Nat} {rest : va_W} (C : xC p s m args meth c D K A RX12 cX12_shows 7 (some .long)) (z : Int64 × xS) : ∀ (n : Nat) (y1 : Int32) (y2 : Int32) (y3 : Int64) (y5 : Int32) (σ : xS), F_X12_shows_5  n y1 y2 y3 y5 σ = some z → X p l e (xR 1 21) s m args below meth c D A 7 (xQl below D K A args s z.1 (RW K ad rest z.2)) 0 0 5 [(0, .ref (ad 0)), (1, .int y1), (2, .int y2), (3, .long y3), (5, .int y5)] [] (RW K ad rest σ) := by
  intro n
  induction n with
  | zero =>
    intro y1 y2 y3 y5 σ hF
    cases hF
  | succ n ih =>
    intro y1 y2 y3 y5 σ hF
    rw [F_X12_shows_5] at hF
    refine x_iload C 4 5 dX12_shows_5 rfl ?_
    refine x_aload_n C 0 0 dX12_shows_7 rfl rfl ?_
    refine x_get C 0 dX12_shows_8 fl_X12_13 (RW_o K ad rest σ) rfl ?_
    refine x_bipush C 6 dX12_shows_11 (by decide +kernel) ?_
    refine x_iald C 2 dX12_shows_13 (RW_a3 K ad rest σ) hF (fun v3 hF => ?_)
    refine x_icmp_ge C 64 dX12_shows_14 (by decide) hF (fun hF => ?_) (fun hF => ?_)
    · refine x_lload_n C 3 3 dX12_shows_64 rfl rfl ?_
      exact x_lret C dX12_shows_65 rfl (congrArg Prod.fst (Option.some.inj hF)) (congrArg (fun q9 : Int64 × xS => RW K ad rest q9.2) (Option.some.inj hF))
    · refine x_aload_n C 0 0 dX12_shows_17 rfl rfl ?_
      refine x_get C 0 dX12_shows_18 fl_X12_13 (RW_o K ad rest σ) rfl ?_
      refine x_sipush C 133 dX12_shows_21 (by decide +kernel) ?_
      refine x_iconst C 2 dX12_shows_24 (by decide +kernel) ?_
      refine x_iload C 4 5 dX12_shows_25 rfl ?_
      refine x_imul C dX12_shows_27 ?_
      refine x_iadd C dX12_shows_28 ?_
      refine x_iload_n C 2 2 dX12_shows_29 rfl rfl ?_
      refine x_iadd C dX12_shows_30 ?_
      refine x_iald C 2 dX12_shows_31 (RW_a3 K ad rest σ) hF (fun v4 hF => ?_)
      refine x_istore C [(6, .int v4), (0, .ref (ad 0)), (1, .int y1), (2, .int y2), (3, .long y3), (5, .int y5)] dX12_shows_32 (by decide) rfl ?_
      refine x_lload_n C 4 3 dX12_shows_34 rfl rfl ?_
      refine x_iload_n C 2 1 dX12_shows_35 rfl rfl ?_
      refine x_iload C 5 5 dX12_shows_36 rfl ?_
      refine x_callSI C (wf := RW K ad rest) (As := [.int y1, .int y5]) (rest := [.long y3]) dX12_shows_38 ml_X12_397 rfl rfl (Nat.le_of_ble_eq_true rfl) ⟨Nat.le_of_ble_eq_true rfl, Nat.le_of_ble_eq_true rfl⟩ ⟨Nat.zero_le _, Nat.zero_le _⟩ (fun q9 hq9 => c_X12_is l D K ad rest y1 y5 σ q9 hq9) hF (fun v6 σ5 hF => ?_)
      refine x_if_eq C 50 dX12_shows_41 (by decide) hF (fun hF => ?_) (fun hF => ?_)
      · refine x_bipush C 100 dX12_shows_50 (by decide +kernel) ?_
        refine x_iload C 0 6 dX12_shows_52 rfl ?_
        refine x_isub C dX12_shows_54 ?_
        refine x_i2l C dX12_shows_55 ?_
        refine x_loc [(0, .ref (ad 0)), (1, .int y1), (2, .int y2), (5, .int y5)] [1, 2, 3, 5] rfl ?_
        exact x_X12_shows_56 C z ((F_X12_shows_5 n)) ih y1 y2 y5 y3 ((100 - v4).toInt64) σ5 hF
      · refine x_iload C 0 6 dX12_shows_44 rfl ?_
        refine x_i2l C dX12_shows_46 ?_
        refine x_goto C 56 dX12_shows_47 (by decide) ?_
        refine x_loc [(0, .ref (ad 0)), (1, .int y1), (2, .int y2), (5, .int y5)] [1, 2, 3, 5] rfl ?_
        exact x_X12_shows_56 C z ((F_X12_shows_5 n)) ih y1 y2 y5 y3 (v4.toInt64) σ5 hF
set_option maxHeartbeats 4000000 in
set_option maxRecDepth 100000 in
theorem c_X12_shows (l : Launch) (D : va_G) (K : Nat → ClassId) (ad : Nat → Nat) (rest : va_W) (a1 : Int32) (a2 : Int32) (σ : xS) (z : Int64 × xS) (hF : F_X12_shows a1 a2 σ = some z) : CL l D K yX12_shows cX12_shows 7 (some .long) 1 21 [.ref (ad 0), .int a1, .int a2] (RW K ad rest σ) z.1 (RW K ad rest z.2) := by
  refine x_enterL [(0, .ref (ad 0)), (1, .int a1), (2, .int a2)] pnX12 (Nat.le_of_ble_eq_true rfl) rfl ?_
  intro p e s m args below meth c A C
  unfold F_X12_shows at hF
  refine x_lconst C 1 dX12_shows_0 (by decide +kernel) ?_
  refine x_topL hF (fun x1 hF => ?_)
  refine x_lstore_n C [(3, .long x1), (0, .ref (ad 0)), (1, .int a1), (2, .int a2)] dX12_shows_1 rfl (by decide) rfl ?_
  refine x_iconst C 0 dX12_shows_2 (by decide +kernel) ?_
  refine x_topI hF (fun x2 hF => ?_)
  refine x_istore C [(5, .int x2), (3, .long x1), (0, .ref (ad 0)), (1, .int a1), (2, .int a2)] dX12_shows_3 (by decide) rfl ?_
  refine x_loc [(0, .ref (ad 0)), (1, .int a1), (2, .int a2), (3, .long x1), (5, .int x2)] [2, 3, 4, 1, 0] rfl ?_
  exact x_X12_shows_5 C z FU a1 a2 x1 x2 σ hF
theorem dX12_isPart_0 : decode cX12_isPart 0 = .ok (.iload_n 0, 1) := by decide +kernel
theorem dX12_isPart_1 : decode cX12_isPart 1 = .ok (.i2l, 1) := by decide +kernel
theorem dX12_isPart_2 : decode cX12_isPart 2 = .ok (.lconst 0, 1) := by decide +kernel
theorem dX12_isPart_3 : decode cX12_isPart 3 = .ok (.ldc2_w 360, 3) := by decide +kernel
theorem dX12_isPart_6 : decode cX12_isPart 6 = .ok (.invokestatic 117, 3) := by decide +kernel
theorem dX12_isPart_9 : decode cX12_isPart 9 = .ok (.ireturn, 1) := by decide +kernel
set_option maxHeartbeats 4000000 in
set_option maxRecDepth 100000 in
theorem c_X12_isPart (l : Launch) (D : va_G) (K : Nat → ClassId) (ad : Nat → Nat) (rest : va_W) (a1 : Int32) (σ : xS) (z : Int32 × xS) (hF : F_X12_isPart a1 σ = some z) : CI l D K yX12_isPart cX12_isPart 1 (some .boolean) 1 25 [.int a1] (RW K ad rest σ) z.1 (RW K ad rest z.2) := by
  refine x_enterI [(0, .int a1)] pnX12 (Nat.le_of_ble_eq_true rfl) rfl ?_
  intro p e s m args below meth c A C
  unfold F_X12_isPart at hF
  refine x_iload_n C 0 0 dX12_isPart_0 rfl rfl ?_
  refine x_i2l C dX12_isPart_1 ?_
  refine x_lconst C 0 dX12_isPart_2 (by decide +kernel) ?_
  refine x_ldc2 C 100 dX12_isPart_3 cl_X12_360 ?_
  refine x_callSI C (wf := RW K ad rest) (As := [.long (a1.toInt64), .long 0, .long 100]) (rest := []) dX12_isPart_6 ml_X12_117 rfl rfl (Nat.le_of_ble_eq_true rfl) ⟨Nat.le_of_ble_eq_true rfl, Nat.le_of_ble_eq_true rfl⟩ ⟨Nat.zero_le _, Nat.zero_le _⟩ (fun q9 hq9 => c_X12_in l D K ad rest (a1.toInt64) 0 100 σ q9 hq9) hF (fun v2 σ1 hF => ?_)
  have hz := (cz_some hF).1
  replace hF := (cz_some hF).2
  exact x_zret C dX12_isPart_9 rfl hz (congrArg Prod.fst (Option.some.inj hF)) (congrArg (fun q9 : Int32 × xS => RW K ad rest q9.2) (Option.some.inj hF))
theorem dX12_likely_0 : decode cX12_likely 0 = .ok (.aload_n 0, 1) := by decide +kernel
theorem dX12_likely_1 : decode cX12_likely 1 = .ok (.iconst 0, 1) := by decide +kernel
theorem dX12_likely_2 : decode cX12_likely 2 = .ok (.putfield 107, 3) := by decide +kernel
theorem dX12_likely_5 : decode cX12_likely 5 = .ok (.iload_n 1, 1) := by decide +kernel
theorem dX12_likely_6 : decode cX12_likely 6 = .ok (.i2l, 1) := by decide +kernel
theorem dX12_likely_7 : decode cX12_likely 7 = .ok (.lconst 0, 1) := by decide +kernel
theorem dX12_likely_8 : decode cX12_likely 8 = .ok (.iconst 1, 1) := by decide +kernel
theorem dX12_likely_9 : decode cX12_likely 9 = .ok (.aload_n 0, 1) := by decide +kernel
theorem dX12_likely_10 : decode cX12_likely 10 = .ok (.getfield 13, 3) := by decide +kernel
theorem dX12_likely_13 : decode cX12_likely 13 = .ok (.bipush 6, 2) := by decide +kernel
theorem dX12_likely_15 : decode cX12_likely 15 = .ok (.iaload, 1) := by decide +kernel
theorem dX12_likely_16 : decode cX12_likely 16 = .ok (.ishl, 1) := by decide +kernel
theorem dX12_likely_17 : decode cX12_likely 17 = .ok (.i2l, 1) := by decide +kernel
theorem dX12_likely_18 : decode cX12_likely 18 = .ok (.lconst 1, 1) := by decide +kernel
theorem dX12_likely_19 : decode cX12_likely 19 = .ok (.lsub, 1) := by decide +kernel
theorem dX12_likely_20 : decode cX12_likely 20 = .ok (.invokestatic 117, 3) := by decide +kernel
theorem dX12_likely_23 : decode cX12_likely 23 = .ok (.ifCond .eq 20, 3) := by decide +kernel
theorem dX12_likely_26 : decode cX12_likely 26 = .ok (.iload_n 2, 1) := by decide +kernel
theorem dX12_likely_27 : decode cX12_likely 27 = .ok (.invokestatic 443, 3) := by decide +kernel
theorem dX12_likely_30 : decode cX12_likely 30 = .ok (.ifCond .eq 13, 3) := by decide +kernel
theorem dX12_likely_33 : decode cX12_likely 33 = .ok (.iload_n 3, 1) := by decide +kernel
theorem dX12_likely_34 : decode cX12_likely 34 = .ok (.i2l, 1) := by decide +kernel
theorem dX12_likely_35 : decode cX12_likely 35 = .ok (.lconst 0, 1) := by decide +kernel
theorem dX12_likely_36 : decode cX12_likely 36 = .ok (.lconst 1, 1) := by decide +kernel
theorem dX12_likely_37 : decode cX12_likely 37 = .ok (.invokestatic 117, 3) := by decide +kernel
theorem dX12_likely_40 : decode cX12_likely 40 = .ok (.ifCond .ne 7, 3) := by decide +kernel
theorem dX12_likely_43 : decode cX12_likely 43 = .ok (.ldc2_w 375, 3) := by decide +kernel
theorem dX12_likely_46 : decode cX12_likely 46 = .ok (.lreturn, 1) := by decide +kernel
theorem dX12_likely_47 : decode cX12_likely 47 = .ok (.iload_n 2, 1) := by decide +kernel
theorem dX12_likely_48 : decode cX12_likely 48 = .ok (.i2l, 1) := by decide +kernel
theorem dX12_likely_49 : decode cX12_likely 49 = .ok (.aload_n 0, 1) := by decide +kernel
theorem dX12_likely_50 : decode cX12_likely 50 = .ok (.iload_n 1, 1) := by decide +kernel
theorem dX12_likely_51 : decode cX12_likely 51 = .ok (.iconst 0, 1) := by decide +kernel
theorem dX12_likely_52 : decode cX12_likely 52 = .ok (.invokevirtual 446, 3) := by decide +kernel
theorem dX12_likely_55 : decode cX12_likely 55 = .ok (.lmul, 1) := by decide +kernel
theorem dX12_likely_56 : decode cX12_likely 56 = .ok (.lstore 4, 2) := by decide +kernel
theorem dX12_likely_58 : decode cX12_likely 58 = .ok (.lload 4, 2) := by decide +kernel
theorem dX12_likely_60 : decode cX12_likely 60 = .ok (.bipush 100, 2) := by decide +kernel
theorem dX12_likely_62 : decode cX12_likely 62 = .ok (.iload_n 2, 1) := by decide +kernel
theorem dX12_likely_63 : decode cX12_likely 63 = .ok (.isub, 1) := by decide +kernel
theorem dX12_likely_64 : decode cX12_likely 64 = .ok (.i2l, 1) := by decide +kernel
theorem dX12_likely_65 : decode cX12_likely 65 = .ok (.aload_n 0, 1) := by decide +kernel
theorem dX12_likely_66 : decode cX12_likely 66 = .ok (.iload_n 1, 1) := by decide +kernel
theorem dX12_likely_67 : decode cX12_likely 67 = .ok (.iconst 1, 1) := by decide +kernel
theorem dX12_likely_68 : decode cX12_likely 68 = .ok (.invokevirtual 446, 3) := by decide +kernel
theorem dX12_likely_71 : decode cX12_likely 71 = .ok (.lmul, 1) := by decide +kernel
theorem dX12_likely_72 : decode cX12_likely 72 = .ok (.ladd, 1) := by decide +kernel
theorem dX12_likely_73 : decode cX12_likely 73 = .ok (.lstore 6, 2) := by decide +kernel
theorem dX12_likely_75 : decode cX12_likely 75 = .ok (.lload 6, 2) := by decide +kernel
theorem dX12_likely_77 : decode cX12_likely 77 = .ok (.lconst 0, 1) := by decide +kernel
theorem dX12_likely_78 : decode cX12_likely 78 = .ok (.lcmp, 1) := by decide +kernel
theorem dX12_likely_79 : decode cX12_likely 79 = .ok (.ifCond .ne 7, 3) := by decide +kernel
theorem dX12_likely_82 : decode cX12_likely 82 = .ok (.ldc2_w 375, 3) := by decide +kernel
theorem dX12_likely_85 : decode cX12_likely 85 = .ok (.lreturn, 1) := by decide +kernel
theorem dX12_likely_86 : decode cX12_likely 86 = .ok (.lload 4, 2) := by decide +kernel
theorem dX12_likely_88 : decode cX12_likely 88 = .ok (.lload 6, 2) := by decide +kernel
theorem dX12_likely_90 : decode cX12_likely 90 = .ok (.invokestatic 393, 3) := by decide +kernel
theorem dX12_likely_93 : decode cX12_likely 93 = .ok (.lstore 8, 2) := by decide +kernel
theorem dX12_likely_95 : decode cX12_likely 95 = .ok (.iload_n 3, 1) := by decide +kernel
theorem dX12_likely_96 : decode cX12_likely 96 = .ok (.ifCond .ne 11, 3) := by decide +kernel
theorem dX12_likely_99 : decode cX12_likely 99 = .ok (.lload 4, 2) := by decide +kernel
theorem dX12_likely_101 : decode cX12_likely 101 = .ok (.lload 8, 2) := by decide +kernel
theorem dX12_likely_103 : decode cX12_likely 103 = .ok (.ldiv, 1) := by decide +kernel
theorem dX12_likely_104 : decode cX12_likely 104 = .ok (.goto 8, 3) := by decide +kernel
theorem dX12_likely_107 : decode cX12_likely 107 = .ok (.lload 6, 2) := by decide +kernel
theorem dX12_likely_109 : decode cX12_likely 109 = .ok (.lload 8, 2) := by decide +kernel
theorem dX12_likely_111 : decode cX12_likely 111 = .ok (.ldiv, 1) := by decide +kernel
theorem dX12_likely_112 : decode cX12_likely 112 = .ok (.lreturn, 1) := by decide +kernel
set_option maxHeartbeats 4000000 in
set_option maxRecDepth 100000 in
theorem c_X12_likely (l : Launch) (D : va_G) (K : Nat → ClassId) (ad : Nat → Nat) (rest : va_W) (a1 : Int32) (a2 : Int32) (a3 : Int32) (σ : xS) (z : Int64 × xS) (hF : F_X12_likely a1 a2 a3 σ = some z) : CL l D K yX12_likely cX12_likely 10 (some .long) 2 47 [.ref (ad 0), .int a1, .int a2, .int a3] (RW K ad rest σ) z.1 (RW K ad rest z.2) := by
  refine x_enterL [(0, .ref (ad 0)), (1, .int a1), (2, .int a2), (3, .int a3)] pnX12 (Nat.le_of_ble_eq_true rfl) rfl ?_
  intro p e s m args below meth c A C
  unfold F_X12_likely at hF
  refine x_aload_n C 0 0 dX12_likely_0 rfl rfl ?_
  refine x_iconst C 0 dX12_likely_1 (by decide +kernel) ?_
  refine x_put C 0 dX12_likely_2 fl_X12_107 fm_X12_0 rfl rfl (RW_o K ad rest σ) (Nat.le_of_ble_eq_true rfl) (RW_s0 K ad rest σ _) ?_
  refine x_st (wf := RW K ad rest) hF (fun σ1 hF => ?_)
  refine x_iload_n C 1 1 dX12_likely_5 rfl rfl ?_
  refine x_i2l C dX12_likely_6 ?_
  refine x_lconst C 0 dX12_likely_7 (by decide +kernel) ?_
  refine x_iconst C 1 dX12_likely_8 (by decide +kernel) ?_
  refine x_aload_n C 0 0 dX12_likely_9 rfl rfl ?_
  refine x_get C 0 dX12_likely_10 fl_X12_13 (RW_o K ad rest σ1) rfl ?_
  refine x_bipush C 6 dX12_likely_13 (by decide +kernel) ?_
  refine x_iald C 2 dX12_likely_15 (RW_a3 K ad rest σ1) hF (fun v2 hF => ?_)
  refine x_ishl C dX12_likely_16 ?_
  refine x_i2l C dX12_likely_17 ?_
  refine x_lconst C 1 dX12_likely_18 (by decide +kernel) ?_
  refine x_lsub C dX12_likely_19 ?_
  refine x_callSI C (wf := RW K ad rest) (As := [.long (a1.toInt64), .long 0, .long ((((1 : Int32) <<< (v2 &&& 31)).toInt64) - 1)]) (rest := []) dX12_likely_20 ml_X12_117 rfl rfl (Nat.le_of_ble_eq_true rfl) ⟨Nat.le_of_ble_eq_true rfl, Nat.le_of_ble_eq_true rfl⟩ ⟨Nat.zero_le _, Nat.zero_le _⟩ (fun q9 hq9 => c_X12_in l D K ad rest (a1.toInt64) 0 ((((1 : Int32) <<< (v2 &&& 31)).toInt64) - 1) σ1 q9 hq9) hF (fun v4 σ3 hF => ?_)
  refine x_if_eq C 43 dX12_likely_23 (by decide) hF (fun hF => ?_) (fun hF => ?_)
  · refine x_ldc2 C (-1000000000000000000) dX12_likely_43 cl_X12_375 ?_
    exact x_lret C dX12_likely_46 rfl (congrArg Prod.fst (Option.some.inj hF)) (congrArg (fun q9 : Int64 × xS => RW K ad rest q9.2) (Option.some.inj hF))
  · refine x_iload_n C 2 2 dX12_likely_26 rfl rfl ?_
    refine x_callSI C (wf := RW K ad rest) (As := [.int a2]) (rest := []) dX12_likely_27 ml_X12_443 rfl rfl (Nat.le_of_ble_eq_true rfl) ⟨Nat.le_of_ble_eq_true rfl, Nat.le_of_ble_eq_true rfl⟩ ⟨Nat.zero_le _, Nat.zero_le _⟩ (fun q9 hq9 => c_X12_isPart l D K ad rest a2 σ3 q9 hq9) hF (fun v6 σ5 hF => ?_)
    refine x_if_eq C 43 dX12_likely_30 (by decide) hF (fun hF => ?_) (fun hF => ?_)
    · refine x_ldc2 C (-1000000000000000000) dX12_likely_43 cl_X12_375 ?_
      exact x_lret C dX12_likely_46 rfl (congrArg Prod.fst (Option.some.inj hF)) (congrArg (fun q9 : Int64 × xS => RW K ad rest q9.2) (Option.some.inj hF))
    · refine x_iload_n C 3 3 dX12_likely_33 rfl rfl ?_
      refine x_i2l C dX12_likely_34 ?_
      refine x_lconst C 0 dX12_likely_35 (by decide +kernel) ?_
      refine x_lconst C 1 dX12_likely_36 (by decide +kernel) ?_
      refine x_callSI C (wf := RW K ad rest) (As := [.long (a3.toInt64), .long 0, .long 1]) (rest := []) dX12_likely_37 ml_X12_117 rfl rfl (Nat.le_of_ble_eq_true rfl) ⟨Nat.le_of_ble_eq_true rfl, Nat.le_of_ble_eq_true rfl⟩ ⟨Nat.zero_le _, Nat.zero_le _⟩ (fun q9 hq9 => c_X12_in l D K ad rest (a3.toInt64) 0 1 σ5 q9 hq9) hF (fun v8 σ7 hF => ?_)
      refine x_if_ne C 47 dX12_likely_40 (by decide) hF (fun hF => ?_) (fun hF => ?_)
      · refine x_iload_n C 2 2 dX12_likely_47 rfl rfl ?_
        refine x_i2l C dX12_likely_48 ?_
        refine x_aload_n C 0 0 dX12_likely_49 rfl rfl ?_
        refine x_iload_n C 1 1 dX12_likely_50 rfl rfl ?_
        refine x_iconst C 0 dX12_likely_51 (by decide +kernel) ?_
        refine x_callVL C (wf := RW K ad rest) (As := [.int a1, .int 0]) (rest := [.long (a2.toInt64)]) dX12_likely_52 ml_X12_446 rfl rfl (Nat.le_of_ble_eq_true rfl) 0 (RW_o K ad rest σ7) rfl ⟨Nat.le_of_ble_eq_true rfl, Nat.le_of_ble_eq_true rfl⟩ ⟨Nat.zero_le _, Nat.zero_le _⟩ (fun q9 hq9 => c_X12_shows l D K ad rest a1 0 σ7 q9 hq9) hF (fun v10 σ9 hF => ?_)
        refine x_lmul C dX12_likely_55 ?_
        refine x_topL hF (fun x11 hF => ?_)
        refine x_lstore C [(4, .long x11), (0, .ref (ad 0)), (1, .int a1), (2, .int a2), (3, .int a3)] dX12_likely_56 (by decide) rfl ?_
        refine x_lload C 0 4 dX12_likely_58 rfl ?_
        refine x_bipush C 100 dX12_likely_60 (by decide +kernel) ?_
        refine x_iload_n C 3 2 dX12_likely_62 rfl rfl ?_
        refine x_isub C dX12_likely_63 ?_
        refine x_i2l C dX12_likely_64 ?_
        refine x_aload_n C 1 0 dX12_likely_65 rfl rfl ?_
        refine x_iload_n C 2 1 dX12_likely_66 rfl rfl ?_
        refine x_iconst C 1 dX12_likely_67 (by decide +kernel) ?_
        refine x_callVL C (wf := RW K ad rest) (As := [.int a1, .int 1]) (rest := [.long ((100 - a2).toInt64), .long x11]) dX12_likely_68 ml_X12_446 rfl rfl (Nat.le_of_ble_eq_true rfl) 0 (RW_o K ad rest σ9) rfl ⟨Nat.le_of_ble_eq_true rfl, Nat.le_of_ble_eq_true rfl⟩ ⟨Nat.zero_le _, Nat.zero_le _⟩ (fun q9 hq9 => c_X12_shows l D K ad rest a1 1 σ9 q9 hq9) hF (fun v13 σ12 hF => ?_)
        refine x_lmul C dX12_likely_71 ?_
        refine x_ladd C dX12_likely_72 ?_
        refine x_topL hF (fun x14 hF => ?_)
        refine x_lstore C [(6, .long x14), (4, .long x11), (0, .ref (ad 0)), (1, .int a1), (2, .int a2), (3, .int a3)] dX12_likely_73 (by decide) rfl ?_
        refine x_lload C 0 6 dX12_likely_75 rfl ?_
        refine x_lconst C 0 dX12_likely_77 (by decide +kernel) ?_
        refine x_lcmp C dX12_likely_78 ?_
        refine x_if_ne C 86 dX12_likely_79 (by decide) hF (fun hF => ?_) (fun hF => ?_)
        · refine x_lload C 1 4 dX12_likely_86 rfl ?_
          refine x_lload C 0 6 dX12_likely_88 rfl ?_
          refine x_callSL C (wf := RW K ad rest) (As := [.long x11, .long x14]) (rest := []) dX12_likely_90 ml_X12_393 rfl rfl (Nat.le_of_ble_eq_true rfl) ⟨Nat.le_of_ble_eq_true rfl, Nat.le_of_ble_eq_true rfl⟩ ⟨Nat.zero_le _, Nat.zero_le _⟩ (fun q9 hq9 => c_X12_common l D K ad rest x11 x14 σ12 q9 hq9) hF (fun v16 σ15 hF => ?_)
          refine x_lstore C [(8, .long v16), (6, .long x14), (4, .long x11), (0, .ref (ad 0)), (1, .int a1), (2, .int a2), (3, .int a3)] dX12_likely_93 (by decide) rfl ?_
          refine x_iload_n C 6 3 dX12_likely_95 rfl rfl ?_
          refine x_if_ne C 107 dX12_likely_96 (by decide) hF (fun hF => ?_) (fun hF => ?_)
          · refine x_lload C 1 6 dX12_likely_107 rfl ?_
            refine x_lload C 0 8 dX12_likely_109 rfl ?_
            refine x_ldiv C dX12_likely_111 hF (fun hF => ?_)
            exact x_lret C dX12_likely_112 rfl (congrArg Prod.fst (Option.some.inj hF)) (congrArg (fun q9 : Int64 × xS => RW K ad rest q9.2) (Option.some.inj hF))
          · refine x_lload C 2 4 dX12_likely_99 rfl ?_
            refine x_lload C 0 8 dX12_likely_101 rfl ?_
            refine x_ldiv C dX12_likely_103 hF (fun hF => ?_)
            refine x_goto C 112 dX12_likely_104 (by decide) ?_
            exact x_lret C dX12_likely_112 rfl (congrArg Prod.fst (Option.some.inj hF)) (congrArg (fun q9 : Int64 × xS => RW K ad rest q9.2) (Option.some.inj hF))
        · refine x_ldc2 C (-1000000000000000000) dX12_likely_82 cl_X12_375 ?_
          exact x_lret C dX12_likely_85 rfl (congrArg Prod.fst (Option.some.inj hF)) (congrArg (fun q9 : Int64 × xS => RW K ad rest q9.2) (Option.some.inj hF))
      · refine x_ldc2 C (-1000000000000000000) dX12_likely_43 cl_X12_375 ?_
        exact x_lret C dX12_likely_46 rfl (congrArg Prod.fst (Option.some.inj hF)) (congrArg (fun q9 : Int64 × xS => RW K ad rest q9.2) (Option.some.inj hF))
theorem dX12_errors_0 : decode cX12_errors 0 = .ok (.aload_n 0, 1) := by decide +kernel
theorem dX12_errors_1 : decode cX12_errors 1 = .ok (.iconst 0, 1) := by decide +kernel
theorem dX12_errors_2 : decode cX12_errors 2 = .ok (.putfield 107, 3) := by decide +kernel
theorem dX12_errors_5 : decode cX12_errors 5 = .ok (.iload_n 1, 1) := by decide +kernel
theorem dX12_errors_6 : decode cX12_errors 6 = .ok (.invokestatic 443, 3) := by decide +kernel
theorem dX12_errors_9 : decode cX12_errors 9 = .ok (.ifCond .eq 20, 3) := by decide +kernel
theorem dX12_errors_12 : decode cX12_errors 12 = .ok (.iload_n 2, 1) := by decide +kernel
theorem dX12_errors_13 : decode cX12_errors 13 = .ok (.invokestatic 443, 3) := by decide +kernel
theorem dX12_errors_16 : decode cX12_errors 16 = .ok (.ifCond .eq 13, 3) := by decide +kernel
theorem dX12_errors_19 : decode cX12_errors 19 = .ok (.iload_n 3, 1) := by decide +kernel
theorem dX12_errors_20 : decode cX12_errors 20 = .ok (.i2l, 1) := by decide +kernel
theorem dX12_errors_21 : decode cX12_errors 21 = .ok (.lconst 0, 1) := by decide +kernel
theorem dX12_errors_22 : decode cX12_errors 22 = .ok (.lconst 1, 1) := by decide +kernel
theorem dX12_errors_23 : decode cX12_errors 23 = .ok (.invokestatic 117, 3) := by decide +kernel
theorem dX12_errors_26 : decode cX12_errors 26 = .ok (.ifCond .ne 7, 3) := by decide +kernel
theorem dX12_errors_29 : decode cX12_errors 29 = .ok (.ldc2_w 375, 3) := by decide +kernel
theorem dX12_errors_32 : decode cX12_errors 32 = .ok (.lreturn, 1) := by decide +kernel
theorem dX12_errors_33 : decode cX12_errors 33 = .ok (.lconst 0, 1) := by decide +kernel
theorem dX12_errors_34 : decode cX12_errors 34 = .ok (.lstore 4, 2) := by decide +kernel
theorem dX12_errors_36 : decode cX12_errors 36 = .ok (.iconst 0, 1) := by decide +kernel
theorem dX12_errors_37 : decode cX12_errors 37 = .ok (.istore 6, 2) := by decide +kernel
theorem dX12_errors_39 : decode cX12_errors 39 = .ok (.iload 6, 2) := by decide +kernel
theorem dX12_errors_41 : decode cX12_errors 41 = .ok (.iconst 1, 1) := by decide +kernel
theorem dX12_errors_42 : decode cX12_errors 42 = .ok (.aload_n 0, 1) := by decide +kernel
theorem dX12_errors_43 : decode cX12_errors 43 = .ok (.getfield 13, 3) := by decide +kernel
theorem dX12_errors_46 : decode cX12_errors 46 = .ok (.bipush 6, 2) := by decide +kernel
theorem dX12_errors_48 : decode cX12_errors 48 = .ok (.iaload, 1) := by decide +kernel
theorem dX12_errors_49 : decode cX12_errors 49 = .ok (.ishl, 1) := by decide +kernel
theorem dX12_errors_50 : decode cX12_errors 50 = .ok (.if_icmp .ge 99, 3) := by decide +kernel
theorem dX12_errors_53 : decode cX12_errors 53 = .ok (.iload_n 1, 1) := by decide +kernel
theorem dX12_errors_54 : decode cX12_errors 54 = .ok (.i2l, 1) := by decide +kernel
theorem dX12_errors_55 : decode cX12_errors 55 = .ok (.aload_n 0, 1) := by decide +kernel
theorem dX12_errors_56 : decode cX12_errors 56 = .ok (.iload 6, 2) := by decide +kernel
theorem dX12_errors_58 : decode cX12_errors 58 = .ok (.iconst 0, 1) := by decide +kernel
theorem dX12_errors_59 : decode cX12_errors 59 = .ok (.invokevirtual 446, 3) := by decide +kernel
theorem dX12_errors_62 : decode cX12_errors 62 = .ok (.lmul, 1) := by decide +kernel
theorem dX12_errors_63 : decode cX12_errors 63 = .ok (.lstore 7, 2) := by decide +kernel
theorem dX12_errors_65 : decode cX12_errors 65 = .ok (.lload 7, 2) := by decide +kernel
theorem dX12_errors_67 : decode cX12_errors 67 = .ok (.bipush 100, 2) := by decide +kernel
theorem dX12_errors_69 : decode cX12_errors 69 = .ok (.iload_n 1, 1) := by decide +kernel
theorem dX12_errors_70 : decode cX12_errors 70 = .ok (.isub, 1) := by decide +kernel
theorem dX12_errors_71 : decode cX12_errors 71 = .ok (.i2l, 1) := by decide +kernel
theorem dX12_errors_72 : decode cX12_errors 72 = .ok (.aload_n 0, 1) := by decide +kernel
theorem dX12_errors_73 : decode cX12_errors 73 = .ok (.iload 6, 2) := by decide +kernel
theorem dX12_errors_75 : decode cX12_errors 75 = .ok (.iconst 1, 1) := by decide +kernel
theorem dX12_errors_76 : decode cX12_errors 76 = .ok (.invokevirtual 446, 3) := by decide +kernel
theorem dX12_errors_79 : decode cX12_errors 79 = .ok (.lmul, 1) := by decide +kernel
theorem dX12_errors_80 : decode cX12_errors 80 = .ok (.ladd, 1) := by decide +kernel
theorem dX12_errors_81 : decode cX12_errors 81 = .ok (.lstore 9, 2) := by decide +kernel
theorem dX12_errors_83 : decode cX12_errors 83 = .ok (.lload 9, 2) := by decide +kernel
theorem dX12_errors_85 : decode cX12_errors 85 = .ok (.lconst 0, 1) := by decide +kernel
theorem dX12_errors_86 : decode cX12_errors 86 = .ok (.lcmp, 1) := by decide +kernel
theorem dX12_errors_87 : decode cX12_errors 87 = .ok (.ifCond .le 22, 3) := by decide +kernel
theorem dX12_errors_90 : decode cX12_errors 90 = .ok (.lload 7, 2) := by decide +kernel
theorem dX12_errors_92 : decode cX12_errors 92 = .ok (.ldc2_w 360, 3) := by decide +kernel
theorem dX12_errors_95 : decode cX12_errors 95 = .ok (.lmul, 1) := by decide +kernel
theorem dX12_errors_96 : decode cX12_errors 96 = .ok (.iload_n 2, 1) := by decide +kernel
theorem dX12_errors_97 : decode cX12_errors 97 = .ok (.i2l, 1) := by decide +kernel
theorem dX12_errors_98 : decode cX12_errors 98 = .ok (.lload 9, 2) := by decide +kernel
theorem dX12_errors_100 : decode cX12_errors 100 = .ok (.lmul, 1) := by decide +kernel
theorem dX12_errors_101 : decode cX12_errors 101 = .ok (.lcmp, 1) := by decide +kernel
theorem dX12_errors_102 : decode cX12_errors 102 = .ok (.ifCond .lt 7, 3) := by decide +kernel
theorem dX12_errors_105 : decode cX12_errors 105 = .ok (.iconst 1, 1) := by decide +kernel
theorem dX12_errors_106 : decode cX12_errors 106 = .ok (.goto 4, 3) := by decide +kernel
theorem dX12_errors_109 : decode cX12_errors 109 = .ok (.iconst 0, 1) := by decide +kernel
theorem dX12_errors_110 : decode cX12_errors 110 = .ok (.istore 11, 2) := by decide +kernel
theorem dX12_errors_112 : decode cX12_errors 112 = .ok (.lload 4, 2) := by decide +kernel
theorem dX12_errors_114 : decode cX12_errors 114 = .ok (.iload 11, 2) := by decide +kernel
theorem dX12_errors_116 : decode cX12_errors 116 = .ok (.iload_n 3, 1) := by decide +kernel
theorem dX12_errors_117 : decode cX12_errors 117 = .ok (.iconst 1, 1) := by decide +kernel
theorem dX12_errors_118 : decode cX12_errors 118 = .ok (.if_icmp .ne 7, 3) := by decide +kernel
theorem dX12_errors_121 : decode cX12_errors 121 = .ok (.iconst 1, 1) := by decide +kernel
theorem dX12_errors_122 : decode cX12_errors 122 = .ok (.goto 4, 3) := by decide +kernel
theorem dX12_errors_125 : decode cX12_errors 125 = .ok (.iconst 0, 1) := by decide +kernel
theorem dX12_errors_126 : decode cX12_errors 126 = .ok (.if_icmp .ne 13, 3) := by decide +kernel
theorem dX12_errors_129 : decode cX12_errors 129 = .ok (.aload_n 0, 1) := by decide +kernel
theorem dX12_errors_130 : decode cX12_errors 130 = .ok (.iload 6, 2) := by decide +kernel
theorem dX12_errors_132 : decode cX12_errors 132 = .ok (.iload_n 3, 1) := by decide +kernel
theorem dX12_errors_133 : decode cX12_errors 133 = .ok (.invokevirtual 446, 3) := by decide +kernel
theorem dX12_errors_136 : decode cX12_errors 136 = .ok (.goto 4, 3) := by decide +kernel
theorem dX12_errors_139 : decode cX12_errors 139 = .ok (.lconst 0, 1) := by decide +kernel
theorem dX12_errors_140 : decode cX12_errors 140 = .ok (.ladd, 1) := by decide +kernel
theorem dX12_errors_141 : decode cX12_errors 141 = .ok (.lstore 4, 2) := by decide +kernel
theorem dX12_errors_143 : decode cX12_errors 143 = .ok (.iinc 6 1, 3) := by decide +kernel
theorem dX12_errors_146 : decode cX12_errors 146 = .ok (.goto (-107), 3) := by decide +kernel
theorem dX12_errors_149 : decode cX12_errors 149 = .ok (.lload 4, 2) := by decide +kernel
theorem dX12_errors_151 : decode cX12_errors 151 = .ok (.lreturn, 1) := by decide +kernel
set_option maxHeartbeats 4000000 in
set_option maxRecDepth 100000 in
theorem x_X12_errors_140 {p : Program} {l : Launch} {e : Env} {s : State} {m : MethodId} {args : Array Value} {below : List Frame} {meth : Method} {c : Code} {D : va_G} {K : Nat → ClassId} {A : Nat → Prop} {ad : Nat → Nat} {rest : va_W} (C : xC p s m args meth c D K A RX12 cX12_errors 12 (some .long)) (z : Int64 × xS) (k_39 : Int32 → Int32 → Int32 → Int64 → Int32 → xS → Option (Int64 × xS)) (H_39 : ∀ (y1 : Int32) (y2 : Int32) (y3 : Int32) (y4 : Int64) (y6 : Int32) (σ : xS), k_39 y1 y2 y3 y4 y6 σ = some z → X p l e (xR 2 47) s m args below meth c D A 12 (xQl below D K A args s z.1 (RW K ad rest z.2)) 0 0 39 [(0, .ref (ad 0)), (1, .int y1), (2, .int y2), (3, .int y3), (4, .long y4), (6, .int y6)] [] (RW K ad rest σ)) : ∀ (y1 : Int32) (y2 : Int32) (y3 : Int32) (y6 : Int32) (t0 : Int64) (t1 : Int64) (σ : xS), F_X12_errors_140 k_39 y1 y2 y3 y6 t0 t1 σ = some z → X p l e (xR 2 47) s m args below meth c D A 12 (xQl below D K A args s z.1 (RW K ad rest z.2)) 0 0 140 [(0, .ref (ad 0)), (1, .int y1), (2, .int y2), (3, .int y3), (6, .int y6)] [.long t1, .long t0] (RW K ad rest σ) := by
  intro y1 y2 y3 y6 t0 t1 σ hF
  unfold F_X12_errors_140 at hF
  refine x_ladd C dX12_errors_140 ?_
  refine x_topL hF (fun x19 hF => ?_)
  refine x_lstore C [(4, .long x19), (0, .ref (ad 0)), (1, .int y1), (2, .int y2), (3, .int y3), (6, .int y6)] dX12_errors_141 (by decide) rfl ?_
  refine x_iincN C 1 5 (fun x20 => [(6, .int x20), (4, .long x19), (0, .ref (ad 0)), (1, .int y1), (2, .int y2), (3, .int y3)]) dX12_errors_143 rfl (by decide +kernel) (by decide) (fun _ => rfl) hF (fun x20 hF => ?_)
  refine x_goto C 39 dX12_errors_146 (by decide) ?_
  refine x_loc [(0, .ref (ad 0)), (1, .int y1), (2, .int y2), (3, .int y3), (4, .long x19), (6, .int x20)] [2, 3, 4, 5, 1, 0] rfl ?_
  exact H_39 y1 y2 y3 x19 x20 σ hF
set_option maxHeartbeats 4000000 in
set_option maxRecDepth 100000 in
theorem x_X12_errors_126 {p : Program} {l : Launch} {e : Env} {s : State} {m : MethodId} {args : Array Value} {below : List Frame} {meth : Method} {c : Code} {D : va_G} {K : Nat → ClassId} {A : Nat → Prop} {ad : Nat → Nat} {rest : va_W} (C : xC p s m args meth c D K A RX12 cX12_errors 12 (some .long)) (z : Int64 × xS) (k_39 : Int32 → Int32 → Int32 → Int64 → Int32 → xS → Option (Int64 × xS)) (H_39 : ∀ (y1 : Int32) (y2 : Int32) (y3 : Int32) (y4 : Int64) (y6 : Int32) (σ : xS), k_39 y1 y2 y3 y4 y6 σ = some z → X p l e (xR 2 47) s m args below meth c D A 12 (xQl below D K A args s z.1 (RW K ad rest z.2)) 0 0 39 [(0, .ref (ad 0)), (1, .int y1), (2, .int y2), (3, .int y3), (4, .long y4), (6, .int y6)] [] (RW K ad rest σ)) : ∀ (y1 : Int32) (y2 : Int32) (y3 : Int32) (y6 : Int32) (t0 : Int64) (t1 : Int32) (t2 : Int32) (σ : xS), F_X12_errors_126 k_39 y1 y2 y3 y6 t0 t1 t2 σ = some z → X p l e (xR 2 47) s m args below meth c D A 12 (xQl below D K A args s z.1 (RW K ad rest z.2)) 0 0 126 [(0, .ref (ad 0)), (1, .int y1), (2, .int y2), (3, .int y3), (6, .int y6)] [.int t2, .int t1, .long t0] (RW K ad rest σ) := by
  intro y1 y2 y3 y6 t0 t1 t2 σ hF
  unfold F_X12_errors_126 at hF
  refine x_icmp_ne C 139 dX12_errors_126 (by decide) hF (fun hF => ?_) (fun hF => ?_)
  · refine x_lconst C 0 dX12_errors_139 (by decide +kernel) ?_
    exact x_X12_errors_140 C z k_39 H_39 y1 y2 y3 y6 t0 0 σ hF
  · refine x_aload_n C 0 0 dX12_errors_129 rfl rfl ?_
    refine x_iload C 4 6 dX12_errors_130 rfl ?_
    refine x_iload_n C 3 3 dX12_errors_132 rfl rfl ?_
    refine x_callVL C (wf := RW K ad rest) (As := [.int y6, .int y3]) (rest := [.long t0]) dX12_errors_133 ml_X12_446 rfl rfl (Nat.le_of_ble_eq_true rfl) 0 (RW_o K ad rest σ) rfl ⟨Nat.le_of_ble_eq_true rfl, Nat.le_of_ble_eq_true rfl⟩ ⟨Nat.zero_le _, Nat.zero_le _⟩ (fun q9 hq9 => c_X12_shows l D K ad rest y6 y3 σ q9 hq9) hF (fun v18 σ17 hF => ?_)
    refine x_goto C 140 dX12_errors_136 (by decide) ?_
    exact x_X12_errors_140 C z k_39 H_39 y1 y2 y3 y6 t0 v18 σ17 hF
set_option maxHeartbeats 4000000 in
set_option maxRecDepth 100000 in
theorem x_X12_errors_110 {p : Program} {l : Launch} {e : Env} {s : State} {m : MethodId} {args : Array Value} {below : List Frame} {meth : Method} {c : Code} {D : va_G} {K : Nat → ClassId} {A : Nat → Prop} {ad : Nat → Nat} {rest : va_W} (C : xC p s m args meth c D K A RX12 cX12_errors 12 (some .long)) (z : Int64 × xS) (k_39 : Int32 → Int32 → Int32 → Int64 → Int32 → xS → Option (Int64 × xS)) (H_39 : ∀ (y1 : Int32) (y2 : Int32) (y3 : Int32) (y4 : Int64) (y6 : Int32) (σ : xS), k_39 y1 y2 y3 y4 y6 σ = some z → X p l e (xR 2 47) s m args below meth c D A 12 (xQl below D K A args s z.1 (RW K ad rest z.2)) 0 0 39 [(0, .ref (ad 0)), (1, .int y1), (2, .int y2), (3, .int y3), (4, .long y4), (6, .int y6)] [] (RW K ad rest σ)) : ∀ (y1 : Int32) (y2 : Int32) (y3 : Int32) (y4 : Int64) (y6 : Int32) (t0 : Int32) (σ : xS), F_X12_errors_110 k_39 y1 y2 y3 y4 y6 t0 σ = some z → X p l e (xR 2 47) s m args below meth c D A 12 (xQl below D K A args s z.1 (RW K ad rest z.2)) 0 0 110 [(0, .ref (ad 0)), (1, .int y1), (2, .int y2), (3, .int y3), (4, .long y4), (6, .int y6)] [.int t0] (RW K ad rest σ) := by
  intro y1 y2 y3 y4 y6 t0 σ hF
  unfold F_X12_errors_110 at hF
  refine x_istore C [(11, .int t0), (0, .ref (ad 0)), (1, .int y1), (2, .int y2), (3, .int y3), (4, .long y4), (6, .int y6)] dX12_errors_110 (by decide) rfl ?_
  refine x_lload C 5 4 dX12_errors_112 rfl ?_
  refine x_iload C 0 11 dX12_errors_114 rfl ?_
  refine x_iload_n C 4 3 dX12_errors_116 rfl rfl ?_
  refine x_iconst C 1 dX12_errors_117 (by decide +kernel) ?_
  refine x_icmp_ne C 125 dX12_errors_118 (by decide) hF (fun hF => ?_) (fun hF => ?_)
  · refine x_iconst C 0 dX12_errors_125 (by decide +kernel) ?_
    refine x_loc [(0, .ref (ad 0)), (1, .int y1), (2, .int y2), (3, .int y3), (6, .int y6)] [1, 2, 3, 4, 6] rfl ?_
    exact x_X12_errors_126 C z k_39 H_39 y1 y2 y3 y6 y4 t0 0 σ hF
  · refine x_iconst C 1 dX12_errors_121 (by decide +kernel) ?_
    refine x_goto C 126 dX12_errors_122 (by decide) ?_
    refine x_loc [(0, .ref (ad 0)), (1, .int y1), (2, .int y2), (3, .int y3), (6, .int y6)] [1, 2, 3, 4, 6] rfl ?_
    exact x_X12_errors_126 C z k_39 H_39 y1 y2 y3 y6 y4 t0 1 σ hF
set_option maxHeartbeats 4000000 in
set_option maxRecDepth 100000 in
theorem x_X12_errors_109 {p : Program} {l : Launch} {e : Env} {s : State} {m : MethodId} {args : Array Value} {below : List Frame} {meth : Method} {c : Code} {D : va_G} {K : Nat → ClassId} {A : Nat → Prop} {ad : Nat → Nat} {rest : va_W} (C : xC p s m args meth c D K A RX12 cX12_errors 12 (some .long)) (z : Int64 × xS) (k_39 : Int32 → Int32 → Int32 → Int64 → Int32 → xS → Option (Int64 × xS)) (H_39 : ∀ (y1 : Int32) (y2 : Int32) (y3 : Int32) (y4 : Int64) (y6 : Int32) (σ : xS), k_39 y1 y2 y3 y4 y6 σ = some z → X p l e (xR 2 47) s m args below meth c D A 12 (xQl below D K A args s z.1 (RW K ad rest z.2)) 0 0 39 [(0, .ref (ad 0)), (1, .int y1), (2, .int y2), (3, .int y3), (4, .long y4), (6, .int y6)] [] (RW K ad rest σ)) : ∀ (y1 : Int32) (y2 : Int32) (y3 : Int32) (y4 : Int64) (y6 : Int32) (σ : xS), F_X12_errors_109 k_39 y1 y2 y3 y4 y6 σ = some z → X p l e (xR 2 47) s m args below meth c D A 12 (xQl below D K A args s z.1 (RW K ad rest z.2)) 0 0 109 [(0, .ref (ad 0)), (1, .int y1), (2, .int y2), (3, .int y3), (4, .long y4), (6, .int y6)] [] (RW K ad rest σ) := by
  intro y1 y2 y3 y4 y6 σ hF
  unfold F_X12_errors_109 at hF
  refine x_iconst C 0 dX12_errors_109 (by decide +kernel) ?_
  exact x_X12_errors_110 C z k_39 H_39 y1 y2 y3 y4 y6 0 σ hF
set_option maxHeartbeats 4000000 in
set_option maxRecDepth 100000 in
theorem x_X12_errors_39 {p : Program} {l : Launch} {e : Env} {s : State} {m : MethodId} {args : Array Value} {below : List Frame} {meth : Method} {c : Code} {D : va_G} {K : Nat → ClassId} {A : Nat → Prop} {ad : Nat → Nat} {rest : va_W} (C : xC p s m args meth c D K A RX12 cX12_errors 12 (some .long)) (z : Int64 × xS) : ∀ (n : Nat) (y1 : Int32) (y2 : Int32) (y3 : Int32) (y4 : Int64) (y6 : Int32) (σ : xS), F_X12_errors_39  n y1 y2 y3 y4 y6 σ = some z → X p l e (xR 2 47) s m args below meth c D A 12 (xQl below D K A args s z.1 (RW K ad rest z.2)) 0 0 39 [(0, .ref (ad 0)), (1, .int y1), (2, .int y2), (3, .int y3), (4, .long y4), (6, .int y6)] [] (RW K ad rest σ) := by
  intro n
  induction n with
  | zero =>
    intro y1 y2 y3 y4 y6 σ hF
    cases hF
  | succ n ih =>
    intro y1 y2 y3 y4 y6 σ hF
    rw [F_X12_errors_39] at hF
    refine x_iload C 5 6 dX12_errors_39 rfl ?_
    refine x_iconst C 1 dX12_errors_41 (by decide +kernel) ?_
    refine x_aload_n C 0 0 dX12_errors_42 rfl rfl ?_
    refine x_get C 0 dX12_errors_43 fl_X12_13 (RW_o K ad rest σ) rfl ?_
    refine x_bipush C 6 dX12_errors_46 (by decide +kernel) ?_
    refine x_iald C 2 dX12_errors_48 (RW_a3 K ad rest σ) hF (fun v10 hF => ?_)
    refine x_ishl C dX12_errors_49 ?_
    refine x_icmp_ge C 149 dX12_errors_50 (by decide) hF (fun hF => ?_) (fun hF => ?_)
    · refine x_lload C 4 4 dX12_errors_149 rfl ?_
      exact x_lret C dX12_errors_151 rfl (congrArg Prod.fst (Option.some.inj hF)) (congrArg (fun q9 : Int64 × xS => RW K ad rest q9.2) (Option.some.inj hF))
    · refine x_iload_n C 1 1 dX12_errors_53 rfl rfl ?_
      refine x_i2l C dX12_errors_54 ?_
      refine x_aload_n C 0 0 dX12_errors_55 rfl rfl ?_
      refine x_iload C 5 6 dX12_errors_56 rfl ?_
      refine x_iconst C 0 dX12_errors_58 (by decide +kernel) ?_
      refine x_callVL C (wf := RW K ad rest) (As := [.int y6, .int 0]) (rest := [.long (y1.toInt64)]) dX12_errors_59 ml_X12_446 rfl rfl (Nat.le_of_ble_eq_true rfl) 0 (RW_o K ad rest σ) rfl ⟨Nat.le_of_ble_eq_true rfl, Nat.le_of_ble_eq_true rfl⟩ ⟨Nat.zero_le _, Nat.zero_le _⟩ (fun q9 hq9 => c_X12_shows l D K ad rest y6 0 σ q9 hq9) hF (fun v12 σ11 hF => ?_)
      refine x_lmul C dX12_errors_62 ?_
      refine x_topL hF (fun x13 hF => ?_)
      refine x_lstore C [(7, .long x13), (0, .ref (ad 0)), (1, .int y1), (2, .int y2), (3, .int y3), (4, .long y4), (6, .int y6)] dX12_errors_63 (by decide) rfl ?_
      refine x_lload C 0 7 dX12_errors_65 rfl ?_
      refine x_bipush C 100 dX12_errors_67 (by decide +kernel) ?_
      refine x_iload_n C 2 1 dX12_errors_69 rfl rfl ?_
      refine x_isub C dX12_errors_70 ?_
      refine x_i2l C dX12_errors_71 ?_
      refine x_aload_n C 1 0 dX12_errors_72 rfl rfl ?_
      refine x_iload C 6 6 dX12_errors_73 rfl ?_
      refine x_iconst C 1 dX12_errors_75 (by decide +kernel) ?_
      refine x_callVL C (wf := RW K ad rest) (As := [.int y6, .int 1]) (rest := [.long ((100 - y1).toInt64), .long x13]) dX12_errors_76 ml_X12_446 rfl rfl (Nat.le_of_ble_eq_true rfl) 0 (RW_o K ad rest σ11) rfl ⟨Nat.le_of_ble_eq_true rfl, Nat.le_of_ble_eq_true rfl⟩ ⟨Nat.zero_le _, Nat.zero_le _⟩ (fun q9 hq9 => c_X12_shows l D K ad rest y6 1 σ11 q9 hq9) hF (fun v15 σ14 hF => ?_)
      refine x_lmul C dX12_errors_79 ?_
      refine x_ladd C dX12_errors_80 ?_
      refine x_topL hF (fun x16 hF => ?_)
      refine x_lstore C [(9, .long x16), (7, .long x13), (0, .ref (ad 0)), (1, .int y1), (2, .int y2), (3, .int y3), (4, .long y4), (6, .int y6)] dX12_errors_81 (by decide) rfl ?_
      refine x_lload C 0 9 dX12_errors_83 rfl ?_
      refine x_lconst C 0 dX12_errors_85 (by decide +kernel) ?_
      refine x_lcmp C dX12_errors_86 ?_
      refine x_if_le C 109 dX12_errors_87 (by decide) hF (fun hF => ?_) (fun hF => ?_)
      · refine x_loc [(0, .ref (ad 0)), (1, .int y1), (2, .int y2), (3, .int y3), (4, .long y4), (6, .int y6)] [2, 3, 4, 5, 6, 7] rfl ?_
        exact x_X12_errors_109 C z ((F_X12_errors_39 n)) ih y1 y2 y3 y4 y6 σ14 hF
      · refine x_lload C 1 7 dX12_errors_90 rfl ?_
        refine x_ldc2 C 100 dX12_errors_92 cl_X12_360 ?_
        refine x_lmul C dX12_errors_95 ?_
        refine x_iload_n C 4 2 dX12_errors_96 rfl rfl ?_
        refine x_i2l C dX12_errors_97 ?_
        refine x_lload C 0 9 dX12_errors_98 rfl ?_
        refine x_lmul C dX12_errors_100 ?_
        refine x_lcmp C dX12_errors_101 ?_
        refine x_if_lt C 109 dX12_errors_102 (by decide) hF (fun hF => ?_) (fun hF => ?_)
        · refine x_loc [(0, .ref (ad 0)), (1, .int y1), (2, .int y2), (3, .int y3), (4, .long y4), (6, .int y6)] [2, 3, 4, 5, 6, 7] rfl ?_
          exact x_X12_errors_109 C z ((F_X12_errors_39 n)) ih y1 y2 y3 y4 y6 σ14 hF
        · refine x_iconst C 1 dX12_errors_105 (by decide +kernel) ?_
          refine x_goto C 110 dX12_errors_106 (by decide) ?_
          refine x_loc [(0, .ref (ad 0)), (1, .int y1), (2, .int y2), (3, .int y3), (4, .long y4), (6, .int y6)] [2, 3, 4, 5, 6, 7] rfl ?_
          exact x_X12_errors_110 C z ((F_X12_errors_39 n)) ih y1 y2 y3 y4 y6 1 σ14 hF
set_option maxHeartbeats 4000000 in
set_option maxRecDepth 100000 in
theorem c_X12_errors (l : Launch) (D : va_G) (K : Nat → ClassId) (ad : Nat → Nat) (rest : va_W) (a1 : Int32) (a2 : Int32) (a3 : Int32) (σ : xS) (z : Int64 × xS) (hF : F_X12_errors a1 a2 a3 σ = some z) : CL l D K yX12_errors cX12_errors 12 (some .long) 2 47 [.ref (ad 0), .int a1, .int a2, .int a3] (RW K ad rest σ) z.1 (RW K ad rest z.2) := by
  refine x_enterL [(0, .ref (ad 0)), (1, .int a1), (2, .int a2), (3, .int a3)] pnX12 (Nat.le_of_ble_eq_true rfl) rfl ?_
  intro p e s m args below meth c A C
  unfold F_X12_errors at hF
  refine x_aload_n C 0 0 dX12_errors_0 rfl rfl ?_
  refine x_iconst C 0 dX12_errors_1 (by decide +kernel) ?_
  refine x_put C 0 dX12_errors_2 fl_X12_107 fm_X12_0 rfl rfl (RW_o K ad rest σ) (Nat.le_of_ble_eq_true rfl) (RW_s0 K ad rest σ _) ?_
  refine x_st (wf := RW K ad rest) hF (fun σ1 hF => ?_)
  refine x_iload_n C 1 1 dX12_errors_5 rfl rfl ?_
  refine x_callSI C (wf := RW K ad rest) (As := [.int a1]) (rest := []) dX12_errors_6 ml_X12_443 rfl rfl (Nat.le_of_ble_eq_true rfl) ⟨Nat.le_of_ble_eq_true rfl, Nat.le_of_ble_eq_true rfl⟩ ⟨Nat.zero_le _, Nat.zero_le _⟩ (fun q9 hq9 => c_X12_isPart l D K ad rest a1 σ1 q9 hq9) hF (fun v3 σ2 hF => ?_)
  refine x_if_eq C 29 dX12_errors_9 (by decide) hF (fun hF => ?_) (fun hF => ?_)
  · refine x_ldc2 C (-1000000000000000000) dX12_errors_29 cl_X12_375 ?_
    exact x_lret C dX12_errors_32 rfl (congrArg Prod.fst (Option.some.inj hF)) (congrArg (fun q9 : Int64 × xS => RW K ad rest q9.2) (Option.some.inj hF))
  · refine x_iload_n C 2 2 dX12_errors_12 rfl rfl ?_
    refine x_callSI C (wf := RW K ad rest) (As := [.int a2]) (rest := []) dX12_errors_13 ml_X12_443 rfl rfl (Nat.le_of_ble_eq_true rfl) ⟨Nat.le_of_ble_eq_true rfl, Nat.le_of_ble_eq_true rfl⟩ ⟨Nat.zero_le _, Nat.zero_le _⟩ (fun q9 hq9 => c_X12_isPart l D K ad rest a2 σ2 q9 hq9) hF (fun v5 σ4 hF => ?_)
    refine x_if_eq C 29 dX12_errors_16 (by decide) hF (fun hF => ?_) (fun hF => ?_)
    · refine x_ldc2 C (-1000000000000000000) dX12_errors_29 cl_X12_375 ?_
      exact x_lret C dX12_errors_32 rfl (congrArg Prod.fst (Option.some.inj hF)) (congrArg (fun q9 : Int64 × xS => RW K ad rest q9.2) (Option.some.inj hF))
    · refine x_iload_n C 3 3 dX12_errors_19 rfl rfl ?_
      refine x_i2l C dX12_errors_20 ?_
      refine x_lconst C 0 dX12_errors_21 (by decide +kernel) ?_
      refine x_lconst C 1 dX12_errors_22 (by decide +kernel) ?_
      refine x_callSI C (wf := RW K ad rest) (As := [.long (a3.toInt64), .long 0, .long 1]) (rest := []) dX12_errors_23 ml_X12_117 rfl rfl (Nat.le_of_ble_eq_true rfl) ⟨Nat.le_of_ble_eq_true rfl, Nat.le_of_ble_eq_true rfl⟩ ⟨Nat.zero_le _, Nat.zero_le _⟩ (fun q9 hq9 => c_X12_in l D K ad rest (a3.toInt64) 0 1 σ4 q9 hq9) hF (fun v7 σ6 hF => ?_)
      refine x_if_ne C 33 dX12_errors_26 (by decide) hF (fun hF => ?_) (fun hF => ?_)
      · refine x_lconst C 0 dX12_errors_33 (by decide +kernel) ?_
        refine x_topL hF (fun x8 hF => ?_)
        refine x_lstore C [(4, .long x8), (0, .ref (ad 0)), (1, .int a1), (2, .int a2), (3, .int a3)] dX12_errors_34 (by decide) rfl ?_
        refine x_iconst C 0 dX12_errors_36 (by decide +kernel) ?_
        refine x_topI hF (fun x9 hF => ?_)
        refine x_istore C [(6, .int x9), (4, .long x8), (0, .ref (ad 0)), (1, .int a1), (2, .int a2), (3, .int a3)] dX12_errors_37 (by decide) rfl ?_
        refine x_loc [(0, .ref (ad 0)), (1, .int a1), (2, .int a2), (3, .int a3), (4, .long x8), (6, .int x9)] [2, 3, 4, 5, 1, 0] rfl ?_
        exact x_X12_errors_39 C z FU a1 a2 a3 x8 x9 σ6 hF
      · refine x_ldc2 C (-1000000000000000000) dX12_errors_29 cl_X12_375 ?_
        exact x_lret C dX12_errors_32 rfl (congrArg Prod.fst (Option.some.inj hF)) (congrArg (fun q9 : Int64 × xS => RW K ad rest q9.2) (Option.some.inj hF))
theorem dX12_go_0 : decode cX12_go 0 = .ok (.iconst 0, 1) := by decide +kernel
theorem dX12_go_1 : decode cX12_go 1 = .ok (.istore 4, 2) := by decide +kernel
theorem dX12_go_3 : decode cX12_go 3 = .ok (.iload 4, 2) := by decide +kernel
theorem dX12_go_5 : decode cX12_go 5 = .ok (.bipush 10, 2) := by decide +kernel
theorem dX12_go_7 : decode cX12_go 7 = .ok (.if_icmp .ge 34, 3) := by decide +kernel
theorem dX12_go_10 : decode cX12_go 10 = .ok (.iload_n 1, 1) := by decide +kernel
theorem dX12_go_11 : decode cX12_go 11 = .ok (.iload 4, 2) := by decide +kernel
theorem dX12_go_13 : decode cX12_go 13 = .ok (.invokestatic 397, 3) := by decide +kernel
theorem dX12_go_16 : decode cX12_go 16 = .ok (.ifCond .eq 19, 3) := by decide +kernel
theorem dX12_go_19 : decode cX12_go 19 = .ok (.aload_n 0, 1) := by decide +kernel
theorem dX12_go_20 : decode cX12_go 20 = .ok (.getfield 101, 3) := by decide +kernel
theorem dX12_go_23 : decode cX12_go 23 = .ok (.iload 4, 2) := by decide +kernel
theorem dX12_go_25 : decode cX12_go 25 = .ok (.iload_n 2, 1) := by decide +kernel
theorem dX12_go_26 : decode cX12_go 26 = .ok (.iastore, 1) := by decide +kernel
theorem dX12_go_27 : decode cX12_go 27 = .ok (.aload_n 0, 1) := by decide +kernel
theorem dX12_go_28 : decode cX12_go 28 = .ok (.getfield 104, 3) := by decide +kernel
theorem dX12_go_31 : decode cX12_go 31 = .ok (.iload 4, 2) := by decide +kernel
theorem dX12_go_33 : decode cX12_go 33 = .ok (.iload_n 3, 1) := by decide +kernel
theorem dX12_go_34 : decode cX12_go 34 = .ok (.iastore, 1) := by decide +kernel
theorem dX12_go_35 : decode cX12_go 35 = .ok (.iinc 4 1, 3) := by decide +kernel
theorem dX12_go_38 : decode cX12_go 38 = .ok (.goto (-35), 3) := by decide +kernel
theorem dX12_go_41 : decode cX12_go 41 = .ok (.aload_n 0, 1) := by decide +kernel
theorem dX12_go_42 : decode cX12_go 42 = .ok (.dup, 1) := by decide +kernel
theorem dX12_go_43 : decode cX12_go 43 = .ok (.getfield 421, 3) := by decide +kernel
theorem dX12_go_46 : decode cX12_go 46 = .ok (.iload_n 1, 1) := by decide +kernel
theorem dX12_go_47 : decode cX12_go 47 = .ok (.ior, 1) := by decide +kernel
theorem dX12_go_48 : decode cX12_go 48 = .ok (.putfield 421, 3) := by decide +kernel
theorem dX12_go_51 : decode cX12_go 51 = .ok (.return_, 1) := by decide +kernel
set_option maxHeartbeats 4000000 in
set_option maxRecDepth 100000 in
theorem x_X12_go_3 {p : Program} {l : Launch} {e : Env} {s : State} {m : MethodId} {args : Array Value} {below : List Frame} {meth : Method} {c : Code} {D : va_G} {K : Nat → ClassId} {A : Nat → Prop} {ad : Nat → Nat} {rest : va_W} (C : xC p s m args meth c D K A RX12 cX12_go 5 none) (z : Unit × xS) : ∀ (n : Nat) (y1 : Int32) (y2 : Int32) (y3 : Int32) (y4 : Int32) (σ : xS), F_X12_go_3  n y1 y2 y3 y4 σ = some z → X p l e (xR 1 21) s m args below meth c D A 5 (xQv below D K A args s (RW K ad rest z.2)) 0 0 3 [(0, .ref (ad 0)), (1, .int y1), (2, .int y2), (3, .int y3), (4, .int y4)] [] (RW K ad rest σ) := by
  intro n
  induction n with
  | zero =>
    intro y1 y2 y3 y4 σ hF
    cases hF
  | succ n ih =>
    intro y1 y2 y3 y4 σ hF
    rw [F_X12_go_3] at hF
    refine x_iload C 4 4 dX12_go_3 rfl ?_
    refine x_bipush C 10 dX12_go_5 (by decide +kernel) ?_
    refine x_icmp_ge C 41 dX12_go_7 (by decide) hF (fun hF => ?_) (fun hF => ?_)
    · refine x_aload_n C 0 0 dX12_go_41 rfl rfl ?_
      refine x_dup C rfl dX12_go_42 ?_
      refine x_get C 0 dX12_go_43 fl_X12_421 (RW_o K ad rest σ) rfl ?_
      refine x_iload_n C 1 1 dX12_go_46 rfl rfl ?_
      refine x_ior C dX12_go_47 ?_
      refine x_put C 0 dX12_go_48 fl_X12_421 fm_X12_41 rfl rfl (RW_o K ad rest σ) (Nat.le_of_ble_eq_true rfl) (RW_s41 K ad rest σ _) ?_
      refine x_st (wf := RW K ad rest) hF (fun σ2 hF => ?_)
      exact x_vret C dX12_go_51 rfl (congrArg (fun q9 : Unit × xS => RW K ad rest q9.2) (Option.some.inj hF))
    · refine x_iload_n C 1 1 dX12_go_10 rfl rfl ?_
      refine x_iload C 4 4 dX12_go_11 rfl ?_
      refine x_callSI C (wf := RW K ad rest) (As := [.int y1, .int y4]) (rest := []) dX12_go_13 ml_X12_397 rfl rfl (Nat.le_of_ble_eq_true rfl) ⟨Nat.le_of_ble_eq_true rfl, Nat.le_of_ble_eq_true rfl⟩ ⟨Nat.zero_le _, Nat.zero_le _⟩ (fun q9 hq9 => c_X12_is l D K ad rest y1 y4 σ q9 hq9) hF (fun v4 σ3 hF => ?_)
      refine x_if_eq C 35 dX12_go_16 (by decide) hF (fun hF => ?_) (fun hF => ?_)
      · refine x_iincN C 1 4 (fun x5 => [(4, .int x5), (0, .ref (ad 0)), (1, .int y1), (2, .int y2), (3, .int y3)]) dX12_go_35 rfl (by decide +kernel) (by decide) (fun _ => rfl) hF (fun x5 hF => ?_)
        refine x_goto C 3 dX12_go_38 (by decide) ?_
        refine x_loc [(0, .ref (ad 0)), (1, .int y1), (2, .int y2), (3, .int y3), (4, .int x5)] [1, 2, 3, 4, 0] rfl ?_
        exact ih y1 y2 y3 x5 σ3 hF
      · refine x_aload_n C 0 0 dX12_go_19 rfl rfl ?_
        refine x_get C 0 dX12_go_20 fl_X12_101 (RW_o K ad rest σ3) rfl ?_
        refine x_iload C 4 4 dX12_go_23 rfl ?_
        refine x_iload_n C 2 2 dX12_go_25 rfl rfl ?_
        refine x_iast C 20 dX12_go_26 (RW_a42 K ad rest σ3) hF (RW_s42 K ad rest σ3 _) (fun hF => ?_)
        refine x_st (wf := RW K ad rest) hF (fun σ6 hF => ?_)
        refine x_aload_n C 0 0 dX12_go_27 rfl rfl ?_
        refine x_get C 0 dX12_go_28 fl_X12_104 (RW_o K ad rest σ6) rfl ?_
        refine x_iload C 4 4 dX12_go_31 rfl ?_
        refine x_iload_n C 3 3 dX12_go_33 rfl rfl ?_
        refine x_iast C 21 dX12_go_34 (RW_a43 K ad rest σ6) hF (RW_s43 K ad rest σ6 _) (fun hF => ?_)
        refine x_st (wf := RW K ad rest) hF (fun σ7 hF => ?_)
        refine x_iincN C 1 4 (fun x8 => [(4, .int x8), (0, .ref (ad 0)), (1, .int y1), (2, .int y2), (3, .int y3)]) dX12_go_35 rfl (by decide +kernel) (by decide) (fun _ => rfl) hF (fun x8 hF => ?_)
        refine x_goto C 3 dX12_go_38 (by decide) ?_
        refine x_loc [(0, .ref (ad 0)), (1, .int y1), (2, .int y2), (3, .int y3), (4, .int x8)] [1, 2, 3, 4, 0] rfl ?_
        exact ih y1 y2 y3 x8 σ7 hF
set_option maxHeartbeats 4000000 in
set_option maxRecDepth 100000 in
theorem c_X12_go (l : Launch) (D : va_G) (K : Nat → ClassId) (ad : Nat → Nat) (rest : va_W) (a1 : Int32) (a2 : Int32) (a3 : Int32) (σ : xS) (z : Unit × xS) (hF : F_X12_go a1 a2 a3 σ = some z) : CV l D K yX12_go cX12_go 5 none 1 21 [.ref (ad 0), .int a1, .int a2, .int a3] (RW K ad rest σ) (RW K ad rest z.2) := by
  refine x_enterV [(0, .ref (ad 0)), (1, .int a1), (2, .int a2), (3, .int a3)] pnX12 (Nat.le_of_ble_eq_true rfl) rfl ?_
  intro p e s m args below meth c A C
  unfold F_X12_go at hF
  refine x_iconst C 0 dX12_go_0 (by decide +kernel) ?_
  refine x_topI hF (fun x1 hF => ?_)
  refine x_istore C [(4, .int x1), (0, .ref (ad 0)), (1, .int a1), (2, .int a2), (3, .int a3)] dX12_go_1 (by decide) rfl ?_
  refine x_loc [(0, .ref (ad 0)), (1, .int a1), (2, .int a2), (3, .int a3), (4, .int x1)] [1, 2, 3, 4, 0] rfl ?_
  exact x_X12_go_3 C z FU a1 a2 a3 x1 σ hF
theorem dX12_tableCrowd_0 : decode cX12_tableCrowd 0 = .ok (.iconst 0, 1) := by decide +kernel
theorem dX12_tableCrowd_1 : decode cX12_tableCrowd 1 = .ok (.istore_n 1, 1) := by decide +kernel
theorem dX12_tableCrowd_2 : decode cX12_tableCrowd 2 = .ok (.iconst 0, 1) := by decide +kernel
theorem dX12_tableCrowd_3 : decode cX12_tableCrowd 3 = .ok (.istore_n 2, 1) := by decide +kernel
theorem dX12_tableCrowd_4 : decode cX12_tableCrowd 4 = .ok (.iload_n 2, 1) := by decide +kernel
theorem dX12_tableCrowd_5 : decode cX12_tableCrowd 5 = .ok (.aload_n 0, 1) := by decide +kernel
theorem dX12_tableCrowd_6 : decode cX12_tableCrowd 6 = .ok (.getfield 13, 3) := by decide +kernel
theorem dX12_tableCrowd_9 : decode cX12_tableCrowd 9 = .ok (.iconst 0, 1) := by decide +kernel
theorem dX12_tableCrowd_10 : decode cX12_tableCrowd 10 = .ok (.iaload, 1) := by decide +kernel
theorem dX12_tableCrowd_11 : decode cX12_tableCrowd 11 = .ok (.if_icmp .ge 42, 3) := by decide +kernel
theorem dX12_tableCrowd_14 : decode cX12_tableCrowd 14 = .ok (.iload_n 1, 1) := by decide +kernel
theorem dX12_tableCrowd_15 : decode cX12_tableCrowd 15 = .ok (.aload_n 0, 1) := by decide +kernel
theorem dX12_tableCrowd_16 : decode cX12_tableCrowd 16 = .ok (.iload_n 2, 1) := by decide +kernel
theorem dX12_tableCrowd_17 : decode cX12_tableCrowd 17 = .ok (.iconst 4, 1) := by decide +kernel
theorem dX12_tableCrowd_18 : decode cX12_tableCrowd 18 = .ok (.invokevirtual 150, 3) := by decide +kernel
theorem dX12_tableCrowd_21 : decode cX12_tableCrowd 21 = .ok (.iconst 1, 1) := by decide +kernel
theorem dX12_tableCrowd_22 : decode cX12_tableCrowd 22 = .ok (.if_icmp .ne 22, 3) := by decide +kernel
theorem dX12_tableCrowd_25 : decode cX12_tableCrowd 25 = .ok (.aload_n 0, 1) := by decide +kernel
theorem dX12_tableCrowd_26 : decode cX12_tableCrowd 26 = .ok (.getfield 421, 3) := by decide +kernel
theorem dX12_tableCrowd_29 : decode cX12_tableCrowd 29 = .ok (.iload_n 2, 1) := by decide +kernel
theorem dX12_tableCrowd_30 : decode cX12_tableCrowd 30 = .ok (.invokestatic 397, 3) := by decide +kernel
theorem dX12_tableCrowd_33 : decode cX12_tableCrowd 33 = .ok (.ifCond .ne 11, 3) := by decide +kernel
theorem dX12_tableCrowd_36 : decode cX12_tableCrowd 36 = .ok (.aload_n 0, 1) := by decide +kernel
theorem dX12_tableCrowd_37 : decode cX12_tableCrowd 37 = .ok (.iload_n 2, 1) := by decide +kernel
theorem dX12_tableCrowd_38 : decode cX12_tableCrowd 38 = .ok (.invokevirtual 354, 3) := by decide +kernel
theorem dX12_tableCrowd_41 : decode cX12_tableCrowd 41 = .ok (.goto 4, 3) := by decide +kernel
theorem dX12_tableCrowd_44 : decode cX12_tableCrowd 44 = .ok (.iconst 0, 1) := by decide +kernel
theorem dX12_tableCrowd_45 : decode cX12_tableCrowd 45 = .ok (.iadd, 1) := by decide +kernel
theorem dX12_tableCrowd_46 : decode cX12_tableCrowd 46 = .ok (.istore_n 1, 1) := by decide +kernel
theorem dX12_tableCrowd_47 : decode cX12_tableCrowd 47 = .ok (.iinc 2 1, 3) := by decide +kernel
theorem dX12_tableCrowd_50 : decode cX12_tableCrowd 50 = .ok (.goto (-46), 3) := by decide +kernel
theorem dX12_tableCrowd_53 : decode cX12_tableCrowd 53 = .ok (.iload_n 1, 1) := by decide +kernel
theorem dX12_tableCrowd_54 : decode cX12_tableCrowd 54 = .ok (.ireturn, 1) := by decide +kernel
set_option maxHeartbeats 4000000 in
set_option maxRecDepth 100000 in
theorem x_X12_tableCrowd_45 {p : Program} {l : Launch} {e : Env} {s : State} {m : MethodId} {args : Array Value} {below : List Frame} {meth : Method} {c : Code} {D : va_G} {K : Nat → ClassId} {A : Nat → Prop} {ad : Nat → Nat} {rest : va_W} (C : xC p s m args meth c D K A RX12 cX12_tableCrowd 3 (some .int)) (z : Int32 × xS) (k_4 : Int32 → Int32 → xS → Option (Int32 × xS)) (H_4 : ∀ (y1 : Int32) (y2 : Int32) (σ : xS), k_4 y1 y2 σ = some z → X p l e (xR 5 123) s m args below meth c D A 3 (xQi below D K A args s z.1 (RW K ad rest z.2)) 0 0 4 [(0, .ref (ad 0)), (1, .int y1), (2, .int y2)] [] (RW K ad rest σ)) : ∀ (y2 : Int32) (t0 : Int32) (t1 : Int32) (σ : xS), F_X12_tableCrowd_45 k_4 y2 t0 t1 σ = some z → X p l e (xR 5 123) s m args below meth c D A 3 (xQi below D K A args s z.1 (RW K ad rest z.2)) 0 0 45 [(0, .ref (ad 0)), (2, .int y2)] [.int t1, .int t0] (RW K ad rest σ) := by
  intro y2 t0 t1 σ hF
  unfold F_X12_tableCrowd_45 at hF
  refine x_iadd C dX12_tableCrowd_45 ?_
  refine x_topI hF (fun x10 hF => ?_)
  refine x_istore_n C [(1, .int x10), (0, .ref (ad 0)), (2, .int y2)] dX12_tableCrowd_46 rfl (by decide) rfl ?_
  refine x_iincN C 1 2 (fun x11 => [(2, .int x11), (1, .int x10), (0, .ref (ad 0))]) dX12_tableCrowd_47 rfl (by decide +kernel) (by decide) (fun _ => rfl) hF (fun x11 hF => ?_)
  refine x_goto C 4 dX12_tableCrowd_50 (by decide) ?_
  refine x_loc [(0, .ref (ad 0)), (1, .int x10), (2, .int x11)] [2, 1, 0] rfl ?_
  exact H_4 x10 x11 σ hF
set_option maxHeartbeats 4000000 in
set_option maxRecDepth 100000 in
theorem x_X12_tableCrowd_44 {p : Program} {l : Launch} {e : Env} {s : State} {m : MethodId} {args : Array Value} {below : List Frame} {meth : Method} {c : Code} {D : va_G} {K : Nat → ClassId} {A : Nat → Prop} {ad : Nat → Nat} {rest : va_W} (C : xC p s m args meth c D K A RX12 cX12_tableCrowd 3 (some .int)) (z : Int32 × xS) (k_4 : Int32 → Int32 → xS → Option (Int32 × xS)) (H_4 : ∀ (y1 : Int32) (y2 : Int32) (σ : xS), k_4 y1 y2 σ = some z → X p l e (xR 5 123) s m args below meth c D A 3 (xQi below D K A args s z.1 (RW K ad rest z.2)) 0 0 4 [(0, .ref (ad 0)), (1, .int y1), (2, .int y2)] [] (RW K ad rest σ)) : ∀ (y2 : Int32) (t0 : Int32) (σ : xS), F_X12_tableCrowd_44 k_4 y2 t0 σ = some z → X p l e (xR 5 123) s m args below meth c D A 3 (xQi below D K A args s z.1 (RW K ad rest z.2)) 0 0 44 [(0, .ref (ad 0)), (2, .int y2)] [.int t0] (RW K ad rest σ) := by
  intro y2 t0 σ hF
  unfold F_X12_tableCrowd_44 at hF
  refine x_iconst C 0 dX12_tableCrowd_44 (by decide +kernel) ?_
  exact x_X12_tableCrowd_45 C z k_4 H_4 y2 t0 0 σ hF
set_option maxHeartbeats 4000000 in
set_option maxRecDepth 100000 in
theorem x_X12_tableCrowd_4 {p : Program} {l : Launch} {e : Env} {s : State} {m : MethodId} {args : Array Value} {below : List Frame} {meth : Method} {c : Code} {D : va_G} {K : Nat → ClassId} {A : Nat → Prop} {ad : Nat → Nat} {rest : va_W} (C : xC p s m args meth c D K A RX12 cX12_tableCrowd 3 (some .int)) (z : Int32 × xS) : ∀ (n : Nat) (y1 : Int32) (y2 : Int32) (σ : xS), F_X12_tableCrowd_4  n y1 y2 σ = some z → X p l e (xR 5 123) s m args below meth c D A 3 (xQi below D K A args s z.1 (RW K ad rest z.2)) 0 0 4 [(0, .ref (ad 0)), (1, .int y1), (2, .int y2)] [] (RW K ad rest σ) := by
  intro n
  induction n with
  | zero =>
    intro y1 y2 σ hF
    cases hF
  | succ n ih =>
    intro y1 y2 σ hF
    rw [F_X12_tableCrowd_4] at hF
    refine x_iload_n C 2 2 dX12_tableCrowd_4 rfl rfl ?_
    refine x_aload_n C 0 0 dX12_tableCrowd_5 rfl rfl ?_
    refine x_get C 0 dX12_tableCrowd_6 fl_X12_13 (RW_o K ad rest σ) rfl ?_
    refine x_iconst C 0 dX12_tableCrowd_9 (by decide +kernel) ?_
    refine x_iald C 2 dX12_tableCrowd_10 (RW_a3 K ad rest σ) hF (fun v3 hF => ?_)
    refine x_icmp_ge C 53 dX12_tableCrowd_11 (by decide) hF (fun hF => ?_) (fun hF => ?_)
    · refine x_iload_n C 1 1 dX12_tableCrowd_53 rfl rfl ?_
      exact x_iret C dX12_tableCrowd_54 rfl (congrArg Prod.fst (Option.some.inj hF)) (congrArg (fun q9 : Int32 × xS => RW K ad rest q9.2) (Option.some.inj hF))
    · refine x_iload_n C 1 1 dX12_tableCrowd_14 rfl rfl ?_
      refine x_aload_n C 0 0 dX12_tableCrowd_15 rfl rfl ?_
      refine x_iload_n C 2 2 dX12_tableCrowd_16 rfl rfl ?_
      refine x_iconst C 4 dX12_tableCrowd_17 (by decide +kernel) ?_
      refine x_callVI C (wf := RW K ad rest) (As := [.int y2, .int 4]) (rest := [.int y1]) dX12_tableCrowd_18 ml_X12_150 rfl rfl (Nat.le_of_ble_eq_true rfl) 0 (RW_o K ad rest σ) rfl ⟨Nat.le_of_ble_eq_true rfl, Nat.le_of_ble_eq_true rfl⟩ ⟨Nat.zero_le _, Nat.zero_le _⟩ (fun q9 hq9 => c_X12_ofBook l D K ad rest y2 4 σ q9 hq9) hF (fun v5 σ4 hF => ?_)
      refine x_iconst C 1 dX12_tableCrowd_21 (by decide +kernel) ?_
      refine x_icmp_ne C 44 dX12_tableCrowd_22 (by decide) hF (fun hF => ?_) (fun hF => ?_)
      · refine x_loc [(0, .ref (ad 0)), (2, .int y2)] [0, 2] rfl ?_
        exact x_X12_tableCrowd_44 C z ((F_X12_tableCrowd_4 n)) ih y2 y1 σ4 hF
      · refine x_aload_n C 0 0 dX12_tableCrowd_25 rfl rfl ?_
        refine x_get C 0 dX12_tableCrowd_26 fl_X12_421 (RW_o K ad rest σ4) rfl ?_
        refine x_iload_n C 2 2 dX12_tableCrowd_29 rfl rfl ?_
        refine x_callSI C (wf := RW K ad rest) (As := [.int (sI σ4 41), .int y2]) (rest := [.int y1]) dX12_tableCrowd_30 ml_X12_397 rfl rfl (Nat.le_of_ble_eq_true rfl) ⟨Nat.le_of_ble_eq_true rfl, Nat.le_of_ble_eq_true rfl⟩ ⟨Nat.zero_le _, Nat.zero_le _⟩ (fun q9 hq9 => c_X12_is l D K ad rest (sI σ4 41) y2 σ4 q9 hq9) hF (fun v7 σ6 hF => ?_)
        refine x_if_ne C 44 dX12_tableCrowd_33 (by decide) hF (fun hF => ?_) (fun hF => ?_)
        · refine x_loc [(0, .ref (ad 0)), (2, .int y2)] [0, 2] rfl ?_
          exact x_X12_tableCrowd_44 C z ((F_X12_tableCrowd_4 n)) ih y2 y1 σ6 hF
        · refine x_aload_n C 0 0 dX12_tableCrowd_36 rfl rfl ?_
          refine x_iload_n C 2 2 dX12_tableCrowd_37 rfl rfl ?_
          refine x_callVI C (wf := RW K ad rest) (As := [.int y2]) (rest := [.int y1]) dX12_tableCrowd_38 ml_X12_354 rfl rfl (Nat.le_of_ble_eq_true rfl) 0 (RW_o K ad rest σ6) rfl ⟨Nat.le_of_ble_eq_true rfl, Nat.le_of_ble_eq_true rfl⟩ ⟨Nat.zero_le _, Nat.zero_le _⟩ (fun q9 hq9 => c_X12_drawsOf l D K ad rest y2 σ6 q9 hq9) hF (fun v9 σ8 hF => ?_)
          refine x_goto C 45 dX12_tableCrowd_41 (by decide) ?_
          refine x_loc [(0, .ref (ad 0)), (2, .int y2)] [0, 2] rfl ?_
          exact x_X12_tableCrowd_45 C z ((F_X12_tableCrowd_4 n)) ih y2 y1 v9 σ8 hF
set_option maxHeartbeats 4000000 in
set_option maxRecDepth 100000 in
theorem c_X12_tableCrowd (l : Launch) (D : va_G) (K : Nat → ClassId) (ad : Nat → Nat) (rest : va_W)  (σ : xS) (z : Int32 × xS) (hF : F_X12_tableCrowd σ = some z) : CI l D K yX12_tableCrowd cX12_tableCrowd 3 (some .int) 5 123 [.ref (ad 0)] (RW K ad rest σ) z.1 (RW K ad rest z.2) := by
  refine x_enterI [(0, .ref (ad 0))] pnX12 (Nat.le_of_ble_eq_true rfl) rfl ?_
  intro p e s m args below meth c A C
  unfold F_X12_tableCrowd at hF
  refine x_iconst C 0 dX12_tableCrowd_0 (by decide +kernel) ?_
  refine x_topI hF (fun x1 hF => ?_)
  refine x_istore_n C [(1, .int x1), (0, .ref (ad 0))] dX12_tableCrowd_1 rfl (by decide) rfl ?_
  refine x_iconst C 0 dX12_tableCrowd_2 (by decide +kernel) ?_
  refine x_topI hF (fun x2 hF => ?_)
  refine x_istore_n C [(2, .int x2), (1, .int x1), (0, .ref (ad 0))] dX12_tableCrowd_3 rfl (by decide) rfl ?_
  refine x_loc [(0, .ref (ad 0)), (1, .int x1), (2, .int x2)] [2, 1, 0] rfl ?_
  exact x_X12_tableCrowd_4 C z FU x1 x2 σ hF
theorem dX12_weeks_0 : decode cX12_weeks 0 = .ok (.aload_n 0, 1) := by decide +kernel
theorem dX12_weeks_1 : decode cX12_weeks 1 = .ok (.iconst 0, 1) := by decide +kernel
theorem dX12_weeks_2 : decode cX12_weeks 2 = .ok (.putfield 107, 3) := by decide +kernel
theorem dX12_weeks_5 : decode cX12_weeks 5 = .ok (.iload_n 1, 1) := by decide +kernel
theorem dX12_weeks_6 : decode cX12_weeks 6 = .ok (.i2l, 1) := by decide +kernel
theorem dX12_weeks_7 : decode cX12_weeks 7 = .ok (.lconst 0, 1) := by decide +kernel
theorem dX12_weeks_8 : decode cX12_weeks 8 = .ok (.ldc2_w 204, 3) := by decide +kernel
theorem dX12_weeks_11 : decode cX12_weeks 11 = .ok (.invokestatic 117, 3) := by decide +kernel
theorem dX12_weeks_14 : decode cX12_weeks 14 = .ok (.ifCond .eq 15, 3) := by decide +kernel
theorem dX12_weeks_17 : decode cX12_weeks 17 = .ok (.iload_n 2, 1) := by decide +kernel
theorem dX12_weeks_18 : decode cX12_weeks 18 = .ok (.i2l, 1) := by decide +kernel
theorem dX12_weeks_19 : decode cX12_weeks 19 = .ok (.lconst 1, 1) := by decide +kernel
theorem dX12_weeks_20 : decode cX12_weeks 20 = .ok (.ldc2_w 449, 3) := by decide +kernel
theorem dX12_weeks_23 : decode cX12_weeks 23 = .ok (.invokestatic 117, 3) := by decide +kernel
theorem dX12_weeks_26 : decode cX12_weeks 26 = .ok (.ifCond .ne 9, 3) := by decide +kernel
theorem dX12_weeks_29 : decode cX12_weeks 29 = .ok (.aload_n 0, 1) := by decide +kernel
theorem dX12_weeks_30 : decode cX12_weeks 30 = .ok (.iconst (-1), 1) := by decide +kernel
theorem dX12_weeks_31 : decode cX12_weeks 31 = .ok (.invokevirtual 121, 3) := by decide +kernel
theorem dX12_weeks_34 : decode cX12_weeks 34 = .ok (.ireturn, 1) := by decide +kernel
theorem dX12_weeks_35 : decode cX12_weeks 35 = .ok (.aload_n 0, 1) := by decide +kernel
theorem dX12_weeks_36 : decode cX12_weeks 36 = .ok (.invokevirtual 424, 3) := by decide +kernel
theorem dX12_weeks_39 : decode cX12_weeks 39 = .ok (.aload_n 0, 1) := by decide +kernel
theorem dX12_weeks_40 : decode cX12_weeks 40 = .ok (.iload_n 1, 1) := by decide +kernel
theorem dX12_weeks_41 : decode cX12_weeks 41 = .ok (.i2l, 1) := by decide +kernel
theorem dX12_weeks_42 : decode cX12_weeks 42 = .ok (.putfield 451, 3) := by decide +kernel
theorem dX12_weeks_45 : decode cX12_weeks 45 = .ok (.iconst 0, 1) := by decide +kernel
theorem dX12_weeks_46 : decode cX12_weeks 46 = .ok (.istore_n 3, 1) := by decide +kernel
theorem dX12_weeks_47 : decode cX12_weeks 47 = .ok (.iconst 0, 1) := by decide +kernel
theorem dX12_weeks_48 : decode cX12_weeks 48 = .ok (.istore 4, 2) := by decide +kernel
theorem dX12_weeks_50 : decode cX12_weeks 50 = .ok (.iload 4, 2) := by decide +kernel
theorem dX12_weeks_52 : decode cX12_weeks 52 = .ok (.bipush 10, 2) := by decide +kernel
theorem dX12_weeks_54 : decode cX12_weeks 54 = .ok (.if_icmp .ge 25, 3) := by decide +kernel
theorem dX12_weeks_57 : decode cX12_weeks 57 = .ok (.aload_n 0, 1) := by decide +kernel
theorem dX12_weeks_58 : decode cX12_weeks 58 = .ok (.getfield 101, 3) := by decide +kernel
theorem dX12_weeks_61 : decode cX12_weeks 61 = .ok (.iload 4, 2) := by decide +kernel
theorem dX12_weeks_63 : decode cX12_weeks 63 = .ok (.iconst (-1), 1) := by decide +kernel
theorem dX12_weeks_64 : decode cX12_weeks 64 = .ok (.iastore, 1) := by decide +kernel
theorem dX12_weeks_65 : decode cX12_weeks 65 = .ok (.aload_n 0, 1) := by decide +kernel
theorem dX12_weeks_66 : decode cX12_weeks 66 = .ok (.getfield 104, 3) := by decide +kernel
theorem dX12_weeks_69 : decode cX12_weeks 69 = .ok (.iload 4, 2) := by decide +kernel
theorem dX12_weeks_71 : decode cX12_weeks 71 = .ok (.iconst (-1), 1) := by decide +kernel
theorem dX12_weeks_72 : decode cX12_weeks 72 = .ok (.iastore, 1) := by decide +kernel
theorem dX12_weeks_73 : decode cX12_weeks 73 = .ok (.iinc 4 1, 3) := by decide +kernel
theorem dX12_weeks_76 : decode cX12_weeks 76 = .ok (.goto (-26), 3) := by decide +kernel
theorem dX12_weeks_79 : decode cX12_weeks 79 = .ok (.aload_n 0, 1) := by decide +kernel
theorem dX12_weeks_80 : decode cX12_weeks 80 = .ok (.aload_n 0, 1) := by decide +kernel
theorem dX12_weeks_81 : decode cX12_weeks 81 = .ok (.getfield 13, 3) := by decide +kernel
theorem dX12_weeks_84 : decode cX12_weeks 84 = .ok (.iconst 0, 1) := by decide +kernel
theorem dX12_weeks_85 : decode cX12_weeks 85 = .ok (.iaload, 1) := by decide +kernel
theorem dX12_weeks_86 : decode cX12_weeks 86 = .ok (.putfield 454, 3) := by decide +kernel
theorem dX12_weeks_89 : decode cX12_weeks 89 = .ok (.iconst 0, 1) := by decide +kernel
theorem dX12_weeks_90 : decode cX12_weeks 90 = .ok (.istore 4, 2) := by decide +kernel
theorem dX12_weeks_92 : decode cX12_weeks 92 = .ok (.iload 4, 2) := by decide +kernel
theorem dX12_weeks_94 : decode cX12_weeks 94 = .ok (.iload_n 2, 1) := by decide +kernel
theorem dX12_weeks_95 : decode cX12_weeks 95 = .ok (.if_icmp .ge 161, 3) := by decide +kernel
theorem dX12_weeks_98 : decode cX12_weeks 98 = .ok (.aload_n 0, 1) := by decide +kernel
theorem dX12_weeks_99 : decode cX12_weeks 99 = .ok (.iload 4, 2) := by decide +kernel
theorem dX12_weeks_101 : decode cX12_weeks 101 = .ok (.putfield 333, 3) := by decide +kernel
theorem dX12_weeks_104 : decode cX12_weeks 104 = .ok (.aload_n 0, 1) := by decide +kernel
theorem dX12_weeks_105 : decode cX12_weeks 105 = .ok (.invokevirtual 427, 3) := by decide +kernel
theorem dX12_weeks_108 : decode cX12_weeks 108 = .ok (.istore 5, 2) := by decide +kernel
theorem dX12_weeks_110 : decode cX12_weeks 110 = .ok (.iload_n 3, 1) := by decide +kernel
theorem dX12_weeks_111 : decode cX12_weeks 111 = .ok (.aload_n 0, 1) := by decide +kernel
theorem dX12_weeks_112 : decode cX12_weeks 112 = .ok (.iload 5, 2) := by decide +kernel
theorem dX12_weeks_114 : decode cX12_weeks 114 = .ok (.invokevirtual 430, 3) := by decide +kernel
theorem dX12_weeks_117 : decode cX12_weeks 117 = .ok (.iadd, 1) := by decide +kernel
theorem dX12_weeks_118 : decode cX12_weeks 118 = .ok (.istore_n 3, 1) := by decide +kernel
theorem dX12_weeks_119 : decode cX12_weeks 119 = .ok (.aload_n 0, 1) := by decide +kernel
theorem dX12_weeks_120 : decode cX12_weeks 120 = .ok (.iload 5, 2) := by decide +kernel
theorem dX12_weeks_122 : decode cX12_weeks 122 = .ok (.iload 4, 2) := by decide +kernel
theorem dX12_weeks_124 : decode cX12_weeks 124 = .ok (.iconst 0, 1) := by decide +kernel
theorem dX12_weeks_125 : decode cX12_weeks 125 = .ok (.invokevirtual 457, 3) := by decide +kernel
theorem dX12_weeks_128 : decode cX12_weeks 128 = .ok (.aload_n 0, 1) := by decide +kernel
theorem dX12_weeks_129 : decode cX12_weeks 129 = .ok (.invokevirtual 461, 3) := by decide +kernel
theorem dX12_weeks_132 : decode cX12_weeks 132 = .ok (.istore 6, 2) := by decide +kernel
theorem dX12_weeks_134 : decode cX12_weeks 134 = .ok (.iconst 0, 1) := by decide +kernel
theorem dX12_weeks_135 : decode cX12_weeks 135 = .ok (.istore 7, 2) := by decide +kernel
theorem dX12_weeks_137 : decode cX12_weeks 137 = .ok (.iload 7, 2) := by decide +kernel
theorem dX12_weeks_139 : decode cX12_weeks 139 = .ok (.aload_n 0, 1) := by decide +kernel
theorem dX12_weeks_140 : decode cX12_weeks 140 = .ok (.getfield 13, 3) := by decide +kernel
theorem dX12_weeks_143 : decode cX12_weeks 143 = .ok (.iconst 0, 1) := by decide +kernel
theorem dX12_weeks_144 : decode cX12_weeks 144 = .ok (.iaload, 1) := by decide +kernel
theorem dX12_weeks_145 : decode cX12_weeks 145 = .ok (.if_icmp .ge 105, 3) := by decide +kernel
theorem dX12_weeks_148 : decode cX12_weeks 148 = .ok (.aload_n 0, 1) := by decide +kernel
theorem dX12_weeks_149 : decode cX12_weeks 149 = .ok (.getfield 421, 3) := by decide +kernel
theorem dX12_weeks_152 : decode cX12_weeks 152 = .ok (.iload 7, 2) := by decide +kernel
theorem dX12_weeks_154 : decode cX12_weeks 154 = .ok (.invokestatic 397, 3) := by decide +kernel
theorem dX12_weeks_157 : decode cX12_weeks 157 = .ok (.ifCond .ne 87, 3) := by decide +kernel
theorem dX12_weeks_160 : decode cX12_weeks 160 = .ok (.aload_n 0, 1) := by decide +kernel
theorem dX12_weeks_161 : decode cX12_weeks 161 = .ok (.aload_n 0, 1) := by decide +kernel
theorem dX12_weeks_162 : decode cX12_weeks 162 = .ok (.getfield 451, 3) := by decide +kernel
theorem dX12_weeks_165 : decode cX12_weeks 165 = .ok (.ldc2_w 464, 3) := by decide +kernel
theorem dX12_weeks_168 : decode cX12_weeks 168 = .ok (.lmul, 1) := by decide +kernel
theorem dX12_weeks_169 : decode cX12_weeks 169 = .ok (.ldc2_w 466, 3) := by decide +kernel
theorem dX12_weeks_172 : decode cX12_weeks 172 = .ok (.ladd, 1) := by decide +kernel
theorem dX12_weeks_173 : decode cX12_weeks 173 = .ok (.ldc2_w 468, 3) := by decide +kernel
theorem dX12_weeks_176 : decode cX12_weeks 176 = .ok (.lrem, 1) := by decide +kernel
theorem dX12_weeks_177 : decode cX12_weeks 177 = .ok (.putfield 451, 3) := by decide +kernel
theorem dX12_weeks_180 : decode cX12_weeks 180 = .ok (.aload_n 0, 1) := by decide +kernel
theorem dX12_weeks_181 : decode cX12_weeks 181 = .ok (.aload_n 0, 1) := by decide +kernel
theorem dX12_weeks_182 : decode cX12_weeks 182 = .ok (.iload 7, 2) := by decide +kernel
theorem dX12_weeks_184 : decode cX12_weeks 184 = .ok (.iconst 4, 1) := by decide +kernel
theorem dX12_weeks_185 : decode cX12_weeks 185 = .ok (.invokevirtual 150, 3) := by decide +kernel
theorem dX12_weeks_188 : decode cX12_weeks 188 = .ok (.putfield 330, 3) := by decide +kernel
theorem dX12_weeks_191 : decode cX12_weeks 191 = .ok (.aload_n 0, 1) := by decide +kernel
theorem dX12_weeks_192 : decode cX12_weeks 192 = .ok (.iload 6, 2) := by decide +kernel
theorem dX12_weeks_194 : decode cX12_weeks 194 = .ok (.putfield 336, 3) := by decide +kernel
theorem dX12_weeks_197 : decode cX12_weeks 197 = .ok (.aload_n 0, 1) := by decide +kernel
theorem dX12_weeks_198 : decode cX12_weeks 198 = .ok (.getfield 451, 3) := by decide +kernel
theorem dX12_weeks_201 : decode cX12_weeks 201 = .ok (.ldc2_w 360, 3) := by decide +kernel
theorem dX12_weeks_204 : decode cX12_weeks 204 = .ok (.lrem, 1) := by decide +kernel
theorem dX12_weeks_205 : decode cX12_weeks 205 = .ok (.aload_n 0, 1) := by decide +kernel
theorem dX12_weeks_206 : decode cX12_weeks 206 = .ok (.iload 7, 2) := by decide +kernel
theorem dX12_weeks_208 : decode cX12_weeks 208 = .ok (.aload_n 0, 1) := by decide +kernel
theorem dX12_weeks_209 : decode cX12_weeks 209 = .ok (.getfield 98, 3) := by decide +kernel
theorem dX12_weeks_212 : decode cX12_weeks 212 = .ok (.iload 7, 2) := by decide +kernel
theorem dX12_weeks_214 : decode cX12_weeks 214 = .ok (.iaload, 1) := by decide +kernel
theorem dX12_weeks_215 : decode cX12_weeks 215 = .ok (.invokevirtual 351, 3) := by decide +kernel
theorem dX12_weeks_218 : decode cX12_weeks 218 = .ok (.i2l, 1) := by decide +kernel
theorem dX12_weeks_219 : decode cX12_weeks 219 = .ok (.lcmp, 1) := by decide +kernel
theorem dX12_weeks_220 : decode cX12_weeks 220 = .ok (.ifCond .ge 24, 3) := by decide +kernel
theorem dX12_weeks_223 : decode cX12_weeks 223 = .ok (.iload_n 3, 1) := by decide +kernel
theorem dX12_weeks_224 : decode cX12_weeks 224 = .ok (.aload_n 0, 1) := by decide +kernel
theorem dX12_weeks_225 : decode cX12_weeks 225 = .ok (.getfield 98, 3) := by decide +kernel
theorem dX12_weeks_228 : decode cX12_weeks 228 = .ok (.iload 7, 2) := by decide +kernel
theorem dX12_weeks_230 : decode cX12_weeks 230 = .ok (.iaload, 1) := by decide +kernel
theorem dX12_weeks_231 : decode cX12_weeks 231 = .ok (.iadd, 1) := by decide +kernel
theorem dX12_weeks_232 : decode cX12_weeks 232 = .ok (.istore_n 3, 1) := by decide +kernel
theorem dX12_weeks_233 : decode cX12_weeks 233 = .ok (.aload_n 0, 1) := by decide +kernel
theorem dX12_weeks_234 : decode cX12_weeks 234 = .ok (.iconst 1, 1) := by decide +kernel
theorem dX12_weeks_235 : decode cX12_weeks 235 = .ok (.iload 7, 2) := by decide +kernel
theorem dX12_weeks_237 : decode cX12_weeks 237 = .ok (.ishl, 1) := by decide +kernel
theorem dX12_weeks_238 : decode cX12_weeks 238 = .ok (.iload 4, 2) := by decide +kernel
theorem dX12_weeks_240 : decode cX12_weeks 240 = .ok (.iconst 1, 1) := by decide +kernel
theorem dX12_weeks_241 : decode cX12_weeks 241 = .ok (.invokevirtual 457, 3) := by decide +kernel
theorem dX12_weeks_244 : decode cX12_weeks 244 = .ok (.iinc 7 1, 3) := by decide +kernel
theorem dX12_weeks_247 : decode cX12_weeks 247 = .ok (.goto (-110), 3) := by decide +kernel
theorem dX12_weeks_250 : decode cX12_weeks 250 = .ok (.iinc 4 1, 3) := by decide +kernel
theorem dX12_weeks_253 : decode cX12_weeks 253 = .ok (.goto (-161), 3) := by decide +kernel
theorem dX12_weeks_256 : decode cX12_weeks 256 = .ok (.aload_n 0, 1) := by decide +kernel
theorem dX12_weeks_257 : decode cX12_weeks 257 = .ok (.iload_n 3, 1) := by decide +kernel
theorem dX12_weeks_258 : decode cX12_weeks 258 = .ok (.invokevirtual 121, 3) := by decide +kernel
theorem dX12_weeks_261 : decode cX12_weeks 261 = .ok (.ireturn, 1) := by decide +kernel
set_option maxHeartbeats 4000000 in
set_option maxRecDepth 100000 in
theorem x_X12_weeks_29 {p : Program} {l : Launch} {e : Env} {s : State} {m : MethodId} {args : Array Value} {below : List Frame} {meth : Method} {c : Code} {D : va_G} {K : Nat → ClassId} {A : Nat → Prop} {ad : Nat → Nat} {rest : va_W} (C : xC p s m args meth c D K A RX12 cX12_weeks 8 (some .int)) (z : Int32 × xS) : ∀  (σ : xS), F_X12_weeks_29  σ = some z → X p l e (xR 6 150) s m args below meth c D A 8 (xQi below D K A args s z.1 (RW K ad rest z.2)) 0 0 29 [(0, .ref (ad 0))] [] (RW K ad rest σ) := by
  intro σ hF
  unfold F_X12_weeks_29 at hF
  refine x_aload_n C 0 0 dX12_weeks_29 rfl rfl ?_
  refine x_iconst C (-1) dX12_weeks_30 (by decide +kernel) ?_
  refine x_callVI C (wf := RW K ad rest) (As := [.int ((-1))]) (rest := []) dX12_weeks_31 ml_X12_121 rfl rfl (Nat.le_of_ble_eq_true rfl) 0 (RW_o K ad rest σ) rfl ⟨Nat.le_of_ble_eq_true rfl, Nat.le_of_ble_eq_true rfl⟩ ⟨Nat.zero_le _, Nat.zero_le _⟩ (fun q9 hq9 => c_X12_tell l D K ad rest ((-1)) σ q9 hq9) hF (fun v11 σ10 hF => ?_)
  exact x_iret C dX12_weeks_34 rfl (congrArg Prod.fst (Option.some.inj hF)) (congrArg (fun q9 : Int32 × xS => RW K ad rest q9.2) (Option.some.inj hF))
set_option maxHeartbeats 4000000 in
set_option maxRecDepth 100000 in
theorem x_X12_weeks_137 {p : Program} {l : Launch} {e : Env} {s : State} {m : MethodId} {args : Array Value} {below : List Frame} {meth : Method} {c : Code} {D : va_G} {K : Nat → ClassId} {A : Nat → Prop} {ad : Nat → Nat} {rest : va_W} (C : xC p s m args meth c D K A RX12 cX12_weeks 8 (some .int)) (z : Int32 × xS) (k_92 : Int32 → Int32 → Int32 → xS → Option (Int32 × xS)) (H_92 : ∀ (y2 : Int32) (y3 : Int32) (y4 : Int32) (σ : xS), k_92 y2 y3 y4 σ = some z → X p l e (xR 6 150) s m args below meth c D A 8 (xQi below D K A args s z.1 (RW K ad rest z.2)) 0 0 92 [(0, .ref (ad 0)), (2, .int y2), (3, .int y3), (4, .int y4)] [] (RW K ad rest σ)) : ∀ (n : Nat) (y2 : Int32) (y3 : Int32) (y4 : Int32) (y6 : Int32) (y7 : Int32) (σ : xS), F_X12_weeks_137 k_92 n y2 y3 y4 y6 y7 σ = some z → X p l e (xR 6 150) s m args below meth c D A 8 (xQi below D K A args s z.1 (RW K ad rest z.2)) 0 0 137 [(0, .ref (ad 0)), (2, .int y2), (3, .int y3), (4, .int y4), (6, .int y6), (7, .int y7)] [] (RW K ad rest σ) := by
  intro n
  induction n with
  | zero =>
    intro y2 y3 y4 y6 y7 σ hF
    cases hF
  | succ n ih =>
    intro y2 y3 y4 y6 y7 σ hF
    rw [F_X12_weeks_137] at hF
    refine x_iload C 5 7 dX12_weeks_137 rfl ?_
    refine x_aload_n C 0 0 dX12_weeks_139 rfl rfl ?_
    refine x_get C 0 dX12_weeks_140 fl_X12_13 (RW_o K ad rest σ) rfl ?_
    refine x_iconst C 0 dX12_weeks_143 (by decide +kernel) ?_
    refine x_iald C 2 dX12_weeks_144 (RW_a3 K ad rest σ) hF (fun v30 hF => ?_)
    refine x_icmp_ge C 250 dX12_weeks_145 (by decide) hF (fun hF => ?_) (fun hF => ?_)
    · refine x_iincN C 1 3 (fun x31 => [(4, .int x31), (0, .ref (ad 0)), (2, .int y2), (3, .int y3), (6, .int y6), (7, .int y7)]) dX12_weeks_250 rfl (by decide +kernel) (by decide) (fun _ => rfl) hF (fun x31 hF => ?_)
      refine x_goto C 92 dX12_weeks_253 (by decide) ?_
      refine x_loc [(0, .ref (ad 0)), (2, .int y2), (3, .int y3), (4, .int x31)] [1, 2, 3, 0] rfl ?_
      exact H_92 y2 y3 x31 σ hF
    · refine x_aload_n C 0 0 dX12_weeks_148 rfl rfl ?_
      refine x_get C 0 dX12_weeks_149 fl_X12_421 (RW_o K ad rest σ) rfl ?_
      refine x_iload C 5 7 dX12_weeks_152 rfl ?_
      refine x_callSI C (wf := RW K ad rest) (As := [.int (sI σ 41), .int y7]) (rest := []) dX12_weeks_154 ml_X12_397 rfl rfl (Nat.le_of_ble_eq_true rfl) ⟨Nat.le_of_ble_eq_true rfl, Nat.le_of_ble_eq_true rfl⟩ ⟨Nat.zero_le _, Nat.zero_le _⟩ (fun q9 hq9 => c_X12_is l D K ad rest (sI σ 41) y7 σ q9 hq9) hF (fun v33 σ32 hF => ?_)
      refine x_if_ne C 244 dX12_weeks_157 (by decide) hF (fun hF => ?_) (fun hF => ?_)
      · refine x_iincN C 1 5 (fun x34 => [(7, .int x34), (0, .ref (ad 0)), (2, .int y2), (3, .int y3), (4, .int y4), (6, .int y6)]) dX12_weeks_244 rfl (by decide +kernel) (by decide) (fun _ => rfl) hF (fun x34 hF => ?_)
        refine x_goto C 137 dX12_weeks_247 (by decide) ?_
        refine x_loc [(0, .ref (ad 0)), (2, .int y2), (3, .int y3), (4, .int y4), (6, .int y6), (7, .int x34)] [1, 2, 3, 4, 5, 0] rfl ?_
        exact ih y2 y3 y4 y6 x34 σ32 hF
      · refine x_aload_n C 0 0 dX12_weeks_160 rfl rfl ?_
        refine x_aload_n C 0 0 dX12_weeks_161 rfl rfl ?_
        refine x_get C 0 dX12_weeks_162 fl_X12_451 (RW_o K ad rest σ32) rfl ?_
        refine x_ldc2 C 1103 dX12_weeks_165 cl_X12_464 ?_
        refine x_lmul C dX12_weeks_168 ?_
        refine x_ldc2 C 12345 dX12_weeks_169 cl_X12_466 ?_
        refine x_ladd C dX12_weeks_172 ?_
        refine x_ldc2 C 1000003 dX12_weeks_173 cl_X12_468 ?_
        refine x_lrem C dX12_weeks_176 hF (fun hF => ?_)
        refine x_put C 0 dX12_weeks_177 fl_X12_451 fm_X12_45 rfl rfl (RW_o K ad rest σ32) (Nat.le_of_ble_eq_true rfl) (RW_s45 K ad rest σ32 _) ?_
        refine x_st (wf := RW K ad rest) hF (fun σ35 hF => ?_)
        refine x_aload_n C 0 0 dX12_weeks_180 rfl rfl ?_
        refine x_aload_n C 0 0 dX12_weeks_181 rfl rfl ?_
        refine x_iload C 5 7 dX12_weeks_182 rfl ?_
        refine x_iconst C 4 dX12_weeks_184 (by decide +kernel) ?_
        refine x_callVI C (wf := RW K ad rest) (As := [.int y7, .int 4]) (rest := [.ref (ad 0)]) dX12_weeks_185 ml_X12_150 rfl rfl (Nat.le_of_ble_eq_true rfl) 0 (RW_o K ad rest σ35) rfl ⟨Nat.le_of_ble_eq_true rfl, Nat.le_of_ble_eq_true rfl⟩ ⟨Nat.zero_le _, Nat.zero_le _⟩ (fun q9 hq9 => c_X12_ofBook l D K ad rest y7 4 σ35 q9 hq9) hF (fun v37 σ36 hF => ?_)
        refine x_put C 0 dX12_weeks_188 fl_X12_330 fm_X12_33 rfl rfl (RW_o K ad rest σ36) (Nat.le_of_ble_eq_true rfl) (RW_s33 K ad rest σ36 _) ?_
        refine x_st (wf := RW K ad rest) hF (fun σ38 hF => ?_)
        refine x_aload_n C 0 0 dX12_weeks_191 rfl rfl ?_
        refine x_iload C 4 6 dX12_weeks_192 rfl ?_
        refine x_put C 0 dX12_weeks_194 fl_X12_336 fm_X12_35 rfl rfl (RW_o K ad rest σ38) (Nat.le_of_ble_eq_true rfl) (RW_s35 K ad rest σ38 _) ?_
        refine x_st (wf := RW K ad rest) hF (fun σ39 hF => ?_)
        refine x_aload_n C 0 0 dX12_weeks_197 rfl rfl ?_
        refine x_get C 0 dX12_weeks_198 fl_X12_451 (RW_o K ad rest σ39) rfl ?_
        refine x_ldc2 C 100 dX12_weeks_201 cl_X12_360 ?_
        refine x_lrem C dX12_weeks_204 hF (fun hF => ?_)
        refine x_aload_n C 0 0 dX12_weeks_205 rfl rfl ?_
        refine x_iload C 5 7 dX12_weeks_206 rfl ?_
        refine x_aload_n C 0 0 dX12_weeks_208 rfl rfl ?_
        refine x_get C 0 dX12_weeks_209 fl_X12_98 (RW_o K ad rest σ39) rfl ?_
        refine x_iload C 5 7 dX12_weeks_212 rfl ?_
        refine x_iald C 19 dX12_weeks_214 (RW_a40 K ad rest σ39) hF (fun v40 hF => ?_)
        refine x_callVI C (wf := RW K ad rest) (As := [.int y7, .int v40]) (rest := [.long ((sJ σ39 45) - (sJ σ39 45) / 100 * 100)]) dX12_weeks_215 ml_X12_351 rfl rfl (Nat.le_of_ble_eq_true rfl) 0 (RW_o K ad rest σ39) rfl ⟨Nat.le_of_ble_eq_true rfl, Nat.le_of_ble_eq_true rfl⟩ ⟨Nat.zero_le _, Nat.zero_le _⟩ (fun q9 hq9 => c_X12_sells l D K ad rest y7 v40 σ39 q9 hq9) hF (fun v42 σ41 hF => ?_)
        refine x_i2l C dX12_weeks_218 ?_
        refine x_lcmp C dX12_weeks_219 ?_
        refine x_if_ge C 244 dX12_weeks_220 (by decide) hF (fun hF => ?_) (fun hF => ?_)
        · refine x_iincN C 1 5 (fun x43 => [(7, .int x43), (0, .ref (ad 0)), (2, .int y2), (3, .int y3), (4, .int y4), (6, .int y6)]) dX12_weeks_244 rfl (by decide +kernel) (by decide) (fun _ => rfl) hF (fun x43 hF => ?_)
          refine x_goto C 137 dX12_weeks_247 (by decide) ?_
          refine x_loc [(0, .ref (ad 0)), (2, .int y2), (3, .int y3), (4, .int y4), (6, .int y6), (7, .int x43)] [1, 2, 3, 4, 5, 0] rfl ?_
          exact ih y2 y3 y4 y6 x43 σ41 hF
        · refine x_iload_n C 2 3 dX12_weeks_223 rfl rfl ?_
          refine x_aload_n C 0 0 dX12_weeks_224 rfl rfl ?_
          refine x_get C 0 dX12_weeks_225 fl_X12_98 (RW_o K ad rest σ41) rfl ?_
          refine x_iload C 5 7 dX12_weeks_228 rfl ?_
          refine x_iald C 19 dX12_weeks_230 (RW_a40 K ad rest σ41) hF (fun v44 hF => ?_)
          refine x_iadd C dX12_weeks_231 ?_
          refine x_topI hF (fun x45 hF => ?_)
          refine x_istore_n C [(3, .int x45), (0, .ref (ad 0)), (2, .int y2), (4, .int y4), (6, .int y6), (7, .int y7)] dX12_weeks_232 rfl (by decide) rfl ?_
          refine x_aload_n C 1 0 dX12_weeks_233 rfl rfl ?_
          refine x_iconst C 1 dX12_weeks_234 (by decide +kernel) ?_
          refine x_iload C 5 7 dX12_weeks_235 rfl ?_
          refine x_ishl C dX12_weeks_237 ?_
          refine x_iload C 3 4 dX12_weeks_238 rfl ?_
          refine x_iconst C 1 dX12_weeks_240 (by decide +kernel) ?_
          refine x_callVV C (wf := RW K ad rest) (As := [.int ((1 : Int32) <<< (y7 &&& 31)), .int y4, .int 1]) (rest := []) dX12_weeks_241 ml_X12_457 rfl rfl (Nat.le_of_ble_eq_true rfl) 0 (RW_o K ad rest σ41) rfl ⟨Nat.le_of_ble_eq_true rfl, Nat.le_of_ble_eq_true rfl⟩ ⟨Nat.zero_le _, Nat.zero_le _⟩ (fun q9 hq9 => c_X12_go l D K ad rest ((1 : Int32) <<< (y7 &&& 31)) y4 1 σ41 q9 hq9) hF (fun _ σ46 hF => ?_)
          refine x_iincN C 1 5 (fun x47 => [(7, .int x47), (3, .int x45), (0, .ref (ad 0)), (2, .int y2), (4, .int y4), (6, .int y6)]) dX12_weeks_244 rfl (by decide +kernel) (by decide) (fun _ => rfl) hF (fun x47 hF => ?_)
          refine x_goto C 137 dX12_weeks_247 (by decide) ?_
          refine x_loc [(0, .ref (ad 0)), (2, .int y2), (3, .int x45), (4, .int y4), (6, .int y6), (7, .int x47)] [2, 3, 1, 4, 5, 0] rfl ?_
          exact ih y2 x45 y4 y6 x47 σ46 hF
set_option maxHeartbeats 4000000 in
set_option maxRecDepth 100000 in
theorem x_X12_weeks_92 {p : Program} {l : Launch} {e : Env} {s : State} {m : MethodId} {args : Array Value} {below : List Frame} {meth : Method} {c : Code} {D : va_G} {K : Nat → ClassId} {A : Nat → Prop} {ad : Nat → Nat} {rest : va_W} (C : xC p s m args meth c D K A RX12 cX12_weeks 8 (some .int)) (z : Int32 × xS) : ∀ (n : Nat) (y2 : Int32) (y3 : Int32) (y4 : Int32) (σ : xS), F_X12_weeks_92  n y2 y3 y4 σ = some z → X p l e (xR 6 150) s m args below meth c D A 8 (xQi below D K A args s z.1 (RW K ad rest z.2)) 0 0 92 [(0, .ref (ad 0)), (2, .int y2), (3, .int y3), (4, .int y4)] [] (RW K ad rest σ) := by
  intro n
  induction n with
  | zero =>
    intro y2 y3 y4 σ hF
    cases hF
  | succ n ih =>
    intro y2 y3 y4 σ hF
    rw [F_X12_weeks_92] at hF
    refine x_iload C 3 4 dX12_weeks_92 rfl ?_
    refine x_iload_n C 1 2 dX12_weeks_94 rfl rfl ?_
    refine x_icmp_ge C 256 dX12_weeks_95 (by decide) hF (fun hF => ?_) (fun hF => ?_)
    · refine x_aload_n C 0 0 dX12_weeks_256 rfl rfl ?_
      refine x_iload_n C 2 3 dX12_weeks_257 rfl rfl ?_
      refine x_callVI C (wf := RW K ad rest) (As := [.int y3]) (rest := []) dX12_weeks_258 ml_X12_121 rfl rfl (Nat.le_of_ble_eq_true rfl) 0 (RW_o K ad rest σ) rfl ⟨Nat.le_of_ble_eq_true rfl, Nat.le_of_ble_eq_true rfl⟩ ⟨Nat.zero_le _, Nat.zero_le _⟩ (fun q9 hq9 => c_X12_tell l D K ad rest y3 σ q9 hq9) hF (fun v19 σ18 hF => ?_)
      exact x_iret C dX12_weeks_261 rfl (congrArg Prod.fst (Option.some.inj hF)) (congrArg (fun q9 : Int32 × xS => RW K ad rest q9.2) (Option.some.inj hF))
    · refine x_aload_n C 0 0 dX12_weeks_98 rfl rfl ?_
      refine x_iload C 3 4 dX12_weeks_99 rfl ?_
      refine x_put C 0 dX12_weeks_101 fl_X12_333 fm_X12_34 rfl rfl (RW_o K ad rest σ) (Nat.le_of_ble_eq_true rfl) (RW_s34 K ad rest σ _) ?_
      refine x_st (wf := RW K ad rest) hF (fun σ20 hF => ?_)
      refine x_aload_n C 0 0 dX12_weeks_104 rfl rfl ?_
      refine x_callVI C (wf := RW K ad rest) (As := []) (rest := []) dX12_weeks_105 ml_X12_427 rfl rfl (Nat.le_of_ble_eq_true rfl) 0 (RW_o K ad rest σ20) rfl ⟨Nat.le_of_ble_eq_true rfl, Nat.le_of_ble_eq_true rfl⟩ ⟨Nat.zero_le _, Nat.zero_le _⟩ (fun q9 hq9 => c_X12_taken l D K ad rest σ20 q9 hq9) hF (fun v22 σ21 hF => ?_)
      refine x_istore C [(5, .int v22), (0, .ref (ad 0)), (2, .int y2), (3, .int y3), (4, .int y4)] dX12_weeks_108 (by decide) rfl ?_
      refine x_iload_n C 3 3 dX12_weeks_110 rfl rfl ?_
      refine x_aload_n C 1 0 dX12_weeks_111 rfl rfl ?_
      refine x_iload C 0 5 dX12_weeks_112 rfl ?_
      refine x_callVI C (wf := RW K ad rest) (As := [.int v22]) (rest := [.int y3]) dX12_weeks_114 ml_X12_430 rfl rfl (Nat.le_of_ble_eq_true rfl) 0 (RW_o K ad rest σ21) rfl ⟨Nat.le_of_ble_eq_true rfl, Nat.le_of_ble_eq_true rfl⟩ ⟨Nat.zero_le _, Nat.zero_le _⟩ (fun q9 hq9 => c_X12_paidFor l D K ad rest v22 σ21 q9 hq9) hF (fun v24 σ23 hF => ?_)
      refine x_iadd C dX12_weeks_117 ?_
      refine x_topI hF (fun x25 hF => ?_)
      refine x_istore_n C [(3, .int x25), (5, .int v22), (0, .ref (ad 0)), (2, .int y2), (4, .int y4)] dX12_weeks_118 rfl (by decide) rfl ?_
      refine x_aload_n C 2 0 dX12_weeks_119 rfl rfl ?_
      refine x_iload C 1 5 dX12_weeks_120 rfl ?_
      refine x_iload C 4 4 dX12_weeks_122 rfl ?_
      refine x_iconst C 0 dX12_weeks_124 (by decide +kernel) ?_
      refine x_callVV C (wf := RW K ad rest) (As := [.int v22, .int y4, .int 0]) (rest := []) dX12_weeks_125 ml_X12_457 rfl rfl (Nat.le_of_ble_eq_true rfl) 0 (RW_o K ad rest σ23) rfl ⟨Nat.le_of_ble_eq_true rfl, Nat.le_of_ble_eq_true rfl⟩ ⟨Nat.zero_le _, Nat.zero_le _⟩ (fun q9 hq9 => c_X12_go l D K ad rest v22 y4 0 σ23 q9 hq9) hF (fun _ σ26 hF => ?_)
      refine x_aload_n C 2 0 dX12_weeks_128 rfl rfl ?_
      refine x_callVI C (wf := RW K ad rest) (As := []) (rest := []) dX12_weeks_129 ml_X12_461 rfl rfl (Nat.le_of_ble_eq_true rfl) 0 (RW_o K ad rest σ26) rfl ⟨Nat.le_of_ble_eq_true rfl, Nat.le_of_ble_eq_true rfl⟩ ⟨Nat.zero_le _, Nat.zero_le _⟩ (fun q9 hq9 => c_X12_tableCrowd l D K ad rest σ26 q9 hq9) hF (fun v28 σ27 hF => ?_)
      refine x_istore C [(6, .int v28), (3, .int x25), (5, .int v22), (0, .ref (ad 0)), (2, .int y2), (4, .int y4)] dX12_weeks_132 (by decide) rfl ?_
      refine x_iconst C 0 dX12_weeks_134 (by decide +kernel) ?_
      refine x_topI hF (fun x29 hF => ?_)
      refine x_istore C [(7, .int x29), (6, .int v28), (3, .int x25), (5, .int v22), (0, .ref (ad 0)), (2, .int y2), (4, .int y4)] dX12_weeks_135 (by decide) rfl ?_
      refine x_loc [(0, .ref (ad 0)), (2, .int y2), (3, .int x25), (4, .int y4), (6, .int v28), (7, .int x29)] [4, 5, 2, 6, 1, 0] rfl ?_
      exact x_X12_weeks_137 C z ((F_X12_weeks_92 n)) ih FU y2 x25 y4 v28 x29 σ27 hF
set_option maxHeartbeats 4000000 in
set_option maxRecDepth 100000 in
theorem x_X12_weeks_50 {p : Program} {l : Launch} {e : Env} {s : State} {m : MethodId} {args : Array Value} {below : List Frame} {meth : Method} {c : Code} {D : va_G} {K : Nat → ClassId} {A : Nat → Prop} {ad : Nat → Nat} {rest : va_W} (C : xC p s m args meth c D K A RX12 cX12_weeks 8 (some .int)) (z : Int32 × xS) : ∀ (n : Nat) (y2 : Int32) (y3 : Int32) (y4 : Int32) (σ : xS), F_X12_weeks_50  n y2 y3 y4 σ = some z → X p l e (xR 6 150) s m args below meth c D A 8 (xQi below D K A args s z.1 (RW K ad rest z.2)) 0 0 50 [(0, .ref (ad 0)), (2, .int y2), (3, .int y3), (4, .int y4)] [] (RW K ad rest σ) := by
  intro n
  induction n with
  | zero =>
    intro y2 y3 y4 σ hF
    cases hF
  | succ n ih =>
    intro y2 y3 y4 σ hF
    rw [F_X12_weeks_50] at hF
    refine x_iload C 3 4 dX12_weeks_50 rfl ?_
    refine x_bipush C 10 dX12_weeks_52 (by decide +kernel) ?_
    refine x_icmp_ge C 79 dX12_weeks_54 (by decide) hF (fun hF => ?_) (fun hF => ?_)
    · refine x_aload_n C 0 0 dX12_weeks_79 rfl rfl ?_
      refine x_aload_n C 0 0 dX12_weeks_80 rfl rfl ?_
      refine x_get C 0 dX12_weeks_81 fl_X12_13 (RW_o K ad rest σ) rfl ?_
      refine x_iconst C 0 dX12_weeks_84 (by decide +kernel) ?_
      refine x_iald C 2 dX12_weeks_85 (RW_a3 K ad rest σ) hF (fun v12 hF => ?_)
      refine x_put C 0 dX12_weeks_86 fl_X12_454 fm_X12_44 rfl rfl (RW_o K ad rest σ) (Nat.le_of_ble_eq_true rfl) (RW_s44 K ad rest σ _) ?_
      refine x_st (wf := RW K ad rest) hF (fun σ13 hF => ?_)
      refine x_iconst C 0 dX12_weeks_89 (by decide +kernel) ?_
      refine x_topI hF (fun x14 hF => ?_)
      refine x_istore C [(4, .int x14), (0, .ref (ad 0)), (2, .int y2), (3, .int y3)] dX12_weeks_90 (by decide) rfl ?_
      refine x_loc [(0, .ref (ad 0)), (2, .int y2), (3, .int y3), (4, .int x14)] [1, 2, 3, 0] rfl ?_
      exact x_X12_weeks_92 C z FU y2 y3 x14 σ13 hF
    · refine x_aload_n C 0 0 dX12_weeks_57 rfl rfl ?_
      refine x_get C 0 dX12_weeks_58 fl_X12_101 (RW_o K ad rest σ) rfl ?_
      refine x_iload C 3 4 dX12_weeks_61 rfl ?_
      refine x_iconst C (-1) dX12_weeks_63 (by decide +kernel) ?_
      refine x_iast C 20 dX12_weeks_64 (RW_a42 K ad rest σ) hF (RW_s42 K ad rest σ _) (fun hF => ?_)
      refine x_st (wf := RW K ad rest) hF (fun σ15 hF => ?_)
      refine x_aload_n C 0 0 dX12_weeks_65 rfl rfl ?_
      refine x_get C 0 dX12_weeks_66 fl_X12_104 (RW_o K ad rest σ15) rfl ?_
      refine x_iload C 3 4 dX12_weeks_69 rfl ?_
      refine x_iconst C (-1) dX12_weeks_71 (by decide +kernel) ?_
      refine x_iast C 21 dX12_weeks_72 (RW_a43 K ad rest σ15) hF (RW_s43 K ad rest σ15 _) (fun hF => ?_)
      refine x_st (wf := RW K ad rest) hF (fun σ16 hF => ?_)
      refine x_iincN C 1 3 (fun x17 => [(4, .int x17), (0, .ref (ad 0)), (2, .int y2), (3, .int y3)]) dX12_weeks_73 rfl (by decide +kernel) (by decide) (fun _ => rfl) hF (fun x17 hF => ?_)
      refine x_goto C 50 dX12_weeks_76 (by decide) ?_
      refine x_loc [(0, .ref (ad 0)), (2, .int y2), (3, .int y3), (4, .int x17)] [1, 2, 3, 0] rfl ?_
      exact ih y2 y3 x17 σ16 hF
set_option maxHeartbeats 4000000 in
set_option maxRecDepth 100000 in
theorem c_X12_weeks (l : Launch) (D : va_G) (K : Nat → ClassId) (ad : Nat → Nat) (rest : va_W) (a1 : Int32) (a2 : Int32) (σ : xS) (z : Int32 × xS) (hF : F_X12_weeks a1 a2 σ = some z) : CI l D K yX12_weeks cX12_weeks 8 (some .int) 6 150 [.ref (ad 0), .int a1, .int a2] (RW K ad rest σ) z.1 (RW K ad rest z.2) := by
  refine x_enterI [(0, .ref (ad 0)), (1, .int a1), (2, .int a2)] pnX12 (Nat.le_of_ble_eq_true rfl) rfl ?_
  intro p e s m args below meth c A C
  unfold F_X12_weeks at hF
  refine x_aload_n C 0 0 dX12_weeks_0 rfl rfl ?_
  refine x_iconst C 0 dX12_weeks_1 (by decide +kernel) ?_
  refine x_put C 0 dX12_weeks_2 fl_X12_107 fm_X12_0 rfl rfl (RW_o K ad rest σ) (Nat.le_of_ble_eq_true rfl) (RW_s0 K ad rest σ _) ?_
  refine x_st (wf := RW K ad rest) hF (fun σ1 hF => ?_)
  refine x_iload_n C 1 1 dX12_weeks_5 rfl rfl ?_
  refine x_i2l C dX12_weeks_6 ?_
  refine x_lconst C 0 dX12_weeks_7 (by decide +kernel) ?_
  refine x_ldc2 C 1000000 dX12_weeks_8 cl_X12_204 ?_
  refine x_callSI C (wf := RW K ad rest) (As := [.long (a1.toInt64), .long 0, .long 1000000]) (rest := []) dX12_weeks_11 ml_X12_117 rfl rfl (Nat.le_of_ble_eq_true rfl) ⟨Nat.le_of_ble_eq_true rfl, Nat.le_of_ble_eq_true rfl⟩ ⟨Nat.zero_le _, Nat.zero_le _⟩ (fun q9 hq9 => c_X12_in l D K ad rest (a1.toInt64) 0 1000000 σ1 q9 hq9) hF (fun v3 σ2 hF => ?_)
  refine x_if_eq C 29 dX12_weeks_14 (by decide) hF (fun hF => ?_) (fun hF => ?_)
  · refine x_loc [(0, .ref (ad 0))] [0] rfl ?_
    exact x_X12_weeks_29 C z σ2 hF
  · refine x_iload_n C 2 2 dX12_weeks_17 rfl rfl ?_
    refine x_i2l C dX12_weeks_18 ?_
    refine x_lconst C 1 dX12_weeks_19 (by decide +kernel) ?_
    refine x_ldc2 C 40 dX12_weeks_20 cl_X12_449 ?_
    refine x_callSI C (wf := RW K ad rest) (As := [.long (a2.toInt64), .long 1, .long 40]) (rest := []) dX12_weeks_23 ml_X12_117 rfl rfl (Nat.le_of_ble_eq_true rfl) ⟨Nat.le_of_ble_eq_true rfl, Nat.le_of_ble_eq_true rfl⟩ ⟨Nat.zero_le _, Nat.zero_le _⟩ (fun q9 hq9 => c_X12_in l D K ad rest (a2.toInt64) 1 40 σ2 q9 hq9) hF (fun v5 σ4 hF => ?_)
    refine x_if_ne C 35 dX12_weeks_26 (by decide) hF (fun hF => ?_) (fun hF => ?_)
    · refine x_aload_n C 0 0 dX12_weeks_35 rfl rfl ?_
      refine x_callVV C (wf := RW K ad rest) (As := []) (rest := []) dX12_weeks_36 ml_X12_424 rfl rfl (Nat.le_of_ble_eq_true rfl) 0 (RW_o K ad rest σ4) rfl ⟨Nat.le_of_ble_eq_true rfl, Nat.le_of_ble_eq_true rfl⟩ ⟨Nat.zero_le _, Nat.zero_le _⟩ (fun q9 hq9 => c_X12_asPriced l D K ad rest σ4 q9 hq9) hF (fun _ σ6 hF => ?_)
      refine x_aload_n C 0 0 dX12_weeks_39 rfl rfl ?_
      refine x_iload_n C 1 1 dX12_weeks_40 rfl rfl ?_
      refine x_i2l C dX12_weeks_41 ?_
      refine x_put C 0 dX12_weeks_42 fl_X12_451 fm_X12_45 rfl rfl (RW_o K ad rest σ6) (Nat.le_of_ble_eq_true rfl) (RW_s45 K ad rest σ6 _) ?_
      refine x_st (wf := RW K ad rest) hF (fun σ7 hF => ?_)
      refine x_iconst C 0 dX12_weeks_45 (by decide +kernel) ?_
      refine x_topI hF (fun x8 hF => ?_)
      refine x_istore_n C [(3, .int x8), (0, .ref (ad 0)), (1, .int a1), (2, .int a2)] dX12_weeks_46 rfl (by decide) rfl ?_
      refine x_iconst C 0 dX12_weeks_47 (by decide +kernel) ?_
      refine x_topI hF (fun x9 hF => ?_)
      refine x_istore C [(4, .int x9), (3, .int x8), (0, .ref (ad 0)), (1, .int a1), (2, .int a2)] dX12_weeks_48 (by decide) rfl ?_
      refine x_loc [(0, .ref (ad 0)), (2, .int a2), (3, .int x8), (4, .int x9)] [2, 4, 1, 0] rfl ?_
      exact x_X12_weeks_50 C z FU a2 x8 x9 σ7 hF
    · refine x_loc [(0, .ref (ad 0))] [0] rfl ?_
      exact x_X12_weeks_29 C z σ4 hF
theorem dX12_gone_0 : decode cX12_gone 0 = .ok (.aload_n 0, 1) := by decide +kernel
theorem dX12_gone_1 : decode cX12_gone 1 = .ok (.iconst 0, 1) := by decide +kernel
theorem dX12_gone_2 : decode cX12_gone 2 = .ok (.putfield 107, 3) := by decide +kernel
theorem dX12_gone_5 : decode cX12_gone 5 = .ok (.iload_n 1, 1) := by decide +kernel
theorem dX12_gone_6 : decode cX12_gone 6 = .ok (.i2l, 1) := by decide +kernel
theorem dX12_gone_7 : decode cX12_gone 7 = .ok (.lconst 0, 1) := by decide +kernel
theorem dX12_gone_8 : decode cX12_gone 8 = .ok (.aload_n 0, 1) := by decide +kernel
theorem dX12_gone_9 : decode cX12_gone 9 = .ok (.getfield 454, 3) := by decide +kernel
theorem dX12_gone_12 : decode cX12_gone 12 = .ok (.i2l, 1) := by decide +kernel
theorem dX12_gone_13 : decode cX12_gone 13 = .ok (.lconst 1, 1) := by decide +kernel
theorem dX12_gone_14 : decode cX12_gone 14 = .ok (.lsub, 1) := by decide +kernel
theorem dX12_gone_15 : decode cX12_gone 15 = .ok (.invokestatic 117, 3) := by decide +kernel
theorem dX12_gone_18 : decode cX12_gone 18 = .ok (.ifCond .eq 35, 3) := by decide +kernel
theorem dX12_gone_21 : decode cX12_gone 21 = .ok (.iload_n 2, 1) := by decide +kernel
theorem dX12_gone_22 : decode cX12_gone 22 = .ok (.i2l, 1) := by decide +kernel
theorem dX12_gone_23 : decode cX12_gone 23 = .ok (.lconst 0, 1) := by decide +kernel
theorem dX12_gone_24 : decode cX12_gone 24 = .ok (.lconst 1, 1) := by decide +kernel
theorem dX12_gone_25 : decode cX12_gone 25 = .ok (.invokestatic 117, 3) := by decide +kernel
theorem dX12_gone_28 : decode cX12_gone 28 = .ok (.ifCond .eq 25, 3) := by decide +kernel
theorem dX12_gone_31 : decode cX12_gone 31 = .ok (.iload_n 2, 1) := by decide +kernel
theorem dX12_gone_32 : decode cX12_gone 32 = .ok (.ifCond .ne 12, 3) := by decide +kernel
theorem dX12_gone_35 : decode cX12_gone 35 = .ok (.aload_n 0, 1) := by decide +kernel
theorem dX12_gone_36 : decode cX12_gone 36 = .ok (.getfield 101, 3) := by decide +kernel
theorem dX12_gone_39 : decode cX12_gone 39 = .ok (.iload_n 1, 1) := by decide +kernel
theorem dX12_gone_40 : decode cX12_gone 40 = .ok (.iaload, 1) := by decide +kernel
theorem dX12_gone_41 : decode cX12_gone 41 = .ok (.goto 13, 3) := by decide +kernel
theorem dX12_gone_44 : decode cX12_gone 44 = .ok (.aload_n 0, 1) := by decide +kernel
theorem dX12_gone_45 : decode cX12_gone 45 = .ok (.getfield 104, 3) := by decide +kernel
theorem dX12_gone_48 : decode cX12_gone 48 = .ok (.iload_n 1, 1) := by decide +kernel
theorem dX12_gone_49 : decode cX12_gone 49 = .ok (.iaload, 1) := by decide +kernel
theorem dX12_gone_50 : decode cX12_gone 50 = .ok (.goto 4, 3) := by decide +kernel
theorem dX12_gone_53 : decode cX12_gone 53 = .ok (.iconst (-1), 1) := by decide +kernel
theorem dX12_gone_54 : decode cX12_gone 54 = .ok (.ireturn, 1) := by decide +kernel
set_option maxHeartbeats 4000000 in
set_option maxRecDepth 100000 in
theorem c_X12_gone (l : Launch) (D : va_G) (K : Nat → ClassId) (ad : Nat → Nat) (rest : va_W) (a1 : Int32) (a2 : Int32) (σ : xS) (z : Int32 × xS) (hF : F_X12_gone a1 a2 σ = some z) : CI l D K yX12_gone cX12_gone 3 (some .int) 1 25 [.ref (ad 0), .int a1, .int a2] (RW K ad rest σ) z.1 (RW K ad rest z.2) := by
  refine x_enterI [(0, .ref (ad 0)), (1, .int a1), (2, .int a2)] pnX12 (Nat.le_of_ble_eq_true rfl) rfl ?_
  intro p e s m args below meth c A C
  unfold F_X12_gone at hF
  refine x_aload_n C 0 0 dX12_gone_0 rfl rfl ?_
  refine x_iconst C 0 dX12_gone_1 (by decide +kernel) ?_
  refine x_put C 0 dX12_gone_2 fl_X12_107 fm_X12_0 rfl rfl (RW_o K ad rest σ) (Nat.le_of_ble_eq_true rfl) (RW_s0 K ad rest σ _) ?_
  refine x_st (wf := RW K ad rest) hF (fun σ1 hF => ?_)
  refine x_iload_n C 1 1 dX12_gone_5 rfl rfl ?_
  refine x_i2l C dX12_gone_6 ?_
  refine x_lconst C 0 dX12_gone_7 (by decide +kernel) ?_
  refine x_aload_n C 0 0 dX12_gone_8 rfl rfl ?_
  refine x_get C 0 dX12_gone_9 fl_X12_454 (RW_o K ad rest σ1) rfl ?_
  refine x_i2l C dX12_gone_12 ?_
  refine x_lconst C 1 dX12_gone_13 (by decide +kernel) ?_
  refine x_lsub C dX12_gone_14 ?_
  refine x_callSI C (wf := RW K ad rest) (As := [.long (a1.toInt64), .long 0, .long (((sI σ1 44).toInt64) - 1)]) (rest := []) dX12_gone_15 ml_X12_117 rfl rfl (Nat.le_of_ble_eq_true rfl) ⟨Nat.le_of_ble_eq_true rfl, Nat.le_of_ble_eq_true rfl⟩ ⟨Nat.zero_le _, Nat.zero_le _⟩ (fun q9 hq9 => c_X12_in l D K ad rest (a1.toInt64) 0 (((sI σ1 44).toInt64) - 1) σ1 q9 hq9) hF (fun v3 σ2 hF => ?_)
  refine x_if_eq C 53 dX12_gone_18 (by decide) hF (fun hF => ?_) (fun hF => ?_)
  · refine x_iconst C (-1) dX12_gone_53 (by decide +kernel) ?_
    exact x_iret C dX12_gone_54 rfl (congrArg Prod.fst (Option.some.inj hF)) (congrArg (fun q9 : Int32 × xS => RW K ad rest q9.2) (Option.some.inj hF))
  · refine x_iload_n C 2 2 dX12_gone_21 rfl rfl ?_
    refine x_i2l C dX12_gone_22 ?_
    refine x_lconst C 0 dX12_gone_23 (by decide +kernel) ?_
    refine x_lconst C 1 dX12_gone_24 (by decide +kernel) ?_
    refine x_callSI C (wf := RW K ad rest) (As := [.long (a2.toInt64), .long 0, .long 1]) (rest := []) dX12_gone_25 ml_X12_117 rfl rfl (Nat.le_of_ble_eq_true rfl) ⟨Nat.le_of_ble_eq_true rfl, Nat.le_of_ble_eq_true rfl⟩ ⟨Nat.zero_le _, Nat.zero_le _⟩ (fun q9 hq9 => c_X12_in l D K ad rest (a2.toInt64) 0 1 σ2 q9 hq9) hF (fun v5 σ4 hF => ?_)
    refine x_if_eq C 53 dX12_gone_28 (by decide) hF (fun hF => ?_) (fun hF => ?_)
    · refine x_iconst C (-1) dX12_gone_53 (by decide +kernel) ?_
      exact x_iret C dX12_gone_54 rfl (congrArg Prod.fst (Option.some.inj hF)) (congrArg (fun q9 : Int32 × xS => RW K ad rest q9.2) (Option.some.inj hF))
    · refine x_iload_n C 2 2 dX12_gone_31 rfl rfl ?_
      refine x_if_ne C 44 dX12_gone_32 (by decide) hF (fun hF => ?_) (fun hF => ?_)
      · refine x_aload_n C 0 0 dX12_gone_44 rfl rfl ?_
        refine x_get C 0 dX12_gone_45 fl_X12_104 (RW_o K ad rest σ4) rfl ?_
        refine x_iload_n C 1 1 dX12_gone_48 rfl rfl ?_
        refine x_iald C 21 dX12_gone_49 (RW_a43 K ad rest σ4) hF (fun v6 hF => ?_)
        refine x_goto C 54 dX12_gone_50 (by decide) ?_
        exact x_iret C dX12_gone_54 rfl (congrArg Prod.fst (Option.some.inj hF)) (congrArg (fun q9 : Int32 × xS => RW K ad rest q9.2) (Option.some.inj hF))
      · refine x_aload_n C 0 0 dX12_gone_35 rfl rfl ?_
        refine x_get C 0 dX12_gone_36 fl_X12_101 (RW_o K ad rest σ4) rfl ?_
        refine x_iload_n C 1 1 dX12_gone_39 rfl rfl ?_
        refine x_iald C 20 dX12_gone_40 (RW_a42 K ad rest σ4) hF (fun v7 hF => ?_)
        refine x_goto C 54 dX12_gone_41 (by decide) ?_
        exact x_iret C dX12_gone_54 rfl (congrArg Prod.fst (Option.some.inj hF)) (congrArg (fun q9 : Int32 × xS => RW K ad rest q9.2) (Option.some.inj hF))
theorem dX12_count_0 : decode cX12_count 0 = .ok (.aload_n 0, 1) := by decide +kernel
theorem dX12_count_1 : decode cX12_count 1 = .ok (.iconst 0, 1) := by decide +kernel
theorem dX12_count_2 : decode cX12_count 2 = .ok (.putfield 107, 3) := by decide +kernel
theorem dX12_count_5 : decode cX12_count 5 = .ok (.iload_n 1, 1) := by decide +kernel
theorem dX12_count_6 : decode cX12_count 6 = .ok (.tableswitch 146 0 11 #[62, 69, 76, 83, 90, 97, 105, 110, 117, 124, 131, 139], 62) := by decide +kernel
theorem dX12_count_68 : decode cX12_count 68 = .ok (.aload_n 0, 1) := by decide +kernel
theorem dX12_count_69 : decode cX12_count 69 = .ok (.getfield 13, 3) := by decide +kernel
theorem dX12_count_72 : decode cX12_count 72 = .ok (.iconst 0, 1) := by decide +kernel
theorem dX12_count_73 : decode cX12_count 73 = .ok (.iaload, 1) := by decide +kernel
theorem dX12_count_74 : decode cX12_count 74 = .ok (.ireturn, 1) := by decide +kernel
theorem dX12_count_75 : decode cX12_count 75 = .ok (.aload_n 0, 1) := by decide +kernel
theorem dX12_count_76 : decode cX12_count 76 = .ok (.getfield 13, 3) := by decide +kernel
theorem dX12_count_79 : decode cX12_count 79 = .ok (.iconst 1, 1) := by decide +kernel
theorem dX12_count_80 : decode cX12_count 80 = .ok (.iaload, 1) := by decide +kernel
theorem dX12_count_81 : decode cX12_count 81 = .ok (.ireturn, 1) := by decide +kernel
theorem dX12_count_82 : decode cX12_count 82 = .ok (.aload_n 0, 1) := by decide +kernel
theorem dX12_count_83 : decode cX12_count 83 = .ok (.getfield 13, 3) := by decide +kernel
theorem dX12_count_86 : decode cX12_count 86 = .ok (.iconst 3, 1) := by decide +kernel
theorem dX12_count_87 : decode cX12_count 87 = .ok (.iaload, 1) := by decide +kernel
theorem dX12_count_88 : decode cX12_count 88 = .ok (.ireturn, 1) := by decide +kernel
theorem dX12_count_89 : decode cX12_count 89 = .ok (.aload_n 0, 1) := by decide +kernel
theorem dX12_count_90 : decode cX12_count 90 = .ok (.getfield 13, 3) := by decide +kernel
theorem dX12_count_93 : decode cX12_count 93 = .ok (.iconst 4, 1) := by decide +kernel
theorem dX12_count_94 : decode cX12_count 94 = .ok (.iaload, 1) := by decide +kernel
theorem dX12_count_95 : decode cX12_count 95 = .ok (.ireturn, 1) := by decide +kernel
theorem dX12_count_96 : decode cX12_count 96 = .ok (.aload_n 0, 1) := by decide +kernel
theorem dX12_count_97 : decode cX12_count 97 = .ok (.getfield 13, 3) := by decide +kernel
theorem dX12_count_100 : decode cX12_count 100 = .ok (.iconst 5, 1) := by decide +kernel
theorem dX12_count_101 : decode cX12_count 101 = .ok (.iaload, 1) := by decide +kernel
theorem dX12_count_102 : decode cX12_count 102 = .ok (.ireturn, 1) := by decide +kernel
theorem dX12_count_103 : decode cX12_count 103 = .ok (.aload_n 0, 1) := by decide +kernel
theorem dX12_count_104 : decode cX12_count 104 = .ok (.getfield 13, 3) := by decide +kernel
theorem dX12_count_107 : decode cX12_count 107 = .ok (.bipush 6, 2) := by decide +kernel
theorem dX12_count_109 : decode cX12_count 109 = .ok (.iaload, 1) := by decide +kernel
theorem dX12_count_110 : decode cX12_count 110 = .ok (.ireturn, 1) := by decide +kernel
theorem dX12_count_111 : decode cX12_count 111 = .ok (.aload_n 0, 1) := by decide +kernel
theorem dX12_count_112 : decode cX12_count 112 = .ok (.getfield 162, 3) := by decide +kernel
theorem dX12_count_115 : decode cX12_count 115 = .ok (.ireturn, 1) := by decide +kernel
theorem dX12_count_116 : decode cX12_count 116 = .ok (.aload_n 0, 1) := by decide +kernel
theorem dX12_count_117 : decode cX12_count 117 = .ok (.getfield 7, 3) := by decide +kernel
theorem dX12_count_120 : decode cX12_count 120 = .ok (.iconst 1, 1) := by decide +kernel
theorem dX12_count_121 : decode cX12_count 121 = .ok (.iaload, 1) := by decide +kernel
theorem dX12_count_122 : decode cX12_count 122 = .ok (.ireturn, 1) := by decide +kernel
theorem dX12_count_123 : decode cX12_count 123 = .ok (.aload_n 0, 1) := by decide +kernel
theorem dX12_count_124 : decode cX12_count 124 = .ok (.getfield 7, 3) := by decide +kernel
theorem dX12_count_127 : decode cX12_count 127 = .ok (.iconst 2, 1) := by decide +kernel
theorem dX12_count_128 : decode cX12_count 128 = .ok (.iaload, 1) := by decide +kernel
theorem dX12_count_129 : decode cX12_count 129 = .ok (.ireturn, 1) := by decide +kernel
theorem dX12_count_130 : decode cX12_count 130 = .ok (.aload_n 0, 1) := by decide +kernel
theorem dX12_count_131 : decode cX12_count 131 = .ok (.getfield 7, 3) := by decide +kernel
theorem dX12_count_134 : decode cX12_count 134 = .ok (.iconst 5, 1) := by decide +kernel
theorem dX12_count_135 : decode cX12_count 135 = .ok (.iaload, 1) := by decide +kernel
theorem dX12_count_136 : decode cX12_count 136 = .ok (.ireturn, 1) := by decide +kernel
theorem dX12_count_137 : decode cX12_count 137 = .ok (.aload_n 0, 1) := by decide +kernel
theorem dX12_count_138 : decode cX12_count 138 = .ok (.getfield 7, 3) := by decide +kernel
theorem dX12_count_141 : decode cX12_count 141 = .ok (.bipush 6, 2) := by decide +kernel
theorem dX12_count_143 : decode cX12_count 143 = .ok (.iaload, 1) := by decide +kernel
theorem dX12_count_144 : decode cX12_count 144 = .ok (.ireturn, 1) := by decide +kernel
theorem dX12_count_145 : decode cX12_count 145 = .ok (.aload_n 0, 1) := by decide +kernel
theorem dX12_count_146 : decode cX12_count 146 = .ok (.getfield 13, 3) := by decide +kernel
theorem dX12_count_149 : decode cX12_count 149 = .ok (.iconst 2, 1) := by decide +kernel
theorem dX12_count_150 : decode cX12_count 150 = .ok (.iaload, 1) := by decide +kernel
theorem dX12_count_151 : decode cX12_count 151 = .ok (.ireturn, 1) := by decide +kernel
theorem dX12_count_152 : decode cX12_count 152 = .ok (.iload_n 1, 1) := by decide +kernel
theorem dX12_count_153 : decode cX12_count 153 = .ok (.i2l, 1) := by decide +kernel
theorem dX12_count_154 : decode cX12_count 154 = .ok (.ldc2_w 470, 3) := by decide +kernel
theorem dX12_count_157 : decode cX12_count 157 = .ok (.ldc2_w 472, 3) := by decide +kernel
theorem dX12_count_160 : decode cX12_count 160 = .ok (.invokestatic 117, 3) := by decide +kernel
theorem dX12_count_163 : decode cX12_count 163 = .ok (.ifCond .eq 18, 3) := by decide +kernel
theorem dX12_count_166 : decode cX12_count 166 = .ok (.aload_n 0, 1) := by decide +kernel
theorem dX12_count_167 : decode cX12_count 167 = .ok (.getfield 13, 3) := by decide +kernel
theorem dX12_count_170 : decode cX12_count 170 = .ok (.bipush 7, 2) := by decide +kernel
theorem dX12_count_172 : decode cX12_count 172 = .ok (.iload_n 1, 1) := by decide +kernel
theorem dX12_count_173 : decode cX12_count 173 = .ok (.iadd, 1) := by decide +kernel
theorem dX12_count_174 : decode cX12_count 174 = .ok (.bipush 12, 2) := by decide +kernel
theorem dX12_count_176 : decode cX12_count 176 = .ok (.isub, 1) := by decide +kernel
theorem dX12_count_177 : decode cX12_count 177 = .ok (.iaload, 1) := by decide +kernel
theorem dX12_count_178 : decode cX12_count 178 = .ok (.goto 4, 3) := by decide +kernel
theorem dX12_count_181 : decode cX12_count 181 = .ok (.iconst (-1), 1) := by decide +kernel
theorem dX12_count_182 : decode cX12_count 182 = .ok (.ireturn, 1) := by decide +kernel
set_option maxHeartbeats 4000000 in
set_option maxRecDepth 100000 in
theorem c_X12_count (l : Launch) (D : va_G) (K : Nat → ClassId) (ad : Nat → Nat) (rest : va_W) (a1 : Int32) (σ : xS) (z : Int32 × xS) (hF : F_X12_count a1 σ = some z) : CI l D K yX12_count cX12_count 2 (some .int) 1 25 [.ref (ad 0), .int a1] (RW K ad rest σ) z.1 (RW K ad rest z.2) := by
  refine x_enterI [(0, .ref (ad 0)), (1, .int a1)] pnX12 (Nat.le_of_ble_eq_true rfl) rfl ?_
  intro p e s m args below meth c A C
  unfold F_X12_count at hF
  refine x_aload_n C 0 0 dX12_count_0 rfl rfl ?_
  refine x_iconst C 0 dX12_count_1 (by decide +kernel) ?_
  refine x_put C 0 dX12_count_2 fl_X12_107 fm_X12_0 rfl rfl (RW_o K ad rest σ) (Nat.le_of_ble_eq_true rfl) (RW_s0 K ad rest σ _) ?_
  refine x_st (wf := RW K ad rest) hF (fun σ1 hF => ?_)
  refine x_iload_n C 1 1 dX12_count_5 rfl rfl ?_
  by_cases h3 : a1 = 0
  · rw [if_pos h3] at hF
    refine x_tabIn C 68 dX12_count_6 (by rw [h3]; decide +kernel) (by rw [h3]; decide +kernel) (by rw [h3]; rfl) (by decide) ?_
    refine x_aload_n C 0 0 dX12_count_68 rfl rfl ?_
    refine x_get C 0 dX12_count_69 fl_X12_13 (RW_o K ad rest σ1) rfl ?_
    refine x_iconst C 0 dX12_count_72 (by decide +kernel) ?_
    refine x_iald C 2 dX12_count_73 (RW_a3 K ad rest σ1) hF (fun v2 hF => ?_)
    exact x_iret C dX12_count_74 rfl (congrArg Prod.fst (Option.some.inj hF)) (congrArg (fun q9 : Int32 × xS => RW K ad rest q9.2) (Option.some.inj hF))
  · rw [if_neg h3] at hF
    by_cases h5 : a1 = 1
    · rw [if_pos h5] at hF
      refine x_tabIn C 75 dX12_count_6 (by rw [h5]; decide +kernel) (by rw [h5]; decide +kernel) (by rw [h5]; rfl) (by decide) ?_
      refine x_aload_n C 0 0 dX12_count_75 rfl rfl ?_
      refine x_get C 0 dX12_count_76 fl_X12_13 (RW_o K ad rest σ1) rfl ?_
      refine x_iconst C 1 dX12_count_79 (by decide +kernel) ?_
      refine x_iald C 2 dX12_count_80 (RW_a3 K ad rest σ1) hF (fun v4 hF => ?_)
      exact x_iret C dX12_count_81 rfl (congrArg Prod.fst (Option.some.inj hF)) (congrArg (fun q9 : Int32 × xS => RW K ad rest q9.2) (Option.some.inj hF))
    · rw [if_neg h5] at hF
      by_cases h7 : a1 = 2
      · rw [if_pos h7] at hF
        refine x_tabIn C 82 dX12_count_6 (by rw [h7]; decide +kernel) (by rw [h7]; decide +kernel) (by rw [h7]; rfl) (by decide) ?_
        refine x_aload_n C 0 0 dX12_count_82 rfl rfl ?_
        refine x_get C 0 dX12_count_83 fl_X12_13 (RW_o K ad rest σ1) rfl ?_
        refine x_iconst C 3 dX12_count_86 (by decide +kernel) ?_
        refine x_iald C 2 dX12_count_87 (RW_a3 K ad rest σ1) hF (fun v6 hF => ?_)
        exact x_iret C dX12_count_88 rfl (congrArg Prod.fst (Option.some.inj hF)) (congrArg (fun q9 : Int32 × xS => RW K ad rest q9.2) (Option.some.inj hF))
      · rw [if_neg h7] at hF
        by_cases h9 : a1 = 3
        · rw [if_pos h9] at hF
          refine x_tabIn C 89 dX12_count_6 (by rw [h9]; decide +kernel) (by rw [h9]; decide +kernel) (by rw [h9]; rfl) (by decide) ?_
          refine x_aload_n C 0 0 dX12_count_89 rfl rfl ?_
          refine x_get C 0 dX12_count_90 fl_X12_13 (RW_o K ad rest σ1) rfl ?_
          refine x_iconst C 4 dX12_count_93 (by decide +kernel) ?_
          refine x_iald C 2 dX12_count_94 (RW_a3 K ad rest σ1) hF (fun v8 hF => ?_)
          exact x_iret C dX12_count_95 rfl (congrArg Prod.fst (Option.some.inj hF)) (congrArg (fun q9 : Int32 × xS => RW K ad rest q9.2) (Option.some.inj hF))
        · rw [if_neg h9] at hF
          by_cases h11 : a1 = 4
          · rw [if_pos h11] at hF
            refine x_tabIn C 96 dX12_count_6 (by rw [h11]; decide +kernel) (by rw [h11]; decide +kernel) (by rw [h11]; rfl) (by decide) ?_
            refine x_aload_n C 0 0 dX12_count_96 rfl rfl ?_
            refine x_get C 0 dX12_count_97 fl_X12_13 (RW_o K ad rest σ1) rfl ?_
            refine x_iconst C 5 dX12_count_100 (by decide +kernel) ?_
            refine x_iald C 2 dX12_count_101 (RW_a3 K ad rest σ1) hF (fun v10 hF => ?_)
            exact x_iret C dX12_count_102 rfl (congrArg Prod.fst (Option.some.inj hF)) (congrArg (fun q9 : Int32 × xS => RW K ad rest q9.2) (Option.some.inj hF))
          · rw [if_neg h11] at hF
            by_cases h13 : a1 = 5
            · rw [if_pos h13] at hF
              refine x_tabIn C 103 dX12_count_6 (by rw [h13]; decide +kernel) (by rw [h13]; decide +kernel) (by rw [h13]; rfl) (by decide) ?_
              refine x_aload_n C 0 0 dX12_count_103 rfl rfl ?_
              refine x_get C 0 dX12_count_104 fl_X12_13 (RW_o K ad rest σ1) rfl ?_
              refine x_bipush C 6 dX12_count_107 (by decide +kernel) ?_
              refine x_iald C 2 dX12_count_109 (RW_a3 K ad rest σ1) hF (fun v12 hF => ?_)
              exact x_iret C dX12_count_110 rfl (congrArg Prod.fst (Option.some.inj hF)) (congrArg (fun q9 : Int32 × xS => RW K ad rest q9.2) (Option.some.inj hF))
            · rw [if_neg h13] at hF
              by_cases h14 : a1 = 6
              · rw [if_pos h14] at hF
                refine x_tabIn C 111 dX12_count_6 (by rw [h14]; decide +kernel) (by rw [h14]; decide +kernel) (by rw [h14]; rfl) (by decide) ?_
                refine x_aload_n C 0 0 dX12_count_111 rfl rfl ?_
                refine x_get C 0 dX12_count_112 fl_X12_162 (RW_o K ad rest σ1) rfl ?_
                exact x_iret C dX12_count_115 rfl (congrArg Prod.fst (Option.some.inj hF)) (congrArg (fun q9 : Int32 × xS => RW K ad rest q9.2) (Option.some.inj hF))
              · rw [if_neg h14] at hF
                by_cases h16 : a1 = 7
                · rw [if_pos h16] at hF
                  refine x_tabIn C 116 dX12_count_6 (by rw [h16]; decide +kernel) (by rw [h16]; decide +kernel) (by rw [h16]; rfl) (by decide) ?_
                  refine x_aload_n C 0 0 dX12_count_116 rfl rfl ?_
                  refine x_get C 0 dX12_count_117 fl_X12_7 (RW_o K ad rest σ1) rfl ?_
                  refine x_iconst C 1 dX12_count_120 (by decide +kernel) ?_
                  refine x_iald C 1 dX12_count_121 (RW_a2 K ad rest σ1) hF (fun v15 hF => ?_)
                  exact x_iret C dX12_count_122 rfl (congrArg Prod.fst (Option.some.inj hF)) (congrArg (fun q9 : Int32 × xS => RW K ad rest q9.2) (Option.some.inj hF))
                · rw [if_neg h16] at hF
                  by_cases h18 : a1 = 8
                  · rw [if_pos h18] at hF
                    refine x_tabIn C 123 dX12_count_6 (by rw [h18]; decide +kernel) (by rw [h18]; decide +kernel) (by rw [h18]; rfl) (by decide) ?_
                    refine x_aload_n C 0 0 dX12_count_123 rfl rfl ?_
                    refine x_get C 0 dX12_count_124 fl_X12_7 (RW_o K ad rest σ1) rfl ?_
                    refine x_iconst C 2 dX12_count_127 (by decide +kernel) ?_
                    refine x_iald C 1 dX12_count_128 (RW_a2 K ad rest σ1) hF (fun v17 hF => ?_)
                    exact x_iret C dX12_count_129 rfl (congrArg Prod.fst (Option.some.inj hF)) (congrArg (fun q9 : Int32 × xS => RW K ad rest q9.2) (Option.some.inj hF))
                  · rw [if_neg h18] at hF
                    by_cases h20 : a1 = 9
                    · rw [if_pos h20] at hF
                      refine x_tabIn C 130 dX12_count_6 (by rw [h20]; decide +kernel) (by rw [h20]; decide +kernel) (by rw [h20]; rfl) (by decide) ?_
                      refine x_aload_n C 0 0 dX12_count_130 rfl rfl ?_
                      refine x_get C 0 dX12_count_131 fl_X12_7 (RW_o K ad rest σ1) rfl ?_
                      refine x_iconst C 5 dX12_count_134 (by decide +kernel) ?_
                      refine x_iald C 1 dX12_count_135 (RW_a2 K ad rest σ1) hF (fun v19 hF => ?_)
                      exact x_iret C dX12_count_136 rfl (congrArg Prod.fst (Option.some.inj hF)) (congrArg (fun q9 : Int32 × xS => RW K ad rest q9.2) (Option.some.inj hF))
                    · rw [if_neg h20] at hF
                      by_cases h22 : a1 = 10
                      · rw [if_pos h22] at hF
                        refine x_tabIn C 137 dX12_count_6 (by rw [h22]; decide +kernel) (by rw [h22]; decide +kernel) (by rw [h22]; rfl) (by decide) ?_
                        refine x_aload_n C 0 0 dX12_count_137 rfl rfl ?_
                        refine x_get C 0 dX12_count_138 fl_X12_7 (RW_o K ad rest σ1) rfl ?_
                        refine x_bipush C 6 dX12_count_141 (by decide +kernel) ?_
                        refine x_iald C 1 dX12_count_143 (RW_a2 K ad rest σ1) hF (fun v21 hF => ?_)
                        exact x_iret C dX12_count_144 rfl (congrArg Prod.fst (Option.some.inj hF)) (congrArg (fun q9 : Int32 × xS => RW K ad rest q9.2) (Option.some.inj hF))
                      · rw [if_neg h22] at hF
                        by_cases h24 : a1 = 11
                        · rw [if_pos h24] at hF
                          refine x_tabIn C 145 dX12_count_6 (by rw [h24]; decide +kernel) (by rw [h24]; decide +kernel) (by rw [h24]; rfl) (by decide) ?_
                          refine x_aload_n C 0 0 dX12_count_145 rfl rfl ?_
                          refine x_get C 0 dX12_count_146 fl_X12_13 (RW_o K ad rest σ1) rfl ?_
                          refine x_iconst C 2 dX12_count_149 (by decide +kernel) ?_
                          refine x_iald C 2 dX12_count_150 (RW_a3 K ad rest σ1) hF (fun v23 hF => ?_)
                          exact x_iret C dX12_count_151 rfl (congrArg Prod.fst (Option.some.inj hF)) (congrArg (fun q9 : Int32 × xS => RW K ad rest q9.2) (Option.some.inj hF))
                        · rw [if_neg h24] at hF
                          refine x_tabOut C 152 dX12_count_6 (by have e_h3 : a1.toInt ≠ 0 := x_neT h3; have e_h5 : a1.toInt ≠ 1 := x_neT h5; have e_h7 : a1.toInt ≠ 2 := x_neT h7; have e_h9 : a1.toInt ≠ 3 := x_neT h9; have e_h11 : a1.toInt ≠ 4 := x_neT h11; have e_h13 : a1.toInt ≠ 5 := x_neT h13; have e_h14 : a1.toInt ≠ 6 := x_neT h14; have e_h16 : a1.toInt ≠ 7 := x_neT h16; have e_h18 : a1.toInt ≠ 8 := x_neT h18; have e_h20 : a1.toInt ≠ 9 := x_neT h20; have e_h22 : a1.toInt ≠ 10 := x_neT h22; have e_h24 : a1.toInt ≠ 11 := x_neT h24; omega) (by decide) ?_
                          refine x_iload_n C 1 1 dX12_count_152 rfl rfl ?_
                          refine x_i2l C dX12_count_153 ?_
                          refine x_ldc2 C 12 dX12_count_154 cl_X12_470 ?_
                          refine x_ldc2 C 17 dX12_count_157 cl_X12_472 ?_
                          refine x_callSI C (wf := RW K ad rest) (As := [.long (a1.toInt64), .long 12, .long 17]) (rest := []) dX12_count_160 ml_X12_117 rfl rfl (Nat.le_of_ble_eq_true rfl) ⟨Nat.le_of_ble_eq_true rfl, Nat.le_of_ble_eq_true rfl⟩ ⟨Nat.zero_le _, Nat.zero_le _⟩ (fun q9 hq9 => c_X12_in l D K ad rest (a1.toInt64) 12 17 σ1 q9 hq9) hF (fun v26 σ25 hF => ?_)
                          refine x_if_eq C 181 dX12_count_163 (by decide) hF (fun hF => ?_) (fun hF => ?_)
                          · refine x_iconst C (-1) dX12_count_181 (by decide +kernel) ?_
                            exact x_iret C dX12_count_182 rfl (congrArg Prod.fst (Option.some.inj hF)) (congrArg (fun q9 : Int32 × xS => RW K ad rest q9.2) (Option.some.inj hF))
                          · refine x_aload_n C 0 0 dX12_count_166 rfl rfl ?_
                            refine x_get C 0 dX12_count_167 fl_X12_13 (RW_o K ad rest σ25) rfl ?_
                            refine x_bipush C 7 dX12_count_170 (by decide +kernel) ?_
                            refine x_iload_n C 1 1 dX12_count_172 rfl rfl ?_
                            refine x_iadd C dX12_count_173 ?_
                            refine x_bipush C 12 dX12_count_174 (by decide +kernel) ?_
                            refine x_isub C dX12_count_176 ?_
                            refine x_iald C 2 dX12_count_177 (RW_a3 K ad rest σ25) hF (fun v27 hF => ?_)
                            refine x_goto C 182 dX12_count_178 (by decide) ?_
                            exact x_iret C dX12_count_182 rfl (congrArg Prod.fst (Option.some.inj hF)) (congrArg (fun q9 : Int32 × xS => RW K ad rest q9.2) (Option.some.inj hF))
theorem dX12_status_0 : decode cX12_status 0 = .ok (.aload_n 0, 1) := by decide +kernel
theorem dX12_status_1 : decode cX12_status 1 = .ok (.iconst 0, 1) := by decide +kernel
theorem dX12_status_2 : decode cX12_status 2 = .ok (.putfield 107, 3) := by decide +kernel
theorem dX12_status_5 : decode cX12_status 5 = .ok (.aload_n 0, 1) := by decide +kernel
theorem dX12_status_6 : decode cX12_status 6 = .ok (.getfield 110, 3) := by decide +kernel
theorem dX12_status_9 : decode cX12_status 9 = .ok (.ireturn, 1) := by decide +kernel
set_option maxHeartbeats 4000000 in
set_option maxRecDepth 100000 in
theorem c_X12_status (l : Launch) (D : va_G) (K : Nat → ClassId) (ad : Nat → Nat) (rest : va_W)  (σ : xS) (z : Int32 × xS) (hF : F_X12_status σ = some z) : CI l D K yX12_status cX12_status 1 (some .int) 0 0 [.ref (ad 0)] (RW K ad rest σ) z.1 (RW K ad rest z.2) := by
  refine x_enterI [(0, .ref (ad 0))] pnX12 (Nat.le_of_ble_eq_true rfl) rfl ?_
  intro p e s m args below meth c A C
  unfold F_X12_status at hF
  refine x_aload_n C 0 0 dX12_status_0 rfl rfl ?_
  refine x_iconst C 0 dX12_status_1 (by decide +kernel) ?_
  refine x_put C 0 dX12_status_2 fl_X12_107 fm_X12_0 rfl rfl (RW_o K ad rest σ) (Nat.le_of_ble_eq_true rfl) (RW_s0 K ad rest σ _) ?_
  refine x_st (wf := RW K ad rest) hF (fun σ1 hF => ?_)
  refine x_aload_n C 0 0 dX12_status_5 rfl rfl ?_
  refine x_get C 0 dX12_status_6 fl_X12_110 (RW_o K ad rest σ1) rfl ?_
  exact x_iret C dX12_status_9 rfl (congrArg Prod.fst (Option.some.inj hF)) (congrArg (fun q9 : Int32 × xS => RW K ad rest q9.2) (Option.some.inj hF))
