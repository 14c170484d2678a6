theorem dX11_unbox_0 : decode cX11_unbox 0 = .ok (.aload_n 0, 1) := by decide +kernel
theorem dX11_unbox_1 : decode cX11_unbox 1 = .ok (.aload_n 0, 1) := by decide +kernel
theorem dX11_unbox_2 : decode cX11_unbox 2 = .ok (.getfield 10, 3) := by decide +kernel
theorem dX11_unbox_5 : decode cX11_unbox 5 = .ok (.getfield 203, 3) := by decide +kernel
theorem dX11_unbox_8 : decode cX11_unbox 8 = .ok (.iload_n 1, 1) := by decide +kernel
theorem dX11_unbox_9 : decode cX11_unbox 9 = .ok (.invokevirtual 130, 3) := by decide +kernel
theorem dX11_unbox_12 : decode cX11_unbox 12 = .ok (.ireturn, 1) := by decide +kernel
set_option maxHeartbeats 4000000 in
set_option maxRecDepth 100000 in
theorem c_X11_unbox (l : Launch) (D : va_G) (K : Nat → ClassId) (ad la : Nat → Nat) (rest : va_W)  (a1 : Int32) (σ : xS) (z : Int32 × xS) (hF : F_X11_unbox a1 σ = some z) : CI l D K yX11_unbox cX11_unbox 2 (some .int) 3 73 [.ref (ad 0), .int a1] (CW K ad la rest σ) z.1 (CW K ad la rest z.2) := by
  refine x_enterI [(0, .ref (ad 0)), (1, .int a1)] pnX11 (Nat.le_of_ble_eq_true rfl) rfl ?_
  intro p e s m args below meth c A C
  unfold F_X11_unbox at hF
  refine x_aload_n C 0 0 dX11_unbox_0 rfl rfl ?_
  refine x_aload_n C 0 0 dX11_unbox_1 rfl rfl ?_
  refine x_get C 0 dX11_unbox_2 fl_X11_10 (CW_0 K ad la rest σ) rfl ?_
  refine x_get C 5 dX11_unbox_5 fl_X11_203 (CW_5 K ad la rest σ) rfl ?_
  refine x_iload_n C 1 1 dX11_unbox_8 rfl rfl ?_
  refine x_callVI C (wf := CW K ad la rest) (As := [.ref (ad 10), .int a1]) (rest := []) dX11_unbox_9 ml_X11_130 rfl rfl (Nat.le_of_ble_eq_true rfl) 0 (CW_0 K ad la rest σ) rfl ⟨Nat.le_of_ble_eq_true rfl, Nat.le_of_ble_eq_true rfl⟩ ⟨Nat.zero_le _, Nat.zero_le _⟩ (fun q9 hq9 => c_X11_removed l D K ad la rest 1 (by decide) a1 σ q9 hq9) hF (fun v2 σ1 hF => ?_)
  exact x_iret C dX11_unbox_12 rfl (congrArg Prod.fst (Option.some.inj hF)) (congrArg (fun q9 : Int32 × xS => CW K ad la rest q9.2) (Option.some.inj hF))
theorem dX11_waysToChoose_0 : decode cX11_waysToChoose 0 = .ok (.iload_n 1, 1) := by decide +kernel
theorem dX11_waysToChoose_1 : decode cX11_waysToChoose 1 = .ok (.iconst 0, 1) := by decide +kernel
theorem dX11_waysToChoose_2 : decode cX11_waysToChoose 2 = .ok (.iload_n 0, 1) := by decide +kernel
theorem dX11_waysToChoose_3 : decode cX11_waysToChoose 3 = .ok (.invokestatic 105, 3) := by decide +kernel
theorem dX11_waysToChoose_6 : decode cX11_waysToChoose 6 = .ok (.ifCond .ne 5, 3) := by decide +kernel
theorem dX11_waysToChoose_9 : decode cX11_waysToChoose 9 = .ok (.lconst 0, 1) := by decide +kernel
theorem dX11_waysToChoose_10 : decode cX11_waysToChoose 10 = .ok (.lreturn, 1) := by decide +kernel
theorem dX11_waysToChoose_11 : decode cX11_waysToChoose 11 = .ok (.lconst 1, 1) := by decide +kernel
theorem dX11_waysToChoose_12 : decode cX11_waysToChoose 12 = .ok (.lstore_n 2, 1) := by decide +kernel
theorem dX11_waysToChoose_13 : decode cX11_waysToChoose 13 = .ok (.iconst 1, 1) := by decide +kernel
theorem dX11_waysToChoose_14 : decode cX11_waysToChoose 14 = .ok (.istore 4, 2) := by decide +kernel
theorem dX11_waysToChoose_16 : decode cX11_waysToChoose 16 = .ok (.iload 4, 2) := by decide +kernel
theorem dX11_waysToChoose_18 : decode cX11_waysToChoose 18 = .ok (.iload_n 1, 1) := by decide +kernel
theorem dX11_waysToChoose_19 : decode cX11_waysToChoose 19 = .ok (.if_icmp .gt 23, 3) := by decide +kernel
theorem dX11_waysToChoose_22 : decode cX11_waysToChoose 22 = .ok (.lload_n 2, 1) := by decide +kernel
theorem dX11_waysToChoose_23 : decode cX11_waysToChoose 23 = .ok (.iload_n 0, 1) := by decide +kernel
theorem dX11_waysToChoose_24 : decode cX11_waysToChoose 24 = .ok (.iload_n 1, 1) := by decide +kernel
theorem dX11_waysToChoose_25 : decode cX11_waysToChoose 25 = .ok (.isub, 1) := by decide +kernel
theorem dX11_waysToChoose_26 : decode cX11_waysToChoose 26 = .ok (.iload 4, 2) := by decide +kernel
theorem dX11_waysToChoose_28 : decode cX11_waysToChoose 28 = .ok (.iadd, 1) := by decide +kernel
theorem dX11_waysToChoose_29 : decode cX11_waysToChoose 29 = .ok (.i2l, 1) := by decide +kernel
theorem dX11_waysToChoose_30 : decode cX11_waysToChoose 30 = .ok (.lmul, 1) := by decide +kernel
theorem dX11_waysToChoose_31 : decode cX11_waysToChoose 31 = .ok (.iload 4, 2) := by decide +kernel
theorem dX11_waysToChoose_33 : decode cX11_waysToChoose 33 = .ok (.i2l, 1) := by decide +kernel
theorem dX11_waysToChoose_34 : decode cX11_waysToChoose 34 = .ok (.ldiv, 1) := by decide +kernel
theorem dX11_waysToChoose_35 : decode cX11_waysToChoose 35 = .ok (.lstore_n 2, 1) := by decide +kernel
theorem dX11_waysToChoose_36 : decode cX11_waysToChoose 36 = .ok (.iinc 4 1, 3) := by decide +kernel
theorem dX11_waysToChoose_39 : decode cX11_waysToChoose 39 = .ok (.goto (-23), 3) := by decide +kernel
theorem dX11_waysToChoose_42 : decode cX11_waysToChoose 42 = .ok (.lload_n 2, 1) := by decide +kernel
theorem dX11_waysToChoose_43 : decode cX11_waysToChoose 43 = .ok (.lreturn, 1) := by decide +kernel
set_option maxHeartbeats 4000000 in
set_option maxRecDepth 100000 in
theorem x_X11_waysToChoose_16 {p : Program} {l : Launch} {e : Env} {s : State} {m : MethodId} {args : Array Value} {below : List Frame} {meth : Method} {c : Code} {D : va_G} {K : Nat → ClassId} {A : Nat → Prop} {ad la : Nat → Nat} {rest : va_W} (C : xC p s m args meth c D K A RX11 cX11_waysToChoose 5 (some .long)) (z : Int64 × xS) : ∀ (n : Nat) (y0 : Int32) (y1 : Int32) (y2 : Int64) (y4 : Int32) (σ : xS), F_X11_waysToChoose_16  n y0 y1 y2 y4 σ = some z → X p l e (xR 1 22) s m args below meth c D A 5 (xQl below D K A args s z.1 (CW K ad la rest z.2)) 0 0 16 [(0, .int y0), (1, .int y1), (2, .long y2), (4, .int y4)] [] (CW K ad la rest σ) := by
  intro n
  induction n with
  | zero =>
    intro y0 y1 y2 y4 σ hF
    cases hF
  | succ n ih =>
    intro y0 y1 y2 y4 σ hF
    rw [F_X11_waysToChoose_16] at hF
    refine x_iload C 3 4 dX11_waysToChoose_16 rfl ?_
    refine x_iload_n C 1 1 dX11_waysToChoose_18 rfl rfl ?_
    refine x_icmp_gt C 42 dX11_waysToChoose_19 (by decide) hF (fun hF => ?_) (fun hF => ?_)
    · refine x_lload_n C 2 2 dX11_waysToChoose_42 rfl rfl ?_
      exact x_lret C dX11_waysToChoose_43 rfl (congrArg Prod.fst (Option.some.inj hF)) (congrArg (fun q9 : Int64 × xS => CW K ad la rest q9.2) (Option.some.inj hF))
    · refine x_lload_n C 2 2 dX11_waysToChoose_22 rfl rfl ?_
      refine x_iload_n C 0 0 dX11_waysToChoose_23 rfl rfl ?_
      refine x_iload_n C 1 1 dX11_waysToChoose_24 rfl rfl ?_
      refine x_isub C dX11_waysToChoose_25 ?_
      refine x_iload C 3 4 dX11_waysToChoose_26 rfl ?_
      refine x_iadd C dX11_waysToChoose_28 ?_
      refine x_i2l C dX11_waysToChoose_29 ?_
      refine x_lmul C dX11_waysToChoose_30 ?_
      refine x_iload C 3 4 dX11_waysToChoose_31 rfl ?_
      refine x_i2l C dX11_waysToChoose_33 ?_
      refine x_ldiv C dX11_waysToChoose_34 hF (fun hF => ?_)
      refine x_topL hF (fun x5 hF => ?_)
      refine x_lstore_n C [(2, .long x5), (0, .int y0), (1, .int y1), (4, .int y4)] dX11_waysToChoose_35 rfl (by decide) rfl ?_
      refine x_iincN C 1 3 (fun x6 => [(4, .int x6), (2, .long x5), (0, .int y0), (1, .int y1)]) dX11_waysToChoose_36 rfl (by decide +kernel) (by decide) (fun _ => rfl) hF (fun x6 hF => ?_)
      refine x_goto C 16 dX11_waysToChoose_39 (by decide) ?_
      refine x_loc [(0, .int y0), (1, .int y1), (2, .long x5), (4, .int x6)] [2, 3, 1, 0] rfl ?_
      exact ih y0 y1 x5 x6 σ hF
set_option maxHeartbeats 4000000 in
set_option maxRecDepth 100000 in
theorem c_X11_waysToChoose (l : Launch) (D : va_G) (K : Nat → ClassId) (ad la : Nat → Nat) (rest : va_W)  (a1 : Int32) (a2 : Int32) (σ : xS) (z : Int64 × xS) (hF : F_X11_waysToChoose a1 a2 σ = some z) : CL l D K yX11_waysToChoose cX11_waysToChoose 5 (some .long) 1 22 [.int a1, .int a2] (CW K ad la rest σ) z.1 (CW K ad la rest z.2) := by
  refine x_enterL [(0, .int a1), (1, .int a2)] pnX11 (Nat.le_of_ble_eq_true rfl) rfl ?_
  intro p e s m args below meth c A C
  unfold F_X11_waysToChoose at hF
  refine x_iload_n C 1 1 dX11_waysToChoose_0 rfl rfl ?_
  refine x_iconst C 0 dX11_waysToChoose_1 (by decide +kernel) ?_
  refine x_iload_n C 0 0 dX11_waysToChoose_2 rfl rfl ?_
  refine x_callSI C (wf := CW K ad la rest) (As := [.int a2, .int 0, .int a1]) (rest := []) dX11_waysToChoose_3 ml_X11_105 rfl rfl (Nat.le_of_ble_eq_true rfl) ⟨Nat.le_of_ble_eq_true rfl, Nat.le_of_ble_eq_true rfl⟩ ⟨Nat.zero_le _, Nat.zero_le _⟩ (fun q9 hq9 => c_X11_isWithin l D K ad la rest a2 0 a1 σ q9 hq9) hF (fun v2 σ1 hF => ?_)
  refine x_if_ne C 11 dX11_waysToChoose_6 (by decide) hF (fun hF => ?_) (fun hF => ?_)
  · refine x_lconst C 1 dX11_waysToChoose_11 (by decide +kernel) ?_
    refine x_topL hF (fun x3 hF => ?_)
    refine x_lstore_n C [(2, .long x3), (0, .int a1), (1, .int a2)] dX11_waysToChoose_12 rfl (by decide) rfl ?_
    refine x_iconst C 1 dX11_waysToChoose_13 (by decide +kernel) ?_
    refine x_topI hF (fun x4 hF => ?_)
    refine x_istore C [(4, .int x4), (2, .long x3), (0, .int a1), (1, .int a2)] dX11_waysToChoose_14 (by decide) rfl ?_
    refine x_loc [(0, .int a1), (1, .int a2), (2, .long x3), (4, .int x4)] [2, 3, 1, 0] rfl ?_
    exact x_X11_waysToChoose_16 C z FU a1 a2 x3 x4 σ1 hF
  · refine x_lconst C 0 dX11_waysToChoose_9 (by decide +kernel) ?_
    exact x_lret C dX11_waysToChoose_10 rfl (congrArg Prod.fst (Option.some.inj hF)) (congrArg (fun q9 : Int64 × xS => CW K ad la rest q9.2) (Option.some.inj hF))
theorem dX11_waysToShow_0 : decode cX11_waysToShow 0 = .ok (.aload_n 0, 1) := by decide +kernel
theorem dX11_waysToShow_1 : decode cX11_waysToShow 1 = .ok (.getfield 10, 3) := by decide +kernel
theorem dX11_waysToShow_4 : decode cX11_waysToShow 4 = .ok (.getfield 203, 3) := by decide +kernel
theorem dX11_waysToShow_7 : decode cX11_waysToShow 7 = .ok (.iload_n 1, 1) := by decide +kernel
theorem dX11_waysToShow_8 : decode cX11_waysToShow 8 = .ok (.iconst 0, 1) := by decide +kernel
theorem dX11_waysToShow_9 : decode cX11_waysToShow 9 = .ok (.invokevirtual 122, 3) := by decide +kernel
theorem dX11_waysToShow_12 : decode cX11_waysToShow 12 = .ok (.iload_n 2, 1) := by decide +kernel
theorem dX11_waysToShow_13 : decode cX11_waysToShow 13 = .ok (.if_icmp .ne 22, 3) := by decide +kernel
theorem dX11_waysToShow_16 : decode cX11_waysToShow 16 = .ok (.iload_n 3, 1) := by decide +kernel
theorem dX11_waysToShow_17 : decode cX11_waysToShow 17 = .ok (.iconst 0, 1) := by decide +kernel
theorem dX11_waysToShow_18 : decode cX11_waysToShow 18 = .ok (.iload_n 2, 1) := by decide +kernel
theorem dX11_waysToShow_19 : decode cX11_waysToShow 19 = .ok (.invokestatic 105, 3) := by decide +kernel
theorem dX11_waysToShow_22 : decode cX11_waysToShow 22 = .ok (.ifCond .eq 13, 3) := by decide +kernel
theorem dX11_waysToShow_25 : decode cX11_waysToShow 25 = .ok (.iload 4, 2) := by decide +kernel
theorem dX11_waysToShow_27 : decode cX11_waysToShow 27 = .ok (.iconst 0, 1) := by decide +kernel
theorem dX11_waysToShow_28 : decode cX11_waysToShow 28 = .ok (.iload_n 3, 1) := by decide +kernel
theorem dX11_waysToShow_29 : decode cX11_waysToShow 29 = .ok (.invokestatic 105, 3) := by decide +kernel
theorem dX11_waysToShow_32 : decode cX11_waysToShow 32 = .ok (.ifCond .ne 5, 3) := by decide +kernel
theorem dX11_waysToShow_35 : decode cX11_waysToShow 35 = .ok (.lconst 0, 1) := by decide +kernel
theorem dX11_waysToShow_36 : decode cX11_waysToShow 36 = .ok (.lreturn, 1) := by decide +kernel
theorem dX11_waysToShow_37 : decode cX11_waysToShow 37 = .ok (.aload_n 0, 1) := by decide +kernel
theorem dX11_waysToShow_38 : decode cX11_waysToShow 38 = .ok (.getfield 10, 3) := by decide +kernel
theorem dX11_waysToShow_41 : decode cX11_waysToShow 41 = .ok (.getfield 203, 3) := by decide +kernel
theorem dX11_waysToShow_44 : decode cX11_waysToShow 44 = .ok (.iload_n 1, 1) := by decide +kernel
theorem dX11_waysToShow_45 : decode cX11_waysToShow 45 = .ok (.iconst 1, 1) := by decide +kernel
theorem dX11_waysToShow_46 : decode cX11_waysToShow 46 = .ok (.invokevirtual 122, 3) := by decide +kernel
theorem dX11_waysToShow_49 : decode cX11_waysToShow 49 = .ok (.istore 5, 2) := by decide +kernel
theorem dX11_waysToShow_51 : decode cX11_waysToShow 51 = .ok (.iload 5, 2) := by decide +kernel
theorem dX11_waysToShow_53 : decode cX11_waysToShow 53 = .ok (.iload 4, 2) := by decide +kernel
theorem dX11_waysToShow_55 : decode cX11_waysToShow 55 = .ok (.invokestatic 331, 3) := by decide +kernel
theorem dX11_waysToShow_58 : decode cX11_waysToShow 58 = .ok (.iload_n 2, 1) := by decide +kernel
theorem dX11_waysToShow_59 : decode cX11_waysToShow 59 = .ok (.iload 5, 2) := by decide +kernel
theorem dX11_waysToShow_61 : decode cX11_waysToShow 61 = .ok (.isub, 1) := by decide +kernel
theorem dX11_waysToShow_62 : decode cX11_waysToShow 62 = .ok (.iload_n 3, 1) := by decide +kernel
theorem dX11_waysToShow_63 : decode cX11_waysToShow 63 = .ok (.iload 4, 2) := by decide +kernel
theorem dX11_waysToShow_65 : decode cX11_waysToShow 65 = .ok (.isub, 1) := by decide +kernel
theorem dX11_waysToShow_66 : decode cX11_waysToShow 66 = .ok (.invokestatic 331, 3) := by decide +kernel
theorem dX11_waysToShow_69 : decode cX11_waysToShow 69 = .ok (.lmul, 1) := by decide +kernel
theorem dX11_waysToShow_70 : decode cX11_waysToShow 70 = .ok (.lreturn, 1) := by decide +kernel
set_option maxHeartbeats 4000000 in
set_option maxRecDepth 100000 in
theorem c_X11_waysToShow (l : Launch) (D : va_G) (K : Nat → ClassId) (ad la : Nat → Nat) (rest : va_W)  (a1 : Int32) (a2 : Int32) (a3 : Int32) (a4 : Int32) (σ : xS) (z : Int64 × xS) (hF : F_X11_waysToShow a1 a2 a3 a4 σ = some z) : CL l D K yX11_waysToShow cX11_waysToShow 6 (some .long) 2 46 [.ref (ad 0), .int a1, .int a2, .int a3, .int a4] (CW K ad la rest σ) z.1 (CW K ad la rest z.2) := by
  refine x_enterL [(0, .ref (ad 0)), (1, .int a1), (2, .int a2), (3, .int a3), (4, .int a4)] pnX11 (Nat.le_of_ble_eq_true rfl) rfl ?_
  intro p e s m args below meth c A C
  unfold F_X11_waysToShow at hF
  refine x_aload_n C 0 0 dX11_waysToShow_0 rfl rfl ?_
  refine x_get C 0 dX11_waysToShow_1 fl_X11_10 (CW_0 K ad la rest σ) rfl ?_
  refine x_get C 5 dX11_waysToShow_4 fl_X11_203 (CW_5 K ad la rest σ) rfl ?_
  refine x_iload_n C 1 1 dX11_waysToShow_7 rfl rfl ?_
  refine x_iconst C 0 dX11_waysToShow_8 (by decide +kernel) ?_
  refine x_callVI C (wf := CW K ad la rest) (As := [.int a1, .int 0]) (rest := []) dX11_waysToShow_9 ml_X11_122 rfl rfl (Nat.le_of_ble_eq_true rfl) 10 (CW_10 K ad la rest σ) rfl ⟨Nat.le_of_ble_eq_true rfl, Nat.le_of_ble_eq_true rfl⟩ ⟨Nat.zero_le _, Nat.zero_le _⟩ (fun q9 hq9 => c_X6_get l D K ad la rest 1 (by decide) a1 0 σ q9 hq9) hF (fun v2 σ1 hF => ?_)
  refine x_iload_n C 2 2 dX11_waysToShow_12 rfl rfl ?_
  refine x_icmp_ne C 35 dX11_waysToShow_13 (by decide) hF (fun hF => ?_) (fun hF => ?_)
  · refine x_lconst C 0 dX11_waysToShow_35 (by decide +kernel) ?_
    exact x_lret C dX11_waysToShow_36 rfl (congrArg Prod.fst (Option.some.inj hF)) (congrArg (fun q9 : Int64 × xS => CW K ad la rest q9.2) (Option.some.inj hF))
  · refine x_iload_n C 3 3 dX11_waysToShow_16 rfl rfl ?_
    refine x_iconst C 0 dX11_waysToShow_17 (by decide +kernel) ?_
    refine x_iload_n C 2 2 dX11_waysToShow_18 rfl rfl ?_
    refine x_callSI C (wf := CW K ad la rest) (As := [.int a3, .int 0, .int a2]) (rest := []) dX11_waysToShow_19 ml_X11_105 rfl rfl (Nat.le_of_ble_eq_true rfl) ⟨Nat.le_of_ble_eq_true rfl, Nat.le_of_ble_eq_true rfl⟩ ⟨Nat.zero_le _, Nat.zero_le _⟩ (fun q9 hq9 => c_X11_isWithin l D K ad la rest a3 0 a2 σ1 q9 hq9) hF (fun v4 σ3 hF => ?_)
    refine x_if_eq C 35 dX11_waysToShow_22 (by decide) hF (fun hF => ?_) (fun hF => ?_)
    · refine x_lconst C 0 dX11_waysToShow_35 (by decide +kernel) ?_
      exact x_lret C dX11_waysToShow_36 rfl (congrArg Prod.fst (Option.some.inj hF)) (congrArg (fun q9 : Int64 × xS => CW K ad la rest q9.2) (Option.some.inj hF))
    · refine x_iload C 4 4 dX11_waysToShow_25 rfl ?_
      refine x_iconst C 0 dX11_waysToShow_27 (by decide +kernel) ?_
      refine x_iload_n C 3 3 dX11_waysToShow_28 rfl rfl ?_
      refine x_callSI C (wf := CW K ad la rest) (As := [.int a4, .int 0, .int a3]) (rest := []) dX11_waysToShow_29 ml_X11_105 rfl rfl (Nat.le_of_ble_eq_true rfl) ⟨Nat.le_of_ble_eq_true rfl, Nat.le_of_ble_eq_true rfl⟩ ⟨Nat.zero_le _, Nat.zero_le _⟩ (fun q9 hq9 => c_X11_isWithin l D K ad la rest a4 0 a3 σ3 q9 hq9) hF (fun v6 σ5 hF => ?_)
      refine x_if_ne C 37 dX11_waysToShow_32 (by decide) hF (fun hF => ?_) (fun hF => ?_)
      · refine x_aload_n C 0 0 dX11_waysToShow_37 rfl rfl ?_
        refine x_get C 0 dX11_waysToShow_38 fl_X11_10 (CW_0 K ad la rest σ5) rfl ?_
        refine x_get C 5 dX11_waysToShow_41 fl_X11_203 (CW_5 K ad la rest σ5) rfl ?_
        refine x_iload_n C 1 1 dX11_waysToShow_44 rfl rfl ?_
        refine x_iconst C 1 dX11_waysToShow_45 (by decide +kernel) ?_
        refine x_callVI C (wf := CW K ad la rest) (As := [.int a1, .int 1]) (rest := []) dX11_waysToShow_46 ml_X11_122 rfl rfl (Nat.le_of_ble_eq_true rfl) 10 (CW_10 K ad la rest σ5) rfl ⟨Nat.le_of_ble_eq_true rfl, Nat.le_of_ble_eq_true rfl⟩ ⟨Nat.zero_le _, Nat.zero_le _⟩ (fun q9 hq9 => c_X6_get l D K ad la rest 1 (by decide) a1 1 σ5 q9 hq9) hF (fun v8 σ7 hF => ?_)
        refine x_istore C [(5, .int v8), (0, .ref (ad 0)), (1, .int a1), (2, .int a2), (3, .int a3), (4, .int a4)] dX11_waysToShow_49 (by decide) rfl ?_
        refine x_iload C 0 5 dX11_waysToShow_51 rfl ?_
        refine x_iload C 5 4 dX11_waysToShow_53 rfl ?_
        refine x_callSL C (wf := CW K ad la rest) (As := [.int v8, .int a4]) (rest := []) dX11_waysToShow_55 ml_X11_331 rfl rfl (Nat.le_of_ble_eq_true rfl) ⟨Nat.le_of_ble_eq_true rfl, Nat.le_of_ble_eq_true rfl⟩ ⟨Nat.zero_le _, Nat.zero_le _⟩ (fun q9 hq9 => c_X11_waysToChoose l D K ad la rest v8 a4 σ7 q9 hq9) hF (fun v10 σ9 hF => ?_)
        refine x_iload_n C 3 2 dX11_waysToShow_58 rfl rfl ?_
        refine x_iload C 0 5 dX11_waysToShow_59 rfl ?_
        refine x_isub C dX11_waysToShow_61 ?_
        refine x_iload_n C 4 3 dX11_waysToShow_62 rfl rfl ?_
        refine x_iload C 5 4 dX11_waysToShow_63 rfl ?_
        refine x_isub C dX11_waysToShow_65 ?_
        refine x_callSL C (wf := CW K ad la rest) (As := [.int (a2 - v8), .int (a3 - a4)]) (rest := [.long v10]) dX11_waysToShow_66 ml_X11_331 rfl rfl (Nat.le_of_ble_eq_true rfl) ⟨Nat.le_of_ble_eq_true rfl, Nat.le_of_ble_eq_true rfl⟩ ⟨Nat.zero_le _, Nat.zero_le _⟩ (fun q9 hq9 => c_X11_waysToChoose l D K ad la rest (a2 - v8) (a3 - a4) σ9 q9 hq9) hF (fun v12 σ11 hF => ?_)
        refine x_lmul C dX11_waysToShow_69 ?_
        exact x_lret C dX11_waysToShow_70 rfl (congrArg Prod.fst (Option.some.inj hF)) (congrArg (fun q9 : Int64 × xS => CW K ad la rest q9.2) (Option.some.inj hF))
      · refine x_lconst C 0 dX11_waysToShow_35 (by decide +kernel) ?_
        exact x_lret C dX11_waysToShow_36 rfl (congrArg Prod.fst (Option.some.inj hF)) (congrArg (fun q9 : Int64 × xS => CW K ad la rest q9.2) (Option.some.inj hF))
theorem dX11_lowestTerms_0 : decode cX11_lowestTerms 0 = .ok (.lload_n 2, 1) := by decide +kernel
theorem dX11_lowestTerms_1 : decode cX11_lowestTerms 1 = .ok (.lconst 0, 1) := by decide +kernel
theorem dX11_lowestTerms_2 : decode cX11_lowestTerms 2 = .ok (.lcmp, 1) := by decide +kernel
theorem dX11_lowestTerms_3 : decode cX11_lowestTerms 3 = .ok (.ifCond .gt 7, 3) := by decide +kernel
theorem dX11_lowestTerms_6 : decode cX11_lowestTerms 6 = .ok (.ldc2_w 191, 3) := by decide +kernel
theorem dX11_lowestTerms_9 : decode cX11_lowestTerms 9 = .ok (.lreturn, 1) := by decide +kernel
theorem dX11_lowestTerms_10 : decode cX11_lowestTerms 10 = .ok (.lload_n 2, 1) := by decide +kernel
theorem dX11_lowestTerms_11 : decode cX11_lowestTerms 11 = .ok (.lstore 5, 2) := by decide +kernel
theorem dX11_lowestTerms_13 : decode cX11_lowestTerms 13 = .ok (.lload_n 0, 1) := by decide +kernel
theorem dX11_lowestTerms_14 : decode cX11_lowestTerms 14 = .ok (.lstore 7, 2) := by decide +kernel
theorem dX11_lowestTerms_16 : decode cX11_lowestTerms 16 = .ok (.iconst 0, 1) := by decide +kernel
theorem dX11_lowestTerms_17 : decode cX11_lowestTerms 17 = .ok (.istore 9, 2) := by decide +kernel
theorem dX11_lowestTerms_19 : decode cX11_lowestTerms 19 = .ok (.iload 9, 2) := by decide +kernel
theorem dX11_lowestTerms_21 : decode cX11_lowestTerms 21 = .ok (.sipush 200, 3) := by decide +kernel
theorem dX11_lowestTerms_24 : decode cX11_lowestTerms 24 = .ok (.if_icmp .ge 31, 3) := by decide +kernel
theorem dX11_lowestTerms_27 : decode cX11_lowestTerms 27 = .ok (.lload 7, 2) := by decide +kernel
theorem dX11_lowestTerms_29 : decode cX11_lowestTerms 29 = .ok (.lconst 0, 1) := by decide +kernel
theorem dX11_lowestTerms_30 : decode cX11_lowestTerms 30 = .ok (.lcmp, 1) := by decide +kernel
theorem dX11_lowestTerms_31 : decode cX11_lowestTerms 31 = .ok (.ifCond .eq 24, 3) := by decide +kernel
theorem dX11_lowestTerms_34 : decode cX11_lowestTerms 34 = .ok (.lload 5, 2) := by decide +kernel
theorem dX11_lowestTerms_36 : decode cX11_lowestTerms 36 = .ok (.lload 7, 2) := by decide +kernel
theorem dX11_lowestTerms_38 : decode cX11_lowestTerms 38 = .ok (.lrem, 1) := by decide +kernel
theorem dX11_lowestTerms_39 : decode cX11_lowestTerms 39 = .ok (.lstore 10, 2) := by decide +kernel
theorem dX11_lowestTerms_41 : decode cX11_lowestTerms 41 = .ok (.lload 7, 2) := by decide +kernel
theorem dX11_lowestTerms_43 : decode cX11_lowestTerms 43 = .ok (.lstore 5, 2) := by decide +kernel
theorem dX11_lowestTerms_45 : decode cX11_lowestTerms 45 = .ok (.lload 10, 2) := by decide +kernel
theorem dX11_lowestTerms_47 : decode cX11_lowestTerms 47 = .ok (.lstore 7, 2) := by decide +kernel
theorem dX11_lowestTerms_49 : decode cX11_lowestTerms 49 = .ok (.iinc 9 1, 3) := by decide +kernel
theorem dX11_lowestTerms_52 : decode cX11_lowestTerms 52 = .ok (.goto (-33), 3) := by decide +kernel
theorem dX11_lowestTerms_55 : decode cX11_lowestTerms 55 = .ok (.iload 4, 2) := by decide +kernel
theorem dX11_lowestTerms_57 : decode cX11_lowestTerms 57 = .ok (.ifCond .ne 7, 3) := by decide +kernel
theorem dX11_lowestTerms_60 : decode cX11_lowestTerms 60 = .ok (.lload_n 0, 1) := by decide +kernel
theorem dX11_lowestTerms_61 : decode cX11_lowestTerms 61 = .ok (.goto 4, 3) := by decide +kernel
theorem dX11_lowestTerms_64 : decode cX11_lowestTerms 64 = .ok (.lload_n 2, 1) := by decide +kernel
theorem dX11_lowestTerms_65 : decode cX11_lowestTerms 65 = .ok (.lload 5, 2) := by decide +kernel
theorem dX11_lowestTerms_67 : decode cX11_lowestTerms 67 = .ok (.ldiv, 1) := by decide +kernel
theorem dX11_lowestTerms_68 : decode cX11_lowestTerms 68 = .ok (.lreturn, 1) := by decide +kernel
set_option maxHeartbeats 4000000 in
set_option maxRecDepth 100000 in
theorem x_X11_lowestTerms_55 {p : Program} {l : Launch} {e : Env} {s : State} {m : MethodId} {args : Array Value} {below : List Frame} {meth : Method} {c : Code} {D : va_G} {K : Nat → ClassId} {A : Nat → Prop} {ad la : Nat → Nat} {rest : va_W} (C : xC p s m args meth c D K A RX11 cX11_lowestTerms 12 (some .long)) (z : Int64 × xS) : ∀ (y0 : Int64) (y2 : Int64) (y4 : Int32) (y5 : Int64) (σ : xS), F_X11_lowestTerms_55  y0 y2 y4 y5 σ = some z → X p l e (xR 0 0) s m args below meth c D A 12 (xQl below D K A args s z.1 (CW K ad la rest z.2)) 0 0 55 [(0, .long y0), (2, .long y2), (4, .int y4), (5, .long y5)] [] (CW K ad la rest σ) := by
  intro y0 y2 y4 y5 σ hF
  unfold F_X11_lowestTerms_55 at hF
  refine x_iload C 2 4 dX11_lowestTerms_55 rfl ?_
  refine x_if_ne C 64 dX11_lowestTerms_57 (by decide) hF (fun hF => ?_) (fun hF => ?_)
  · refine x_lload_n C 1 2 dX11_lowestTerms_64 rfl rfl ?_
    refine x_lload C 3 5 dX11_lowestTerms_65 rfl ?_
    refine x_ldiv C dX11_lowestTerms_67 hF (fun hF => ?_)
    exact x_lret C dX11_lowestTerms_68 rfl (congrArg Prod.fst (Option.some.inj hF)) (congrArg (fun q9 : Int64 × xS => CW K ad la rest q9.2) (Option.some.inj hF))
  · refine x_lload_n C 0 0 dX11_lowestTerms_60 rfl rfl ?_
    refine x_goto C 65 dX11_lowestTerms_61 (by decide) ?_
    refine x_lload C 3 5 dX11_lowestTerms_65 rfl ?_
    refine x_ldiv C dX11_lowestTerms_67 hF (fun hF => ?_)
    exact x_lret C dX11_lowestTerms_68 rfl (congrArg Prod.fst (Option.some.inj hF)) (congrArg (fun q9 : Int64 × xS => CW K ad la rest q9.2) (Option.some.inj hF))
set_option maxHeartbeats 4000000 in
set_option maxRecDepth 100000 in
theorem x_X11_lowestTerms_19 {p : Program} {l : Launch} {e : Env} {s : State} {m : MethodId} {args : Array Value} {below : List Frame} {meth : Method} {c : Code} {D : va_G} {K : Nat → ClassId} {A : Nat → Prop} {ad la : Nat → Nat} {rest : va_W} (C : xC p s m args meth c D K A RX11 cX11_lowestTerms 12 (some .long)) (z : Int64 × xS) : ∀ (n : Nat) (y0 : Int64) (y2 : Int64) (y4 : Int32) (y5 : Int64) (y7 : Int64) (y9 : Int32) (σ : xS), F_X11_lowestTerms_19  n y0 y2 y4 y5 y7 y9 σ = some z → X p l e (xR 0 0) s m args below meth c D A 12 (xQl below D K A args s z.1 (CW K ad la rest z.2)) 0 0 19 [(0, .long y0), (2, .long y2), (4, .int y4), (5, .long y5), (7, .long y7), (9, .int y9)] [] (CW K ad la rest σ) := by
  intro n
  induction n with
  | zero =>
    intro y0 y2 y4 y5 y7 y9 σ hF
    cases hF
  | succ n ih =>
    intro y0 y2 y4 y5 y7 y9 σ hF
    rw [F_X11_lowestTerms_19] at hF
    refine x_iload C 5 9 dX11_lowestTerms_19 rfl ?_
    refine x_sipush C 200 dX11_lowestTerms_21 (by decide +kernel) ?_
    refine x_icmp_ge C 55 dX11_lowestTerms_24 (by decide) hF (fun hF => ?_) (fun hF => ?_)
    · refine x_loc [(0, .long y0), (2, .long y2), (4, .int y4), (5, .long y5)] [0, 1, 2, 3] rfl ?_
      exact x_X11_lowestTerms_55 C z y0 y2 y4 y5 σ hF
    · refine x_lload C 4 7 dX11_lowestTerms_27 rfl ?_
      refine x_lconst C 0 dX11_lowestTerms_29 (by decide +kernel) ?_
      refine x_lcmp C dX11_lowestTerms_30 ?_
      refine x_if_eq C 55 dX11_lowestTerms_31 (by decide) hF (fun hF => ?_) (fun hF => ?_)
      · refine x_loc [(0, .long y0), (2, .long y2), (4, .int y4), (5, .long y5)] [0, 1, 2, 3] rfl ?_
        exact x_X11_lowestTerms_55 C z y0 y2 y4 y5 σ hF
      · refine x_lload C 3 5 dX11_lowestTerms_34 rfl ?_
        refine x_lload C 4 7 dX11_lowestTerms_36 rfl ?_
        refine x_lrem C dX11_lowestTerms_38 hF (fun hF => ?_)
        refine x_topL hF (fun x2 hF => ?_)
        refine x_lstore C [(10, .long x2), (0, .long y0), (2, .long y2), (4, .int y4), (5, .long y5), (7, .long y7), (9, .int y9)] dX11_lowestTerms_39 (by decide) rfl ?_
        refine x_lload C 5 7 dX11_lowestTerms_41 rfl ?_
        refine x_lstore C [(5, .long y7), (10, .long x2), (0, .long y0), (2, .long y2), (4, .int y4), (7, .long y7), (9, .int y9)] dX11_lowestTerms_43 (by decide) rfl ?_
        refine x_lload C 1 10 dX11_lowestTerms_45 rfl ?_
        refine x_lstore C [(7, .long x2), (5, .long y7), (10, .long x2), (0, .long y0), (2, .long y2), (4, .int y4), (9, .int y9)] dX11_lowestTerms_47 (by decide) rfl ?_
        refine x_iincN C 1 6 (fun x3 => [(9, .int x3), (7, .long x2), (5, .long y7), (10, .long x2), (0, .long y0), (2, .long y2), (4, .int y4)]) dX11_lowestTerms_49 rfl (by decide +kernel) (by decide) (fun _ => rfl) hF (fun x3 hF => ?_)
        refine x_goto C 19 dX11_lowestTerms_52 (by decide) ?_
        refine x_loc [(0, .long y0), (2, .long y2), (4, .int y4), (5, .long y7), (7, .long x2), (9, .int x3)] [4, 5, 6, 2, 1, 0] rfl ?_
        exact ih y0 y2 y4 y7 x2 x3 σ hF
set_option maxHeartbeats 4000000 in
set_option maxRecDepth 100000 in
theorem c_X11_lowestTerms (l : Launch) (D : va_G) (K : Nat → ClassId) (ad la : Nat → Nat) (rest : va_W)  (a1 : Int64) (a2 : Int64) (a3 : Int32) (σ : xS) (z : Int64 × xS) (hF : F_X11_lowestTerms a1 a2 a3 σ = some z) : CL l D K yX11_lowestTerms cX11_lowestTerms 12 (some .long) 0 0 [.long a1, .long a2, .int a3] (CW K ad la rest σ) z.1 (CW K ad la rest z.2) := by
  refine x_enterL [(0, .long a1), (2, .long a2), (4, .int a3)] pnX11 (Nat.le_of_ble_eq_true rfl) rfl ?_
  intro p e s m args below meth c A C
  unfold F_X11_lowestTerms at hF
  refine x_lload_n C 1 2 dX11_lowestTerms_0 rfl rfl ?_
  refine x_lconst C 0 dX11_lowestTerms_1 (by decide +kernel) ?_
  refine x_lcmp C dX11_lowestTerms_2 ?_
  refine x_if_gt C 10 dX11_lowestTerms_3 (by decide) hF (fun hF => ?_) (fun hF => ?_)
  · refine x_lload_n C 1 2 dX11_lowestTerms_10 rfl rfl ?_
    refine x_lstore C [(5, .long a2), (0, .long a1), (2, .long a2), (4, .int a3)] dX11_lowestTerms_11 (by decide) rfl ?_
    refine x_lload_n C 1 0 dX11_lowestTerms_13 rfl rfl ?_
    refine x_lstore C [(7, .long a1), (5, .long a2), (0, .long a1), (2, .long a2), (4, .int a3)] dX11_lowestTerms_14 (by decide) rfl ?_
    refine x_iconst C 0 dX11_lowestTerms_16 (by decide +kernel) ?_
    refine x_topI hF (fun x1 hF => ?_)
    refine x_istore C [(9, .int x1), (7, .long a1), (5, .long a2), (0, .long a1), (2, .long a2), (4, .int a3)] dX11_lowestTerms_17 (by decide) rfl ?_
    refine x_loc [(0, .long a1), (2, .long a2), (4, .int a3), (5, .long a2), (7, .long a1), (9, .int x1)] [3, 4, 5, 2, 1, 0] rfl ?_
    exact x_X11_lowestTerms_19 C z FU a1 a2 a3 a2 a1 x1 σ hF
  · refine x_ldc2 C (-1000000000000000000) dX11_lowestTerms_6 cl_X11_191 ?_
    exact x_lret C dX11_lowestTerms_9 rfl (congrArg Prod.fst (Option.some.inj hF)) (congrArg (fun q9 : Int64 × xS => CW K ad la rest q9.2) (Option.some.inj hF))
theorem dX11_worth_0 : decode cX11_worth 0 = .ok (.iload 4, 2) := by decide +kernel
theorem dX11_worth_2 : decode cX11_worth 2 = .ok (.iconst 0, 1) := by decide +kernel
theorem dX11_worth_3 : decode cX11_worth 3 = .ok (.iconst 1, 1) := by decide +kernel
theorem dX11_worth_4 : decode cX11_worth 4 = .ok (.invokestatic 105, 3) := by decide +kernel
theorem dX11_worth_7 : decode cX11_worth 7 = .ok (.ifCond .ne 7, 3) := by decide +kernel
theorem dX11_worth_10 : decode cX11_worth 10 = .ok (.ldc2_w 191, 3) := by decide +kernel
theorem dX11_worth_13 : decode cX11_worth 13 = .ok (.lreturn, 1) := by decide +kernel
theorem dX11_worth_14 : decode cX11_worth 14 = .ok (.lconst 0, 1) := by decide +kernel
theorem dX11_worth_15 : decode cX11_worth 15 = .ok (.lstore 5, 2) := by decide +kernel
theorem dX11_worth_17 : decode cX11_worth 17 = .ok (.lconst 0, 1) := by decide +kernel
theorem dX11_worth_18 : decode cX11_worth 18 = .ok (.lstore 7, 2) := by decide +kernel
theorem dX11_worth_20 : decode cX11_worth 20 = .ok (.iconst 0, 1) := by decide +kernel
theorem dX11_worth_21 : decode cX11_worth 21 = .ok (.istore 9, 2) := by decide +kernel
theorem dX11_worth_23 : decode cX11_worth 23 = .ok (.iload 9, 2) := by decide +kernel
theorem dX11_worth_25 : decode cX11_worth 25 = .ok (.aload_n 0, 1) := by decide +kernel
theorem dX11_worth_26 : decode cX11_worth 26 = .ok (.getfield 10, 3) := by decide +kernel
theorem dX11_worth_29 : decode cX11_worth 29 = .ok (.getfield 203, 3) := by decide +kernel
theorem dX11_worth_32 : decode cX11_worth 32 = .ok (.getfield 209, 3) := by decide +kernel
theorem dX11_worth_35 : decode cX11_worth 35 = .ok (.if_icmp .ge 49, 3) := by decide +kernel
theorem dX11_worth_38 : decode cX11_worth 38 = .ok (.aload_n 0, 1) := by decide +kernel
theorem dX11_worth_39 : decode cX11_worth 39 = .ok (.iload 9, 2) := by decide +kernel
theorem dX11_worth_41 : decode cX11_worth 41 = .ok (.iload_n 1, 1) := by decide +kernel
theorem dX11_worth_42 : decode cX11_worth 42 = .ok (.iload_n 2, 1) := by decide +kernel
theorem dX11_worth_43 : decode cX11_worth 43 = .ok (.iload_n 3, 1) := by decide +kernel
theorem dX11_worth_44 : decode cX11_worth 44 = .ok (.invokevirtual 212, 3) := by decide +kernel
theorem dX11_worth_47 : decode cX11_worth 47 = .ok (.lstore 10, 2) := by decide +kernel
theorem dX11_worth_49 : decode cX11_worth 49 = .ok (.lload 5, 2) := by decide +kernel
theorem dX11_worth_51 : decode cX11_worth 51 = .ok (.lload 10, 2) := by decide +kernel
theorem dX11_worth_53 : decode cX11_worth 53 = .ok (.ladd, 1) := by decide +kernel
theorem dX11_worth_54 : decode cX11_worth 54 = .ok (.lstore 5, 2) := by decide +kernel
theorem dX11_worth_56 : decode cX11_worth 56 = .ok (.lload 7, 2) := by decide +kernel
theorem dX11_worth_58 : decode cX11_worth 58 = .ok (.lload 10, 2) := by decide +kernel
theorem dX11_worth_60 : decode cX11_worth 60 = .ok (.aload_n 0, 1) := by decide +kernel
theorem dX11_worth_61 : decode cX11_worth 61 = .ok (.getfield 10, 3) := by decide +kernel
theorem dX11_worth_64 : decode cX11_worth 64 = .ok (.getfield 203, 3) := by decide +kernel
theorem dX11_worth_67 : decode cX11_worth 67 = .ok (.iload 9, 2) := by decide +kernel
theorem dX11_worth_69 : decode cX11_worth 69 = .ok (.iconst 2, 1) := by decide +kernel
theorem dX11_worth_70 : decode cX11_worth 70 = .ok (.invokevirtual 122, 3) := by decide +kernel
theorem dX11_worth_73 : decode cX11_worth 73 = .ok (.i2l, 1) := by decide +kernel
theorem dX11_worth_74 : decode cX11_worth 74 = .ok (.lmul, 1) := by decide +kernel
theorem dX11_worth_75 : decode cX11_worth 75 = .ok (.ladd, 1) := by decide +kernel
theorem dX11_worth_76 : decode cX11_worth 76 = .ok (.lstore 7, 2) := by decide +kernel
theorem dX11_worth_78 : decode cX11_worth 78 = .ok (.iinc 9 1, 3) := by decide +kernel
theorem dX11_worth_81 : decode cX11_worth 81 = .ok (.goto (-58), 3) := by decide +kernel
theorem dX11_worth_84 : decode cX11_worth 84 = .ok (.lload 7, 2) := by decide +kernel
theorem dX11_worth_86 : decode cX11_worth 86 = .ok (.lload 5, 2) := by decide +kernel
theorem dX11_worth_88 : decode cX11_worth 88 = .ok (.iload 4, 2) := by decide +kernel
theorem dX11_worth_90 : decode cX11_worth 90 = .ok (.invokestatic 216, 3) := by decide +kernel
theorem dX11_worth_93 : decode cX11_worth 93 = .ok (.lreturn, 1) := by decide +kernel
set_option maxHeartbeats 4000000 in
set_option maxRecDepth 100000 in
theorem x_X11_worth_23 {p : Program} {l : Launch} {e : Env} {s : State} {m : MethodId} {args : Array Value} {below : List Frame} {meth : Method} {c : Code} {D : va_G} {K : Nat → ClassId} {A : Nat → Prop} {ad la : Nat → Nat} {rest : va_W} (C : xC p s m args meth c D K A RX11 cX11_worth 12 (some .long)) (z : Int64 × xS) : ∀ (n : Nat) (y1 : Int32) (y2 : Int32) (y3 : Int32) (y4 : Int32) (y5 : Int64) (y7 : Int64) (y9 : Int32) (σ : xS), F_X11_worth_23  n y1 y2 y3 y4 y5 y7 y9 σ = some z → X p l e (xR 3 71) s m args below meth c D A 12 (xQl below D K A args s z.1 (CW K ad la rest z.2)) 0 0 23 [(0, .ref (ad 0)), (1, .int y1), (2, .int y2), (3, .int y3), (4, .int y4), (5, .long y5), (7, .long y7), (9, .int y9)] [] (CW K ad la rest σ) := by
  intro n
  induction n with
  | zero =>
    intro y1 y2 y3 y4 y5 y7 y9 σ hF
    cases hF
  | succ n ih =>
    intro y1 y2 y3 y4 y5 y7 y9 σ hF
    rw [F_X11_worth_23] at hF
    refine x_iload C 7 9 dX11_worth_23 rfl ?_
    refine x_aload_n C 0 0 dX11_worth_25 rfl rfl ?_
    refine x_get C 0 dX11_worth_26 fl_X11_10 (CW_0 K ad la rest σ) rfl ?_
    refine x_get C 5 dX11_worth_29 fl_X11_203 (CW_5 K ad la rest σ) rfl ?_
    refine x_get C 10 dX11_worth_32 fl_X11_209 (CW_10 K ad la rest σ) rfl ?_
    refine x_icmp_ge C 84 dX11_worth_35 (by decide) hF (fun hF => ?_) (fun hF => ?_)
    · refine x_lload C 6 7 dX11_worth_84 rfl ?_
      refine x_lload C 5 5 dX11_worth_86 rfl ?_
      refine x_iload C 4 4 dX11_worth_88 rfl ?_
      refine x_callSL C (wf := CW K ad la rest) (As := [.long y7, .long y5, .int y4]) (rest := []) dX11_worth_90 ml_X11_216 rfl rfl (Nat.le_of_ble_eq_true rfl) ⟨Nat.le_of_ble_eq_true rfl, Nat.le_of_ble_eq_true rfl⟩ ⟨Nat.zero_le _, Nat.zero_le _⟩ (fun q9 hq9 => c_X11_lowestTerms l D K ad la rest y7 y5 y4 σ q9 hq9) hF (fun v7 σ6 hF => ?_)
      exact x_lret C dX11_worth_93 rfl (congrArg Prod.fst (Option.some.inj hF)) (congrArg (fun q9 : Int64 × xS => CW K ad la rest q9.2) (Option.some.inj hF))
    · refine x_aload_n C 0 0 dX11_worth_38 rfl rfl ?_
      refine x_iload C 7 9 dX11_worth_39 rfl ?_
      refine x_iload_n C 1 1 dX11_worth_41 rfl rfl ?_
      refine x_iload_n C 2 2 dX11_worth_42 rfl rfl ?_
      refine x_iload_n C 3 3 dX11_worth_43 rfl rfl ?_
      refine x_callVL C (wf := CW K ad la rest) (As := [.int y9, .int y1, .int y2, .int y3]) (rest := []) dX11_worth_44 ml_X11_212 rfl rfl (Nat.le_of_ble_eq_true rfl) 0 (CW_0 K ad la rest σ) rfl ⟨Nat.le_of_ble_eq_true rfl, Nat.le_of_ble_eq_true rfl⟩ ⟨Nat.zero_le _, Nat.zero_le _⟩ (fun q9 hq9 => c_X11_waysToShow l D K ad la rest y9 y1 y2 y3 σ q9 hq9) hF (fun v9 σ8 hF => ?_)
      refine x_lstore C [(10, .long v9), (0, .ref (ad 0)), (1, .int y1), (2, .int y2), (3, .int y3), (4, .int y4), (5, .long y5), (7, .long y7), (9, .int y9)] dX11_worth_47 (by decide) rfl ?_
      refine x_lload C 6 5 dX11_worth_49 rfl ?_
      refine x_lload C 0 10 dX11_worth_51 rfl ?_
      refine x_ladd C dX11_worth_53 ?_
      refine x_topL hF (fun x10 hF => ?_)
      refine x_lstore C [(5, .long x10), (10, .long v9), (0, .ref (ad 0)), (1, .int y1), (2, .int y2), (3, .int y3), (4, .int y4), (7, .long y7), (9, .int y9)] dX11_worth_54 (by decide) rfl ?_
      refine x_lload C 7 7 dX11_worth_56 rfl ?_
      refine x_lload C 1 10 dX11_worth_58 rfl ?_
      refine x_aload_n C 2 0 dX11_worth_60 rfl rfl ?_
      refine x_get C 0 dX11_worth_61 fl_X11_10 (CW_0 K ad la rest σ8) rfl ?_
      refine x_get C 5 dX11_worth_64 fl_X11_203 (CW_5 K ad la rest σ8) rfl ?_
      refine x_iload C 8 9 dX11_worth_67 rfl ?_
      refine x_iconst C 2 dX11_worth_69 (by decide +kernel) ?_
      refine x_callVI C (wf := CW K ad la rest) (As := [.int y9, .int 2]) (rest := [.long v9, .long y7]) dX11_worth_70 ml_X11_122 rfl rfl (Nat.le_of_ble_eq_true rfl) 10 (CW_10 K ad la rest σ8) rfl ⟨Nat.le_of_ble_eq_true rfl, Nat.le_of_ble_eq_true rfl⟩ ⟨Nat.zero_le _, Nat.zero_le _⟩ (fun q9 hq9 => c_X6_get l D K ad la rest 1 (by decide) y9 2 σ8 q9 hq9) hF (fun v12 σ11 hF => ?_)
      refine x_i2l C dX11_worth_73 ?_
      refine x_lmul C dX11_worth_74 ?_
      refine x_ladd C dX11_worth_75 ?_
      refine x_topL hF (fun x13 hF => ?_)
      refine x_lstore C [(7, .long x13), (5, .long x10), (10, .long v9), (0, .ref (ad 0)), (1, .int y1), (2, .int y2), (3, .int y3), (4, .int y4), (9, .int y9)] dX11_worth_76 (by decide) rfl ?_
      refine x_iincN C 1 8 (fun x14 => [(9, .int x14), (7, .long x13), (5, .long x10), (10, .long v9), (0, .ref (ad 0)), (1, .int y1), (2, .int y2), (3, .int y3), (4, .int y4)]) dX11_worth_78 rfl (by decide +kernel) (by decide) (fun _ => rfl) hF (fun x14 hF => ?_)
      refine x_goto C 23 dX11_worth_81 (by decide) ?_
      refine x_loc [(0, .ref (ad 0)), (1, .int y1), (2, .int y2), (3, .int y3), (4, .int y4), (5, .long x10), (7, .long x13), (9, .int x14)] [4, 5, 6, 7, 8, 2, 1, 0] rfl ?_
      exact ih y1 y2 y3 y4 x10 x13 x14 σ11 hF
set_option maxHeartbeats 4000000 in
set_option maxRecDepth 100000 in
theorem c_X11_worth (l : Launch) (D : va_G) (K : Nat → ClassId) (ad la : Nat → Nat) (rest : va_W)  (a1 : Int32) (a2 : Int32) (a3 : Int32) (a4 : Int32) (σ : xS) (z : Int64 × xS) (hF : F_X11_worth a1 a2 a3 a4 σ = some z) : CL l D K yX11_worth cX11_worth 12 (some .long) 3 71 [.ref (ad 0), .int a1, .int a2, .int a3, .int a4] (CW K ad la rest σ) z.1 (CW K ad la rest z.2) := by
  refine x_enterL [(0, .ref (ad 0)), (1, .int a1), (2, .int a2), (3, .int a3), (4, .int a4)] pnX11 (Nat.le_of_ble_eq_true rfl) rfl ?_
  intro p e s m args below meth c A C
  unfold F_X11_worth at hF
  refine x_iload C 4 4 dX11_worth_0 rfl ?_
  refine x_iconst C 0 dX11_worth_2 (by decide +kernel) ?_
  refine x_iconst C 1 dX11_worth_3 (by decide +kernel) ?_
  refine x_callSI C (wf := CW K ad la rest) (As := [.int a4, .int 0, .int 1]) (rest := []) dX11_worth_4 ml_X11_105 rfl rfl (Nat.le_of_ble_eq_true rfl) ⟨Nat.le_of_ble_eq_true rfl, Nat.le_of_ble_eq_true rfl⟩ ⟨Nat.zero_le _, Nat.zero_le _⟩ (fun q9 hq9 => c_X11_isWithin l D K ad la rest a4 0 1 σ q9 hq9) hF (fun v2 σ1 hF => ?_)
  refine x_if_ne C 14 dX11_worth_7 (by decide) hF (fun hF => ?_) (fun hF => ?_)
  · refine x_lconst C 0 dX11_worth_14 (by decide +kernel) ?_
    refine x_topL hF (fun x3 hF => ?_)
    refine x_lstore C [(5, .long x3), (0, .ref (ad 0)), (1, .int a1), (2, .int a2), (3, .int a3), (4, .int a4)] dX11_worth_15 (by decide) rfl ?_
    refine x_lconst C 0 dX11_worth_17 (by decide +kernel) ?_
    refine x_topL hF (fun x4 hF => ?_)
    refine x_lstore C [(7, .long x4), (5, .long x3), (0, .ref (ad 0)), (1, .int a1), (2, .int a2), (3, .int a3), (4, .int a4)] dX11_worth_18 (by decide) rfl ?_
    refine x_iconst C 0 dX11_worth_20 (by decide +kernel) ?_
    refine x_topI hF (fun x5 hF => ?_)
    refine x_istore C [(9, .int x5), (7, .long x4), (5, .long x3), (0, .ref (ad 0)), (1, .int a1), (2, .int a2), (3, .int a3), (4, .int a4)] dX11_worth_21 (by decide) rfl ?_
    refine x_loc [(0, .ref (ad 0)), (1, .int a1), (2, .int a2), (3, .int a3), (4, .int a4), (5, .long x3), (7, .long x4), (9, .int x5)] [3, 4, 5, 6, 7, 2, 1, 0] rfl ?_
    exact x_X11_worth_23 C z FU a1 a2 a3 a4 x3 x4 x5 σ1 hF
  · refine x_ldc2 C (-1000000000000000000) dX11_worth_10 cl_X11_191 ?_
    exact x_lret C dX11_worth_13 rfl (congrArg Prod.fst (Option.some.inj hF)) (congrArg (fun q9 : Int64 × xS => CW K ad la rest q9.2) (Option.some.inj hF))
theorem dX11_glance_0 : decode cX11_glance 0 = .ok (.iload 5, 2) := by decide +kernel
theorem dX11_glance_2 : decode cX11_glance 2 = .ok (.iconst 0, 1) := by decide +kernel
theorem dX11_glance_3 : decode cX11_glance 3 = .ok (.iconst 1, 1) := by decide +kernel
theorem dX11_glance_4 : decode cX11_glance 4 = .ok (.invokestatic 105, 3) := by decide +kernel
theorem dX11_glance_7 : decode cX11_glance 7 = .ok (.ifCond .eq 20, 3) := by decide +kernel
theorem dX11_glance_10 : decode cX11_glance 10 = .ok (.iload 4, 2) := by decide +kernel
theorem dX11_glance_12 : decode cX11_glance 12 = .ok (.iconst 0, 1) := by decide +kernel
theorem dX11_glance_13 : decode cX11_glance 13 = .ok (.sipush 9999, 3) := by decide +kernel
theorem dX11_glance_16 : decode cX11_glance 16 = .ok (.invokestatic 105, 3) := by decide +kernel
theorem dX11_glance_19 : decode cX11_glance 19 = .ok (.ifCond .eq 8, 3) := by decide +kernel
theorem dX11_glance_22 : decode cX11_glance 22 = .ok (.iload_n 2, 1) := by decide +kernel
theorem dX11_glance_23 : decode cX11_glance 23 = .ok (.iload_n 1, 1) := by decide +kernel
theorem dX11_glance_24 : decode cX11_glance 24 = .ok (.if_icmp .lt 7, 3) := by decide +kernel
theorem dX11_glance_27 : decode cX11_glance 27 = .ok (.ldc2_w 191, 3) := by decide +kernel
theorem dX11_glance_30 : decode cX11_glance 30 = .ok (.lreturn, 1) := by decide +kernel
theorem dX11_glance_31 : decode cX11_glance 31 = .ok (.lconst 0, 1) := by decide +kernel
theorem dX11_glance_32 : decode cX11_glance 32 = .ok (.lstore 6, 2) := by decide +kernel
theorem dX11_glance_34 : decode cX11_glance 34 = .ok (.lconst 0, 1) := by decide +kernel
theorem dX11_glance_35 : decode cX11_glance 35 = .ok (.lstore 8, 2) := by decide +kernel
theorem dX11_glance_37 : decode cX11_glance 37 = .ok (.lconst 0, 1) := by decide +kernel
theorem dX11_glance_38 : decode cX11_glance 38 = .ok (.lstore 10, 2) := by decide +kernel
theorem dX11_glance_40 : decode cX11_glance 40 = .ok (.lconst 0, 1) := by decide +kernel
theorem dX11_glance_41 : decode cX11_glance 41 = .ok (.lstore 12, 2) := by decide +kernel
theorem dX11_glance_43 : decode cX11_glance 43 = .ok (.iconst 0, 1) := by decide +kernel
theorem dX11_glance_44 : decode cX11_glance 44 = .ok (.istore 14, 2) := by decide +kernel
theorem dX11_glance_46 : decode cX11_glance 46 = .ok (.iload 14, 2) := by decide +kernel
theorem dX11_glance_48 : decode cX11_glance 48 = .ok (.aload_n 0, 1) := by decide +kernel
theorem dX11_glance_49 : decode cX11_glance 49 = .ok (.getfield 10, 3) := by decide +kernel
theorem dX11_glance_52 : decode cX11_glance 52 = .ok (.getfield 203, 3) := by decide +kernel
theorem dX11_glance_55 : decode cX11_glance 55 = .ok (.getfield 209, 3) := by decide +kernel
theorem dX11_glance_58 : decode cX11_glance 58 = .ok (.if_icmp .ge 111, 3) := by decide +kernel
theorem dX11_glance_61 : decode cX11_glance 61 = .ok (.aload_n 0, 1) := by decide +kernel
theorem dX11_glance_62 : decode cX11_glance 62 = .ok (.iload 14, 2) := by decide +kernel
theorem dX11_glance_64 : decode cX11_glance 64 = .ok (.iload_n 1, 1) := by decide +kernel
theorem dX11_glance_65 : decode cX11_glance 65 = .ok (.iload_n 2, 1) := by decide +kernel
theorem dX11_glance_66 : decode cX11_glance 66 = .ok (.iload_n 3, 1) := by decide +kernel
theorem dX11_glance_67 : decode cX11_glance 67 = .ok (.invokevirtual 212, 3) := by decide +kernel
theorem dX11_glance_70 : decode cX11_glance 70 = .ok (.lstore 15, 2) := by decide +kernel
theorem dX11_glance_72 : decode cX11_glance 72 = .ok (.lload 15, 2) := by decide +kernel
theorem dX11_glance_74 : decode cX11_glance 74 = .ok (.lconst 0, 1) := by decide +kernel
theorem dX11_glance_75 : decode cX11_glance 75 = .ok (.lcmp, 1) := by decide +kernel
theorem dX11_glance_76 : decode cX11_glance 76 = .ok (.ifCond .le 87, 3) := by decide +kernel
theorem dX11_glance_79 : decode cX11_glance 79 = .ok (.aload_n 0, 1) := by decide +kernel
theorem dX11_glance_80 : decode cX11_glance 80 = .ok (.getfield 10, 3) := by decide +kernel
theorem dX11_glance_83 : decode cX11_glance 83 = .ok (.getfield 203, 3) := by decide +kernel
theorem dX11_glance_86 : decode cX11_glance 86 = .ok (.iload 14, 2) := by decide +kernel
theorem dX11_glance_88 : decode cX11_glance 88 = .ok (.iconst 1, 1) := by decide +kernel
theorem dX11_glance_89 : decode cX11_glance 89 = .ok (.invokevirtual 122, 3) := by decide +kernel
theorem dX11_glance_92 : decode cX11_glance 92 = .ok (.iload_n 3, 1) := by decide +kernel
theorem dX11_glance_93 : decode cX11_glance 93 = .ok (.isub, 1) := by decide +kernel
theorem dX11_glance_94 : decode cX11_glance 94 = .ok (.istore 17, 2) := by decide +kernel
theorem dX11_glance_96 : decode cX11_glance 96 = .ok (.lload 15, 2) := by decide +kernel
theorem dX11_glance_98 : decode cX11_glance 98 = .ok (.aload_n 0, 1) := by decide +kernel
theorem dX11_glance_99 : decode cX11_glance 99 = .ok (.getfield 10, 3) := by decide +kernel
theorem dX11_glance_102 : decode cX11_glance 102 = .ok (.getfield 203, 3) := by decide +kernel
theorem dX11_glance_105 : decode cX11_glance 105 = .ok (.iload 14, 2) := by decide +kernel
theorem dX11_glance_107 : decode cX11_glance 107 = .ok (.iconst 2, 1) := by decide +kernel
theorem dX11_glance_108 : decode cX11_glance 108 = .ok (.invokevirtual 122, 3) := by decide +kernel
theorem dX11_glance_111 : decode cX11_glance 111 = .ok (.iload 4, 2) := by decide +kernel
theorem dX11_glance_113 : decode cX11_glance 113 = .ok (.isub, 1) := by decide +kernel
theorem dX11_glance_114 : decode cX11_glance 114 = .ok (.i2l, 1) := by decide +kernel
theorem dX11_glance_115 : decode cX11_glance 115 = .ok (.lmul, 1) := by decide +kernel
theorem dX11_glance_116 : decode cX11_glance 116 = .ok (.lstore 18, 2) := by decide +kernel
theorem dX11_glance_118 : decode cX11_glance 118 = .ok (.lload 6, 2) := by decide +kernel
theorem dX11_glance_120 : decode cX11_glance 120 = .ok (.lload 15, 2) := by decide +kernel
theorem dX11_glance_122 : decode cX11_glance 122 = .ok (.ladd, 1) := by decide +kernel
theorem dX11_glance_123 : decode cX11_glance 123 = .ok (.lstore 6, 2) := by decide +kernel
theorem dX11_glance_125 : decode cX11_glance 125 = .ok (.lload 8, 2) := by decide +kernel
theorem dX11_glance_127 : decode cX11_glance 127 = .ok (.lload 18, 2) := by decide +kernel
theorem dX11_glance_129 : decode cX11_glance 129 = .ok (.iload_n 1, 1) := by decide +kernel
theorem dX11_glance_130 : decode cX11_glance 130 = .ok (.iload_n 2, 1) := by decide +kernel
theorem dX11_glance_131 : decode cX11_glance 131 = .ok (.isub, 1) := by decide +kernel
theorem dX11_glance_132 : decode cX11_glance 132 = .ok (.i2l, 1) := by decide +kernel
theorem dX11_glance_133 : decode cX11_glance 133 = .ok (.lmul, 1) := by decide +kernel
theorem dX11_glance_134 : decode cX11_glance 134 = .ok (.ladd, 1) := by decide +kernel
theorem dX11_glance_135 : decode cX11_glance 135 = .ok (.lstore 8, 2) := by decide +kernel
theorem dX11_glance_137 : decode cX11_glance 137 = .ok (.lload 10, 2) := by decide +kernel
theorem dX11_glance_139 : decode cX11_glance 139 = .ok (.lload 18, 2) := by decide +kernel
theorem dX11_glance_141 : decode cX11_glance 141 = .ok (.iload 17, 2) := by decide +kernel
theorem dX11_glance_143 : decode cX11_glance 143 = .ok (.i2l, 1) := by decide +kernel
theorem dX11_glance_144 : decode cX11_glance 144 = .ok (.lmul, 1) := by decide +kernel
theorem dX11_glance_145 : decode cX11_glance 145 = .ok (.ladd, 1) := by decide +kernel
theorem dX11_glance_146 : decode cX11_glance 146 = .ok (.lstore 10, 2) := by decide +kernel
theorem dX11_glance_148 : decode cX11_glance 148 = .ok (.lload 12, 2) := by decide +kernel
theorem dX11_glance_150 : decode cX11_glance 150 = .ok (.lload 18, 2) := by decide +kernel
theorem dX11_glance_152 : decode cX11_glance 152 = .ok (.iload_n 1, 1) := by decide +kernel
theorem dX11_glance_153 : decode cX11_glance 153 = .ok (.iload_n 2, 1) := by decide +kernel
theorem dX11_glance_154 : decode cX11_glance 154 = .ok (.isub, 1) := by decide +kernel
theorem dX11_glance_155 : decode cX11_glance 155 = .ok (.iload 17, 2) := by decide +kernel
theorem dX11_glance_157 : decode cX11_glance 157 = .ok (.isub, 1) := by decide +kernel
theorem dX11_glance_158 : decode cX11_glance 158 = .ok (.i2l, 1) := by decide +kernel
theorem dX11_glance_159 : decode cX11_glance 159 = .ok (.lmul, 1) := by decide +kernel
theorem dX11_glance_160 : decode cX11_glance 160 = .ok (.ladd, 1) := by decide +kernel
theorem dX11_glance_161 : decode cX11_glance 161 = .ok (.lstore 12, 2) := by decide +kernel
theorem dX11_glance_163 : decode cX11_glance 163 = .ok (.iinc 14 1, 3) := by decide +kernel
theorem dX11_glance_166 : decode cX11_glance 166 = .ok (.goto (-120), 3) := by decide +kernel
theorem dX11_glance_169 : decode cX11_glance 169 = .ok (.lconst 0, 1) := by decide +kernel
theorem dX11_glance_170 : decode cX11_glance 170 = .ok (.lload 10, 2) := by decide +kernel
theorem dX11_glance_172 : decode cX11_glance 172 = .ok (.invokestatic 220, 3) := by decide +kernel
theorem dX11_glance_175 : decode cX11_glance 175 = .ok (.lconst 0, 1) := by decide +kernel
theorem dX11_glance_176 : decode cX11_glance 176 = .ok (.lload 12, 2) := by decide +kernel
theorem dX11_glance_178 : decode cX11_glance 178 = .ok (.invokestatic 220, 3) := by decide +kernel
theorem dX11_glance_181 : decode cX11_glance 181 = .ok (.ladd, 1) := by decide +kernel
theorem dX11_glance_182 : decode cX11_glance 182 = .ok (.lconst 0, 1) := by decide +kernel
theorem dX11_glance_183 : decode cX11_glance 183 = .ok (.lload 8, 2) := by decide +kernel
theorem dX11_glance_185 : decode cX11_glance 185 = .ok (.invokestatic 220, 3) := by decide +kernel
theorem dX11_glance_188 : decode cX11_glance 188 = .ok (.lsub, 1) := by decide +kernel
theorem dX11_glance_189 : decode cX11_glance 189 = .ok (.lstore 14, 2) := by decide +kernel
theorem dX11_glance_191 : decode cX11_glance 191 = .ok (.lload 14, 2) := by decide +kernel
theorem dX11_glance_193 : decode cX11_glance 193 = .ok (.lload 6, 2) := by decide +kernel
theorem dX11_glance_195 : decode cX11_glance 195 = .ok (.iload_n 1, 1) := by decide +kernel
theorem dX11_glance_196 : decode cX11_glance 196 = .ok (.iload_n 2, 1) := by decide +kernel
theorem dX11_glance_197 : decode cX11_glance 197 = .ok (.isub, 1) := by decide +kernel
theorem dX11_glance_198 : decode cX11_glance 198 = .ok (.i2l, 1) := by decide +kernel
theorem dX11_glance_199 : decode cX11_glance 199 = .ok (.lmul, 1) := by decide +kernel
theorem dX11_glance_200 : decode cX11_glance 200 = .ok (.iload 5, 2) := by decide +kernel
theorem dX11_glance_202 : decode cX11_glance 202 = .ok (.invokestatic 216, 3) := by decide +kernel
theorem dX11_glance_205 : decode cX11_glance 205 = .ok (.lreturn, 1) := by decide +kernel
set_option maxHeartbeats 4000000 in
set_option maxRecDepth 100000 in
theorem x_X11_glance_46 {p : Program} {l : Launch} {e : Env} {s : State} {m : MethodId} {args : Array Value} {below : List Frame} {meth : Method} {c : Code} {D : va_G} {K : Nat → ClassId} {A : Nat → Prop} {ad la : Nat → Nat} {rest : va_W} (C : xC p s m args meth c D K A RX11 cX11_glance 20 (some .long)) (z : Int64 × xS) : ∀ (n : Nat) (y1 : Int32) (y2 : Int32) (y3 : Int32) (y4 : Int32) (y5 : Int32) (y6 : Int64) (y8 : Int64) (y10 : Int64) (y12 : Int64) (y14 : Int32) (σ : xS), F_X11_glance_46  n y1 y2 y3 y4 y5 y6 y8 y10 y12 y14 σ = some z → X p l e (xR 3 71) s m args below meth c D A 20 (xQl below D K A args s z.1 (CW K ad la rest z.2)) 0 0 46 [(0, .ref (ad 0)), (1, .int y1), (2, .int y2), (3, .int y3), (4, .int y4), (5, .int y5), (6, .long y6), (8, .long y8), (10, .long y10), (12, .long y12), (14, .int y14)] [] (CW K ad la rest σ) := by
  intro n
  induction n with
  | zero =>
    intro y1 y2 y3 y4 y5 y6 y8 y10 y12 y14 σ hF
    cases hF
  | succ n ih =>
    intro y1 y2 y3 y4 y5 y6 y8 y10 y12 y14 σ hF
    rw [F_X11_glance_46] at hF
    refine x_iload C 10 14 dX11_glance_46 rfl ?_
    refine x_aload_n C 0 0 dX11_glance_48 rfl rfl ?_
    refine x_get C 0 dX11_glance_49 fl_X11_10 (CW_0 K ad la rest σ) rfl ?_
    refine x_get C 5 dX11_glance_52 fl_X11_203 (CW_5 K ad la rest σ) rfl ?_
    refine x_get C 10 dX11_glance_55 fl_X11_209 (CW_10 K ad la rest σ) rfl ?_
    refine x_icmp_ge C 169 dX11_glance_58 (by decide) hF (fun hF => ?_) (fun hF => ?_)
    · refine x_lconst C 0 dX11_glance_169 (by decide +kernel) ?_
      refine x_lload C 8 10 dX11_glance_170 rfl ?_
      refine x_mmaxl C dX11_glance_172 wl_X11_220 jMaxL ⟨Nat.le_of_ble_eq_true rfl, Nat.le_of_ble_eq_true rfl⟩ ⟨Nat.zero_le _, Nat.zero_le _⟩ ?_
      refine x_lconst C 0 dX11_glance_175 (by decide +kernel) ?_
      refine x_lload C 9 12 dX11_glance_176 rfl ?_
      refine x_mmaxl C dX11_glance_178 wl_X11_220 jMaxL ⟨Nat.le_of_ble_eq_true rfl, Nat.le_of_ble_eq_true rfl⟩ ⟨Nat.zero_le _, Nat.zero_le _⟩ ?_
      refine x_ladd C dX11_glance_181 ?_
      refine x_lconst C 0 dX11_glance_182 (by decide +kernel) ?_
      refine x_lload C 7 8 dX11_glance_183 rfl ?_
      refine x_mmaxl C dX11_glance_185 wl_X11_220 jMaxL ⟨Nat.le_of_ble_eq_true rfl, Nat.le_of_ble_eq_true rfl⟩ ⟨Nat.zero_le _, Nat.zero_le _⟩ ?_
      refine x_lsub C dX11_glance_188 ?_
      refine x_topL hF (fun x10 hF => ?_)
      refine x_lstore C [(14, .long x10), (0, .ref (ad 0)), (1, .int y1), (2, .int y2), (3, .int y3), (4, .int y4), (5, .int y5), (6, .long y6), (8, .long y8), (10, .long y10), (12, .long y12)] dX11_glance_189 (by decide) rfl ?_
      refine x_lload C 0 14 dX11_glance_191 rfl ?_
      refine x_lload C 7 6 dX11_glance_193 rfl ?_
      refine x_iload_n C 2 1 dX11_glance_195 rfl rfl ?_
      refine x_iload_n C 3 2 dX11_glance_196 rfl rfl ?_
      refine x_isub C dX11_glance_197 ?_
      refine x_i2l C dX11_glance_198 ?_
      refine x_lmul C dX11_glance_199 ?_
      refine x_iload C 6 5 dX11_glance_200 rfl ?_
      refine x_callSL C (wf := CW K ad la rest) (As := [.long x10, .long (y6 * ((y1 - y2).toInt64)), .int y5]) (rest := []) dX11_glance_202 ml_X11_216 rfl rfl (Nat.le_of_ble_eq_true rfl) ⟨Nat.le_of_ble_eq_true rfl, Nat.le_of_ble_eq_true rfl⟩ ⟨Nat.zero_le _, Nat.zero_le _⟩ (fun q9 hq9 => c_X11_lowestTerms l D K ad la rest x10 (y6 * ((y1 - y2).toInt64)) y5 σ q9 hq9) hF (fun v12 σ11 hF => ?_)
      exact x_lret C dX11_glance_205 rfl (congrArg Prod.fst (Option.some.inj hF)) (congrArg (fun q9 : Int64 × xS => CW K ad la rest q9.2) (Option.some.inj hF))
    · refine x_aload_n C 0 0 dX11_glance_61 rfl rfl ?_
      refine x_iload C 10 14 dX11_glance_62 rfl ?_
      refine x_iload_n C 1 1 dX11_glance_64 rfl rfl ?_
      refine x_iload_n C 2 2 dX11_glance_65 rfl rfl ?_
      refine x_iload_n C 3 3 dX11_glance_66 rfl rfl ?_
      refine x_callVL C (wf := CW K ad la rest) (As := [.int y14, .int y1, .int y2, .int y3]) (rest := []) dX11_glance_67 ml_X11_212 rfl rfl (Nat.le_of_ble_eq_true rfl) 0 (CW_0 K ad la rest σ) rfl ⟨Nat.le_of_ble_eq_true rfl, Nat.le_of_ble_eq_true rfl⟩ ⟨Nat.zero_le _, Nat.zero_le _⟩ (fun q9 hq9 => c_X11_waysToShow l D K ad la rest y14 y1 y2 y3 σ q9 hq9) hF (fun v14 σ13 hF => ?_)
      refine x_lstore C [(15, .long v14), (0, .ref (ad 0)), (1, .int y1), (2, .int y2), (3, .int y3), (4, .int y4), (5, .int y5), (6, .long y6), (8, .long y8), (10, .long y10), (12, .long y12), (14, .int y14)] dX11_glance_70 (by decide) rfl ?_
      refine x_lload C 0 15 dX11_glance_72 rfl ?_
      refine x_lconst C 0 dX11_glance_74 (by decide +kernel) ?_
      refine x_lcmp C dX11_glance_75 ?_
      refine x_if_le C 163 dX11_glance_76 (by decide) hF (fun hF => ?_) (fun hF => ?_)
      · refine x_iincN C 1 11 (fun x15 => [(14, .int x15), (15, .long v14), (0, .ref (ad 0)), (1, .int y1), (2, .int y2), (3, .int y3), (4, .int y4), (5, .int y5), (6, .long y6), (8, .long y8), (10, .long y10), (12, .long y12)]) dX11_glance_163 rfl (by decide +kernel) (by decide) (fun _ => rfl) hF (fun x15 hF => ?_)
        refine x_goto C 46 dX11_glance_166 (by decide) ?_
        refine x_loc [(0, .ref (ad 0)), (1, .int y1), (2, .int y2), (3, .int y3), (4, .int y4), (5, .int y5), (6, .long y6), (8, .long y8), (10, .long y10), (12, .long y12), (14, .int x15)] [2, 3, 4, 5, 6, 7, 8, 9, 10, 11, 0] rfl ?_
        exact ih y1 y2 y3 y4 y5 y6 y8 y10 y12 x15 σ13 hF
      · refine x_aload_n C 1 0 dX11_glance_79 rfl rfl ?_
        refine x_get C 0 dX11_glance_80 fl_X11_10 (CW_0 K ad la rest σ13) rfl ?_
        refine x_get C 5 dX11_glance_83 fl_X11_203 (CW_5 K ad la rest σ13) rfl ?_
        refine x_iload C 11 14 dX11_glance_86 rfl ?_
        refine x_iconst C 1 dX11_glance_88 (by decide +kernel) ?_
        refine x_callVI C (wf := CW K ad la rest) (As := [.int y14, .int 1]) (rest := []) dX11_glance_89 ml_X11_122 rfl rfl (Nat.le_of_ble_eq_true rfl) 10 (CW_10 K ad la rest σ13) rfl ⟨Nat.le_of_ble_eq_true rfl, Nat.le_of_ble_eq_true rfl⟩ ⟨Nat.zero_le _, Nat.zero_le _⟩ (fun q9 hq9 => c_X6_get l D K ad la rest 1 (by decide) y14 1 σ13 q9 hq9) hF (fun v17 σ16 hF => ?_)
        refine x_iload_n C 4 3 dX11_glance_92 rfl rfl ?_
        refine x_isub C dX11_glance_93 ?_
        refine x_topI hF (fun x18 hF => ?_)
        refine x_istore C [(17, .int x18), (15, .long v14), (0, .ref (ad 0)), (1, .int y1), (2, .int y2), (3, .int y3), (4, .int y4), (5, .int y5), (6, .long y6), (8, .long y8), (10, .long y10), (12, .long y12), (14, .int y14)] dX11_glance_94 (by decide) rfl ?_
        refine x_lload C 1 15 dX11_glance_96 rfl ?_
        refine x_aload_n C 2 0 dX11_glance_98 rfl rfl ?_
        refine x_get C 0 dX11_glance_99 fl_X11_10 (CW_0 K ad la rest σ16) rfl ?_
        refine x_get C 5 dX11_glance_102 fl_X11_203 (CW_5 K ad la rest σ16) rfl ?_
        refine x_iload C 12 14 dX11_glance_105 rfl ?_
        refine x_iconst C 2 dX11_glance_107 (by decide +kernel) ?_
        refine x_callVI C (wf := CW K ad la rest) (As := [.int y14, .int 2]) (rest := [.long v14]) dX11_glance_108 ml_X11_122 rfl rfl (Nat.le_of_ble_eq_true rfl) 10 (CW_10 K ad la rest σ16) rfl ⟨Nat.le_of_ble_eq_true rfl, Nat.le_of_ble_eq_true rfl⟩ ⟨Nat.zero_le _, Nat.zero_le _⟩ (fun q9 hq9 => c_X6_get l D K ad la rest 1 (by decide) y14 2 σ16 q9 hq9) hF (fun v20 σ19 hF => ?_)
        refine x_iload C 6 4 dX11_glance_111 rfl ?_
        refine x_isub C dX11_glance_113 ?_
        refine x_i2l C dX11_glance_114 ?_
        refine x_lmul C dX11_glance_115 ?_
        refine x_topL hF (fun x21 hF => ?_)
        refine x_lstore C [(18, .long x21), (17, .int x18), (15, .long v14), (0, .ref (ad 0)), (1, .int y1), (2, .int y2), (3, .int y3), (4, .int y4), (5, .int y5), (6, .long y6), (8, .long y8), (10, .long y10), (12, .long y12), (14, .int y14)] dX11_glance_116 (by decide) rfl ?_
        refine x_lload C 9 6 dX11_glance_118 rfl ?_
        refine x_lload C 2 15 dX11_glance_120 rfl ?_
        refine x_ladd C dX11_glance_122 ?_
        refine x_topL hF (fun x22 hF => ?_)
        refine x_lstore C [(6, .long x22), (18, .long x21), (17, .int x18), (15, .long v14), (0, .ref (ad 0)), (1, .int y1), (2, .int y2), (3, .int y3), (4, .int y4), (5, .int y5), (8, .long y8), (10, .long y10), (12, .long y12), (14, .int y14)] dX11_glance_123 (by decide) rfl ?_
        refine x_lload C 10 8 dX11_glance_125 rfl ?_
        refine x_lload C 1 18 dX11_glance_127 rfl ?_
        refine x_iload_n C 5 1 dX11_glance_129 rfl rfl ?_
        refine x_iload_n C 6 2 dX11_glance_130 rfl rfl ?_
        refine x_isub C dX11_glance_131 ?_
        refine x_i2l C dX11_glance_132 ?_
        refine x_lmul C dX11_glance_133 ?_
        refine x_ladd C dX11_glance_134 ?_
        refine x_topL hF (fun x23 hF => ?_)
        refine x_lstore C [(8, .long x23), (6, .long x22), (18, .long x21), (17, .int x18), (15, .long v14), (0, .ref (ad 0)), (1, .int y1), (2, .int y2), (3, .int y3), (4, .int y4), (5, .int y5), (10, .long y10), (12, .long y12), (14, .int y14)] dX11_glance_135 (by decide) rfl ?_
        refine x_lload C 11 10 dX11_glance_137 rfl ?_
        refine x_lload C 2 18 dX11_glance_139 rfl ?_
        refine x_iload C 3 17 dX11_glance_141 rfl ?_
        refine x_i2l C dX11_glance_143 ?_
        refine x_lmul C dX11_glance_144 ?_
        refine x_ladd C dX11_glance_145 ?_
        refine x_topL hF (fun x24 hF => ?_)
        refine x_lstore C [(10, .long x24), (8, .long x23), (6, .long x22), (18, .long x21), (17, .int x18), (15, .long v14), (0, .ref (ad 0)), (1, .int y1), (2, .int y2), (3, .int y3), (4, .int y4), (5, .int y5), (12, .long y12), (14, .int y14)] dX11_glance_146 (by decide) rfl ?_
        refine x_lload C 12 12 dX11_glance_148 rfl ?_
        refine x_lload C 3 18 dX11_glance_150 rfl ?_
        refine x_iload_n C 7 1 dX11_glance_152 rfl rfl ?_
        refine x_iload_n C 8 2 dX11_glance_153 rfl rfl ?_
        refine x_isub C dX11_glance_154 ?_
        refine x_iload C 4 17 dX11_glance_155 rfl ?_
        refine x_isub C dX11_glance_157 ?_
        refine x_i2l C dX11_glance_158 ?_
        refine x_lmul C dX11_glance_159 ?_
        refine x_ladd C dX11_glance_160 ?_
        refine x_topL hF (fun x25 hF => ?_)
        refine x_lstore C [(12, .long x25), (10, .long x24), (8, .long x23), (6, .long x22), (18, .long x21), (17, .int x18), (15, .long v14), (0, .ref (ad 0)), (1, .int y1), (2, .int y2), (3, .int y3), (4, .int y4), (5, .int y5), (14, .int y14)] dX11_glance_161 (by decide) rfl ?_
        refine x_iincN C 1 13 (fun x26 => [(14, .int x26), (12, .long x25), (10, .long x24), (8, .long x23), (6, .long x22), (18, .long x21), (17, .int x18), (15, .long v14), (0, .ref (ad 0)), (1, .int y1), (2, .int y2), (3, .int y3), (4, .int y4), (5, .int y5)]) dX11_glance_163 rfl (by decide +kernel) (by decide) (fun _ => rfl) hF (fun x26 hF => ?_)
        refine x_goto C 46 dX11_glance_166 (by decide) ?_
        refine x_loc [(0, .ref (ad 0)), (1, .int y1), (2, .int y2), (3, .int y3), (4, .int y4), (5, .int y5), (6, .long x22), (8, .long x23), (10, .long x24), (12, .long x25), (14, .int x26)] [8, 9, 10, 11, 12, 13, 4, 3, 2, 1, 0] rfl ?_
        exact ih y1 y2 y3 y4 y5 x22 x23 x24 x25 x26 σ19 hF
set_option maxHeartbeats 4000000 in
set_option maxRecDepth 100000 in
theorem c_X11_glance (l : Launch) (D : va_G) (K : Nat → ClassId) (ad la : Nat → Nat) (rest : va_W)  (a1 : Int32) (a2 : Int32) (a3 : Int32) (a4 : Int32) (a5 : Int32) (σ : xS) (z : Int64 × xS) (hF : F_X11_glance a1 a2 a3 a4 a5 σ = some z) : CL l D K yX11_glance cX11_glance 20 (some .long) 3 71 [.ref (ad 0), .int a1, .int a2, .int a3, .int a4, .int a5] (CW K ad la rest σ) z.1 (CW K ad la rest z.2) := by
  refine x_enterL [(0, .ref (ad 0)), (1, .int a1), (2, .int a2), (3, .int a3), (4, .int a4), (5, .int a5)] pnX11 (Nat.le_of_ble_eq_true rfl) rfl ?_
  intro p e s m args below meth c A C
  unfold F_X11_glance at hF
  refine x_iload C 5 5 dX11_glance_0 rfl ?_
  refine x_iconst C 0 dX11_glance_2 (by decide +kernel) ?_
  refine x_iconst C 1 dX11_glance_3 (by decide +kernel) ?_
  refine x_callSI C (wf := CW K ad la rest) (As := [.int a5, .int 0, .int 1]) (rest := []) dX11_glance_4 ml_X11_105 rfl rfl (Nat.le_of_ble_eq_true rfl) ⟨Nat.le_of_ble_eq_true rfl, Nat.le_of_ble_eq_true rfl⟩ ⟨Nat.zero_le _, Nat.zero_le _⟩ (fun q9 hq9 => c_X11_isWithin l D K ad la rest a5 0 1 σ q9 hq9) hF (fun v2 σ1 hF => ?_)
  refine x_if_eq C 27 dX11_glance_7 (by decide) hF (fun hF => ?_) (fun hF => ?_)
  · refine x_ldc2 C (-1000000000000000000) dX11_glance_27 cl_X11_191 ?_
    exact x_lret C dX11_glance_30 rfl (congrArg Prod.fst (Option.some.inj hF)) (congrArg (fun q9 : Int64 × xS => CW K ad la rest q9.2) (Option.some.inj hF))
  · refine x_iload C 4 4 dX11_glance_10 rfl ?_
    refine x_iconst C 0 dX11_glance_12 (by decide +kernel) ?_
    refine x_sipush C 9999 dX11_glance_13 (by decide +kernel) ?_
    refine x_callSI C (wf := CW K ad la rest) (As := [.int a4, .int 0, .int 9999]) (rest := []) dX11_glance_16 ml_X11_105 rfl rfl (Nat.le_of_ble_eq_true rfl) ⟨Nat.le_of_ble_eq_true rfl, Nat.le_of_ble_eq_true rfl⟩ ⟨Nat.zero_le _, Nat.zero_le _⟩ (fun q9 hq9 => c_X11_isWithin l D K ad la rest a4 0 9999 σ1 q9 hq9) hF (fun v4 σ3 hF => ?_)
    refine x_if_eq C 27 dX11_glance_19 (by decide) hF (fun hF => ?_) (fun hF => ?_)
    · refine x_ldc2 C (-1000000000000000000) dX11_glance_27 cl_X11_191 ?_
      exact x_lret C dX11_glance_30 rfl (congrArg Prod.fst (Option.some.inj hF)) (congrArg (fun q9 : Int64 × xS => CW K ad la rest q9.2) (Option.some.inj hF))
    · refine x_iload_n C 2 2 dX11_glance_22 rfl rfl ?_
      refine x_iload_n C 1 1 dX11_glance_23 rfl rfl ?_
      refine x_icmp_lt C 31 dX11_glance_24 (by decide) hF (fun hF => ?_) (fun hF => ?_)
      · refine x_lconst C 0 dX11_glance_31 (by decide +kernel) ?_
        refine x_topL hF (fun x5 hF => ?_)
        refine x_lstore C [(6, .long x5), (0, .ref (ad 0)), (1, .int a1), (2, .int a2), (3, .int a3), (4, .int a4), (5, .int a5)] dX11_glance_32 (by decide) rfl ?_
        refine x_lconst C 0 dX11_glance_34 (by decide +kernel) ?_
        refine x_topL hF (fun x6 hF => ?_)
        refine x_lstore C [(8, .long x6), (6, .long x5), (0, .ref (ad 0)), (1, .int a1), (2, .int a2), (3, .int a3), (4, .int a4), (5, .int a5)] dX11_glance_35 (by decide) rfl ?_
        refine x_lconst C 0 dX11_glance_37 (by decide +kernel) ?_
        refine x_topL hF (fun x7 hF => ?_)
        refine x_lstore C [(10, .long x7), (8, .long x6), (6, .long x5), (0, .ref (ad 0)), (1, .int a1), (2, .int a2), (3, .int a3), (4, .int a4), (5, .int a5)] dX11_glance_38 (by decide) rfl ?_
        refine x_lconst C 0 dX11_glance_40 (by decide +kernel) ?_
        refine x_topL hF (fun x8 hF => ?_)
        refine x_lstore C [(12, .long x8), (10, .long x7), (8, .long x6), (6, .long x5), (0, .ref (ad 0)), (1, .int a1), (2, .int a2), (3, .int a3), (4, .int a4), (5, .int a5)] dX11_glance_41 (by decide) rfl ?_
        refine x_iconst C 0 dX11_glance_43 (by decide +kernel) ?_
        refine x_topI hF (fun x9 hF => ?_)
        refine x_istore C [(14, .int x9), (12, .long x8), (10, .long x7), (8, .long x6), (6, .long x5), (0, .ref (ad 0)), (1, .int a1), (2, .int a2), (3, .int a3), (4, .int a4), (5, .int a5)] dX11_glance_44 (by decide) rfl ?_
        refine x_loc [(0, .ref (ad 0)), (1, .int a1), (2, .int a2), (3, .int a3), (4, .int a4), (5, .int a5), (6, .long x5), (8, .long x6), (10, .long x7), (12, .long x8), (14, .int x9)] [5, 6, 7, 8, 9, 10, 4, 3, 2, 1, 0] rfl ?_
        exact x_X11_glance_46 C z FU a1 a2 a3 a4 a5 x5 x6 x7 x8 x9 σ3 hF
      · refine x_ldc2 C (-1000000000000000000) dX11_glance_27 cl_X11_191 ?_
        exact x_lret C dX11_glance_30 rfl (congrArg Prod.fst (Option.some.inj hF)) (congrArg (fun q9 : Int64 × xS => CW K ad la rest q9.2) (Option.some.inj hF))
theorem dX11_income_0 : decode cX11_income 0 = .ok (.iload_n 1, 1) := by decide +kernel
theorem dX11_income_1 : decode cX11_income 1 = .ok (.iconst 0, 1) := by decide +kernel
theorem dX11_income_2 : decode cX11_income 2 = .ok (.iconst 1, 1) := by decide +kernel
theorem dX11_income_3 : decode cX11_income 3 = .ok (.aload_n 0, 1) := by decide +kernel
theorem dX11_income_4 : decode cX11_income 4 = .ok (.getfield 10, 3) := by decide +kernel
theorem dX11_income_7 : decode cX11_income 7 = .ok (.getfield 112, 3) := by decide +kernel
theorem dX11_income_10 : decode cX11_income 10 = .ok (.getfield 209, 3) := by decide +kernel
theorem dX11_income_13 : decode cX11_income 13 = .ok (.ishl, 1) := by decide +kernel
theorem dX11_income_14 : decode cX11_income 14 = .ok (.iconst 1, 1) := by decide +kernel
theorem dX11_income_15 : decode cX11_income 15 = .ok (.isub, 1) := by decide +kernel
theorem dX11_income_16 : decode cX11_income 16 = .ok (.invokestatic 105, 3) := by decide +kernel
theorem dX11_income_19 : decode cX11_income 19 = .ok (.ifCond .ne 7, 3) := by decide +kernel
theorem dX11_income_22 : decode cX11_income 22 = .ok (.ldc2_w 191, 3) := by decide +kernel
theorem dX11_income_25 : decode cX11_income 25 = .ok (.lreturn, 1) := by decide +kernel
theorem dX11_income_26 : decode cX11_income 26 = .ok (.aload_n 0, 1) := by decide +kernel
theorem dX11_income_27 : decode cX11_income 27 = .ok (.getfield 52, 3) := by decide +kernel
theorem dX11_income_30 : decode cX11_income 30 = .ok (.invokevirtual 226, 3) := by decide +kernel
theorem dX11_income_33 : decode cX11_income 33 = .ok (.iload_n 1, 1) := by decide +kernel
theorem dX11_income_34 : decode cX11_income 34 = .ok (.aload_n 0, 1) := by decide +kernel
theorem dX11_income_35 : decode cX11_income 35 = .ok (.getfield 52, 3) := by decide +kernel
theorem dX11_income_38 : decode cX11_income 38 = .ok (.getfield 229, 3) := by decide +kernel
theorem dX11_income_41 : decode cX11_income 41 = .ok (.iand, 1) := by decide +kernel
theorem dX11_income_42 : decode cX11_income 42 = .ok (.ifCond .eq 7, 3) := by decide +kernel
theorem dX11_income_45 : decode cX11_income 45 = .ok (.ldc2_w 191, 3) := by decide +kernel
theorem dX11_income_48 : decode cX11_income 48 = .ok (.lreturn, 1) := by decide +kernel
theorem dX11_income_49 : decode cX11_income 49 = .ok (.aload_n 0, 1) := by decide +kernel
theorem dX11_income_50 : decode cX11_income 50 = .ok (.getfield 52, 3) := by decide +kernel
theorem dX11_income_53 : decode cX11_income 53 = .ok (.iload_n 1, 1) := by decide +kernel
theorem dX11_income_54 : decode cX11_income 54 = .ok (.invokevirtual 232, 3) := by decide +kernel
theorem dX11_income_57 : decode cX11_income 57 = .ok (.lreturn, 1) := by decide +kernel
set_option maxHeartbeats 4000000 in
set_option maxRecDepth 100000 in
theorem c_X11_income (l : Launch) (D : va_G) (K : Nat → ClassId) (ad la : Nat → Nat) (rest : va_W)  (a1 : Int32) (σ : xS) (z : Int64 × xS) (hF : F_X11_income a1 σ = some z) : CL l D K yX11_income cX11_income 2 (some .long) 6 148 [.ref (ad 0), .int a1] (CW K ad la rest σ) z.1 (CW K ad la rest z.2) := by
  refine x_enterL [(0, .ref (ad 0)), (1, .int a1)] pnX11 (Nat.le_of_ble_eq_true rfl) rfl ?_
  intro p e s m args below meth c A C
  unfold F_X11_income at hF
  refine x_iload_n C 1 1 dX11_income_0 rfl rfl ?_
  refine x_iconst C 0 dX11_income_1 (by decide +kernel) ?_
  refine x_iconst C 1 dX11_income_2 (by decide +kernel) ?_
  refine x_aload_n C 0 0 dX11_income_3 rfl rfl ?_
  refine x_get C 0 dX11_income_4 fl_X11_10 (CW_0 K ad la rest σ) rfl ?_
  refine x_get C 5 dX11_income_7 fl_X11_112 (CW_5 K ad la rest σ) rfl ?_
  refine x_get C 8 dX11_income_10 fl_X11_209 (CW_8 K ad la rest σ) rfl ?_
  refine x_ishl C dX11_income_13 ?_
  refine x_iconst C 1 dX11_income_14 (by decide +kernel) ?_
  refine x_isub C dX11_income_15 ?_
  refine x_callSI C (wf := CW K ad la rest) (As := [.int a1, .int 0, .int (((1 : Int32) <<< ((sI σ 131) &&& 31)) - 1)]) (rest := []) dX11_income_16 ml_X11_105 rfl rfl (Nat.le_of_ble_eq_true rfl) ⟨Nat.le_of_ble_eq_true rfl, Nat.le_of_ble_eq_true rfl⟩ ⟨Nat.zero_le _, Nat.zero_le _⟩ (fun q9 hq9 => c_X11_isWithin l D K ad la rest a1 0 (((1 : Int32) <<< ((sI σ 131) &&& 31)) - 1) σ q9 hq9) hF (fun v2 σ1 hF => ?_)
  refine x_if_ne C 26 dX11_income_19 (by decide) hF (fun hF => ?_) (fun hF => ?_)
  · refine x_aload_n C 0 0 dX11_income_26 rfl rfl ?_
    refine x_get C 0 dX11_income_27 fl_X11_52 (CW_0 K ad la rest σ1) rfl ?_
    refine x_callVV C (wf := CW K ad la rest) (As := []) (rest := []) dX11_income_30 ml_X11_226 rfl rfl (Nat.le_of_ble_eq_true rfl) 66 (CW_66 K ad la rest σ1) rfl ⟨Nat.le_of_ble_eq_true rfl, Nat.le_of_ble_eq_true rfl⟩ ⟨Nat.zero_le _, Nat.zero_le _⟩ (fun q9 hq9 => c_X8_look l D K ad la rest σ1 q9 hq9) hF (fun _ σ3 hF => ?_)
    refine x_iload_n C 1 1 dX11_income_33 rfl rfl ?_
    refine x_aload_n C 0 0 dX11_income_34 rfl rfl ?_
    refine x_get C 0 dX11_income_35 fl_X11_52 (CW_0 K ad la rest σ3) rfl ?_
    refine x_get C 66 dX11_income_38 fl_X11_229 (CW_66 K ad la rest σ3) rfl ?_
    refine x_iand C dX11_income_41 ?_
    refine x_if_eq C 49 dX11_income_42 (by decide) hF (fun hF => ?_) (fun hF => ?_)
    · refine x_aload_n C 0 0 dX11_income_49 rfl rfl ?_
      refine x_get C 0 dX11_income_50 fl_X11_52 (CW_0 K ad la rest σ3) rfl ?_
      refine x_iload_n C 1 1 dX11_income_53 rfl rfl ?_
      refine x_callVL C (wf := CW K ad la rest) (As := [.int a1]) (rest := []) dX11_income_54 ml_X11_232 rfl rfl (Nat.le_of_ble_eq_true rfl) 66 (CW_66 K ad la rest σ3) rfl ⟨Nat.le_of_ble_eq_true rfl, Nat.le_of_ble_eq_true rfl⟩ ⟨Nat.zero_le _, Nat.zero_le _⟩ (fun q9 hq9 => c_X8_incomeOf l D K ad la rest a1 σ3 q9 hq9) hF (fun v5 σ4 hF => ?_)
      exact x_lret C dX11_income_57 rfl (congrArg Prod.fst (Option.some.inj hF)) (congrArg (fun q9 : Int64 × xS => CW K ad la rest q9.2) (Option.some.inj hF))
    · refine x_ldc2 C (-1000000000000000000) dX11_income_45 cl_X11_191 ?_
      exact x_lret C dX11_income_48 rfl (congrArg Prod.fst (Option.some.inj hF)) (congrArg (fun q9 : Int64 × xS => CW K ad la rest q9.2) (Option.some.inj hF))
  · refine x_ldc2 C (-1000000000000000000) dX11_income_22 cl_X11_191 ?_
    exact x_lret C dX11_income_25 rfl (congrArg Prod.fst (Option.some.inj hF)) (congrArg (fun q9 : Int64 × xS => CW K ad la rest q9.2) (Option.some.inj hF))
theorem dX11_best_0 : decode cX11_best 0 = .ok (.iload_n 1, 1) := by decide +kernel
theorem dX11_best_1 : decode cX11_best 1 = .ok (.iconst 0, 1) := by decide +kernel
theorem dX11_best_2 : decode cX11_best 2 = .ok (.bipush 10, 2) := by decide +kernel
theorem dX11_best_4 : decode cX11_best 4 = .ok (.invokestatic 105, 3) := by decide +kernel
theorem dX11_best_7 : decode cX11_best 7 = .ok (.ifCond .eq 12, 3) := by decide +kernel
theorem dX11_best_10 : decode cX11_best 10 = .ok (.iload_n 2, 1) := by decide +kernel
theorem dX11_best_11 : decode cX11_best 11 = .ok (.iconst 0, 1) := by decide +kernel
theorem dX11_best_12 : decode cX11_best 12 = .ok (.iconst 2, 1) := by decide +kernel
theorem dX11_best_13 : decode cX11_best 13 = .ok (.invokestatic 105, 3) := by decide +kernel
theorem dX11_best_16 : decode cX11_best 16 = .ok (.ifCond .ne 5, 3) := by decide +kernel
theorem dX11_best_19 : decode cX11_best 19 = .ok (.iconst (-1), 1) := by decide +kernel
theorem dX11_best_20 : decode cX11_best 20 = .ok (.ireturn, 1) := by decide +kernel
theorem dX11_best_21 : decode cX11_best 21 = .ok (.aload_n 0, 1) := by decide +kernel
theorem dX11_best_22 : decode cX11_best 22 = .ok (.getfield 52, 3) := by decide +kernel
theorem dX11_best_25 : decode cX11_best 25 = .ok (.invokevirtual 226, 3) := by decide +kernel
theorem dX11_best_28 : decode cX11_best 28 = .ok (.aload_n 0, 1) := by decide +kernel
theorem dX11_best_29 : decode cX11_best 29 = .ok (.getfield 52, 3) := by decide +kernel
theorem dX11_best_32 : decode cX11_best 32 = .ok (.iload_n 1, 1) := by decide +kernel
theorem dX11_best_33 : decode cX11_best 33 = .ok (.invokevirtual 236, 3) := by decide +kernel
theorem dX11_best_36 : decode cX11_best 36 = .ok (.iload_n 2, 1) := by decide +kernel
theorem dX11_best_37 : decode cX11_best 37 = .ok (.lookupswitch 50 #[(0, 27), (1, 35)], 27) := by decide +kernel
theorem dX11_best_64 : decode cX11_best 64 = .ok (.aload_n 0, 1) := by decide +kernel
theorem dX11_best_65 : decode cX11_best 65 = .ok (.getfield 52, 3) := by decide +kernel
theorem dX11_best_68 : decode cX11_best 68 = .ok (.getfield 239, 3) := by decide +kernel
theorem dX11_best_71 : decode cX11_best 71 = .ok (.ireturn, 1) := by decide +kernel
theorem dX11_best_72 : decode cX11_best 72 = .ok (.aload_n 0, 1) := by decide +kernel
theorem dX11_best_73 : decode cX11_best 73 = .ok (.getfield 52, 3) := by decide +kernel
theorem dX11_best_76 : decode cX11_best 76 = .ok (.aload_n 0, 1) := by decide +kernel
theorem dX11_best_77 : decode cX11_best 77 = .ok (.getfield 52, 3) := by decide +kernel
theorem dX11_best_80 : decode cX11_best 80 = .ok (.getfield 239, 3) := by decide +kernel
theorem dX11_best_83 : decode cX11_best 83 = .ok (.invokevirtual 242, 3) := by decide +kernel
theorem dX11_best_86 : decode cX11_best 86 = .ok (.ireturn, 1) := by decide +kernel
theorem dX11_best_87 : decode cX11_best 87 = .ok (.aload_n 0, 1) := by decide +kernel
theorem dX11_best_88 : decode cX11_best 88 = .ok (.getfield 52, 3) := by decide +kernel
theorem dX11_best_91 : decode cX11_best 91 = .ok (.getfield 245, 3) := by decide +kernel
theorem dX11_best_94 : decode cX11_best 94 = .ok (.ireturn, 1) := by decide +kernel
set_option maxHeartbeats 4000000 in
set_option maxRecDepth 100000 in
theorem c_X11_best (l : Launch) (D : va_G) (K : Nat → ClassId) (ad la : Nat → Nat) (rest : va_W)  (a1 : Int32) (a2 : Int32) (σ : xS) (z : Int32 × xS) (hF : F_X11_best a1 a2 σ = some z) : CI l D K yX11_best cX11_best 3 (some .int) 7 174 [.ref (ad 0), .int a1, .int a2] (CW K ad la rest σ) z.1 (CW K ad la rest z.2) := by
  refine x_enterI [(0, .ref (ad 0)), (1, .int a1), (2, .int a2)] pnX11 (Nat.le_of_ble_eq_true rfl) rfl ?_
  intro p e s m args below meth c A C
  unfold F_X11_best at hF
  refine x_iload_n C 1 1 dX11_best_0 rfl rfl ?_
  refine x_iconst C 0 dX11_best_1 (by decide +kernel) ?_
  refine x_bipush C 10 dX11_best_2 (by decide +kernel) ?_
  refine x_callSI C (wf := CW K ad la rest) (As := [.int a1, .int 0, .int 10]) (rest := []) dX11_best_4 ml_X11_105 rfl rfl (Nat.le_of_ble_eq_true rfl) ⟨Nat.le_of_ble_eq_true rfl, Nat.le_of_ble_eq_true rfl⟩ ⟨Nat.zero_le _, Nat.zero_le _⟩ (fun q9 hq9 => c_X11_isWithin l D K ad la rest a1 0 10 σ q9 hq9) hF (fun v2 σ1 hF => ?_)
  refine x_if_eq C 19 dX11_best_7 (by decide) hF (fun hF => ?_) (fun hF => ?_)
  · refine x_iconst C (-1) dX11_best_19 (by decide +kernel) ?_
    exact x_iret C dX11_best_20 rfl (congrArg Prod.fst (Option.some.inj hF)) (congrArg (fun q9 : Int32 × xS => CW K ad la rest q9.2) (Option.some.inj hF))
  · refine x_iload_n C 2 2 dX11_best_10 rfl rfl ?_
    refine x_iconst C 0 dX11_best_11 (by decide +kernel) ?_
    refine x_iconst C 2 dX11_best_12 (by decide +kernel) ?_
    refine x_callSI C (wf := CW K ad la rest) (As := [.int a2, .int 0, .int 2]) (rest := []) dX11_best_13 ml_X11_105 rfl rfl (Nat.le_of_ble_eq_true rfl) ⟨Nat.le_of_ble_eq_true rfl, Nat.le_of_ble_eq_true rfl⟩ ⟨Nat.zero_le _, Nat.zero_le _⟩ (fun q9 hq9 => c_X11_isWithin l D K ad la rest a2 0 2 σ1 q9 hq9) hF (fun v4 σ3 hF => ?_)
    refine x_if_ne C 21 dX11_best_16 (by decide) hF (fun hF => ?_) (fun hF => ?_)
    · refine x_aload_n C 0 0 dX11_best_21 rfl rfl ?_
      refine x_get C 0 dX11_best_22 fl_X11_52 (CW_0 K ad la rest σ3) rfl ?_
      refine x_callVV C (wf := CW K ad la rest) (As := []) (rest := []) dX11_best_25 ml_X11_226 rfl rfl (Nat.le_of_ble_eq_true rfl) 66 (CW_66 K ad la rest σ3) rfl ⟨Nat.le_of_ble_eq_true rfl, Nat.le_of_ble_eq_true rfl⟩ ⟨Nat.zero_le _, Nat.zero_le _⟩ (fun q9 hq9 => c_X8_look l D K ad la rest σ3 q9 hq9) hF (fun _ σ5 hF => ?_)
      refine x_aload_n C 0 0 dX11_best_28 rfl rfl ?_
      refine x_get C 0 dX11_best_29 fl_X11_52 (CW_0 K ad la rest σ5) rfl ?_
      refine x_iload_n C 1 1 dX11_best_32 rfl rfl ?_
      refine x_callVV C (wf := CW K ad la rest) (As := [.int a1]) (rest := []) dX11_best_33 ml_X11_236 rfl rfl (Nat.le_of_ble_eq_true rfl) 66 (CW_66 K ad la rest σ5) rfl ⟨Nat.le_of_ble_eq_true rfl, Nat.le_of_ble_eq_true rfl⟩ ⟨Nat.zero_le _, Nat.zero_le _⟩ (fun q9 hq9 => c_X8_chooseBest l D K ad la rest a1 σ5 q9 hq9) hF (fun _ σ6 hF => ?_)
      refine x_iload_n C 2 2 dX11_best_36 rfl rfl ?_
      by_cases h7 : a2 = 0
      · rw [if_pos h7] at hF
        refine x_lkp C 64 dX11_best_37 (by decide +kernel) (by rw [h7]; try rfl) (by decide) ?_
        refine x_aload_n C 0 0 dX11_best_64 rfl rfl ?_
        refine x_get C 0 dX11_best_65 fl_X11_52 (CW_0 K ad la rest σ6) rfl ?_
        refine x_get C 66 dX11_best_68 fl_X11_239 (CW_66 K ad la rest σ6) rfl ?_
        exact x_iret C dX11_best_71 rfl (congrArg Prod.fst (Option.some.inj hF)) (congrArg (fun q9 : Int32 × xS => CW K ad la rest q9.2) (Option.some.inj hF))
      · rw [if_neg h7] at hF
        by_cases h10 : a2 = 1
        · rw [if_pos h10] at hF
          refine x_lkp C 72 dX11_best_37 (by decide +kernel) (by rw [h10]; try rfl) (by decide) ?_
          refine x_aload_n C 0 0 dX11_best_72 rfl rfl ?_
          refine x_get C 0 dX11_best_73 fl_X11_52 (CW_0 K ad la rest σ6) rfl ?_
          refine x_aload_n C 0 0 dX11_best_76 rfl rfl ?_
          refine x_get C 0 dX11_best_77 fl_X11_52 (CW_0 K ad la rest σ6) rfl ?_
          refine x_get C 66 dX11_best_80 fl_X11_239 (CW_66 K ad la rest σ6) rfl ?_
          refine x_callVI C (wf := CW K ad la rest) (As := [.int (sI σ6 1061)]) (rest := []) dX11_best_83 ml_X11_242 rfl rfl (Nat.le_of_ble_eq_true rfl) 66 (CW_66 K ad la rest σ6) rfl ⟨Nat.le_of_ble_eq_true rfl, Nat.le_of_ble_eq_true rfl⟩ ⟨Nat.zero_le _, Nat.zero_le _⟩ (fun q9 hq9 => c_X8_crowdOf l D K ad la rest (sI σ6 1061) σ6 q9 hq9) hF (fun v9 σ8 hF => ?_)
          exact x_iret C dX11_best_86 rfl (congrArg Prod.fst (Option.some.inj hF)) (congrArg (fun q9 : Int32 × xS => CW K ad la rest q9.2) (Option.some.inj hF))
        · rw [if_neg h10] at hF
          refine x_lkp C (off := 50) 87 dX11_best_37 (by decide +kernel) (by have e0 : a2.toInt ≠ 0 := x_neT h7; have e1 : a2.toInt ≠ 1 := x_neT h10; show Op.lookupswitch.offset _ _ _ = _; simp only [Op.lookupswitch.offset, if_neg (Ne.symm e0), if_neg (Ne.symm e1)]) (by decide) ?_
          refine x_aload_n C 0 0 dX11_best_87 rfl rfl ?_
          refine x_get C 0 dX11_best_88 fl_X11_52 (CW_0 K ad la rest σ6) rfl ?_
          refine x_get C 66 dX11_best_91 fl_X11_245 (CW_66 K ad la rest σ6) rfl ?_
          exact x_iret C dX11_best_94 rfl (congrArg Prod.fst (Option.some.inj hF)) (congrArg (fun q9 : Int32 × xS => CW K ad la rest q9.2) (Option.some.inj hF))
    · refine x_iconst C (-1) dX11_best_19 (by decide +kernel) ?_
      exact x_iret C dX11_best_20 rfl (congrArg Prod.fst (Option.some.inj hF)) (congrArg (fun q9 : Int32 × xS => CW K ad la rest q9.2) (Option.some.inj hF))
theorem dX11_card_0 : decode cX11_card 0 = .ok (.iload_n 1, 1) := by decide +kernel
theorem dX11_card_1 : decode cX11_card 1 = .ok (.iconst 0, 1) := by decide +kernel
theorem dX11_card_2 : decode cX11_card 2 = .ok (.getstatic 109, 3) := by decide +kernel
theorem dX11_card_5 : decode cX11_card 5 = .ok (.iconst 0, 1) := by decide +kernel
theorem dX11_card_6 : decode cX11_card 6 = .ok (.iaload, 1) := by decide +kernel
theorem dX11_card_7 : decode cX11_card 7 = .ok (.invokestatic 105, 3) := by decide +kernel
theorem dX11_card_10 : decode cX11_card 10 = .ok (.ifCond .eq 24, 3) := by decide +kernel
theorem dX11_card_13 : decode cX11_card 13 = .ok (.iload_n 2, 1) := by decide +kernel
theorem dX11_card_14 : decode cX11_card 14 = .ok (.iconst 0, 1) := by decide +kernel
theorem dX11_card_15 : decode cX11_card 15 = .ok (.bipush 99, 2) := by decide +kernel
theorem dX11_card_17 : decode cX11_card 17 = .ok (.invokestatic 105, 3) := by decide +kernel
theorem dX11_card_20 : decode cX11_card 20 = .ok (.ifCond .eq 14, 3) := by decide +kernel
theorem dX11_card_23 : decode cX11_card 23 = .ok (.iload_n 3, 1) := by decide +kernel
theorem dX11_card_24 : decode cX11_card 24 = .ok (.iconst 0, 1) := by decide +kernel
theorem dX11_card_25 : decode cX11_card 25 = .ok (.sipush 999, 3) := by decide +kernel
theorem dX11_card_28 : decode cX11_card 28 = .ok (.invokestatic 105, 3) := by decide +kernel
theorem dX11_card_31 : decode cX11_card 31 = .ok (.ifCond .ne 9, 3) := by decide +kernel
theorem dX11_card_34 : decode cX11_card 34 = .ok (.aload_n 0, 1) := by decide +kernel
theorem dX11_card_35 : decode cX11_card 35 = .ok (.iconst (-1), 1) := by decide +kernel
theorem dX11_card_36 : decode cX11_card 36 = .ok (.invokevirtual 94, 3) := by decide +kernel
theorem dX11_card_39 : decode cX11_card 39 = .ok (.ireturn, 1) := by decide +kernel
theorem dX11_card_40 : decode cX11_card 40 = .ok (.aload_n 0, 1) := by decide +kernel
theorem dX11_card_41 : decode cX11_card 41 = .ok (.getfield 10, 3) := by decide +kernel
theorem dX11_card_44 : decode cX11_card 44 = .ok (.getfield 248, 3) := by decide +kernel
theorem dX11_card_47 : decode cX11_card 47 = .ok (.invokevirtual 206, 3) := by decide +kernel
theorem dX11_card_50 : decode cX11_card 50 = .ok (.istore 4, 2) := by decide +kernel
theorem dX11_card_52 : decode cX11_card 52 = .ok (.iload 4, 2) := by decide +kernel
theorem dX11_card_54 : decode cX11_card 54 = .ok (.iconst (-1), 1) := by decide +kernel
theorem dX11_card_55 : decode cX11_card 55 = .ok (.if_icmp .ne 10, 3) := by decide +kernel
theorem dX11_card_58 : decode cX11_card 58 = .ok (.aload_n 0, 1) := by decide +kernel
theorem dX11_card_59 : decode cX11_card 59 = .ok (.bipush (-5), 2) := by decide +kernel
theorem dX11_card_61 : decode cX11_card 61 = .ok (.invokevirtual 94, 3) := by decide +kernel
theorem dX11_card_64 : decode cX11_card 64 = .ok (.ireturn, 1) := by decide +kernel
theorem dX11_card_65 : decode cX11_card 65 = .ok (.aload_n 0, 1) := by decide +kernel
theorem dX11_card_66 : decode cX11_card 66 = .ok (.getfield 10, 3) := by decide +kernel
theorem dX11_card_69 : decode cX11_card 69 = .ok (.getfield 248, 3) := by decide +kernel
theorem dX11_card_72 : decode cX11_card 72 = .ok (.iload 4, 2) := by decide +kernel
theorem dX11_card_74 : decode cX11_card 74 = .ok (.iconst 0, 1) := by decide +kernel
theorem dX11_card_75 : decode cX11_card 75 = .ok (.iload_n 1, 1) := by decide +kernel
theorem dX11_card_76 : decode cX11_card 76 = .ok (.invokevirtual 126, 3) := by decide +kernel
theorem dX11_card_79 : decode cX11_card 79 = .ok (.aload_n 0, 1) := by decide +kernel
theorem dX11_card_80 : decode cX11_card 80 = .ok (.getfield 10, 3) := by decide +kernel
theorem dX11_card_83 : decode cX11_card 83 = .ok (.getfield 248, 3) := by decide +kernel
theorem dX11_card_86 : decode cX11_card 86 = .ok (.iload 4, 2) := by decide +kernel
theorem dX11_card_88 : decode cX11_card 88 = .ok (.iconst 1, 1) := by decide +kernel
theorem dX11_card_89 : decode cX11_card 89 = .ok (.iload_n 2, 1) := by decide +kernel
theorem dX11_card_90 : decode cX11_card 90 = .ok (.invokevirtual 126, 3) := by decide +kernel
theorem dX11_card_93 : decode cX11_card 93 = .ok (.aload_n 0, 1) := by decide +kernel
theorem dX11_card_94 : decode cX11_card 94 = .ok (.getfield 10, 3) := by decide +kernel
theorem dX11_card_97 : decode cX11_card 97 = .ok (.getfield 248, 3) := by decide +kernel
theorem dX11_card_100 : decode cX11_card 100 = .ok (.iload 4, 2) := by decide +kernel
theorem dX11_card_102 : decode cX11_card 102 = .ok (.iconst 2, 1) := by decide +kernel
theorem dX11_card_103 : decode cX11_card 103 = .ok (.iload_n 3, 1) := by decide +kernel
theorem dX11_card_104 : decode cX11_card 104 = .ok (.invokevirtual 126, 3) := by decide +kernel
theorem dX11_card_107 : decode cX11_card 107 = .ok (.aload_n 0, 1) := by decide +kernel
theorem dX11_card_108 : decode cX11_card 108 = .ok (.iload 4, 2) := by decide +kernel
theorem dX11_card_110 : decode cX11_card 110 = .ok (.invokevirtual 102, 3) := by decide +kernel
theorem dX11_card_113 : decode cX11_card 113 = .ok (.ireturn, 1) := by decide +kernel
set_option maxHeartbeats 4000000 in
set_option maxRecDepth 100000 in
theorem x_X11_card_34 {p : Program} {l : Launch} {e : Env} {s : State} {m : MethodId} {args : Array Value} {below : List Frame} {meth : Method} {c : Code} {D : va_G} {K : Nat → ClassId} {A : Nat → Prop} {ad la : Nat → Nat} {rest : va_W} (C : xC p s m args meth c D K A RX11 cX11_card 5 (some .int)) (z : Int32 × xS) : ∀  (σ : xS), F_X11_card_34  σ = some z → X p l e (xR 2 44) s m args below meth c D A 5 (xQi below D K A args s z.1 (CW K ad la rest z.2)) 0 0 34 [(0, .ref (ad 0))] [] (CW K ad la rest σ) := by
  intro σ hF
  unfold F_X11_card_34 at hF
  refine x_aload_n C 0 0 dX11_card_34 rfl rfl ?_
  refine x_iconst C (-1) dX11_card_35 (by decide +kernel) ?_
  refine x_callVI C (wf := CW K ad la rest) (As := [.int ((-1))]) (rest := []) dX11_card_36 ml_X11_94 rfl rfl (Nat.le_of_ble_eq_true rfl) 0 (CW_0 K ad la rest σ) rfl ⟨Nat.le_of_ble_eq_true rfl, Nat.le_of_ble_eq_true rfl⟩ ⟨Nat.zero_le _, Nat.zero_le _⟩ (fun q9 hq9 => c_X11_refused l D K ad la rest ((-1)) σ q9 hq9) hF (fun v19 σ18 hF => ?_)
  exact x_iret C dX11_card_39 rfl (congrArg Prod.fst (Option.some.inj hF)) (congrArg (fun q9 : Int32 × xS => CW K ad la rest q9.2) (Option.some.inj hF))
set_option maxHeartbeats 4000000 in
set_option maxRecDepth 100000 in
theorem c_X11_card (l : Launch) (D : va_G) (K : Nat → ClassId) (ad la : Nat → Nat) (rest : va_W)  (a1 : Int32) (a2 : Int32) (a3 : Int32) (σ : xS) (z : Int32 × xS) (hF : F_X11_card a1 a2 a3 σ = some z) : CI l D K yX11_card cX11_card 5 (some .int) 2 44 [.ref (ad 0), .int a1, .int a2, .int a3] (CW K ad la rest σ) z.1 (CW K ad la rest z.2) := by
  refine x_enterI [(0, .ref (ad 0)), (1, .int a1), (2, .int a2), (3, .int a3)] pnX11 (Nat.le_of_ble_eq_true rfl) rfl ?_
  intro p e s m args below meth c A C
  unfold F_X11_card at hF
  refine x_iload_n C 1 1 dX11_card_0 rfl rfl ?_
  refine x_iconst C 0 dX11_card_1 (by decide +kernel) ?_
  refine x_tabZ C C.2.2.2.2.2.2.2.2.2.1 dX11_card_2 (xT_mem (List.mem_append_right _ (List.mem_of_getElem? (i := 405) (by decide +kernel))) (by decide +kernel)) (fun t1 ht1 => ?_)
  refine x_iconst C 0 dX11_card_5 (by decide +kernel) ?_
  refine x_tabI C ht1 dX11_card_6 hF (fun v2 hF => ?_)
  refine x_callSI C (wf := CW K ad la rest) (As := [.int a1, .int 0, .int v2]) (rest := []) dX11_card_7 ml_X11_105 rfl rfl (Nat.le_of_ble_eq_true rfl) ⟨Nat.le_of_ble_eq_true rfl, Nat.le_of_ble_eq_true rfl⟩ ⟨Nat.zero_le _, Nat.zero_le _⟩ (fun q9 hq9 => c_X11_isWithin l D K ad la rest a1 0 v2 σ q9 hq9) hF (fun v4 σ3 hF => ?_)
  refine x_if_eq C 34 dX11_card_10 (by decide) hF (fun hF => ?_) (fun hF => ?_)
  · refine x_loc [(0, .ref (ad 0))] [0] rfl ?_
    exact x_X11_card_34 C z σ3 hF
  · refine x_iload_n C 2 2 dX11_card_13 rfl rfl ?_
    refine x_iconst C 0 dX11_card_14 (by decide +kernel) ?_
    refine x_bipush C 99 dX11_card_15 (by decide +kernel) ?_
    refine x_callSI C (wf := CW K ad la rest) (As := [.int a2, .int 0, .int 99]) (rest := []) dX11_card_17 ml_X11_105 rfl rfl (Nat.le_of_ble_eq_true rfl) ⟨Nat.le_of_ble_eq_true rfl, Nat.le_of_ble_eq_true rfl⟩ ⟨Nat.zero_le _, Nat.zero_le _⟩ (fun q9 hq9 => c_X11_isWithin l D K ad la rest a2 0 99 σ3 q9 hq9) hF (fun v6 σ5 hF => ?_)
    refine x_if_eq C 34 dX11_card_20 (by decide) hF (fun hF => ?_) (fun hF => ?_)
    · refine x_loc [(0, .ref (ad 0))] [0] rfl ?_
      exact x_X11_card_34 C z σ5 hF
    · refine x_iload_n C 3 3 dX11_card_23 rfl rfl ?_
      refine x_iconst C 0 dX11_card_24 (by decide +kernel) ?_
      refine x_sipush C 999 dX11_card_25 (by decide +kernel) ?_
      refine x_callSI C (wf := CW K ad la rest) (As := [.int a3, .int 0, .int 999]) (rest := []) dX11_card_28 ml_X11_105 rfl rfl (Nat.le_of_ble_eq_true rfl) ⟨Nat.le_of_ble_eq_true rfl, Nat.le_of_ble_eq_true rfl⟩ ⟨Nat.zero_le _, Nat.zero_le _⟩ (fun q9 hq9 => c_X11_isWithin l D K ad la rest a3 0 999 σ5 q9 hq9) hF (fun v8 σ7 hF => ?_)
      refine x_if_ne C 40 dX11_card_31 (by decide) hF (fun hF => ?_) (fun hF => ?_)
      · refine x_aload_n C 0 0 dX11_card_40 rfl rfl ?_
        refine x_get C 0 dX11_card_41 fl_X11_10 (CW_0 K ad la rest σ7) rfl ?_
        refine x_get C 5 dX11_card_44 fl_X11_248 (CW_5 K ad la rest σ7) rfl ?_
        refine x_callVI C (wf := CW K ad la rest) (As := []) (rest := []) dX11_card_47 ml_X11_206 rfl rfl (Nat.le_of_ble_eq_true rfl) 12 (CW_12 K ad la rest σ7) rfl ⟨Nat.le_of_ble_eq_true rfl, Nat.le_of_ble_eq_true rfl⟩ ⟨Nat.zero_le _, Nat.zero_le _⟩ (fun q9 hq9 => c_X6_open l D K ad la rest 2 (by decide) σ7 q9 hq9) hF (fun v10 σ9 hF => ?_)
        refine x_istore C [(4, .int v10), (0, .ref (ad 0)), (1, .int a1), (2, .int a2), (3, .int a3)] dX11_card_50 (by decide) rfl ?_
        refine x_iload C 0 4 dX11_card_52 rfl ?_
        refine x_iconst C (-1) dX11_card_54 (by decide +kernel) ?_
        refine x_icmp_ne C 65 dX11_card_55 (by decide) hF (fun hF => ?_) (fun hF => ?_)
        · refine x_aload_n C 1 0 dX11_card_65 rfl rfl ?_
          refine x_get C 0 dX11_card_66 fl_X11_10 (CW_0 K ad la rest σ9) rfl ?_
          refine x_get C 5 dX11_card_69 fl_X11_248 (CW_5 K ad la rest σ9) rfl ?_
          refine x_iload C 0 4 dX11_card_72 rfl ?_
          refine x_iconst C 0 dX11_card_74 (by decide +kernel) ?_
          refine x_iload_n C 2 1 dX11_card_75 rfl rfl ?_
          refine x_callVV C (wf := CW K ad la rest) (As := [.int v10, .int 0, .int a1]) (rest := []) dX11_card_76 ml_X11_126 rfl rfl (Nat.le_of_ble_eq_true rfl) 12 (CW_12 K ad la rest σ9) rfl ⟨Nat.le_of_ble_eq_true rfl, Nat.le_of_ble_eq_true rfl⟩ ⟨Nat.zero_le _, Nat.zero_le _⟩ (fun q9 hq9 => c_X6_set l D K ad la rest 2 (by decide) v10 0 a1 σ9 q9 hq9) hF (fun _ σ11 hF => ?_)
          refine x_aload_n C 1 0 dX11_card_79 rfl rfl ?_
          refine x_get C 0 dX11_card_80 fl_X11_10 (CW_0 K ad la rest σ11) rfl ?_
          refine x_get C 5 dX11_card_83 fl_X11_248 (CW_5 K ad la rest σ11) rfl ?_
          refine x_iload C 0 4 dX11_card_86 rfl ?_
          refine x_iconst C 1 dX11_card_88 (by decide +kernel) ?_
          refine x_iload_n C 3 2 dX11_card_89 rfl rfl ?_
          refine x_callVV C (wf := CW K ad la rest) (As := [.int v10, .int 1, .int a2]) (rest := []) dX11_card_90 ml_X11_126 rfl rfl (Nat.le_of_ble_eq_true rfl) 12 (CW_12 K ad la rest σ11) rfl ⟨Nat.le_of_ble_eq_true rfl, Nat.le_of_ble_eq_true rfl⟩ ⟨Nat.zero_le _, Nat.zero_le _⟩ (fun q9 hq9 => c_X6_set l D K ad la rest 2 (by decide) v10 1 a2 σ11 q9 hq9) hF (fun _ σ12 hF => ?_)
          refine x_aload_n C 1 0 dX11_card_93 rfl rfl ?_
          refine x_get C 0 dX11_card_94 fl_X11_10 (CW_0 K ad la rest σ12) rfl ?_
          refine x_get C 5 dX11_card_97 fl_X11_248 (CW_5 K ad la rest σ12) rfl ?_
          refine x_iload C 0 4 dX11_card_100 rfl ?_
          refine x_iconst C 2 dX11_card_102 (by decide +kernel) ?_
          refine x_iload_n C 4 3 dX11_card_103 rfl rfl ?_
          refine x_callVV C (wf := CW K ad la rest) (As := [.int v10, .int 2, .int a3]) (rest := []) dX11_card_104 ml_X11_126 rfl rfl (Nat.le_of_ble_eq_true rfl) 12 (CW_12 K ad la rest σ12) rfl ⟨Nat.le_of_ble_eq_true rfl, Nat.le_of_ble_eq_true rfl⟩ ⟨Nat.zero_le _, Nat.zero_le _⟩ (fun q9 hq9 => c_X6_set l D K ad la rest 2 (by decide) v10 2 a3 σ12 q9 hq9) hF (fun _ σ13 hF => ?_)
          refine x_aload_n C 1 0 dX11_card_107 rfl rfl ?_
          refine x_iload C 0 4 dX11_card_108 rfl ?_
          refine x_callVI C (wf := CW K ad la rest) (As := [.int v10]) (rest := []) dX11_card_110 ml_X11_102 rfl rfl (Nat.le_of_ble_eq_true rfl) 0 (CW_0 K ad la rest σ13) rfl ⟨Nat.le_of_ble_eq_true rfl, Nat.le_of_ble_eq_true rfl⟩ ⟨Nat.zero_le _, Nat.zero_le _⟩ (fun q9 hq9 => c_X11_accepted l D K ad la rest v10 σ13 q9 hq9) hF (fun v15 σ14 hF => ?_)
          exact x_iret C dX11_card_113 rfl (congrArg Prod.fst (Option.some.inj hF)) (congrArg (fun q9 : Int32 × xS => CW K ad la rest q9.2) (Option.some.inj hF))
        · refine x_aload_n C 1 0 dX11_card_58 rfl rfl ?_
          refine x_bipush C (-5) dX11_card_59 (by decide +kernel) ?_
          refine x_callVI C (wf := CW K ad la rest) (As := [.int ((-5))]) (rest := []) dX11_card_61 ml_X11_94 rfl rfl (Nat.le_of_ble_eq_true rfl) 0 (CW_0 K ad la rest σ9) rfl ⟨Nat.le_of_ble_eq_true rfl, Nat.le_of_ble_eq_true rfl⟩ ⟨Nat.zero_le _, Nat.zero_le _⟩ (fun q9 hq9 => c_X11_refused l D K ad la rest ((-5)) σ9 q9 hq9) hF (fun v17 σ16 hF => ?_)
          exact x_iret C dX11_card_64 rfl (congrArg Prod.fst (Option.some.inj hF)) (congrArg (fun q9 : Int32 × xS => CW K ad la rest q9.2) (Option.some.inj hF))
      · refine x_loc [(0, .ref (ad 0))] [0] rfl ?_
        exact x_X11_card_34 C z σ7 hF
theorem dX11_uncard_0 : decode cX11_uncard 0 = .ok (.aload_n 0, 1) := by decide +kernel
theorem dX11_uncard_1 : decode cX11_uncard 1 = .ok (.aload_n 0, 1) := by decide +kernel
theorem dX11_uncard_2 : decode cX11_uncard 2 = .ok (.getfield 10, 3) := by decide +kernel
theorem dX11_uncard_5 : decode cX11_uncard 5 = .ok (.getfield 248, 3) := by decide +kernel
theorem dX11_uncard_8 : decode cX11_uncard 8 = .ok (.iload_n 1, 1) := by decide +kernel
theorem dX11_uncard_9 : decode cX11_uncard 9 = .ok (.invokevirtual 130, 3) := by decide +kernel
theorem dX11_uncard_12 : decode cX11_uncard 12 = .ok (.ireturn, 1) := by decide +kernel
set_option maxHeartbeats 4000000 in
set_option maxRecDepth 100000 in
theorem c_X11_uncard (l : Launch) (D : va_G) (K : Nat → ClassId) (ad la : Nat → Nat) (rest : va_W)  (a1 : Int32) (σ : xS) (z : Int32 × xS) (hF : F_X11_uncard a1 σ = some z) : CI l D K yX11_uncard cX11_uncard 2 (some .int) 3 73 [.ref (ad 0), .int a1] (CW K ad la rest σ) z.1 (CW K ad la rest z.2) := by
  refine x_enterI [(0, .ref (ad 0)), (1, .int a1)] pnX11 (Nat.le_of_ble_eq_true rfl) rfl ?_
  intro p e s m args below meth c A C
  unfold F_X11_uncard at hF
  refine x_aload_n C 0 0 dX11_uncard_0 rfl rfl ?_
  refine x_aload_n C 0 0 dX11_uncard_1 rfl rfl ?_
  refine x_get C 0 dX11_uncard_2 fl_X11_10 (CW_0 K ad la rest σ) rfl ?_
  refine x_get C 5 dX11_uncard_5 fl_X11_248 (CW_5 K ad la rest σ) rfl ?_
  refine x_iload_n C 1 1 dX11_uncard_8 rfl rfl ?_
  refine x_callVI C (wf := CW K ad la rest) (As := [.ref (ad 12), .int a1]) (rest := []) dX11_uncard_9 ml_X11_130 rfl rfl (Nat.le_of_ble_eq_true rfl) 0 (CW_0 K ad la rest σ) rfl ⟨Nat.le_of_ble_eq_true rfl, Nat.le_of_ble_eq_true rfl⟩ ⟨Nat.zero_le _, Nat.zero_le _⟩ (fun q9 hq9 => c_X11_removed l D K ad la rest 2 (by decide) a1 σ q9 hq9) hF (fun v2 σ1 hF => ?_)
  exact x_iret C dX11_uncard_12 rfl (congrArg Prod.fst (Option.some.inj hF)) (congrArg (fun q9 : Int32 × xS => CW K ad la rest q9.2) (Option.some.inj hF))
theorem dX11_wants_0 : decode cX11_wants 0 = .ok (.aload_n 0, 1) := by decide +kernel
theorem dX11_wants_1 : decode cX11_wants 1 = .ok (.getfield 10, 3) := by decide +kernel
theorem dX11_wants_4 : decode cX11_wants 4 = .ok (.getfield 248, 3) := by decide +kernel
theorem dX11_wants_7 : decode cX11_wants 7 = .ok (.iload_n 1, 1) := by decide +kernel
theorem dX11_wants_8 : decode cX11_wants 8 = .ok (.invokevirtual 116, 3) := by decide +kernel
theorem dX11_wants_11 : decode cX11_wants 11 = .ok (.ifCond .eq 17, 3) := by decide +kernel
theorem dX11_wants_14 : decode cX11_wants 14 = .ok (.aload_n 0, 1) := by decide +kernel
theorem dX11_wants_15 : decode cX11_wants 15 = .ok (.getfield 10, 3) := by decide +kernel
theorem dX11_wants_18 : decode cX11_wants 18 = .ok (.getfield 112, 3) := by decide +kernel
theorem dX11_wants_21 : decode cX11_wants 21 = .ok (.iload_n 2, 1) := by decide +kernel
theorem dX11_wants_22 : decode cX11_wants 22 = .ok (.invokevirtual 116, 3) := by decide +kernel
theorem dX11_wants_25 : decode cX11_wants 25 = .ok (.ifCond .ne 5, 3) := by decide +kernel
theorem dX11_wants_28 : decode cX11_wants 28 = .ok (.iconst (-1), 1) := by decide +kernel
theorem dX11_wants_29 : decode cX11_wants 29 = .ok (.ireturn, 1) := by decide +kernel
theorem dX11_wants_30 : decode cX11_wants 30 = .ok (.aload_n 0, 1) := by decide +kernel
theorem dX11_wants_31 : decode cX11_wants 31 = .ok (.getfield 29, 3) := by decide +kernel
theorem dX11_wants_34 : decode cX11_wants 34 = .ok (.iload_n 1, 1) := by decide +kernel
theorem dX11_wants_35 : decode cX11_wants 35 = .ok (.iload_n 2, 1) := by decide +kernel
theorem dX11_wants_36 : decode cX11_wants 36 = .ok (.invokevirtual 251, 3) := by decide +kernel
theorem dX11_wants_39 : decode cX11_wants 39 = .ok (.ireturn, 1) := by decide +kernel
set_option maxHeartbeats 4000000 in
set_option maxRecDepth 100000 in
theorem c_X11_wants (l : Launch) (D : va_G) (K : Nat → ClassId) (ad la : Nat → Nat) (rest : va_W)  (a1 : Int32) (a2 : Int32) (σ : xS) (z : Int32 × xS) (hF : F_X11_wants a1 a2 σ = some z) : CI l D K yX11_wants cX11_wants 3 (some .int) 4 101 [.ref (ad 0), .int a1, .int a2] (CW K ad la rest σ) z.1 (CW K ad la rest z.2) := by
  refine x_enterI [(0, .ref (ad 0)), (1, .int a1), (2, .int a2)] pnX11 (Nat.le_of_ble_eq_true rfl) rfl ?_
  intro p e s m args below meth c A C
  unfold F_X11_wants at hF
  refine x_aload_n C 0 0 dX11_wants_0 rfl rfl ?_
  refine x_get C 0 dX11_wants_1 fl_X11_10 (CW_0 K ad la rest σ) rfl ?_
  refine x_get C 5 dX11_wants_4 fl_X11_248 (CW_5 K ad la rest σ) rfl ?_
  refine x_iload_n C 1 1 dX11_wants_7 rfl rfl ?_
  refine x_callVI C (wf := CW K ad la rest) (As := [.int a1]) (rest := []) dX11_wants_8 ml_X11_116 rfl rfl (Nat.le_of_ble_eq_true rfl) 12 (CW_12 K ad la rest σ) rfl ⟨Nat.le_of_ble_eq_true rfl, Nat.le_of_ble_eq_true rfl⟩ ⟨Nat.zero_le _, Nat.zero_le _⟩ (fun q9 hq9 => c_X6_has l D K ad la rest 2 (by decide) a1 σ q9 hq9) hF (fun v2 σ1 hF => ?_)
  refine x_if_eq C 28 dX11_wants_11 (by decide) hF (fun hF => ?_) (fun hF => ?_)
  · refine x_iconst C (-1) dX11_wants_28 (by decide +kernel) ?_
    exact x_iret C dX11_wants_29 rfl (congrArg Prod.fst (Option.some.inj hF)) (congrArg (fun q9 : Int32 × xS => CW K ad la rest q9.2) (Option.some.inj hF))
  · refine x_aload_n C 0 0 dX11_wants_14 rfl rfl ?_
    refine x_get C 0 dX11_wants_15 fl_X11_10 (CW_0 K ad la rest σ1) rfl ?_
    refine x_get C 5 dX11_wants_18 fl_X11_112 (CW_5 K ad la rest σ1) rfl ?_
    refine x_iload_n C 2 2 dX11_wants_21 rfl rfl ?_
    refine x_callVI C (wf := CW K ad la rest) (As := [.int a2]) (rest := []) dX11_wants_22 ml_X11_116 rfl rfl (Nat.le_of_ble_eq_true rfl) 8 (CW_8 K ad la rest σ1) rfl ⟨Nat.le_of_ble_eq_true rfl, Nat.le_of_ble_eq_true rfl⟩ ⟨Nat.zero_le _, Nat.zero_le _⟩ (fun q9 hq9 => c_X6_has l D K ad la rest 0 (by decide) a2 σ1 q9 hq9) hF (fun v4 σ3 hF => ?_)
    refine x_if_ne C 30 dX11_wants_25 (by decide) hF (fun hF => ?_) (fun hF => ?_)
    · refine x_aload_n C 0 0 dX11_wants_30 rfl rfl ?_
      refine x_get C 0 dX11_wants_31 fl_X11_29 (CW_0 K ad la rest σ3) rfl ?_
      refine x_iload_n C 1 1 dX11_wants_34 rfl rfl ?_
      refine x_iload_n C 2 2 dX11_wants_35 rfl rfl ?_
      refine x_callVI C (wf := CW K ad la rest) (As := [.int a1, .int a2]) (rest := []) dX11_wants_36 ml_X11_251 rfl rfl (Nat.le_of_ble_eq_true rfl) 44 (CW_44 K ad la rest σ3) rfl ⟨Nat.le_of_ble_eq_true rfl, Nat.le_of_ble_eq_true rfl⟩ ⟨Nat.zero_le _, Nat.zero_le _⟩ (fun q9 hq9 => c_X0_stillWanted l D K ad la rest a1 a2 σ3 q9 hq9) hF (fun v6 σ5 hF => ?_)
      exact x_iret C dX11_wants_39 rfl (congrArg Prod.fst (Option.some.inj hF)) (congrArg (fun q9 : Int32 × xS => CW K ad la rest q9.2) (Option.some.inj hF))
    · refine x_iconst C (-1) dX11_wants_28 (by decide +kernel) ?_
      exact x_iret C dX11_wants_29 rfl (congrArg Prod.fst (Option.some.inj hF)) (congrArg (fun q9 : Int32 × xS => CW K ad la rest q9.2) (Option.some.inj hF))
theorem dX11_keep_0 : decode cX11_keep 0 = .ok (.iload_n 1, 1) := by decide +kernel
theorem dX11_keep_1 : decode cX11_keep 1 = .ok (.iconst (-1), 1) := by decide +kernel
theorem dX11_keep_2 : decode cX11_keep 2 = .ok (.if_icmp .eq 19, 3) := by decide +kernel
theorem dX11_keep_5 : decode cX11_keep 5 = .ok (.aload_n 0, 1) := by decide +kernel
theorem dX11_keep_6 : decode cX11_keep 6 = .ok (.getfield 10, 3) := by decide +kernel
theorem dX11_keep_9 : decode cX11_keep 9 = .ok (.getfield 248, 3) := by decide +kernel
theorem dX11_keep_12 : decode cX11_keep 12 = .ok (.iload_n 1, 1) := by decide +kernel
theorem dX11_keep_13 : decode cX11_keep 13 = .ok (.invokevirtual 116, 3) := by decide +kernel
theorem dX11_keep_16 : decode cX11_keep 16 = .ok (.ifCond .ne 5, 3) := by decide +kernel
theorem dX11_keep_19 : decode cX11_keep 19 = .ok (.iconst (-1), 1) := by decide +kernel
theorem dX11_keep_20 : decode cX11_keep 20 = .ok (.ireturn, 1) := by decide +kernel
theorem dX11_keep_21 : decode cX11_keep 21 = .ok (.aload_n 0, 1) := by decide +kernel
theorem dX11_keep_22 : decode cX11_keep 22 = .ok (.getfield 59, 3) := by decide +kernel
theorem dX11_keep_25 : decode cX11_keep 25 = .ok (.invokevirtual 254, 3) := by decide +kernel
theorem dX11_keep_28 : decode cX11_keep 28 = .ok (.iload_n 1, 1) := by decide +kernel
theorem dX11_keep_29 : decode cX11_keep 29 = .ok (.iconst (-1), 1) := by decide +kernel
theorem dX11_keep_30 : decode cX11_keep 30 = .ok (.if_icmp .ne 13, 3) := by decide +kernel
theorem dX11_keep_33 : decode cX11_keep 33 = .ok (.aload_n 0, 1) := by decide +kernel
theorem dX11_keep_34 : decode cX11_keep 34 = .ok (.getfield 59, 3) := by decide +kernel
theorem dX11_keep_37 : decode cX11_keep 37 = .ok (.invokevirtual 256, 3) := by decide +kernel
theorem dX11_keep_40 : decode cX11_keep 40 = .ok (.goto 11, 3) := by decide +kernel
theorem dX11_keep_43 : decode cX11_keep 43 = .ok (.aload_n 0, 1) := by decide +kernel
theorem dX11_keep_44 : decode cX11_keep 44 = .ok (.getfield 59, 3) := by decide +kernel
theorem dX11_keep_47 : decode cX11_keep 47 = .ok (.iload_n 1, 1) := by decide +kernel
theorem dX11_keep_48 : decode cX11_keep 48 = .ok (.invokevirtual 259, 3) := by decide +kernel
theorem dX11_keep_51 : decode cX11_keep 51 = .ok (.ireturn, 1) := by decide +kernel
set_option maxHeartbeats 4000000 in
set_option maxRecDepth 100000 in
theorem x_X11_keep_21 {p : Program} {l : Launch} {e : Env} {s : State} {m : MethodId} {args : Array Value} {below : List Frame} {meth : Method} {c : Code} {D : va_G} {K : Nat → ClassId} {A : Nat → Prop} {ad la : Nat → Nat} {rest : va_W} (C : xC p s m args meth c D K A RX11 cX11_keep 2 (some .int)) (z : Int32 × xS) : ∀ (y1 : Int32) (σ : xS), F_X11_keep_21  y1 σ = some z → X p l e (xR 6 148) s m args below meth c D A 2 (xQi below D K A args s z.1 (CW K ad la rest z.2)) 0 0 21 [(0, .ref (ad 0)), (1, .int y1)] [] (CW K ad la rest σ) := by
  intro y1 σ hF
  unfold F_X11_keep_21 at hF
  refine x_aload_n C 0 0 dX11_keep_21 rfl rfl ?_
  refine x_get C 0 dX11_keep_22 fl_X11_59 (CW_0 K ad la rest σ) rfl ?_
  refine x_callVV C (wf := CW K ad la rest) (As := []) (rest := []) dX11_keep_25 ml_X11_254 rfl rfl (Nat.le_of_ble_eq_true rfl) 69 (CW_69 K ad la rest σ) rfl ⟨Nat.le_of_ble_eq_true rfl, Nat.le_of_ble_eq_true rfl⟩ ⟨Nat.zero_le _, Nat.zero_le _⟩ (fun q9 hq9 => c_X3_plan l D K ad la rest σ q9 hq9) hF (fun _ σ3 hF => ?_)
  refine x_iload_n C 1 1 dX11_keep_28 rfl rfl ?_
  refine x_iconst C (-1) dX11_keep_29 (by decide +kernel) ?_
  refine x_icmp_ne C 43 dX11_keep_30 (by decide) hF (fun hF => ?_) (fun hF => ?_)
  · refine x_aload_n C 0 0 dX11_keep_43 rfl rfl ?_
    refine x_get C 0 dX11_keep_44 fl_X11_59 (CW_0 K ad la rest σ3) rfl ?_
    refine x_iload_n C 1 1 dX11_keep_47 rfl rfl ?_
    refine x_callVI C (wf := CW K ad la rest) (As := [.int y1]) (rest := []) dX11_keep_48 ml_X11_259 rfl rfl (Nat.le_of_ble_eq_true rfl) 69 (CW_69 K ad la rest σ3) rfl ⟨Nat.le_of_ble_eq_true rfl, Nat.le_of_ble_eq_true rfl⟩ ⟨Nat.zero_le _, Nat.zero_le _⟩ (fun q9 hq9 => c_X3_bookFor l D K ad la rest y1 σ3 q9 hq9) hF (fun v5 σ4 hF => ?_)
    exact x_iret C dX11_keep_51 rfl (congrArg Prod.fst (Option.some.inj hF)) (congrArg (fun q9 : Int32 × xS => CW K ad la rest q9.2) (Option.some.inj hF))
  · refine x_aload_n C 0 0 dX11_keep_33 rfl rfl ?_
    refine x_get C 0 dX11_keep_34 fl_X11_59 (CW_0 K ad la rest σ3) rfl ?_
    refine x_callVI C (wf := CW K ad la rest) (As := []) (rest := []) dX11_keep_37 ml_X11_256 rfl rfl (Nat.le_of_ble_eq_true rfl) 69 (CW_69 K ad la rest σ3) rfl ⟨Nat.le_of_ble_eq_true rfl, Nat.le_of_ble_eq_true rfl⟩ ⟨Nat.zero_le _, Nat.zero_le _⟩ (fun q9 hq9 => c_X3_total l D K ad la rest σ3 q9 hq9) hF (fun v7 σ6 hF => ?_)
    refine x_goto C 51 dX11_keep_40 (by decide) ?_
    exact x_iret C dX11_keep_51 rfl (congrArg Prod.fst (Option.some.inj hF)) (congrArg (fun q9 : Int32 × xS => CW K ad la rest q9.2) (Option.some.inj hF))
set_option maxHeartbeats 4000000 in
set_option maxRecDepth 100000 in
theorem c_X11_keep (l : Launch) (D : va_G) (K : Nat → ClassId) (ad la : Nat → Nat) (rest : va_W)  (a1 : Int32) (σ : xS) (z : Int32 × xS) (hF : F_X11_keep a1 σ = some z) : CI l D K yX11_keep cX11_keep 2 (some .int) 6 148 [.ref (ad 0), .int a1] (CW K ad la rest σ) z.1 (CW K ad la rest z.2) := by
  refine x_enterI [(0, .ref (ad 0)), (1, .int a1)] pnX11 (Nat.le_of_ble_eq_true rfl) rfl ?_
  intro p e s m args below meth c A C
  unfold F_X11_keep at hF
  refine x_iload_n C 1 1 dX11_keep_0 rfl rfl ?_
  refine x_iconst C (-1) dX11_keep_1 (by decide +kernel) ?_
  refine x_icmp_eq C 21 dX11_keep_2 (by decide) hF (fun hF => ?_) (fun hF => ?_)
  · exact x_X11_keep_21 C z a1 σ hF
  · refine x_aload_n C 0 0 dX11_keep_5 rfl rfl ?_
    refine x_get C 0 dX11_keep_6 fl_X11_10 (CW_0 K ad la rest σ) rfl ?_
    refine x_get C 5 dX11_keep_9 fl_X11_248 (CW_5 K ad la rest σ) rfl ?_
    refine x_iload_n C 1 1 dX11_keep_12 rfl rfl ?_
    refine x_callVI C (wf := CW K ad la rest) (As := [.int a1]) (rest := []) dX11_keep_13 ml_X11_116 rfl rfl (Nat.le_of_ble_eq_true rfl) 12 (CW_12 K ad la rest σ) rfl ⟨Nat.le_of_ble_eq_true rfl, Nat.le_of_ble_eq_true rfl⟩ ⟨Nat.zero_le _, Nat.zero_le _⟩ (fun q9 hq9 => c_X6_has l D K ad la rest 2 (by decide) a1 σ q9 hq9) hF (fun v2 σ1 hF => ?_)
    refine x_if_ne C 21 dX11_keep_16 (by decide) hF (fun hF => ?_) (fun hF => ?_)
    · exact x_X11_keep_21 C z a1 σ1 hF
    · refine x_iconst C (-1) dX11_keep_19 (by decide +kernel) ?_
      exact x_iret C dX11_keep_20 rfl (congrArg Prod.fst (Option.some.inj hF)) (congrArg (fun q9 : Int32 × xS => CW K ad la rest q9.2) (Option.some.inj hF))
theorem dX11_dealer_0 : decode cX11_dealer 0 = .ok (.iload_n 1, 1) := by decide +kernel
theorem dX11_dealer_1 : decode cX11_dealer 1 = .ok (.iconst 0, 1) := by decide +kernel
theorem dX11_dealer_2 : decode cX11_dealer 2 = .ok (.iconst 1, 1) := by decide +kernel
theorem dX11_dealer_3 : decode cX11_dealer 3 = .ok (.invokestatic 105, 3) := by decide +kernel
theorem dX11_dealer_6 : decode cX11_dealer 6 = .ok (.ifCond .ne 5, 3) := by decide +kernel
theorem dX11_dealer_9 : decode cX11_dealer 9 = .ok (.iconst (-1), 1) := by decide +kernel
theorem dX11_dealer_10 : decode cX11_dealer 10 = .ok (.ireturn, 1) := by decide +kernel
theorem dX11_dealer_11 : decode cX11_dealer 11 = .ok (.aload_n 0, 1) := by decide +kernel
theorem dX11_dealer_12 : decode cX11_dealer 12 = .ok (.getfield 66, 3) := by decide +kernel
theorem dX11_dealer_15 : decode cX11_dealer 15 = .ok (.iconst 1, 1) := by decide +kernel
theorem dX11_dealer_16 : decode cX11_dealer 16 = .ok (.aload_n 0, 1) := by decide +kernel
theorem dX11_dealer_17 : decode cX11_dealer 17 = .ok (.getfield 10, 3) := by decide +kernel
theorem dX11_dealer_20 : decode cX11_dealer 20 = .ok (.getfield 112, 3) := by decide +kernel
theorem dX11_dealer_23 : decode cX11_dealer 23 = .ok (.getfield 209, 3) := by decide +kernel
theorem dX11_dealer_26 : decode cX11_dealer 26 = .ok (.ishl, 1) := by decide +kernel
theorem dX11_dealer_27 : decode cX11_dealer 27 = .ok (.iconst 1, 1) := by decide +kernel
theorem dX11_dealer_28 : decode cX11_dealer 28 = .ok (.isub, 1) := by decide +kernel
theorem dX11_dealer_29 : decode cX11_dealer 29 = .ok (.iconst 0, 1) := by decide +kernel
theorem dX11_dealer_30 : decode cX11_dealer 30 = .ok (.invokevirtual 262, 3) := by decide +kernel
theorem dX11_dealer_33 : decode cX11_dealer 33 = .ok (.istore_n 2, 1) := by decide +kernel
theorem dX11_dealer_34 : decode cX11_dealer 34 = .ok (.iload_n 1, 1) := by decide +kernel
theorem dX11_dealer_35 : decode cX11_dealer 35 = .ok (.ifCond .ne 7, 3) := by decide +kernel
theorem dX11_dealer_38 : decode cX11_dealer 38 = .ok (.iload_n 2, 1) := by decide +kernel
theorem dX11_dealer_39 : decode cX11_dealer 39 = .ok (.goto 11, 3) := by decide +kernel
theorem dX11_dealer_42 : decode cX11_dealer 42 = .ok (.aload_n 0, 1) := by decide +kernel
theorem dX11_dealer_43 : decode cX11_dealer 43 = .ok (.getfield 66, 3) := by decide +kernel
theorem dX11_dealer_46 : decode cX11_dealer 46 = .ok (.iload_n 2, 1) := by decide +kernel
theorem dX11_dealer_47 : decode cX11_dealer 47 = .ok (.invokevirtual 265, 3) := by decide +kernel
theorem dX11_dealer_50 : decode cX11_dealer 50 = .ok (.ireturn, 1) := by decide +kernel
set_option maxHeartbeats 4000000 in
set_option maxRecDepth 100000 in
theorem c_X11_dealer (l : Launch) (D : va_G) (K : Nat → ClassId) (ad la : Nat → Nat) (rest : va_W)  (a1 : Int32) (σ : xS) (z : Int32 × xS) (hF : F_X11_dealer a1 σ = some z) : CI l D K yX11_dealer cX11_dealer 3 (some .int) 6 143 [.ref (ad 0), .int a1] (CW K ad la rest σ) z.1 (CW K ad la rest z.2) := by
  refine x_enterI [(0, .ref (ad 0)), (1, .int a1)] pnX11 (Nat.le_of_ble_eq_true rfl) rfl ?_
  intro p e s m args below meth c A C
  unfold F_X11_dealer at hF
  refine x_iload_n C 1 1 dX11_dealer_0 rfl rfl ?_
  refine x_iconst C 0 dX11_dealer_1 (by decide +kernel) ?_
  refine x_iconst C 1 dX11_dealer_2 (by decide +kernel) ?_
  refine x_callSI C (wf := CW K ad la rest) (As := [.int a1, .int 0, .int 1]) (rest := []) dX11_dealer_3 ml_X11_105 rfl rfl (Nat.le_of_ble_eq_true rfl) ⟨Nat.le_of_ble_eq_true rfl, Nat.le_of_ble_eq_true rfl⟩ ⟨Nat.zero_le _, Nat.zero_le _⟩ (fun q9 hq9 => c_X11_isWithin l D K ad la rest a1 0 1 σ q9 hq9) hF (fun v2 σ1 hF => ?_)
  refine x_if_ne C 11 dX11_dealer_6 (by decide) hF (fun hF => ?_) (fun hF => ?_)
  · refine x_aload_n C 0 0 dX11_dealer_11 rfl rfl ?_
    refine x_get C 0 dX11_dealer_12 fl_X11_66 (CW_0 K ad la rest σ1) rfl ?_
    refine x_iconst C 1 dX11_dealer_15 (by decide +kernel) ?_
    refine x_aload_n C 0 0 dX11_dealer_16 rfl rfl ?_
    refine x_get C 0 dX11_dealer_17 fl_X11_10 (CW_0 K ad la rest σ1) rfl ?_
    refine x_get C 5 dX11_dealer_20 fl_X11_112 (CW_5 K ad la rest σ1) rfl ?_
    refine x_get C 8 dX11_dealer_23 fl_X11_209 (CW_8 K ad la rest σ1) rfl ?_
    refine x_ishl C dX11_dealer_26 ?_
    refine x_iconst C 1 dX11_dealer_27 (by decide +kernel) ?_
    refine x_isub C dX11_dealer_28 ?_
    refine x_iconst C 0 dX11_dealer_29 (by decide +kernel) ?_
    refine x_callVI C (wf := CW K ad la rest) (As := [.int (((1 : Int32) <<< ((sI σ1 131) &&& 31)) - 1), .int 0]) (rest := []) dX11_dealer_30 ml_X11_262 rfl rfl (Nat.le_of_ble_eq_true rfl) 89 (CW_89 K ad la rest σ1) rfl ⟨Nat.le_of_ble_eq_true rfl, Nat.le_of_ble_eq_true rfl⟩ ⟨Nat.zero_le _, Nat.zero_le _⟩ (fun q9 hq9 => c_X1_takes l D K ad la rest (((1 : Int32) <<< ((sI σ1 131) &&& 31)) - 1) 0 σ1 q9 hq9) hF (fun v4 σ3 hF => ?_)
    refine x_istore_n C [(2, .int v4), (0, .ref (ad 0)), (1, .int a1)] dX11_dealer_33 rfl (by decide) rfl ?_
    refine x_iload_n C 2 1 dX11_dealer_34 rfl rfl ?_
    refine x_if_ne C 42 dX11_dealer_35 (by decide) hF (fun hF => ?_) (fun hF => ?_)
    · refine x_aload_n C 1 0 dX11_dealer_42 rfl rfl ?_
      refine x_get C 0 dX11_dealer_43 fl_X11_66 (CW_0 K ad la rest σ3) rfl ?_
      refine x_iload_n C 0 2 dX11_dealer_46 rfl rfl ?_
      refine x_callVI C (wf := CW K ad la rest) (As := [.int v4]) (rest := []) dX11_dealer_47 ml_X11_265 rfl rfl (Nat.le_of_ble_eq_true rfl) 89 (CW_89 K ad la rest σ3) rfl ⟨Nat.le_of_ble_eq_true rfl, Nat.le_of_ble_eq_true rfl⟩ ⟨Nat.zero_le _, Nat.zero_le _⟩ (fun q9 hq9 => c_X1_pays l D K ad la rest v4 σ3 q9 hq9) hF (fun v6 σ5 hF => ?_)
      exact x_iret C dX11_dealer_50 rfl (congrArg Prod.fst (Option.some.inj hF)) (congrArg (fun q9 : Int32 × xS => CW K ad la rest q9.2) (Option.some.inj hF))
    · refine x_iload_n C 0 2 dX11_dealer_38 rfl rfl ?_
      refine x_goto C 50 dX11_dealer_39 (by decide) ?_
      exact x_iret C dX11_dealer_50 rfl (congrArg Prod.fst (Option.some.inj hF)) (congrArg (fun q9 : Int32 × xS => CW K ad la rest q9.2) (Option.some.inj hF))
  · refine x_iconst C (-1) dX11_dealer_9 (by decide +kernel) ?_
    exact x_iret C dX11_dealer_10 rfl (congrArg Prod.fst (Option.some.inj hF)) (congrArg (fun q9 : Int32 × xS => CW K ad la rest q9.2) (Option.some.inj hF))
theorem dX11_brings_0 : decode cX11_brings 0 = .ok (.aload_n 0, 1) := by decide +kernel
theorem dX11_brings_1 : decode cX11_brings 1 = .ok (.getfield 66, 3) := by decide +kernel
theorem dX11_brings_4 : decode cX11_brings 4 = .ok (.invokevirtual 268, 3) := by decide +kernel
theorem dX11_brings_7 : decode cX11_brings 7 = .ok (.aload_n 0, 1) := by decide +kernel
theorem dX11_brings_8 : decode cX11_brings 8 = .ok (.getfield 66, 3) := by decide +kernel
theorem dX11_brings_11 : decode cX11_brings 11 = .ok (.invokevirtual 271, 3) := by decide +kernel
theorem dX11_brings_14 : decode cX11_brings 14 = .ok (.ireturn, 1) := by decide +kernel
set_option maxHeartbeats 4000000 in
set_option maxRecDepth 100000 in
theorem c_X11_brings (l : Launch) (D : va_G) (K : Nat → ClassId) (ad la : Nat → Nat) (rest : va_W)   (σ : xS) (z : Int32 × xS) (hF : F_X11_brings σ = some z) : CI l D K yX11_brings cX11_brings 1 (some .int) 6 141 [.ref (ad 0)] (CW K ad la rest σ) z.1 (CW K ad la rest z.2) := by
  refine x_enterI [(0, .ref (ad 0))] pnX11 (Nat.le_of_ble_eq_true rfl) rfl ?_
  intro p e s m args below meth c A C
  unfold F_X11_brings at hF
  refine x_aload_n C 0 0 dX11_brings_0 rfl rfl ?_
  refine x_get C 0 dX11_brings_1 fl_X11_66 (CW_0 K ad la rest σ) rfl ?_
  refine x_callVV C (wf := CW K ad la rest) (As := []) (rest := []) dX11_brings_4 ml_X11_268 rfl rfl (Nat.le_of_ble_eq_true rfl) 89 (CW_89 K ad la rest σ) rfl ⟨Nat.le_of_ble_eq_true rfl, Nat.le_of_ble_eq_true rfl⟩ ⟨Nat.zero_le _, Nat.zero_le _⟩ (fun q9 hq9 => c_X1_lookAtAll l D K ad la rest σ q9 hq9) hF (fun _ σ1 hF => ?_)
  refine x_aload_n C 0 0 dX11_brings_7 rfl rfl ?_
  refine x_get C 0 dX11_brings_8 fl_X11_66 (CW_0 K ad la rest σ1) rfl ?_
  refine x_callVI C (wf := CW K ad la rest) (As := []) (rest := []) dX11_brings_11 ml_X11_271 rfl rfl (Nat.le_of_ble_eq_true rfl) 89 (CW_89 K ad la rest σ1) rfl ⟨Nat.le_of_ble_eq_true rfl, Nat.le_of_ble_eq_true rfl⟩ ⟨Nat.zero_le _, Nat.zero_le _⟩ (fun q9 hq9 => c_X1_broughtTogether l D K ad la rest σ1 q9 hq9) hF (fun v3 σ2 hF => ?_)
  exact x_iret C dX11_brings_14 rfl (congrArg Prod.fst (Option.some.inj hF)) (congrArg (fun q9 : Int32 × xS => CW K ad la rest q9.2) (Option.some.inj hF))
theorem dX11_bait_0 : decode cX11_bait 0 = .ok (.aload_n 0, 1) := by decide +kernel
theorem dX11_bait_1 : decode cX11_bait 1 = .ok (.getfield 10, 3) := by decide +kernel
theorem dX11_bait_4 : decode cX11_bait 4 = .ok (.getfield 112, 3) := by decide +kernel
theorem dX11_bait_7 : decode cX11_bait 7 = .ok (.iload_n 1, 1) := by decide +kernel
theorem dX11_bait_8 : decode cX11_bait 8 = .ok (.invokevirtual 116, 3) := by decide +kernel
theorem dX11_bait_11 : decode cX11_bait 11 = .ok (.ifCond .eq 31, 3) := by decide +kernel
theorem dX11_bait_14 : decode cX11_bait 14 = .ok (.aload_n 0, 1) := by decide +kernel
theorem dX11_bait_15 : decode cX11_bait 15 = .ok (.getfield 10, 3) := by decide +kernel
theorem dX11_bait_18 : decode cX11_bait 18 = .ok (.getfield 112, 3) := by decide +kernel
theorem dX11_bait_21 : decode cX11_bait 21 = .ok (.iload_n 2, 1) := by decide +kernel
theorem dX11_bait_22 : decode cX11_bait 22 = .ok (.invokevirtual 116, 3) := by decide +kernel
theorem dX11_bait_25 : decode cX11_bait 25 = .ok (.ifCond .eq 17, 3) := by decide +kernel
theorem dX11_bait_28 : decode cX11_bait 28 = .ok (.iload_n 1, 1) := by decide +kernel
theorem dX11_bait_29 : decode cX11_bait 29 = .ok (.iload_n 2, 1) := by decide +kernel
theorem dX11_bait_30 : decode cX11_bait 30 = .ok (.if_icmp .eq 12, 3) := by decide +kernel
theorem dX11_bait_33 : decode cX11_bait 33 = .ok (.iload_n 3, 1) := by decide +kernel
theorem dX11_bait_34 : decode cX11_bait 34 = .ok (.iconst 0, 1) := by decide +kernel
theorem dX11_bait_35 : decode cX11_bait 35 = .ok (.iconst 2, 1) := by decide +kernel
theorem dX11_bait_36 : decode cX11_bait 36 = .ok (.invokestatic 105, 3) := by decide +kernel
theorem dX11_bait_39 : decode cX11_bait 39 = .ok (.ifCond .ne 5, 3) := by decide +kernel
theorem dX11_bait_42 : decode cX11_bait 42 = .ok (.iconst (-1), 1) := by decide +kernel
theorem dX11_bait_43 : decode cX11_bait 43 = .ok (.ireturn, 1) := by decide +kernel
theorem dX11_bait_44 : decode cX11_bait 44 = .ok (.aload_n 0, 1) := by decide +kernel
theorem dX11_bait_45 : decode cX11_bait 45 = .ok (.getfield 66, 3) := by decide +kernel
theorem dX11_bait_48 : decode cX11_bait 48 = .ok (.iload_n 1, 1) := by decide +kernel
theorem dX11_bait_49 : decode cX11_bait 49 = .ok (.iload_n 2, 1) := by decide +kernel
theorem dX11_bait_50 : decode cX11_bait 50 = .ok (.invokevirtual 274, 3) := by decide +kernel
theorem dX11_bait_53 : decode cX11_bait 53 = .ok (.iload_n 3, 1) := by decide +kernel
theorem dX11_bait_54 : decode cX11_bait 54 = .ok (.lookupswitch 42 #[(0, 26), (1, 34)], 26) := by decide +kernel
theorem dX11_bait_80 : decode cX11_bait 80 = .ok (.aload_n 0, 1) := by decide +kernel
theorem dX11_bait_81 : decode cX11_bait 81 = .ok (.getfield 66, 3) := by decide +kernel
theorem dX11_bait_84 : decode cX11_bait 84 = .ok (.getfield 277, 3) := by decide +kernel
theorem dX11_bait_87 : decode cX11_bait 87 = .ok (.ireturn, 1) := by decide +kernel
theorem dX11_bait_88 : decode cX11_bait 88 = .ok (.aload_n 0, 1) := by decide +kernel
theorem dX11_bait_89 : decode cX11_bait 89 = .ok (.getfield 66, 3) := by decide +kernel
theorem dX11_bait_92 : decode cX11_bait 92 = .ok (.getfield 280, 3) := by decide +kernel
theorem dX11_bait_95 : decode cX11_bait 95 = .ok (.ireturn, 1) := by decide +kernel
theorem dX11_bait_96 : decode cX11_bait 96 = .ok (.aload_n 0, 1) := by decide +kernel
theorem dX11_bait_97 : decode cX11_bait 97 = .ok (.getfield 66, 3) := by decide +kernel
theorem dX11_bait_100 : decode cX11_bait 100 = .ok (.getfield 283, 3) := by decide +kernel
theorem dX11_bait_103 : decode cX11_bait 103 = .ok (.ireturn, 1) := by decide +kernel
set_option maxHeartbeats 4000000 in
set_option maxRecDepth 100000 in
theorem c_X11_bait (l : Launch) (D : va_G) (K : Nat → ClassId) (ad la : Nat → Nat) (rest : va_W)  (a1 : Int32) (a2 : Int32) (a3 : Int32) (σ : xS) (z : Int32 × xS) (hF : F_X11_bait a1 a2 a3 σ = some z) : CI l D K yX11_bait cX11_bait 4 (some .int) 7 168 [.ref (ad 0), .int a1, .int a2, .int a3] (CW K ad la rest σ) z.1 (CW K ad la rest z.2) := by
  refine x_enterI [(0, .ref (ad 0)), (1, .int a1), (2, .int a2), (3, .int a3)] pnX11 (Nat.le_of_ble_eq_true rfl) rfl ?_
  intro p e s m args below meth c A C
  unfold F_X11_bait at hF
  refine x_aload_n C 0 0 dX11_bait_0 rfl rfl ?_
  refine x_get C 0 dX11_bait_1 fl_X11_10 (CW_0 K ad la rest σ) rfl ?_
  refine x_get C 5 dX11_bait_4 fl_X11_112 (CW_5 K ad la rest σ) rfl ?_
  refine x_iload_n C 1 1 dX11_bait_7 rfl rfl ?_
  refine x_callVI C (wf := CW K ad la rest) (As := [.int a1]) (rest := []) dX11_bait_8 ml_X11_116 rfl rfl (Nat.le_of_ble_eq_true rfl) 8 (CW_8 K ad la rest σ) rfl ⟨Nat.le_of_ble_eq_true rfl, Nat.le_of_ble_eq_true rfl⟩ ⟨Nat.zero_le _, Nat.zero_le _⟩ (fun q9 hq9 => c_X6_has l D K ad la rest 0 (by decide) a1 σ q9 hq9) hF (fun v2 σ1 hF => ?_)
  refine x_if_eq C 42 dX11_bait_11 (by decide) hF (fun hF => ?_) (fun hF => ?_)
  · refine x_iconst C (-1) dX11_bait_42 (by decide +kernel) ?_
    exact x_iret C dX11_bait_43 rfl (congrArg Prod.fst (Option.some.inj hF)) (congrArg (fun q9 : Int32 × xS => CW K ad la rest q9.2) (Option.some.inj hF))
  · refine x_aload_n C 0 0 dX11_bait_14 rfl rfl ?_
    refine x_get C 0 dX11_bait_15 fl_X11_10 (CW_0 K ad la rest σ1) rfl ?_
    refine x_get C 5 dX11_bait_18 fl_X11_112 (CW_5 K ad la rest σ1) rfl ?_
    refine x_iload_n C 2 2 dX11_bait_21 rfl rfl ?_
    refine x_callVI C (wf := CW K ad la rest) (As := [.int a2]) (rest := []) dX11_bait_22 ml_X11_116 rfl rfl (Nat.le_of_ble_eq_true rfl) 8 (CW_8 K ad la rest σ1) rfl ⟨Nat.le_of_ble_eq_true rfl, Nat.le_of_ble_eq_true rfl⟩ ⟨Nat.zero_le _, Nat.zero_le _⟩ (fun q9 hq9 => c_X6_has l D K ad la rest 0 (by decide) a2 σ1 q9 hq9) hF (fun v4 σ3 hF => ?_)
    refine x_if_eq C 42 dX11_bait_25 (by decide) hF (fun hF => ?_) (fun hF => ?_)
    · refine x_iconst C (-1) dX11_bait_42 (by decide +kernel) ?_
      exact x_iret C dX11_bait_43 rfl (congrArg Prod.fst (Option.some.inj hF)) (congrArg (fun q9 : Int32 × xS => CW K ad la rest q9.2) (Option.some.inj hF))
    · refine x_iload_n C 1 1 dX11_bait_28 rfl rfl ?_
      refine x_iload_n C 2 2 dX11_bait_29 rfl rfl ?_
      refine x_icmp_eq C 42 dX11_bait_30 (by decide) hF (fun hF => ?_) (fun hF => ?_)
      · refine x_iconst C (-1) dX11_bait_42 (by decide +kernel) ?_
        exact x_iret C dX11_bait_43 rfl (congrArg Prod.fst (Option.some.inj hF)) (congrArg (fun q9 : Int32 × xS => CW K ad la rest q9.2) (Option.some.inj hF))
      · refine x_iload_n C 3 3 dX11_bait_33 rfl rfl ?_
        refine x_iconst C 0 dX11_bait_34 (by decide +kernel) ?_
        refine x_iconst C 2 dX11_bait_35 (by decide +kernel) ?_
        refine x_callSI C (wf := CW K ad la rest) (As := [.int a3, .int 0, .int 2]) (rest := []) dX11_bait_36 ml_X11_105 rfl rfl (Nat.le_of_ble_eq_true rfl) ⟨Nat.le_of_ble_eq_true rfl, Nat.le_of_ble_eq_true rfl⟩ ⟨Nat.zero_le _, Nat.zero_le _⟩ (fun q9 hq9 => c_X11_isWithin l D K ad la rest a3 0 2 σ3 q9 hq9) hF (fun v6 σ5 hF => ?_)
        refine x_if_ne C 44 dX11_bait_39 (by decide) hF (fun hF => ?_) (fun hF => ?_)
        · refine x_aload_n C 0 0 dX11_bait_44 rfl rfl ?_
          refine x_get C 0 dX11_bait_45 fl_X11_66 (CW_0 K ad la rest σ5) rfl ?_
          refine x_iload_n C 1 1 dX11_bait_48 rfl rfl ?_
          refine x_iload_n C 2 2 dX11_bait_49 rfl rfl ?_
          refine x_callVV C (wf := CW K ad la rest) (As := [.int a1, .int a2]) (rest := []) dX11_bait_50 ml_X11_274 rfl rfl (Nat.le_of_ble_eq_true rfl) 89 (CW_89 K ad la rest σ5) rfl ⟨Nat.le_of_ble_eq_true rfl, Nat.le_of_ble_eq_true rfl⟩ ⟨Nat.zero_le _, Nat.zero_le _⟩ (fun q9 hq9 => c_X1_bestBait l D K ad la rest a1 a2 σ5 q9 hq9) hF (fun _ σ7 hF => ?_)
          refine x_iload_n C 3 3 dX11_bait_53 rfl rfl ?_
          by_cases h8 : a3 = 0
          · rw [if_pos h8] at hF
            refine x_lkp C 80 dX11_bait_54 (by decide +kernel) (by rw [h8]; try rfl) (by decide) ?_
            refine x_aload_n C 0 0 dX11_bait_80 rfl rfl ?_
            refine x_get C 0 dX11_bait_81 fl_X11_66 (CW_0 K ad la rest σ7) rfl ?_
            refine x_get C 89 dX11_bait_84 fl_X11_277 (CW_89 K ad la rest σ7) rfl ?_
            exact x_iret C dX11_bait_87 rfl (congrArg Prod.fst (Option.some.inj hF)) (congrArg (fun q9 : Int32 × xS => CW K ad la rest q9.2) (Option.some.inj hF))
          · rw [if_neg h8] at hF
            by_cases h9 : a3 = 1
            · rw [if_pos h9] at hF
              refine x_lkp C 88 dX11_bait_54 (by decide +kernel) (by rw [h9]; try rfl) (by decide) ?_
              refine x_aload_n C 0 0 dX11_bait_88 rfl rfl ?_
              refine x_get C 0 dX11_bait_89 fl_X11_66 (CW_0 K ad la rest σ7) rfl ?_
              refine x_get C 89 dX11_bait_92 fl_X11_280 (CW_89 K ad la rest σ7) rfl ?_
              exact x_iret C dX11_bait_95 rfl (congrArg Prod.fst (Option.some.inj hF)) (congrArg (fun q9 : Int32 × xS => CW K ad la rest q9.2) (Option.some.inj hF))
            · rw [if_neg h9] at hF
              refine x_lkp C (off := 42) 96 dX11_bait_54 (by decide +kernel) (by have e0 : a3.toInt ≠ 0 := x_neT h8; have e1 : a3.toInt ≠ 1 := x_neT h9; show Op.lookupswitch.offset _ _ _ = _; simp only [Op.lookupswitch.offset, if_neg (Ne.symm e0), if_neg (Ne.symm e1)]) (by decide) ?_
              refine x_aload_n C 0 0 dX11_bait_96 rfl rfl ?_
              refine x_get C 0 dX11_bait_97 fl_X11_66 (CW_0 K ad la rest σ7) rfl ?_
              refine x_get C 89 dX11_bait_100 fl_X11_283 (CW_89 K ad la rest σ7) rfl ?_
              exact x_iret C dX11_bait_103 rfl (congrArg Prod.fst (Option.some.inj hF)) (congrArg (fun q9 : Int32 × xS => CW K ad la rest q9.2) (Option.some.inj hF))
        · refine x_iconst C (-1) dX11_bait_42 (by decide +kernel) ?_
          exact x_iret C dX11_bait_43 rfl (congrArg Prod.fst (Option.some.inj hF)) (congrArg (fun q9 : Int32 × xS => CW K ad la rest q9.2) (Option.some.inj hF))
theorem dX11_october_0 : decode cX11_october 0 = .ok (.iload_n 1, 1) := by decide +kernel
theorem dX11_october_1 : decode cX11_october 1 = .ok (.iconst 0, 1) := by decide +kernel
theorem dX11_october_2 : decode cX11_october 2 = .ok (.sipush 999, 3) := by decide +kernel
theorem dX11_october_5 : decode cX11_october 5 = .ok (.invokestatic 105, 3) := by decide +kernel
theorem dX11_october_8 : decode cX11_october 8 = .ok (.ifCond .ne 9, 3) := by decide +kernel
theorem dX11_october_11 : decode cX11_october 11 = .ok (.aload_n 0, 1) := by decide +kernel
theorem dX11_october_12 : decode cX11_october 12 = .ok (.iconst (-1), 1) := by decide +kernel
theorem dX11_october_13 : decode cX11_october 13 = .ok (.invokevirtual 94, 3) := by decide +kernel
theorem dX11_october_16 : decode cX11_october 16 = .ok (.ireturn, 1) := by decide +kernel
theorem dX11_october_17 : decode cX11_october 17 = .ok (.aload_n 0, 1) := by decide +kernel
theorem dX11_october_18 : decode cX11_october 18 = .ok (.getfield 10, 3) := by decide +kernel
theorem dX11_october_21 : decode cX11_october 21 = .ok (.getfield 286, 3) := by decide +kernel
theorem dX11_october_24 : decode cX11_october 24 = .ok (.invokevirtual 206, 3) := by decide +kernel
theorem dX11_october_27 : decode cX11_october 27 = .ok (.istore_n 2, 1) := by decide +kernel
theorem dX11_october_28 : decode cX11_october 28 = .ok (.iload_n 2, 1) := by decide +kernel
theorem dX11_october_29 : decode cX11_october 29 = .ok (.iconst (-1), 1) := by decide +kernel
theorem dX11_october_30 : decode cX11_october 30 = .ok (.if_icmp .ne 10, 3) := by decide +kernel
theorem dX11_october_33 : decode cX11_october 33 = .ok (.aload_n 0, 1) := by decide +kernel
theorem dX11_october_34 : decode cX11_october 34 = .ok (.bipush (-5), 2) := by decide +kernel
theorem dX11_october_36 : decode cX11_october 36 = .ok (.invokevirtual 94, 3) := by decide +kernel
theorem dX11_october_39 : decode cX11_october 39 = .ok (.ireturn, 1) := by decide +kernel
theorem dX11_october_40 : decode cX11_october 40 = .ok (.aload_n 0, 1) := by decide +kernel
theorem dX11_october_41 : decode cX11_october 41 = .ok (.getfield 10, 3) := by decide +kernel
theorem dX11_october_44 : decode cX11_october 44 = .ok (.getfield 286, 3) := by decide +kernel
theorem dX11_october_47 : decode cX11_october 47 = .ok (.iload_n 2, 1) := by decide +kernel
theorem dX11_october_48 : decode cX11_october 48 = .ok (.iconst 0, 1) := by decide +kernel
theorem dX11_october_49 : decode cX11_october 49 = .ok (.iload_n 1, 1) := by decide +kernel
theorem dX11_october_50 : decode cX11_october 50 = .ok (.invokevirtual 126, 3) := by decide +kernel
theorem dX11_october_53 : decode cX11_october 53 = .ok (.aload_n 0, 1) := by decide +kernel
theorem dX11_october_54 : decode cX11_october 54 = .ok (.aload_n 0, 1) := by decide +kernel
theorem dX11_october_55 : decode cX11_october 55 = .ok (.getfield 10, 3) := by decide +kernel
theorem dX11_october_58 : decode cX11_october 58 = .ok (.getfield 286, 3) := by decide +kernel
theorem dX11_october_61 : decode cX11_october 61 = .ok (.getfield 209, 3) := by decide +kernel
theorem dX11_october_64 : decode cX11_october 64 = .ok (.invokevirtual 102, 3) := by decide +kernel
theorem dX11_october_67 : decode cX11_october 67 = .ok (.ireturn, 1) := by decide +kernel
set_option maxHeartbeats 4000000 in
set_option maxRecDepth 100000 in
theorem c_X11_october (l : Launch) (D : va_G) (K : Nat → ClassId) (ad la : Nat → Nat) (rest : va_W)  (a1 : Int32) (σ : xS) (z : Int32 × xS) (hF : F_X11_october a1 σ = some z) : CI l D K yX11_october cX11_october 3 (some .int) 2 44 [.ref (ad 0), .int a1] (CW K ad la rest σ) z.1 (CW K ad la rest z.2) := by
  refine x_enterI [(0, .ref (ad 0)), (1, .int a1)] pnX11 (Nat.le_of_ble_eq_true rfl) rfl ?_
  intro p e s m args below meth c A C
  unfold F_X11_october at hF
  refine x_iload_n C 1 1 dX11_october_0 rfl rfl ?_
  refine x_iconst C 0 dX11_october_1 (by decide +kernel) ?_
  refine x_sipush C 999 dX11_october_2 (by decide +kernel) ?_
  refine x_callSI C (wf := CW K ad la rest) (As := [.int a1, .int 0, .int 999]) (rest := []) dX11_october_5 ml_X11_105 rfl rfl (Nat.le_of_ble_eq_true rfl) ⟨Nat.le_of_ble_eq_true rfl, Nat.le_of_ble_eq_true rfl⟩ ⟨Nat.zero_le _, Nat.zero_le _⟩ (fun q9 hq9 => c_X11_isWithin l D K ad la rest a1 0 999 σ q9 hq9) hF (fun v2 σ1 hF => ?_)
  refine x_if_ne C 17 dX11_october_8 (by decide) hF (fun hF => ?_) (fun hF => ?_)
  · refine x_aload_n C 0 0 dX11_october_17 rfl rfl ?_
    refine x_get C 0 dX11_october_18 fl_X11_10 (CW_0 K ad la rest σ1) rfl ?_
    refine x_get C 5 dX11_october_21 fl_X11_286 (CW_5 K ad la rest σ1) rfl ?_
    refine x_callVI C (wf := CW K ad la rest) (As := []) (rest := []) dX11_october_24 ml_X11_206 rfl rfl (Nat.le_of_ble_eq_true rfl) 14 (CW_14 K ad la rest σ1) rfl ⟨Nat.le_of_ble_eq_true rfl, Nat.le_of_ble_eq_true rfl⟩ ⟨Nat.zero_le _, Nat.zero_le _⟩ (fun q9 hq9 => c_X6_open l D K ad la rest 3 (by decide) σ1 q9 hq9) hF (fun v4 σ3 hF => ?_)
    refine x_istore_n C [(2, .int v4), (0, .ref (ad 0)), (1, .int a1)] dX11_october_27 rfl (by decide) rfl ?_
    refine x_iload_n C 0 2 dX11_october_28 rfl rfl ?_
    refine x_iconst C (-1) dX11_october_29 (by decide +kernel) ?_
    refine x_icmp_ne C 40 dX11_october_30 (by decide) hF (fun hF => ?_) (fun hF => ?_)
    · refine x_aload_n C 1 0 dX11_october_40 rfl rfl ?_
      refine x_get C 0 dX11_october_41 fl_X11_10 (CW_0 K ad la rest σ3) rfl ?_
      refine x_get C 5 dX11_october_44 fl_X11_286 (CW_5 K ad la rest σ3) rfl ?_
      refine x_iload_n C 0 2 dX11_october_47 rfl rfl ?_
      refine x_iconst C 0 dX11_october_48 (by decide +kernel) ?_
      refine x_iload_n C 2 1 dX11_october_49 rfl rfl ?_
      refine x_callVV C (wf := CW K ad la rest) (As := [.int v4, .int 0, .int a1]) (rest := []) dX11_october_50 ml_X11_126 rfl rfl (Nat.le_of_ble_eq_true rfl) 14 (CW_14 K ad la rest σ3) rfl ⟨Nat.le_of_ble_eq_true rfl, Nat.le_of_ble_eq_true rfl⟩ ⟨Nat.zero_le _, Nat.zero_le _⟩ (fun q9 hq9 => c_X6_set l D K ad la rest 3 (by decide) v4 0 a1 σ3 q9 hq9) hF (fun _ σ5 hF => ?_)
      refine x_aload_n C 1 0 dX11_october_53 rfl rfl ?_
      refine x_aload_n C 1 0 dX11_october_54 rfl rfl ?_
      refine x_get C 0 dX11_october_55 fl_X11_10 (CW_0 K ad la rest σ5) rfl ?_
      refine x_get C 5 dX11_october_58 fl_X11_286 (CW_5 K ad la rest σ5) rfl ?_
      refine x_get C 14 dX11_october_61 fl_X11_209 (CW_14 K ad la rest σ5) rfl ?_
      refine x_callVI C (wf := CW K ad la rest) (As := [.int (sI σ5 227)]) (rest := []) dX11_october_64 ml_X11_102 rfl rfl (Nat.le_of_ble_eq_true rfl) 0 (CW_0 K ad la rest σ5) rfl ⟨Nat.le_of_ble_eq_true rfl, Nat.le_of_ble_eq_true rfl⟩ ⟨Nat.zero_le _, Nat.zero_le _⟩ (fun q9 hq9 => c_X11_accepted l D K ad la rest (sI σ5 227) σ5 q9 hq9) hF (fun v7 σ6 hF => ?_)
      exact x_iret C dX11_october_67 rfl (congrArg Prod.fst (Option.some.inj hF)) (congrArg (fun q9 : Int32 × xS => CW K ad la rest q9.2) (Option.some.inj hF))
    · refine x_aload_n C 1 0 dX11_october_33 rfl rfl ?_
      refine x_bipush C (-5) dX11_october_34 (by decide +kernel) ?_
      refine x_callVI C (wf := CW K ad la rest) (As := [.int ((-5))]) (rest := []) dX11_october_36 ml_X11_94 rfl rfl (Nat.le_of_ble_eq_true rfl) 0 (CW_0 K ad la rest σ3) rfl ⟨Nat.le_of_ble_eq_true rfl, Nat.le_of_ble_eq_true rfl⟩ ⟨Nat.zero_le _, Nat.zero_le _⟩ (fun q9 hq9 => c_X11_refused l D K ad la rest ((-5)) σ3 q9 hq9) hF (fun v9 σ8 hF => ?_)
      exact x_iret C dX11_october_39 rfl (congrArg Prod.fst (Option.some.inj hF)) (congrArg (fun q9 : Int32 × xS => CW K ad la rest q9.2) (Option.some.inj hF))
  · refine x_aload_n C 0 0 dX11_october_11 rfl rfl ?_
    refine x_iconst C (-1) dX11_october_12 (by decide +kernel) ?_
    refine x_callVI C (wf := CW K ad la rest) (As := [.int ((-1))]) (rest := []) dX11_october_13 ml_X11_94 rfl rfl (Nat.le_of_ble_eq_true rfl) 0 (CW_0 K ad la rest σ1) rfl ⟨Nat.le_of_ble_eq_true rfl, Nat.le_of_ble_eq_true rfl⟩ ⟨Nat.zero_le _, Nat.zero_le _⟩ (fun q9 hq9 => c_X11_refused l D K ad la rest ((-1)) σ1 q9 hq9) hF (fun v11 σ10 hF => ?_)
    exact x_iret C dX11_october_16 rfl (congrArg Prod.fst (Option.some.inj hF)) (congrArg (fun q9 : Int32 × xS => CW K ad la rest q9.2) (Option.some.inj hF))
theorem dX11_emptied_0 : decode cX11_emptied 0 = .ok (.aload_n 0, 1) := by decide +kernel
theorem dX11_emptied_1 : decode cX11_emptied 1 = .ok (.getfield 209, 3) := by decide +kernel
theorem dX11_emptied_4 : decode cX11_emptied 4 = .ok (.istore_n 1, 1) := by decide +kernel
theorem dX11_emptied_5 : decode cX11_emptied 5 = .ok (.aload_n 0, 1) := by decide +kernel
theorem dX11_emptied_6 : decode cX11_emptied 6 = .ok (.iconst 0, 1) := by decide +kernel
theorem dX11_emptied_7 : decode cX11_emptied 7 = .ok (.putfield 209, 3) := by decide +kernel
theorem dX11_emptied_10 : decode cX11_emptied 10 = .ok (.iload_n 1, 1) := by decide +kernel
theorem dX11_emptied_11 : decode cX11_emptied 11 = .ok (.ireturn, 1) := by decide +kernel
set_option maxHeartbeats 4000000 in
set_option maxRecDepth 100000 in
theorem c_X11_emptied (l : Launch) (D : va_G) (K : Nat → ClassId) (ad la : Nat → Nat) (rest : va_W) (r1 : Nat) (hr1 : r1 < 15)  (σ : xS) (z : Int32 × xS) (hF : F_X11_emptied r1 σ = some z) : CI l D K yX11_emptied cX11_emptied 2 (some .int) 0 0 [.ref (ad (8 + 2 * r1))] (CW K ad la rest σ) z.1 (CW K ad la rest z.2) := by
  refine x_enterI [(0, .ref (ad (8 + 2 * r1)))] pnX11 (Nat.le_of_ble_eq_true rfl) rfl ?_
  intro p e s m args below meth c A C
  unfold F_X11_emptied at hF
  refine x_aload_n C 0 0 dX11_emptied_0 rfl rfl ?_
  refine x_get C (8 + 2 * r1) dX11_emptied_1 fl_X11_209 (CW_r K ad la rest σ r1 hr1) rfl ?_
  refine x_topI hF (fun x1 hF => ?_)
  refine x_istore_n C [(1, .int x1), (0, .ref (ad (8 + 2 * r1)))] dX11_emptied_4 rfl (by decide) rfl ?_
  refine x_aload_n C 1 0 dX11_emptied_5 rfl rfl ?_
  refine x_iconst C 0 dX11_emptied_6 (by decide +kernel) ?_
  refine x_put C (8 + 2 * r1) dX11_emptied_7 fl_X11_209 fm_X6_3 rfl rfl (CW_r K ad la rest σ r1 hr1) (Nat.le_of_ble_eq_true rfl) (CW_rs K ad la rest σ _ r1 hr1) ?_
  refine x_st (wf := CW K ad la rest) hF (fun σ2 hF => ?_)
  refine x_iload_n C 0 1 dX11_emptied_10 rfl rfl ?_
  exact x_iret C dX11_emptied_11 rfl (congrArg Prod.fst (Option.some.inj hF)) (congrArg (fun q9 : Int32 × xS => CW K ad la rest q9.2) (Option.some.inj hF))
theorem dX11_forget_0 : decode cX11_forget 0 = .ok (.aload_n 0, 1) := by decide +kernel
theorem dX11_forget_1 : decode cX11_forget 1 = .ok (.getfield 10, 3) := by decide +kernel
theorem dX11_forget_4 : decode cX11_forget 4 = .ok (.getfield 286, 3) := by decide +kernel
theorem dX11_forget_7 : decode cX11_forget 7 = .ok (.invokestatic 289, 3) := by decide +kernel
theorem dX11_forget_10 : decode cX11_forget 10 = .ok (.ireturn, 1) := by decide +kernel
set_option maxHeartbeats 4000000 in
set_option maxRecDepth 100000 in
theorem c_X11_forget (l : Launch) (D : va_G) (K : Nat → ClassId) (ad la : Nat → Nat) (rest : va_W)   (σ : xS) (z : Int32 × xS) (hF : F_X11_forget σ = some z) : CI l D K yX11_forget cX11_forget 1 (some .int) 1 21 [.ref (ad 0)] (CW K ad la rest σ) z.1 (CW K ad la rest z.2) := by
  refine x_enterI [(0, .ref (ad 0))] pnX11 (Nat.le_of_ble_eq_true rfl) rfl ?_
  intro p e s m args below meth c A C
  unfold F_X11_forget at hF
  refine x_aload_n C 0 0 dX11_forget_0 rfl rfl ?_
  refine x_get C 0 dX11_forget_1 fl_X11_10 (CW_0 K ad la rest σ) rfl ?_
  refine x_get C 5 dX11_forget_4 fl_X11_286 (CW_5 K ad la rest σ) rfl ?_
  refine x_callSI C (wf := CW K ad la rest) (As := [.ref (ad 14)]) (rest := []) dX11_forget_7 ml_X11_289 rfl rfl (Nat.le_of_ble_eq_true rfl) ⟨Nat.le_of_ble_eq_true rfl, Nat.le_of_ble_eq_true rfl⟩ ⟨Nat.zero_le _, Nat.zero_le _⟩ (fun q9 hq9 => c_X11_emptied l D K ad la rest 3 (by decide) σ q9 hq9) hF (fun v2 σ1 hF => ?_)
  exact x_iret C dX11_forget_10 rfl (congrArg Prod.fst (Option.some.inj hF)) (congrArg (fun q9 : Int32 × xS => CW K ad la rest q9.2) (Option.some.inj hF))
theorem dX11_juneCanBe_0 : decode cX11_juneCanBe 0 = .ok (.aload_n 0, 1) := by decide +kernel
theorem dX11_juneCanBe_1 : decode cX11_juneCanBe 1 = .ok (.getfield 10, 3) := by decide +kernel
theorem dX11_juneCanBe_4 : decode cX11_juneCanBe 4 = .ok (.getfield 286, 3) := by decide +kernel
theorem dX11_juneCanBe_7 : decode cX11_juneCanBe 7 = .ok (.getfield 209, 3) := by decide +kernel
theorem dX11_juneCanBe_10 : decode cX11_juneCanBe 10 = .ok (.ifCond .le 40, 3) := by decide +kernel
theorem dX11_juneCanBe_13 : decode cX11_juneCanBe 13 = .ok (.iload_n 1, 1) := by decide +kernel
theorem dX11_juneCanBe_14 : decode cX11_juneCanBe 14 = .ok (.iconst 0, 1) := by decide +kernel
theorem dX11_juneCanBe_15 : decode cX11_juneCanBe 15 = .ok (.sipush 999, 3) := by decide +kernel
theorem dX11_juneCanBe_18 : decode cX11_juneCanBe 18 = .ok (.invokestatic 105, 3) := by decide +kernel
theorem dX11_juneCanBe_21 : decode cX11_juneCanBe 21 = .ok (.ifCond .eq 29, 3) := by decide +kernel
theorem dX11_juneCanBe_24 : decode cX11_juneCanBe 24 = .ok (.iload_n 2, 1) := by decide +kernel
theorem dX11_juneCanBe_25 : decode cX11_juneCanBe 25 = .ok (.iconst 0, 1) := by decide +kernel
theorem dX11_juneCanBe_26 : decode cX11_juneCanBe 26 = .ok (.sipush 999, 3) := by decide +kernel
theorem dX11_juneCanBe_29 : decode cX11_juneCanBe 29 = .ok (.invokestatic 105, 3) := by decide +kernel
theorem dX11_juneCanBe_32 : decode cX11_juneCanBe 32 = .ok (.ifCond .eq 18, 3) := by decide +kernel
theorem dX11_juneCanBe_35 : decode cX11_juneCanBe 35 = .ok (.iload_n 3, 1) := by decide +kernel
theorem dX11_juneCanBe_36 : decode cX11_juneCanBe 36 = .ok (.iconst 0, 1) := by decide +kernel
theorem dX11_juneCanBe_37 : decode cX11_juneCanBe 37 = .ok (.sipush 999, 3) := by decide +kernel
theorem dX11_juneCanBe_40 : decode cX11_juneCanBe 40 = .ok (.invokestatic 105, 3) := by decide +kernel
theorem dX11_juneCanBe_43 : decode cX11_juneCanBe 43 = .ok (.ifCond .eq 7, 3) := by decide +kernel
theorem dX11_juneCanBe_46 : decode cX11_juneCanBe 46 = .ok (.iconst 1, 1) := by decide +kernel
theorem dX11_juneCanBe_47 : decode cX11_juneCanBe 47 = .ok (.goto 4, 3) := by decide +kernel
theorem dX11_juneCanBe_50 : decode cX11_juneCanBe 50 = .ok (.iconst 0, 1) := by decide +kernel
theorem dX11_juneCanBe_51 : decode cX11_juneCanBe 51 = .ok (.ireturn, 1) := by decide +kernel
set_option maxHeartbeats 4000000 in
set_option maxRecDepth 100000 in
theorem c_X11_juneCanBe (l : Launch) (D : va_G) (K : Nat → ClassId) (ad la : Nat → Nat) (rest : va_W)  (a1 : Int32) (a2 : Int32) (a3 : Int32) (σ : xS) (z : Int32 × xS) (hF : F_X11_juneCanBe a1 a2 a3 σ = some z) : CI l D K yX11_juneCanBe cX11_juneCanBe 4 (some .boolean) 1 22 [.ref (ad 0), .int a1, .int a2, .int a3] (CW K ad la rest σ) z.1 (CW K ad la rest z.2) := by
  refine x_enterI [(0, .ref (ad 0)), (1, .int a1), (2, .int a2), (3, .int a3)] pnX11 (Nat.le_of_ble_eq_true rfl) rfl ?_
  intro p e s m args below meth c A C
  unfold F_X11_juneCanBe at hF
  refine x_aload_n C 0 0 dX11_juneCanBe_0 rfl rfl ?_
  refine x_get C 0 dX11_juneCanBe_1 fl_X11_10 (CW_0 K ad la rest σ) rfl ?_
  refine x_get C 5 dX11_juneCanBe_4 fl_X11_286 (CW_5 K ad la rest σ) rfl ?_
  refine x_get C 14 dX11_juneCanBe_7 fl_X11_209 (CW_14 K ad la rest σ) rfl ?_
  refine x_if_le C 50 dX11_juneCanBe_10 (by decide) hF (fun hF => ?_) (fun hF => ?_)
  · refine x_iconst C 0 dX11_juneCanBe_50 (by decide +kernel) ?_
    have hz := (cz_some hF).1
    replace hF := (cz_some hF).2
    exact x_zret C dX11_juneCanBe_51 rfl hz (congrArg Prod.fst (Option.some.inj hF)) (congrArg (fun q9 : Int32 × xS => CW K ad la rest q9.2) (Option.some.inj hF))
  · refine x_iload_n C 1 1 dX11_juneCanBe_13 rfl rfl ?_
    refine x_iconst C 0 dX11_juneCanBe_14 (by decide +kernel) ?_
    refine x_sipush C 999 dX11_juneCanBe_15 (by decide +kernel) ?_
    refine x_callSI C (wf := CW K ad la rest) (As := [.int a1, .int 0, .int 999]) (rest := []) dX11_juneCanBe_18 ml_X11_105 rfl rfl (Nat.le_of_ble_eq_true rfl) ⟨Nat.le_of_ble_eq_true rfl, Nat.le_of_ble_eq_true rfl⟩ ⟨Nat.zero_le _, Nat.zero_le _⟩ (fun q9 hq9 => c_X11_isWithin l D K ad la rest a1 0 999 σ q9 hq9) hF (fun v2 σ1 hF => ?_)
    refine x_if_eq C 50 dX11_juneCanBe_21 (by decide) hF (fun hF => ?_) (fun hF => ?_)
    · refine x_iconst C 0 dX11_juneCanBe_50 (by decide +kernel) ?_
      have hz := (cz_some hF).1
      replace hF := (cz_some hF).2
      exact x_zret C dX11_juneCanBe_51 rfl hz (congrArg Prod.fst (Option.some.inj hF)) (congrArg (fun q9 : Int32 × xS => CW K ad la rest q9.2) (Option.some.inj hF))
    · refine x_iload_n C 2 2 dX11_juneCanBe_24 rfl rfl ?_
      refine x_iconst C 0 dX11_juneCanBe_25 (by decide +kernel) ?_
      refine x_sipush C 999 dX11_juneCanBe_26 (by decide +kernel) ?_
      refine x_callSI C (wf := CW K ad la rest) (As := [.int a2, .int 0, .int 999]) (rest := []) dX11_juneCanBe_29 ml_X11_105 rfl rfl (Nat.le_of_ble_eq_true rfl) ⟨Nat.le_of_ble_eq_true rfl, Nat.le_of_ble_eq_true rfl⟩ ⟨Nat.zero_le _, Nat.zero_le _⟩ (fun q9 hq9 => c_X11_isWithin l D K ad la rest a2 0 999 σ1 q9 hq9) hF (fun v4 σ3 hF => ?_)
      refine x_if_eq C 50 dX11_juneCanBe_32 (by decide) hF (fun hF => ?_) (fun hF => ?_)
      · refine x_iconst C 0 dX11_juneCanBe_50 (by decide +kernel) ?_
        have hz := (cz_some hF).1
        replace hF := (cz_some hF).2
        exact x_zret C dX11_juneCanBe_51 rfl hz (congrArg Prod.fst (Option.some.inj hF)) (congrArg (fun q9 : Int32 × xS => CW K ad la rest q9.2) (Option.some.inj hF))
      · refine x_iload_n C 3 3 dX11_juneCanBe_35 rfl rfl ?_
        refine x_iconst C 0 dX11_juneCanBe_36 (by decide +kernel) ?_
        refine x_sipush C 999 dX11_juneCanBe_37 (by decide +kernel) ?_
        refine x_callSI C (wf := CW K ad la rest) (As := [.int a3, .int 0, .int 999]) (rest := []) dX11_juneCanBe_40 ml_X11_105 rfl rfl (Nat.le_of_ble_eq_true rfl) ⟨Nat.le_of_ble_eq_true rfl, Nat.le_of_ble_eq_true rfl⟩ ⟨Nat.zero_le _, Nat.zero_le _⟩ (fun q9 hq9 => c_X11_isWithin l D K ad la rest a3 0 999 σ3 q9 hq9) hF (fun v6 σ5 hF => ?_)
        refine x_if_eq C 50 dX11_juneCanBe_43 (by decide) hF (fun hF => ?_) (fun hF => ?_)
        · refine x_iconst C 0 dX11_juneCanBe_50 (by decide +kernel) ?_
          have hz := (cz_some hF).1
          replace hF := (cz_some hF).2
          exact x_zret C dX11_juneCanBe_51 rfl hz (congrArg Prod.fst (Option.some.inj hF)) (congrArg (fun q9 : Int32 × xS => CW K ad la rest q9.2) (Option.some.inj hF))
        · refine x_iconst C 1 dX11_juneCanBe_46 (by decide +kernel) ?_
          refine x_goto C 51 dX11_juneCanBe_47 (by decide) ?_
          have hz := (cz_some hF).1
          replace hF := (cz_some hF).2
          exact x_zret C dX11_juneCanBe_51 rfl hz (congrArg Prod.fst (Option.some.inj hF)) (congrArg (fun q9 : Int32 × xS => CW K ad la rest q9.2) (Option.some.inj hF))
theorem dX11_broughtInJune_0 : decode cX11_broughtInJune 0 = .ok (.lconst 0, 1) := by decide +kernel
theorem dX11_broughtInJune_1 : decode cX11_broughtInJune 1 = .ok (.lstore 5, 2) := by decide +kernel
theorem dX11_broughtInJune_3 : decode cX11_broughtInJune 3 = .ok (.iconst 0, 1) := by decide +kernel
theorem dX11_broughtInJune_4 : decode cX11_broughtInJune 4 = .ok (.istore 7, 2) := by decide +kernel
theorem dX11_broughtInJune_6 : decode cX11_broughtInJune 6 = .ok (.iload 7, 2) := by decide +kernel
theorem dX11_broughtInJune_8 : decode cX11_broughtInJune 8 = .ok (.aload_n 0, 1) := by decide +kernel
theorem dX11_broughtInJune_9 : decode cX11_broughtInJune 9 = .ok (.getfield 10, 3) := by decide +kernel
theorem dX11_broughtInJune_12 : decode cX11_broughtInJune 12 = .ok (.getfield 286, 3) := by decide +kernel
theorem dX11_broughtInJune_15 : decode cX11_broughtInJune 15 = .ok (.getfield 209, 3) := by decide +kernel
theorem dX11_broughtInJune_18 : decode cX11_broughtInJune 18 = .ok (.if_icmp .ge 55, 3) := by decide +kernel
theorem dX11_broughtInJune_21 : decode cX11_broughtInJune 21 = .ok (.iload_n 1, 1) := by decide +kernel
theorem dX11_broughtInJune_22 : decode cX11_broughtInJune 22 = .ok (.aload_n 0, 1) := by decide +kernel
theorem dX11_broughtInJune_23 : decode cX11_broughtInJune 23 = .ok (.getfield 10, 3) := by decide +kernel
theorem dX11_broughtInJune_26 : decode cX11_broughtInJune 26 = .ok (.getfield 286, 3) := by decide +kernel
theorem dX11_broughtInJune_29 : decode cX11_broughtInJune 29 = .ok (.iload 7, 2) := by decide +kernel
theorem dX11_broughtInJune_31 : decode cX11_broughtInJune 31 = .ok (.iconst 0, 1) := by decide +kernel
theorem dX11_broughtInJune_32 : decode cX11_broughtInJune 32 = .ok (.invokevirtual 122, 3) := by decide +kernel
theorem dX11_broughtInJune_35 : decode cX11_broughtInJune 35 = .ok (.invokestatic 334, 3) := by decide +kernel
theorem dX11_broughtInJune_38 : decode cX11_broughtInJune 38 = .ok (.istore 8, 2) := by decide +kernel
theorem dX11_broughtInJune_40 : decode cX11_broughtInJune 40 = .ok (.lload 5, 2) := by decide +kernel
theorem dX11_broughtInJune_42 : decode cX11_broughtInJune 42 = .ok (.iload 8, 2) := by decide +kernel
theorem dX11_broughtInJune_44 : decode cX11_broughtInJune 44 = .ok (.i2l, 1) := by decide +kernel
theorem dX11_broughtInJune_45 : decode cX11_broughtInJune 45 = .ok (.iload_n 3, 1) := by decide +kernel
theorem dX11_broughtInJune_46 : decode cX11_broughtInJune 46 = .ok (.i2l, 1) := by decide +kernel
theorem dX11_broughtInJune_47 : decode cX11_broughtInJune 47 = .ok (.lmul, 1) := by decide +kernel
theorem dX11_broughtInJune_48 : decode cX11_broughtInJune 48 = .ok (.iload_n 1, 1) := by decide +kernel
theorem dX11_broughtInJune_49 : decode cX11_broughtInJune 49 = .ok (.iload 8, 2) := by decide +kernel
theorem dX11_broughtInJune_51 : decode cX11_broughtInJune 51 = .ok (.isub, 1) := by decide +kernel
theorem dX11_broughtInJune_52 : decode cX11_broughtInJune 52 = .ok (.i2l, 1) := by decide +kernel
theorem dX11_broughtInJune_53 : decode cX11_broughtInJune 53 = .ok (.iload 4, 2) := by decide +kernel
theorem dX11_broughtInJune_55 : decode cX11_broughtInJune 55 = .ok (.i2l, 1) := by decide +kernel
theorem dX11_broughtInJune_56 : decode cX11_broughtInJune 56 = .ok (.lmul, 1) := by decide +kernel
theorem dX11_broughtInJune_57 : decode cX11_broughtInJune 57 = .ok (.ladd, 1) := by decide +kernel
theorem dX11_broughtInJune_58 : decode cX11_broughtInJune 58 = .ok (.iload_n 1, 1) := by decide +kernel
theorem dX11_broughtInJune_59 : decode cX11_broughtInJune 59 = .ok (.i2l, 1) := by decide +kernel
theorem dX11_broughtInJune_60 : decode cX11_broughtInJune 60 = .ok (.iload_n 2, 1) := by decide +kernel
theorem dX11_broughtInJune_61 : decode cX11_broughtInJune 61 = .ok (.i2l, 1) := by decide +kernel
theorem dX11_broughtInJune_62 : decode cX11_broughtInJune 62 = .ok (.lmul, 1) := by decide +kernel
theorem dX11_broughtInJune_63 : decode cX11_broughtInJune 63 = .ok (.lsub, 1) := by decide +kernel
theorem dX11_broughtInJune_64 : decode cX11_broughtInJune 64 = .ok (.ladd, 1) := by decide +kernel
theorem dX11_broughtInJune_65 : decode cX11_broughtInJune 65 = .ok (.lstore 5, 2) := by decide +kernel
theorem dX11_broughtInJune_67 : decode cX11_broughtInJune 67 = .ok (.iinc 7 1, 3) := by decide +kernel
theorem dX11_broughtInJune_70 : decode cX11_broughtInJune 70 = .ok (.goto (-64), 3) := by decide +kernel
theorem dX11_broughtInJune_73 : decode cX11_broughtInJune 73 = .ok (.lload 5, 2) := by decide +kernel
theorem dX11_broughtInJune_75 : decode cX11_broughtInJune 75 = .ok (.lreturn, 1) := by decide +kernel
set_option maxHeartbeats 4000000 in
set_option maxRecDepth 100000 in
theorem x_X11_broughtInJune_6 {p : Program} {l : Launch} {e : Env} {s : State} {m : MethodId} {args : Array Value} {below : List Frame} {meth : Method} {c : Code} {D : va_G} {K : Nat → ClassId} {A : Nat → Prop} {ad la : Nat → Nat} {rest : va_W} (C : xC p s m args meth c D K A RX11 cX11_broughtInJune 9 (some .long)) (z : Int64 × xS) : ∀ (n : Nat) (y1 : Int32) (y2 : Int32) (y3 : Int32) (y4 : Int32) (y5 : Int64) (y7 : Int32) (σ : xS), F_X11_broughtInJune_6  n y1 y2 y3 y4 y5 y7 σ = some z → X p l e (xR 2 43) s m args below meth c D A 9 (xQl below D K A args s z.1 (CW K ad la rest z.2)) 0 0 6 [(0, .ref (ad 0)), (1, .int y1), (2, .int y2), (3, .int y3), (4, .int y4), (5, .long y5), (7, .int y7)] [] (CW K ad la rest σ) := by
  intro n
  induction n with
  | zero =>
    intro y1 y2 y3 y4 y5 y7 σ hF
    cases hF
  | succ n ih =>
    intro y1 y2 y3 y4 y5 y7 σ hF
    rw [F_X11_broughtInJune_6] at hF
    refine x_iload C 6 7 dX11_broughtInJune_6 rfl ?_
    refine x_aload_n C 0 0 dX11_broughtInJune_8 rfl rfl ?_
    refine x_get C 0 dX11_broughtInJune_9 fl_X11_10 (CW_0 K ad la rest σ) rfl ?_
    refine x_get C 5 dX11_broughtInJune_12 fl_X11_286 (CW_5 K ad la rest σ) rfl ?_
    refine x_get C 14 dX11_broughtInJune_15 fl_X11_209 (CW_14 K ad la rest σ) rfl ?_
    refine x_icmp_ge C 73 dX11_broughtInJune_18 (by decide) hF (fun hF => ?_) (fun hF => ?_)
    · refine x_lload C 5 5 dX11_broughtInJune_73 rfl ?_
      exact x_lret C dX11_broughtInJune_75 rfl (congrArg Prod.fst (Option.some.inj hF)) (congrArg (fun q9 : Int64 × xS => CW K ad la rest q9.2) (Option.some.inj hF))
    · refine x_iload_n C 1 1 dX11_broughtInJune_21 rfl rfl ?_
      refine x_aload_n C 0 0 dX11_broughtInJune_22 rfl rfl ?_
      refine x_get C 0 dX11_broughtInJune_23 fl_X11_10 (CW_0 K ad la rest σ) rfl ?_
      refine x_get C 5 dX11_broughtInJune_26 fl_X11_286 (CW_5 K ad la rest σ) rfl ?_
      refine x_iload C 6 7 dX11_broughtInJune_29 rfl ?_
      refine x_iconst C 0 dX11_broughtInJune_31 (by decide +kernel) ?_
      refine x_callVI C (wf := CW K ad la rest) (As := [.int y7, .int 0]) (rest := [.int y1]) dX11_broughtInJune_32 ml_X11_122 rfl rfl (Nat.le_of_ble_eq_true rfl) 14 (CW_14 K ad la rest σ) rfl ⟨Nat.le_of_ble_eq_true rfl, Nat.le_of_ble_eq_true rfl⟩ ⟨Nat.zero_le _, Nat.zero_le _⟩ (fun q9 hq9 => c_X6_get l D K ad la rest 3 (by decide) y7 0 σ q9 hq9) hF (fun v4 σ3 hF => ?_)
      refine x_mmin C dX11_broughtInJune_35 wl_X11_334 jMinI ⟨Nat.le_of_ble_eq_true rfl, Nat.le_of_ble_eq_true rfl⟩ ⟨Nat.zero_le _, Nat.zero_le _⟩ ?_
      refine x_topI hF (fun x5 hF => ?_)
      refine x_istore C [(8, .int x5), (0, .ref (ad 0)), (1, .int y1), (2, .int y2), (3, .int y3), (4, .int y4), (5, .long y5), (7, .int y7)] dX11_broughtInJune_38 (by decide) rfl ?_
      refine x_lload C 6 5 dX11_broughtInJune_40 rfl ?_
      refine x_iload C 0 8 dX11_broughtInJune_42 rfl ?_
      refine x_i2l C dX11_broughtInJune_44 ?_
      refine x_iload_n C 4 3 dX11_broughtInJune_45 rfl rfl ?_
      refine x_i2l C dX11_broughtInJune_46 ?_
      refine x_lmul C dX11_broughtInJune_47 ?_
      refine x_iload_n C 2 1 dX11_broughtInJune_48 rfl rfl ?_
      refine x_iload C 0 8 dX11_broughtInJune_49 rfl ?_
      refine x_isub C dX11_broughtInJune_51 ?_
      refine x_i2l C dX11_broughtInJune_52 ?_
      refine x_iload C 5 4 dX11_broughtInJune_53 rfl ?_
      refine x_i2l C dX11_broughtInJune_55 ?_
      refine x_lmul C dX11_broughtInJune_56 ?_
      refine x_ladd C dX11_broughtInJune_57 ?_
      refine x_iload_n C 2 1 dX11_broughtInJune_58 rfl rfl ?_
      refine x_i2l C dX11_broughtInJune_59 ?_
      refine x_iload_n C 3 2 dX11_broughtInJune_60 rfl rfl ?_
      refine x_i2l C dX11_broughtInJune_61 ?_
      refine x_lmul C dX11_broughtInJune_62 ?_
      refine x_lsub C dX11_broughtInJune_63 ?_
      refine x_ladd C dX11_broughtInJune_64 ?_
      refine x_topL hF (fun x6 hF => ?_)
      refine x_lstore C [(5, .long x6), (8, .int x5), (0, .ref (ad 0)), (1, .int y1), (2, .int y2), (3, .int y3), (4, .int y4), (7, .int y7)] dX11_broughtInJune_65 (by decide) rfl ?_
      refine x_iincN C 1 7 (fun x7 => [(7, .int x7), (5, .long x6), (8, .int x5), (0, .ref (ad 0)), (1, .int y1), (2, .int y2), (3, .int y3), (4, .int y4)]) dX11_broughtInJune_67 rfl (by decide +kernel) (by decide) (fun _ => rfl) hF (fun x7 hF => ?_)
      refine x_goto C 6 dX11_broughtInJune_70 (by decide) ?_
      refine x_loc [(0, .ref (ad 0)), (1, .int y1), (2, .int y2), (3, .int y3), (4, .int y4), (5, .long x6), (7, .int x7)] [3, 4, 5, 6, 7, 1, 0] rfl ?_
      exact ih y1 y2 y3 y4 x6 x7 σ3 hF
set_option maxHeartbeats 4000000 in
set_option maxRecDepth 100000 in
theorem c_X11_broughtInJune (l : Launch) (D : va_G) (K : Nat → ClassId) (ad la : Nat → Nat) (rest : va_W)  (a1 : Int32) (a2 : Int32) (a3 : Int32) (a4 : Int32) (σ : xS) (z : Int64 × xS) (hF : F_X11_broughtInJune a1 a2 a3 a4 σ = some z) : CL l D K yX11_broughtInJune cX11_broughtInJune 9 (some .long) 2 43 [.ref (ad 0), .int a1, .int a2, .int a3, .int a4] (CW K ad la rest σ) z.1 (CW K ad la rest z.2) := by
  refine x_enterL [(0, .ref (ad 0)), (1, .int a1), (2, .int a2), (3, .int a3), (4, .int a4)] pnX11 (Nat.le_of_ble_eq_true rfl) rfl ?_
  intro p e s m args below meth c A C
  unfold F_X11_broughtInJune at hF
  refine x_lconst C 0 dX11_broughtInJune_0 (by decide +kernel) ?_
  refine x_topL hF (fun x1 hF => ?_)
  refine x_lstore C [(5, .long x1), (0, .ref (ad 0)), (1, .int a1), (2, .int a2), (3, .int a3), (4, .int a4)] dX11_broughtInJune_1 (by decide) rfl ?_
  refine x_iconst C 0 dX11_broughtInJune_3 (by decide +kernel) ?_
  refine x_topI hF (fun x2 hF => ?_)
  refine x_istore C [(7, .int x2), (5, .long x1), (0, .ref (ad 0)), (1, .int a1), (2, .int a2), (3, .int a3), (4, .int a4)] dX11_broughtInJune_4 (by decide) rfl ?_
  refine x_loc [(0, .ref (ad 0)), (1, .int a1), (2, .int a2), (3, .int a3), (4, .int a4), (5, .long x1), (7, .int x2)] [2, 3, 4, 5, 6, 1, 0] rfl ?_
  exact x_X11_broughtInJune_6 C z FU a1 a2 a3 a4 x1 x2 σ hF
