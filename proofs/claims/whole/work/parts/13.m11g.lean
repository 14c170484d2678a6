theorem dX11_june_0 : decode cX11_june 0 = .ok (.iload_n 1, 1) := by decide +kernel
theorem dX11_june_1 : decode cX11_june 1 = .ok (.iconst 0, 1) := by decide +kernel
theorem dX11_june_2 : decode cX11_june 2 = .ok (.sipush 999, 3) := by decide +kernel
theorem dX11_june_5 : decode cX11_june 5 = .ok (.invokestatic 105, 3) := by decide +kernel
theorem dX11_june_8 : decode cX11_june 8 = .ok (.ifCond .eq 14, 3) := by decide +kernel
theorem dX11_june_11 : decode cX11_june 11 = .ok (.aload_n 0, 1) := by decide +kernel
theorem dX11_june_12 : decode cX11_june 12 = .ok (.iload_n 2, 1) := by decide +kernel
theorem dX11_june_13 : decode cX11_june 13 = .ok (.iload_n 3, 1) := by decide +kernel
theorem dX11_june_14 : decode cX11_june 14 = .ok (.iload 4, 2) := by decide +kernel
theorem dX11_june_16 : decode cX11_june 16 = .ok (.invokevirtual 293, 3) := by decide +kernel
theorem dX11_june_19 : decode cX11_june 19 = .ok (.ifCond .ne 7, 3) := by decide +kernel
theorem dX11_june_22 : decode cX11_june 22 = .ok (.ldc2_w 191, 3) := by decide +kernel
theorem dX11_june_25 : decode cX11_june 25 = .ok (.lreturn, 1) := by decide +kernel
theorem dX11_june_26 : decode cX11_june 26 = .ok (.aload_n 0, 1) := by decide +kernel
theorem dX11_june_27 : decode cX11_june 27 = .ok (.iload_n 1, 1) := by decide +kernel
theorem dX11_june_28 : decode cX11_june 28 = .ok (.iload_n 2, 1) := by decide +kernel
theorem dX11_june_29 : decode cX11_june 29 = .ok (.iload_n 3, 1) := by decide +kernel
theorem dX11_june_30 : decode cX11_june 30 = .ok (.iload 4, 2) := by decide +kernel
theorem dX11_june_32 : decode cX11_june 32 = .ok (.invokevirtual 296, 3) := by decide +kernel
theorem dX11_june_35 : decode cX11_june 35 = .ok (.lreturn, 1) := by decide +kernel
set_option maxHeartbeats 4000000 in
set_option maxRecDepth 100000 in
theorem c_X11_june (l : Launch) (D : va_G) (K : Nat → ClassId) (ad la : Nat → Nat) (rest : va_W)  (a1 : Int32) (a2 : Int32) (a3 : Int32) (a4 : Int32) (σ : xS) (z : Int64 × xS) (hF : F_X11_june a1 a2 a3 a4 σ = some z) : CL l D K yX11_june cX11_june 5 (some .long) 3 71 [.ref (ad 0), .int a1, .int a2, .int a3, .int a4] (CW K ad la rest σ) z.1 (CW K ad la rest z.2) := by
  refine x_enterL [(0, .ref (ad 0)), (1, .int a1), (2, .int a2), (3, .int a3), (4, .int a4)] pnX11 (Nat.le_of_ble_eq_true rfl) rfl ?_
  intro p e s m args below meth c A C
  unfold F_X11_june at hF
  refine x_iload_n C 1 1 dX11_june_0 rfl rfl ?_
  refine x_iconst C 0 dX11_june_1 (by decide +kernel) ?_
  refine x_sipush C 999 dX11_june_2 (by decide +kernel) ?_
  refine x_callSI C (wf := CW K ad la rest) (As := [.int a1, .int 0, .int 999]) (rest := []) dX11_june_5 ml_X11_105 rfl rfl (Nat.le_of_ble_eq_true rfl) ⟨Nat.le_of_ble_eq_true rfl, Nat.le_of_ble_eq_true rfl⟩ ⟨Nat.zero_le _, Nat.zero_le _⟩ (fun q9 hq9 => c_X11_isWithin l D K ad la rest a1 0 999 σ q9 hq9) hF (fun v2 σ1 hF => ?_)
  refine x_if_eq C 22 dX11_june_8 (by decide) hF (fun hF => ?_) (fun hF => ?_)
  · refine x_ldc2 C (-1000000000000000000) dX11_june_22 cl_X11_191 ?_
    exact x_lret C dX11_june_25 rfl (congrArg Prod.fst (Option.some.inj hF)) (congrArg (fun q9 : Int64 × xS => CW K ad la rest q9.2) (Option.some.inj hF))
  · refine x_aload_n C 0 0 dX11_june_11 rfl rfl ?_
    refine x_iload_n C 2 2 dX11_june_12 rfl rfl ?_
    refine x_iload_n C 3 3 dX11_june_13 rfl rfl ?_
    refine x_iload C 4 4 dX11_june_14 rfl ?_
    refine x_callVI C (wf := CW K ad la rest) (As := [.int a2, .int a3, .int a4]) (rest := []) dX11_june_16 ml_X11_293 rfl rfl (Nat.le_of_ble_eq_true rfl) 0 (CW_0 K ad la rest σ1) rfl ⟨Nat.le_of_ble_eq_true rfl, Nat.le_of_ble_eq_true rfl⟩ ⟨Nat.zero_le _, Nat.zero_le _⟩ (fun q9 hq9 => c_X11_juneCanBe l D K ad la rest a2 a3 a4 σ1 q9 hq9) hF (fun v4 σ3 hF => ?_)
    refine x_if_ne C 26 dX11_june_19 (by decide) hF (fun hF => ?_) (fun hF => ?_)
    · refine x_aload_n C 0 0 dX11_june_26 rfl rfl ?_
      refine x_iload_n C 1 1 dX11_june_27 rfl rfl ?_
      refine x_iload_n C 2 2 dX11_june_28 rfl rfl ?_
      refine x_iload_n C 3 3 dX11_june_29 rfl rfl ?_
      refine x_iload C 4 4 dX11_june_30 rfl ?_
      refine x_callVL C (wf := CW K ad la rest) (As := [.int a1, .int a2, .int a3, .int a4]) (rest := []) dX11_june_32 ml_X11_296 rfl rfl (Nat.le_of_ble_eq_true rfl) 0 (CW_0 K ad la rest σ3) rfl ⟨Nat.le_of_ble_eq_true rfl, Nat.le_of_ble_eq_true rfl⟩ ⟨Nat.zero_le _, Nat.zero_le _⟩ (fun q9 hq9 => c_X11_broughtInJune l D K ad la rest a1 a2 a3 a4 σ3 q9 hq9) hF (fun v6 σ5 hF => ?_)
      exact x_lret C dX11_june_35 rfl (congrArg Prod.fst (Option.some.inj hF)) (congrArg (fun q9 : Int64 × xS => CW K ad la rest q9.2) (Option.some.inj hF))
    · refine x_ldc2 C (-1000000000000000000) dX11_june_22 cl_X11_191 ?_
      exact x_lret C dX11_june_25 rfl (congrArg Prod.fst (Option.some.inj hF)) (congrArg (fun q9 : Int64 × xS => CW K ad la rest q9.2) (Option.some.inj hF))
theorem dX11_betterCopies_0 : decode cX11_betterCopies 0 = .ok (.aload_n 0, 1) := by decide +kernel
theorem dX11_betterCopies_1 : decode cX11_betterCopies 1 = .ok (.iload_n 1, 1) := by decide +kernel
theorem dX11_betterCopies_2 : decode cX11_betterCopies 2 = .ok (.iload_n 3, 1) := by decide +kernel
theorem dX11_betterCopies_3 : decode cX11_betterCopies 3 = .ok (.iload 4, 2) := by decide +kernel
theorem dX11_betterCopies_5 : decode cX11_betterCopies 5 = .ok (.iload 5, 2) := by decide +kernel
theorem dX11_betterCopies_7 : decode cX11_betterCopies 7 = .ok (.invokevirtual 296, 3) := by decide +kernel
theorem dX11_betterCopies_10 : decode cX11_betterCopies 10 = .ok (.lstore 6, 2) := by decide +kernel
theorem dX11_betterCopies_12 : decode cX11_betterCopies 12 = .ok (.aload_n 0, 1) := by decide +kernel
theorem dX11_betterCopies_13 : decode cX11_betterCopies 13 = .ok (.iload_n 2, 1) := by decide +kernel
theorem dX11_betterCopies_14 : decode cX11_betterCopies 14 = .ok (.iload_n 3, 1) := by decide +kernel
theorem dX11_betterCopies_15 : decode cX11_betterCopies 15 = .ok (.iload 4, 2) := by decide +kernel
theorem dX11_betterCopies_17 : decode cX11_betterCopies 17 = .ok (.iload 5, 2) := by decide +kernel
theorem dX11_betterCopies_19 : decode cX11_betterCopies 19 = .ok (.invokevirtual 296, 3) := by decide +kernel
theorem dX11_betterCopies_22 : decode cX11_betterCopies 22 = .ok (.lstore 8, 2) := by decide +kernel
theorem dX11_betterCopies_24 : decode cX11_betterCopies 24 = .ok (.lload 6, 2) := by decide +kernel
theorem dX11_betterCopies_26 : decode cX11_betterCopies 26 = .ok (.lload 8, 2) := by decide +kernel
theorem dX11_betterCopies_28 : decode cX11_betterCopies 28 = .ok (.lcmp, 1) := by decide +kernel
theorem dX11_betterCopies_29 : decode cX11_betterCopies 29 = .ok (.ifCond .ne 9, 3) := by decide +kernel
theorem dX11_betterCopies_32 : decode cX11_betterCopies 32 = .ok (.iload_n 1, 1) := by decide +kernel
theorem dX11_betterCopies_33 : decode cX11_betterCopies 33 = .ok (.iload_n 2, 1) := by decide +kernel
theorem dX11_betterCopies_34 : decode cX11_betterCopies 34 = .ok (.invokestatic 334, 3) := by decide +kernel
theorem dX11_betterCopies_37 : decode cX11_betterCopies 37 = .ok (.ireturn, 1) := by decide +kernel
theorem dX11_betterCopies_38 : decode cX11_betterCopies 38 = .ok (.lload 6, 2) := by decide +kernel
theorem dX11_betterCopies_40 : decode cX11_betterCopies 40 = .ok (.lload 8, 2) := by decide +kernel
theorem dX11_betterCopies_42 : decode cX11_betterCopies 42 = .ok (.lcmp, 1) := by decide +kernel
theorem dX11_betterCopies_43 : decode cX11_betterCopies 43 = .ok (.ifCond .le 7, 3) := by decide +kernel
theorem dX11_betterCopies_46 : decode cX11_betterCopies 46 = .ok (.iload_n 1, 1) := by decide +kernel
theorem dX11_betterCopies_47 : decode cX11_betterCopies 47 = .ok (.goto 4, 3) := by decide +kernel
theorem dX11_betterCopies_50 : decode cX11_betterCopies 50 = .ok (.iload_n 2, 1) := by decide +kernel
theorem dX11_betterCopies_51 : decode cX11_betterCopies 51 = .ok (.ireturn, 1) := by decide +kernel
set_option maxHeartbeats 4000000 in
set_option maxRecDepth 100000 in
theorem c_X11_betterCopies (l : Launch) (D : va_G) (K : Nat → ClassId) (ad la : Nat → Nat) (rest : va_W)  (a1 : Int32) (a2 : Int32) (a3 : Int32) (a4 : Int32) (a5 : Int32) (σ : xS) (z : Int32 × xS) (hF : F_X11_betterCopies a1 a2 a3 a4 a5 σ = some z) : CI l D K yX11_betterCopies cX11_betterCopies 10 (some .int) 3 71 [.ref (ad 0), .int a1, .int a2, .int a3, .int a4, .int a5] (CW K ad la rest σ) z.1 (CW K ad la rest z.2) := by
  refine x_enterI [(0, .ref (ad 0)), (1, .int a1), (2, .int a2), (3, .int a3), (4, .int a4), (5, .int a5)] pnX11 (Nat.le_of_ble_eq_true rfl) rfl ?_
  intro p e s m args below meth c A C
  unfold F_X11_betterCopies at hF
  refine x_aload_n C 0 0 dX11_betterCopies_0 rfl rfl ?_
  refine x_iload_n C 1 1 dX11_betterCopies_1 rfl rfl ?_
  refine x_iload_n C 3 3 dX11_betterCopies_2 rfl rfl ?_
  refine x_iload C 4 4 dX11_betterCopies_3 rfl ?_
  refine x_iload C 5 5 dX11_betterCopies_5 rfl ?_
  refine x_callVL C (wf := CW K ad la rest) (As := [.int a1, .int a3, .int a4, .int a5]) (rest := []) dX11_betterCopies_7 ml_X11_296 rfl rfl (Nat.le_of_ble_eq_true rfl) 0 (CW_0 K ad la rest σ) rfl ⟨Nat.le_of_ble_eq_true rfl, Nat.le_of_ble_eq_true rfl⟩ ⟨Nat.zero_le _, Nat.zero_le _⟩ (fun q9 hq9 => c_X11_broughtInJune l D K ad la rest a1 a3 a4 a5 σ q9 hq9) hF (fun v2 σ1 hF => ?_)
  refine x_lstore C [(6, .long v2), (0, .ref (ad 0)), (1, .int a1), (2, .int a2), (3, .int a3), (4, .int a4), (5, .int a5)] dX11_betterCopies_10 (by decide) rfl ?_
  refine x_aload_n C 1 0 dX11_betterCopies_12 rfl rfl ?_
  refine x_iload_n C 3 2 dX11_betterCopies_13 rfl rfl ?_
  refine x_iload_n C 4 3 dX11_betterCopies_14 rfl rfl ?_
  refine x_iload C 5 4 dX11_betterCopies_15 rfl ?_
  refine x_iload C 6 5 dX11_betterCopies_17 rfl ?_
  refine x_callVL C (wf := CW K ad la rest) (As := [.int a2, .int a3, .int a4, .int a5]) (rest := []) dX11_betterCopies_19 ml_X11_296 rfl rfl (Nat.le_of_ble_eq_true rfl) 0 (CW_0 K ad la rest σ1) rfl ⟨Nat.le_of_ble_eq_true rfl, Nat.le_of_ble_eq_true rfl⟩ ⟨Nat.zero_le _, Nat.zero_le _⟩ (fun q9 hq9 => c_X11_broughtInJune l D K ad la rest a2 a3 a4 a5 σ1 q9 hq9) hF (fun v4 σ3 hF => ?_)
  refine x_lstore C [(8, .long v4), (6, .long v2), (0, .ref (ad 0)), (1, .int a1), (2, .int a2), (3, .int a3), (4, .int a4), (5, .int a5)] dX11_betterCopies_22 (by decide) rfl ?_
  refine x_lload C 1 6 dX11_betterCopies_24 rfl ?_
  refine x_lload C 0 8 dX11_betterCopies_26 rfl ?_
  refine x_lcmp C dX11_betterCopies_28 ?_
  refine x_if_ne C 38 dX11_betterCopies_29 (by decide) hF (fun hF => ?_) (fun hF => ?_)
  · refine x_lload C 1 6 dX11_betterCopies_38 rfl ?_
    refine x_lload C 0 8 dX11_betterCopies_40 rfl ?_
    refine x_lcmp C dX11_betterCopies_42 ?_
    refine x_if_le C 50 dX11_betterCopies_43 (by decide) hF (fun hF => ?_) (fun hF => ?_)
    · refine x_iload_n C 4 2 dX11_betterCopies_50 rfl rfl ?_
      exact x_iret C dX11_betterCopies_51 rfl (congrArg Prod.fst (Option.some.inj hF)) (congrArg (fun q9 : Int32 × xS => CW K ad la rest q9.2) (Option.some.inj hF))
    · refine x_iload_n C 3 1 dX11_betterCopies_46 rfl rfl ?_
      refine x_goto C 51 dX11_betterCopies_47 (by decide) ?_
      exact x_iret C dX11_betterCopies_51 rfl (congrArg Prod.fst (Option.some.inj hF)) (congrArg (fun q9 : Int32 × xS => CW K ad la rest q9.2) (Option.some.inj hF))
  · refine x_iload_n C 3 1 dX11_betterCopies_32 rfl rfl ?_
    refine x_iload_n C 4 2 dX11_betterCopies_33 rfl rfl ?_
    refine x_mmin C dX11_betterCopies_34 wl_X11_334 jMinI ⟨Nat.le_of_ble_eq_true rfl, Nat.le_of_ble_eq_true rfl⟩ ⟨Nat.zero_le _, Nat.zero_le _⟩ ?_
    exact x_iret C dX11_betterCopies_37 rfl (congrArg Prod.fst (Option.some.inj hF)) (congrArg (fun q9 : Int32 × xS => CW K ad la rest q9.2) (Option.some.inj hF))
theorem dX11_copies_0 : decode cX11_copies 0 = .ok (.aload_n 0, 1) := by decide +kernel
theorem dX11_copies_1 : decode cX11_copies 1 = .ok (.iload_n 1, 1) := by decide +kernel
theorem dX11_copies_2 : decode cX11_copies 2 = .ok (.iload_n 2, 1) := by decide +kernel
theorem dX11_copies_3 : decode cX11_copies 3 = .ok (.iload_n 3, 1) := by decide +kernel
theorem dX11_copies_4 : decode cX11_copies 4 = .ok (.invokevirtual 293, 3) := by decide +kernel
theorem dX11_copies_7 : decode cX11_copies 7 = .ok (.ifCond .ne 5, 3) := by decide +kernel
theorem dX11_copies_10 : decode cX11_copies 10 = .ok (.iconst (-1), 1) := by decide +kernel
theorem dX11_copies_11 : decode cX11_copies 11 = .ok (.ireturn, 1) := by decide +kernel
theorem dX11_copies_12 : decode cX11_copies 12 = .ok (.aload_n 0, 1) := by decide +kernel
theorem dX11_copies_13 : decode cX11_copies 13 = .ok (.iconst 0, 1) := by decide +kernel
theorem dX11_copies_14 : decode cX11_copies 14 = .ok (.sipush 999, 3) := by decide +kernel
theorem dX11_copies_17 : decode cX11_copies 17 = .ok (.iload_n 1, 1) := by decide +kernel
theorem dX11_copies_18 : decode cX11_copies 18 = .ok (.iload_n 2, 1) := by decide +kernel
theorem dX11_copies_19 : decode cX11_copies 19 = .ok (.iload_n 3, 1) := by decide +kernel
theorem dX11_copies_20 : decode cX11_copies 20 = .ok (.invokevirtual 299, 3) := by decide +kernel
theorem dX11_copies_23 : decode cX11_copies 23 = .ok (.istore 4, 2) := by decide +kernel
theorem dX11_copies_25 : decode cX11_copies 25 = .ok (.iconst 0, 1) := by decide +kernel
theorem dX11_copies_26 : decode cX11_copies 26 = .ok (.istore 5, 2) := by decide +kernel
theorem dX11_copies_28 : decode cX11_copies 28 = .ok (.iload 5, 2) := by decide +kernel
theorem dX11_copies_30 : decode cX11_copies 30 = .ok (.aload_n 0, 1) := by decide +kernel
theorem dX11_copies_31 : decode cX11_copies 31 = .ok (.getfield 10, 3) := by decide +kernel
theorem dX11_copies_34 : decode cX11_copies 34 = .ok (.getfield 286, 3) := by decide +kernel
theorem dX11_copies_37 : decode cX11_copies 37 = .ok (.getfield 209, 3) := by decide +kernel
theorem dX11_copies_40 : decode cX11_copies 40 = .ok (.if_icmp .ge 33, 3) := by decide +kernel
theorem dX11_copies_43 : decode cX11_copies 43 = .ok (.aload_n 0, 1) := by decide +kernel
theorem dX11_copies_44 : decode cX11_copies 44 = .ok (.iload 4, 2) := by decide +kernel
theorem dX11_copies_46 : decode cX11_copies 46 = .ok (.aload_n 0, 1) := by decide +kernel
theorem dX11_copies_47 : decode cX11_copies 47 = .ok (.getfield 10, 3) := by decide +kernel
theorem dX11_copies_50 : decode cX11_copies 50 = .ok (.getfield 286, 3) := by decide +kernel
theorem dX11_copies_53 : decode cX11_copies 53 = .ok (.iload 5, 2) := by decide +kernel
theorem dX11_copies_55 : decode cX11_copies 55 = .ok (.iconst 0, 1) := by decide +kernel
theorem dX11_copies_56 : decode cX11_copies 56 = .ok (.invokevirtual 122, 3) := by decide +kernel
theorem dX11_copies_59 : decode cX11_copies 59 = .ok (.iload_n 1, 1) := by decide +kernel
theorem dX11_copies_60 : decode cX11_copies 60 = .ok (.iload_n 2, 1) := by decide +kernel
theorem dX11_copies_61 : decode cX11_copies 61 = .ok (.iload_n 3, 1) := by decide +kernel
theorem dX11_copies_62 : decode cX11_copies 62 = .ok (.invokevirtual 299, 3) := by decide +kernel
theorem dX11_copies_65 : decode cX11_copies 65 = .ok (.istore 4, 2) := by decide +kernel
theorem dX11_copies_67 : decode cX11_copies 67 = .ok (.iinc 5 1, 3) := by decide +kernel
theorem dX11_copies_70 : decode cX11_copies 70 = .ok (.goto (-42), 3) := by decide +kernel
theorem dX11_copies_73 : decode cX11_copies 73 = .ok (.iload 4, 2) := by decide +kernel
theorem dX11_copies_75 : decode cX11_copies 75 = .ok (.ireturn, 1) := by decide +kernel
set_option maxHeartbeats 4000000 in
set_option maxRecDepth 100000 in
theorem x_X11_copies_28 {p : Program} {l : Launch} {e : Env} {s : State} {m : MethodId} {args : Array Value} {below : List Frame} {meth : Method} {c : Code} {D : va_G} {K : Nat → ClassId} {A : Nat → Prop} {ad la : Nat → Nat} {rest : va_W} (C : xC p s m args meth c D K A RX11 cX11_copies 6 (some .int)) (z : Int32 × xS) : ∀ (n : Nat) (y1 : Int32) (y2 : Int32) (y3 : Int32) (y4 : Int32) (y5 : Int32) (σ : xS), F_X11_copies_28  n y1 y2 y3 y4 y5 σ = some z → X p l e (xR 4 100) s m args below meth c D A 6 (xQi below D K A args s z.1 (CW K ad la rest z.2)) 0 0 28 [(0, .ref (ad 0)), (1, .int y1), (2, .int y2), (3, .int y3), (4, .int y4), (5, .int y5)] [] (CW K ad la rest σ) := by
  intro n
  induction n with
  | zero =>
    intro y1 y2 y3 y4 y5 σ hF
    cases hF
  | succ n ih =>
    intro y1 y2 y3 y4 y5 σ hF
    rw [F_X11_copies_28] at hF
    refine x_iload C 5 5 dX11_copies_28 rfl ?_
    refine x_aload_n C 0 0 dX11_copies_30 rfl rfl ?_
    refine x_get C 0 dX11_copies_31 fl_X11_10 (CW_0 K ad la rest σ) rfl ?_
    refine x_get C 5 dX11_copies_34 fl_X11_286 (CW_5 K ad la rest σ) rfl ?_
    refine x_get C 14 dX11_copies_37 fl_X11_209 (CW_14 K ad la rest σ) rfl ?_
    refine x_icmp_ge C 73 dX11_copies_40 (by decide) hF (fun hF => ?_) (fun hF => ?_)
    · refine x_iload C 4 4 dX11_copies_73 rfl ?_
      exact x_iret C dX11_copies_75 rfl (congrArg Prod.fst (Option.some.inj hF)) (congrArg (fun q9 : Int32 × xS => CW K ad la rest q9.2) (Option.some.inj hF))
    · refine x_aload_n C 0 0 dX11_copies_43 rfl rfl ?_
      refine x_iload C 4 4 dX11_copies_44 rfl ?_
      refine x_aload_n C 0 0 dX11_copies_46 rfl rfl ?_
      refine x_get C 0 dX11_copies_47 fl_X11_10 (CW_0 K ad la rest σ) rfl ?_
      refine x_get C 5 dX11_copies_50 fl_X11_286 (CW_5 K ad la rest σ) rfl ?_
      refine x_iload C 5 5 dX11_copies_53 rfl ?_
      refine x_iconst C 0 dX11_copies_55 (by decide +kernel) ?_
      refine x_callVI C (wf := CW K ad la rest) (As := [.int y5, .int 0]) (rest := [.int y4, .ref (ad 0)]) dX11_copies_56 ml_X11_122 rfl rfl (Nat.le_of_ble_eq_true rfl) 14 (CW_14 K ad la rest σ) rfl ⟨Nat.le_of_ble_eq_true rfl, Nat.le_of_ble_eq_true rfl⟩ ⟨Nat.zero_le _, Nat.zero_le _⟩ (fun q9 hq9 => c_X6_get l D K ad la rest 3 (by decide) y5 0 σ q9 hq9) hF (fun v7 σ6 hF => ?_)
      refine x_iload_n C 1 1 dX11_copies_59 rfl rfl ?_
      refine x_iload_n C 2 2 dX11_copies_60 rfl rfl ?_
      refine x_iload_n C 3 3 dX11_copies_61 rfl rfl ?_
      refine x_callVI C (wf := CW K ad la rest) (As := [.int y4, .int v7, .int y1, .int y2, .int y3]) (rest := []) dX11_copies_62 ml_X11_299 rfl rfl (Nat.le_of_ble_eq_true rfl) 0 (CW_0 K ad la rest σ6) rfl ⟨Nat.le_of_ble_eq_true rfl, Nat.le_of_ble_eq_true rfl⟩ ⟨Nat.zero_le _, Nat.zero_le _⟩ (fun q9 hq9 => c_X11_betterCopies l D K ad la rest y4 v7 y1 y2 y3 σ6 q9 hq9) hF (fun v9 σ8 hF => ?_)
      refine x_istore C [(4, .int v9), (0, .ref (ad 0)), (1, .int y1), (2, .int y2), (3, .int y3), (5, .int y5)] dX11_copies_65 (by decide) rfl ?_
      refine x_iincN C 1 5 (fun x10 => [(5, .int x10), (4, .int v9), (0, .ref (ad 0)), (1, .int y1), (2, .int y2), (3, .int y3)]) dX11_copies_67 rfl (by decide +kernel) (by decide) (fun _ => rfl) hF (fun x10 hF => ?_)
      refine x_goto C 28 dX11_copies_70 (by decide) ?_
      refine x_loc [(0, .ref (ad 0)), (1, .int y1), (2, .int y2), (3, .int y3), (4, .int v9), (5, .int x10)] [2, 3, 4, 5, 1, 0] rfl ?_
      exact ih y1 y2 y3 v9 x10 σ8 hF
set_option maxHeartbeats 4000000 in
set_option maxRecDepth 100000 in
theorem c_X11_copies (l : Launch) (D : va_G) (K : Nat → ClassId) (ad la : Nat → Nat) (rest : va_W)  (a1 : Int32) (a2 : Int32) (a3 : Int32) (σ : xS) (z : Int32 × xS) (hF : F_X11_copies a1 a2 a3 σ = some z) : CI l D K yX11_copies cX11_copies 6 (some .int) 4 100 [.ref (ad 0), .int a1, .int a2, .int a3] (CW K ad la rest σ) z.1 (CW K ad la rest z.2) := by
  refine x_enterI [(0, .ref (ad 0)), (1, .int a1), (2, .int a2), (3, .int a3)] pnX11 (Nat.le_of_ble_eq_true rfl) rfl ?_
  intro p e s m args below meth c A C
  unfold F_X11_copies at hF
  refine x_aload_n C 0 0 dX11_copies_0 rfl rfl ?_
  refine x_iload_n C 1 1 dX11_copies_1 rfl rfl ?_
  refine x_iload_n C 2 2 dX11_copies_2 rfl rfl ?_
  refine x_iload_n C 3 3 dX11_copies_3 rfl rfl ?_
  refine x_callVI C (wf := CW K ad la rest) (As := [.int a1, .int a2, .int a3]) (rest := []) dX11_copies_4 ml_X11_293 rfl rfl (Nat.le_of_ble_eq_true rfl) 0 (CW_0 K ad la rest σ) rfl ⟨Nat.le_of_ble_eq_true rfl, Nat.le_of_ble_eq_true rfl⟩ ⟨Nat.zero_le _, Nat.zero_le _⟩ (fun q9 hq9 => c_X11_juneCanBe l D K ad la rest a1 a2 a3 σ q9 hq9) hF (fun v2 σ1 hF => ?_)
  refine x_if_ne C 12 dX11_copies_7 (by decide) hF (fun hF => ?_) (fun hF => ?_)
  · refine x_aload_n C 0 0 dX11_copies_12 rfl rfl ?_
    refine x_iconst C 0 dX11_copies_13 (by decide +kernel) ?_
    refine x_sipush C 999 dX11_copies_14 (by decide +kernel) ?_
    refine x_iload_n C 1 1 dX11_copies_17 rfl rfl ?_
    refine x_iload_n C 2 2 dX11_copies_18 rfl rfl ?_
    refine x_iload_n C 3 3 dX11_copies_19 rfl rfl ?_
    refine x_callVI C (wf := CW K ad la rest) (As := [.int 0, .int 999, .int a1, .int a2, .int a3]) (rest := []) dX11_copies_20 ml_X11_299 rfl rfl (Nat.le_of_ble_eq_true rfl) 0 (CW_0 K ad la rest σ1) rfl ⟨Nat.le_of_ble_eq_true rfl, Nat.le_of_ble_eq_true rfl⟩ ⟨Nat.zero_le _, Nat.zero_le _⟩ (fun q9 hq9 => c_X11_betterCopies l D K ad la rest 0 999 a1 a2 a3 σ1 q9 hq9) hF (fun v4 σ3 hF => ?_)
    refine x_istore C [(4, .int v4), (0, .ref (ad 0)), (1, .int a1), (2, .int a2), (3, .int a3)] dX11_copies_23 (by decide) rfl ?_
    refine x_iconst C 0 dX11_copies_25 (by decide +kernel) ?_
    refine x_topI hF (fun x5 hF => ?_)
    refine x_istore C [(5, .int x5), (4, .int v4), (0, .ref (ad 0)), (1, .int a1), (2, .int a2), (3, .int a3)] dX11_copies_26 (by decide) rfl ?_
    refine x_loc [(0, .ref (ad 0)), (1, .int a1), (2, .int a2), (3, .int a3), (4, .int v4), (5, .int x5)] [2, 3, 4, 5, 1, 0] rfl ?_
    exact x_X11_copies_28 C z FU a1 a2 a3 v4 x5 σ3 hF
  · refine x_iconst C (-1) dX11_copies_10 (by decide +kernel) ?_
    exact x_iret C dX11_copies_11 rfl (congrArg Prod.fst (Option.some.inj hF)) (congrArg (fun q9 : Int32 × xS => CW K ad la rest q9.2) (Option.some.inj hF))
theorem dX11_mark_0 : decode cX11_mark 0 = .ok (.iload_n 1, 1) := by decide +kernel
theorem dX11_mark_1 : decode cX11_mark 1 = .ok (.iconst 0, 1) := by decide +kernel
theorem dX11_mark_2 : decode cX11_mark 2 = .ok (.bipush 100, 2) := by decide +kernel
theorem dX11_mark_4 : decode cX11_mark 4 = .ok (.invokestatic 105, 3) := by decide +kernel
theorem dX11_mark_7 : decode cX11_mark 7 = .ok (.ifCond .eq 13, 3) := by decide +kernel
theorem dX11_mark_10 : decode cX11_mark 10 = .ok (.iload_n 2, 1) := by decide +kernel
theorem dX11_mark_11 : decode cX11_mark 11 = .ok (.iconst 0, 1) := by decide +kernel
theorem dX11_mark_12 : decode cX11_mark 12 = .ok (.bipush 100, 2) := by decide +kernel
theorem dX11_mark_14 : decode cX11_mark 14 = .ok (.invokestatic 105, 3) := by decide +kernel
theorem dX11_mark_17 : decode cX11_mark 17 = .ok (.ifCond .ne 9, 3) := by decide +kernel
theorem dX11_mark_20 : decode cX11_mark 20 = .ok (.aload_n 0, 1) := by decide +kernel
theorem dX11_mark_21 : decode cX11_mark 21 = .ok (.iconst (-1), 1) := by decide +kernel
theorem dX11_mark_22 : decode cX11_mark 22 = .ok (.invokevirtual 94, 3) := by decide +kernel
theorem dX11_mark_25 : decode cX11_mark 25 = .ok (.ireturn, 1) := by decide +kernel
theorem dX11_mark_26 : decode cX11_mark 26 = .ok (.aload_n 0, 1) := by decide +kernel
theorem dX11_mark_27 : decode cX11_mark 27 = .ok (.getfield 10, 3) := by decide +kernel
theorem dX11_mark_30 : decode cX11_mark 30 = .ok (.getfield 302, 3) := by decide +kernel
theorem dX11_mark_33 : decode cX11_mark 33 = .ok (.invokevirtual 206, 3) := by decide +kernel
theorem dX11_mark_36 : decode cX11_mark 36 = .ok (.istore_n 3, 1) := by decide +kernel
theorem dX11_mark_37 : decode cX11_mark 37 = .ok (.iload_n 3, 1) := by decide +kernel
theorem dX11_mark_38 : decode cX11_mark 38 = .ok (.iconst (-1), 1) := by decide +kernel
theorem dX11_mark_39 : decode cX11_mark 39 = .ok (.if_icmp .ne 10, 3) := by decide +kernel
theorem dX11_mark_42 : decode cX11_mark 42 = .ok (.aload_n 0, 1) := by decide +kernel
theorem dX11_mark_43 : decode cX11_mark 43 = .ok (.bipush (-5), 2) := by decide +kernel
theorem dX11_mark_45 : decode cX11_mark 45 = .ok (.invokevirtual 94, 3) := by decide +kernel
theorem dX11_mark_48 : decode cX11_mark 48 = .ok (.ireturn, 1) := by decide +kernel
theorem dX11_mark_49 : decode cX11_mark 49 = .ok (.aload_n 0, 1) := by decide +kernel
theorem dX11_mark_50 : decode cX11_mark 50 = .ok (.getfield 10, 3) := by decide +kernel
theorem dX11_mark_53 : decode cX11_mark 53 = .ok (.getfield 302, 3) := by decide +kernel
theorem dX11_mark_56 : decode cX11_mark 56 = .ok (.iload_n 3, 1) := by decide +kernel
theorem dX11_mark_57 : decode cX11_mark 57 = .ok (.iconst 0, 1) := by decide +kernel
theorem dX11_mark_58 : decode cX11_mark 58 = .ok (.iload_n 1, 1) := by decide +kernel
theorem dX11_mark_59 : decode cX11_mark 59 = .ok (.invokevirtual 126, 3) := by decide +kernel
theorem dX11_mark_62 : decode cX11_mark 62 = .ok (.aload_n 0, 1) := by decide +kernel
theorem dX11_mark_63 : decode cX11_mark 63 = .ok (.getfield 10, 3) := by decide +kernel
theorem dX11_mark_66 : decode cX11_mark 66 = .ok (.getfield 302, 3) := by decide +kernel
theorem dX11_mark_69 : decode cX11_mark 69 = .ok (.iload_n 3, 1) := by decide +kernel
theorem dX11_mark_70 : decode cX11_mark 70 = .ok (.iconst 1, 1) := by decide +kernel
theorem dX11_mark_71 : decode cX11_mark 71 = .ok (.iload_n 2, 1) := by decide +kernel
theorem dX11_mark_72 : decode cX11_mark 72 = .ok (.invokevirtual 126, 3) := by decide +kernel
theorem dX11_mark_75 : decode cX11_mark 75 = .ok (.aload_n 0, 1) := by decide +kernel
theorem dX11_mark_76 : decode cX11_mark 76 = .ok (.iload_n 3, 1) := by decide +kernel
theorem dX11_mark_77 : decode cX11_mark 77 = .ok (.invokevirtual 102, 3) := by decide +kernel
theorem dX11_mark_80 : decode cX11_mark 80 = .ok (.ireturn, 1) := by decide +kernel
set_option maxHeartbeats 4000000 in
set_option maxRecDepth 100000 in
theorem x_X11_mark_20 {p : Program} {l : Launch} {e : Env} {s : State} {m : MethodId} {args : Array Value} {below : List Frame} {meth : Method} {c : Code} {D : va_G} {K : Nat → ClassId} {A : Nat → Prop} {ad la : Nat → Nat} {rest : va_W} (C : xC p s m args meth c D K A RX11 cX11_mark 4 (some .int)) (z : Int32 × xS) : ∀  (σ : xS), F_X11_mark_20  σ = some z → X p l e (xR 2 44) s m args below meth c D A 4 (xQi below D K A args s z.1 (CW K ad la rest z.2)) 0 0 20 [(0, .ref (ad 0))] [] (CW K ad la rest σ) := by
  intro σ hF
  unfold F_X11_mark_20 at hF
  refine x_aload_n C 0 0 dX11_mark_20 rfl rfl ?_
  refine x_iconst C (-1) dX11_mark_21 (by decide +kernel) ?_
  refine x_callVI C (wf := CW K ad la rest) (As := [.int ((-1))]) (rest := []) dX11_mark_22 ml_X11_94 rfl rfl (Nat.le_of_ble_eq_true rfl) 0 (CW_0 K ad la rest σ) rfl ⟨Nat.le_of_ble_eq_true rfl, Nat.le_of_ble_eq_true rfl⟩ ⟨Nat.zero_le _, Nat.zero_le _⟩ (fun q9 hq9 => c_X11_refused l D K ad la rest ((-1)) σ q9 hq9) hF (fun v14 σ13 hF => ?_)
  exact x_iret C dX11_mark_25 rfl (congrArg Prod.fst (Option.some.inj hF)) (congrArg (fun q9 : Int32 × xS => CW K ad la rest q9.2) (Option.some.inj hF))
set_option maxHeartbeats 4000000 in
set_option maxRecDepth 100000 in
theorem c_X11_mark (l : Launch) (D : va_G) (K : Nat → ClassId) (ad la : Nat → Nat) (rest : va_W)  (a1 : Int32) (a2 : Int32) (σ : xS) (z : Int32 × xS) (hF : F_X11_mark a1 a2 σ = some z) : CI l D K yX11_mark cX11_mark 4 (some .int) 2 44 [.ref (ad 0), .int a1, .int a2] (CW K ad la rest σ) z.1 (CW K ad la rest z.2) := by
  refine x_enterI [(0, .ref (ad 0)), (1, .int a1), (2, .int a2)] pnX11 (Nat.le_of_ble_eq_true rfl) rfl ?_
  intro p e s m args below meth c A C
  unfold F_X11_mark at hF
  refine x_iload_n C 1 1 dX11_mark_0 rfl rfl ?_
  refine x_iconst C 0 dX11_mark_1 (by decide +kernel) ?_
  refine x_bipush C 100 dX11_mark_2 (by decide +kernel) ?_
  refine x_callSI C (wf := CW K ad la rest) (As := [.int a1, .int 0, .int 100]) (rest := []) dX11_mark_4 ml_X11_105 rfl rfl (Nat.le_of_ble_eq_true rfl) ⟨Nat.le_of_ble_eq_true rfl, Nat.le_of_ble_eq_true rfl⟩ ⟨Nat.zero_le _, Nat.zero_le _⟩ (fun q9 hq9 => c_X11_isWithin l D K ad la rest a1 0 100 σ q9 hq9) hF (fun v2 σ1 hF => ?_)
  refine x_if_eq C 20 dX11_mark_7 (by decide) hF (fun hF => ?_) (fun hF => ?_)
  · refine x_loc [(0, .ref (ad 0))] [0] rfl ?_
    exact x_X11_mark_20 C z σ1 hF
  · refine x_iload_n C 2 2 dX11_mark_10 rfl rfl ?_
    refine x_iconst C 0 dX11_mark_11 (by decide +kernel) ?_
    refine x_bipush C 100 dX11_mark_12 (by decide +kernel) ?_
    refine x_callSI C (wf := CW K ad la rest) (As := [.int a2, .int 0, .int 100]) (rest := []) dX11_mark_14 ml_X11_105 rfl rfl (Nat.le_of_ble_eq_true rfl) ⟨Nat.le_of_ble_eq_true rfl, Nat.le_of_ble_eq_true rfl⟩ ⟨Nat.zero_le _, Nat.zero_le _⟩ (fun q9 hq9 => c_X11_isWithin l D K ad la rest a2 0 100 σ1 q9 hq9) hF (fun v4 σ3 hF => ?_)
    refine x_if_ne C 26 dX11_mark_17 (by decide) hF (fun hF => ?_) (fun hF => ?_)
    · refine x_aload_n C 0 0 dX11_mark_26 rfl rfl ?_
      refine x_get C 0 dX11_mark_27 fl_X11_10 (CW_0 K ad la rest σ3) rfl ?_
      refine x_get C 5 dX11_mark_30 fl_X11_302 (CW_5 K ad la rest σ3) rfl ?_
      refine x_callVI C (wf := CW K ad la rest) (As := []) (rest := []) dX11_mark_33 ml_X11_206 rfl rfl (Nat.le_of_ble_eq_true rfl) 16 (CW_16 K ad la rest σ3) rfl ⟨Nat.le_of_ble_eq_true rfl, Nat.le_of_ble_eq_true rfl⟩ ⟨Nat.zero_le _, Nat.zero_le _⟩ (fun q9 hq9 => c_X6_open l D K ad la rest 4 (by decide) σ3 q9 hq9) hF (fun v6 σ5 hF => ?_)
      refine x_istore_n C [(3, .int v6), (0, .ref (ad 0)), (1, .int a1), (2, .int a2)] dX11_mark_36 rfl (by decide) rfl ?_
      refine x_iload_n C 0 3 dX11_mark_37 rfl rfl ?_
      refine x_iconst C (-1) dX11_mark_38 (by decide +kernel) ?_
      refine x_icmp_ne C 49 dX11_mark_39 (by decide) hF (fun hF => ?_) (fun hF => ?_)
      · refine x_aload_n C 1 0 dX11_mark_49 rfl rfl ?_
        refine x_get C 0 dX11_mark_50 fl_X11_10 (CW_0 K ad la rest σ5) rfl ?_
        refine x_get C 5 dX11_mark_53 fl_X11_302 (CW_5 K ad la rest σ5) rfl ?_
        refine x_iload_n C 0 3 dX11_mark_56 rfl rfl ?_
        refine x_iconst C 0 dX11_mark_57 (by decide +kernel) ?_
        refine x_iload_n C 2 1 dX11_mark_58 rfl rfl ?_
        refine x_callVV C (wf := CW K ad la rest) (As := [.int v6, .int 0, .int a1]) (rest := []) dX11_mark_59 ml_X11_126 rfl rfl (Nat.le_of_ble_eq_true rfl) 16 (CW_16 K ad la rest σ5) rfl ⟨Nat.le_of_ble_eq_true rfl, Nat.le_of_ble_eq_true rfl⟩ ⟨Nat.zero_le _, Nat.zero_le _⟩ (fun q9 hq9 => c_X6_set l D K ad la rest 4 (by decide) v6 0 a1 σ5 q9 hq9) hF (fun _ σ7 hF => ?_)
        refine x_aload_n C 1 0 dX11_mark_62 rfl rfl ?_
        refine x_get C 0 dX11_mark_63 fl_X11_10 (CW_0 K ad la rest σ7) rfl ?_
        refine x_get C 5 dX11_mark_66 fl_X11_302 (CW_5 K ad la rest σ7) rfl ?_
        refine x_iload_n C 0 3 dX11_mark_69 rfl rfl ?_
        refine x_iconst C 1 dX11_mark_70 (by decide +kernel) ?_
        refine x_iload_n C 3 2 dX11_mark_71 rfl rfl ?_
        refine x_callVV C (wf := CW K ad la rest) (As := [.int v6, .int 1, .int a2]) (rest := []) dX11_mark_72 ml_X11_126 rfl rfl (Nat.le_of_ble_eq_true rfl) 16 (CW_16 K ad la rest σ7) rfl ⟨Nat.le_of_ble_eq_true rfl, Nat.le_of_ble_eq_true rfl⟩ ⟨Nat.zero_le _, Nat.zero_le _⟩ (fun q9 hq9 => c_X6_set l D K ad la rest 4 (by decide) v6 1 a2 σ7 q9 hq9) hF (fun _ σ8 hF => ?_)
        refine x_aload_n C 1 0 dX11_mark_75 rfl rfl ?_
        refine x_iload_n C 0 3 dX11_mark_76 rfl rfl ?_
        refine x_callVI C (wf := CW K ad la rest) (As := [.int v6]) (rest := []) dX11_mark_77 ml_X11_102 rfl rfl (Nat.le_of_ble_eq_true rfl) 0 (CW_0 K ad la rest σ8) rfl ⟨Nat.le_of_ble_eq_true rfl, Nat.le_of_ble_eq_true rfl⟩ ⟨Nat.zero_le _, Nat.zero_le _⟩ (fun q9 hq9 => c_X11_accepted l D K ad la rest v6 σ8 q9 hq9) hF (fun v10 σ9 hF => ?_)
        exact x_iret C dX11_mark_80 rfl (congrArg Prod.fst (Option.some.inj hF)) (congrArg (fun q9 : Int32 × xS => CW K ad la rest q9.2) (Option.some.inj hF))
      · refine x_aload_n C 1 0 dX11_mark_42 rfl rfl ?_
        refine x_bipush C (-5) dX11_mark_43 (by decide +kernel) ?_
        refine x_callVI C (wf := CW K ad la rest) (As := [.int ((-5))]) (rest := []) dX11_mark_45 ml_X11_94 rfl rfl (Nat.le_of_ble_eq_true rfl) 0 (CW_0 K ad la rest σ5) rfl ⟨Nat.le_of_ble_eq_true rfl, Nat.le_of_ble_eq_true rfl⟩ ⟨Nat.zero_le _, Nat.zero_le _⟩ (fun q9 hq9 => c_X11_refused l D K ad la rest ((-5)) σ5 q9 hq9) hF (fun v12 σ11 hF => ?_)
        exact x_iret C dX11_mark_48 rfl (congrArg Prod.fst (Option.some.inj hF)) (congrArg (fun q9 : Int32 × xS => CW K ad la rest q9.2) (Option.some.inj hF))
    · refine x_loc [(0, .ref (ad 0))] [0] rfl ?_
      exact x_X11_mark_20 C z σ3 hF
theorem dX11_clear_0 : decode cX11_clear 0 = .ok (.aload_n 0, 1) := by decide +kernel
theorem dX11_clear_1 : decode cX11_clear 1 = .ok (.getfield 10, 3) := by decide +kernel
theorem dX11_clear_4 : decode cX11_clear 4 = .ok (.getfield 302, 3) := by decide +kernel
theorem dX11_clear_7 : decode cX11_clear 7 = .ok (.invokestatic 289, 3) := by decide +kernel
theorem dX11_clear_10 : decode cX11_clear 10 = .ok (.ireturn, 1) := by decide +kernel
set_option maxHeartbeats 4000000 in
set_option maxRecDepth 100000 in
theorem c_X11_clear (l : Launch) (D : va_G) (K : Nat → ClassId) (ad la : Nat → Nat) (rest : va_W)   (σ : xS) (z : Int32 × xS) (hF : F_X11_clear σ = some z) : CI l D K yX11_clear cX11_clear 1 (some .int) 1 21 [.ref (ad 0)] (CW K ad la rest σ) z.1 (CW K ad la rest z.2) := by
  refine x_enterI [(0, .ref (ad 0))] pnX11 (Nat.le_of_ble_eq_true rfl) rfl ?_
  intro p e s m args below meth c A C
  unfold F_X11_clear at hF
  refine x_aload_n C 0 0 dX11_clear_0 rfl rfl ?_
  refine x_get C 0 dX11_clear_1 fl_X11_10 (CW_0 K ad la rest σ) rfl ?_
  refine x_get C 5 dX11_clear_4 fl_X11_302 (CW_5 K ad la rest σ) rfl ?_
  refine x_callSI C (wf := CW K ad la rest) (As := [.ref (ad 16)]) (rest := []) dX11_clear_7 ml_X11_289 rfl rfl (Nat.le_of_ble_eq_true rfl) ⟨Nat.le_of_ble_eq_true rfl, Nat.le_of_ble_eq_true rfl⟩ ⟨Nat.zero_le _, Nat.zero_le _⟩ (fun q9 hq9 => c_X11_emptied l D K ad la rest 4 (by decide) σ q9 hq9) hF (fun v2 σ1 hF => ?_)
  exact x_iret C dX11_clear_10 rfl (congrArg Prod.fst (Option.some.inj hF)) (congrArg (fun q9 : Int32 × xS => CW K ad la rest q9.2) (Option.some.inj hF))
theorem dX11_howOften_0 : decode cX11_howOften 0 = .ok (.lconst 1, 1) := by decide +kernel
theorem dX11_howOften_1 : decode cX11_howOften 1 = .ok (.lstore_n 3, 1) := by decide +kernel
theorem dX11_howOften_2 : decode cX11_howOften 2 = .ok (.iconst 0, 1) := by decide +kernel
theorem dX11_howOften_3 : decode cX11_howOften 3 = .ok (.istore 5, 2) := by decide +kernel
theorem dX11_howOften_5 : decode cX11_howOften 5 = .ok (.iload 5, 2) := by decide +kernel
theorem dX11_howOften_7 : decode cX11_howOften 7 = .ok (.aload_n 0, 1) := by decide +kernel
theorem dX11_howOften_8 : decode cX11_howOften 8 = .ok (.getfield 10, 3) := by decide +kernel
theorem dX11_howOften_11 : decode cX11_howOften 11 = .ok (.getfield 302, 3) := by decide +kernel
theorem dX11_howOften_14 : decode cX11_howOften 14 = .ok (.getfield 209, 3) := by decide +kernel
theorem dX11_howOften_17 : decode cX11_howOften 17 = .ok (.if_icmp .ge 49, 3) := by decide +kernel
theorem dX11_howOften_20 : decode cX11_howOften 20 = .ok (.aload_n 0, 1) := by decide +kernel
theorem dX11_howOften_21 : decode cX11_howOften 21 = .ok (.getfield 10, 3) := by decide +kernel
theorem dX11_howOften_24 : decode cX11_howOften 24 = .ok (.getfield 302, 3) := by decide +kernel
theorem dX11_howOften_27 : decode cX11_howOften 27 = .ok (.iload 5, 2) := by decide +kernel
theorem dX11_howOften_29 : decode cX11_howOften 29 = .ok (.iload_n 2, 1) := by decide +kernel
theorem dX11_howOften_30 : decode cX11_howOften 30 = .ok (.invokevirtual 122, 3) := by decide +kernel
theorem dX11_howOften_33 : decode cX11_howOften 33 = .ok (.istore 6, 2) := by decide +kernel
theorem dX11_howOften_35 : decode cX11_howOften 35 = .ok (.lload_n 3, 1) := by decide +kernel
theorem dX11_howOften_36 : decode cX11_howOften 36 = .ok (.iload_n 1, 1) := by decide +kernel
theorem dX11_howOften_37 : decode cX11_howOften 37 = .ok (.iload 5, 2) := by decide +kernel
theorem dX11_howOften_39 : decode cX11_howOften 39 = .ok (.ishr, 1) := by decide +kernel
theorem dX11_howOften_40 : decode cX11_howOften 40 = .ok (.iconst 1, 1) := by decide +kernel
theorem dX11_howOften_41 : decode cX11_howOften 41 = .ok (.iand, 1) := by decide +kernel
theorem dX11_howOften_42 : decode cX11_howOften 42 = .ok (.iconst 1, 1) := by decide +kernel
theorem dX11_howOften_43 : decode cX11_howOften 43 = .ok (.if_icmp .ne 9, 3) := by decide +kernel
theorem dX11_howOften_46 : decode cX11_howOften 46 = .ok (.iload 6, 2) := by decide +kernel
theorem dX11_howOften_48 : decode cX11_howOften 48 = .ok (.i2l, 1) := by decide +kernel
theorem dX11_howOften_49 : decode cX11_howOften 49 = .ok (.goto 9, 3) := by decide +kernel
theorem dX11_howOften_52 : decode cX11_howOften 52 = .ok (.bipush 100, 2) := by decide +kernel
theorem dX11_howOften_54 : decode cX11_howOften 54 = .ok (.iload 6, 2) := by decide +kernel
theorem dX11_howOften_56 : decode cX11_howOften 56 = .ok (.isub, 1) := by decide +kernel
theorem dX11_howOften_57 : decode cX11_howOften 57 = .ok (.i2l, 1) := by decide +kernel
theorem dX11_howOften_58 : decode cX11_howOften 58 = .ok (.lmul, 1) := by decide +kernel
theorem dX11_howOften_59 : decode cX11_howOften 59 = .ok (.lstore_n 3, 1) := by decide +kernel
theorem dX11_howOften_60 : decode cX11_howOften 60 = .ok (.iinc 5 1, 3) := by decide +kernel
theorem dX11_howOften_63 : decode cX11_howOften 63 = .ok (.goto (-58), 3) := by decide +kernel
theorem dX11_howOften_66 : decode cX11_howOften 66 = .ok (.lload_n 3, 1) := by decide +kernel
theorem dX11_howOften_67 : decode cX11_howOften 67 = .ok (.lreturn, 1) := by decide +kernel
set_option maxHeartbeats 4000000 in
set_option maxRecDepth 100000 in
theorem x_X11_howOften_58 {p : Program} {l : Launch} {e : Env} {s : State} {m : MethodId} {args : Array Value} {below : List Frame} {meth : Method} {c : Code} {D : va_G} {K : Nat → ClassId} {A : Nat → Prop} {ad la : Nat → Nat} {rest : va_W} (C : xC p s m args meth c D K A RX11 cX11_howOften 7 (some .long)) (z : Int64 × xS) (k_5 : Int32 → Int32 → Int64 → Int32 → xS → Option (Int64 × xS)) (H_5 : ∀ (y1 : Int32) (y2 : Int32) (y3 : Int64) (y5 : Int32) (σ : xS), k_5 y1 y2 y3 y5 σ = some z → X p l e (xR 2 43) s m args below meth c D A 7 (xQl below D K A args s z.1 (CW K ad la rest z.2)) 0 0 5 [(0, .ref (ad 0)), (1, .int y1), (2, .int y2), (3, .long y3), (5, .int y5)] [] (CW K ad la rest σ)) : ∀ (y1 : Int32) (y2 : Int32) (y5 : Int32) (t0x : Int64) (t1x : Int64) (σ : xS), F_X11_howOften_58 k_5 y1 y2 y5 t0x t1x σ = some z → X p l e (xR 2 43) s m args below meth c D A 7 (xQl below D K A args s z.1 (CW K ad la rest z.2)) 0 0 58 [(0, .ref (ad 0)), (1, .int y1), (2, .int y2), (5, .int y5)] [.long t1x, .long t0x] (CW K ad la rest σ) := by
  intro y1 y2 y5 t0x t1x σ hF
  unfold F_X11_howOften_58 at hF
  refine x_lmul C dX11_howOften_58 ?_
  refine x_topL hF (fun x5 hF => ?_)
  refine x_lstore_n C [(3, .long x5), (0, .ref (ad 0)), (1, .int y1), (2, .int y2), (5, .int y5)] dX11_howOften_59 rfl (by decide) rfl ?_
  refine x_iincN C 1 4 (fun x6 => [(5, .int x6), (3, .long x5), (0, .ref (ad 0)), (1, .int y1), (2, .int y2)]) dX11_howOften_60 rfl (by decide +kernel) (by decide) (fun _ => rfl) hF (fun x6 hF => ?_)
  refine x_goto C 5 dX11_howOften_63 (by decide) ?_
  refine x_loc [(0, .ref (ad 0)), (1, .int y1), (2, .int y2), (3, .long x5), (5, .int x6)] [2, 3, 4, 1, 0] rfl ?_
  exact H_5 y1 y2 x5 x6 σ hF
set_option maxHeartbeats 4000000 in
set_option maxRecDepth 100000 in
theorem x_X11_howOften_5 {p : Program} {l : Launch} {e : Env} {s : State} {m : MethodId} {args : Array Value} {below : List Frame} {meth : Method} {c : Code} {D : va_G} {K : Nat → ClassId} {A : Nat → Prop} {ad la : Nat → Nat} {rest : va_W} (C : xC p s m args meth c D K A RX11 cX11_howOften 7 (some .long)) (z : Int64 × xS) : ∀ (n : Nat) (y1 : Int32) (y2 : Int32) (y3 : Int64) (y5 : Int32) (σ : xS), F_X11_howOften_5  n y1 y2 y3 y5 σ = some z → X p l e (xR 2 43) s m args below meth c D A 7 (xQl below D K A args s z.1 (CW K ad la rest z.2)) 0 0 5 [(0, .ref (ad 0)), (1, .int y1), (2, .int y2), (3, .long y3), (5, .int y5)] [] (CW K ad la rest σ) := by
  intro n
  induction n with
  | zero =>
    intro y1 y2 y3 y5 σ hF
    cases hF
  | succ n ih =>
    intro y1 y2 y3 y5 σ hF
    rw [F_X11_howOften_5] at hF
    refine x_iload C 4 5 dX11_howOften_5 rfl ?_
    refine x_aload_n C 0 0 dX11_howOften_7 rfl rfl ?_
    refine x_get C 0 dX11_howOften_8 fl_X11_10 (CW_0 K ad la rest σ) rfl ?_
    refine x_get C 5 dX11_howOften_11 fl_X11_302 (CW_5 K ad la rest σ) rfl ?_
    refine x_get C 16 dX11_howOften_14 fl_X11_209 (CW_16 K ad la rest σ) rfl ?_
    refine x_icmp_ge C 66 dX11_howOften_17 (by decide) hF (fun hF => ?_) (fun hF => ?_)
    · refine x_lload_n C 3 3 dX11_howOften_66 rfl rfl ?_
      exact x_lret C dX11_howOften_67 rfl (congrArg Prod.fst (Option.some.inj hF)) (congrArg (fun q9 : Int64 × xS => CW K ad la rest q9.2) (Option.some.inj hF))
    · refine x_aload_n C 0 0 dX11_howOften_20 rfl rfl ?_
      refine x_get C 0 dX11_howOften_21 fl_X11_10 (CW_0 K ad la rest σ) rfl ?_
      refine x_get C 5 dX11_howOften_24 fl_X11_302 (CW_5 K ad la rest σ) rfl ?_
      refine x_iload C 4 5 dX11_howOften_27 rfl ?_
      refine x_iload_n C 2 2 dX11_howOften_29 rfl rfl ?_
      refine x_callVI C (wf := CW K ad la rest) (As := [.int y5, .int y2]) (rest := []) dX11_howOften_30 ml_X11_122 rfl rfl (Nat.le_of_ble_eq_true rfl) 16 (CW_16 K ad la rest σ) rfl ⟨Nat.le_of_ble_eq_true rfl, Nat.le_of_ble_eq_true rfl⟩ ⟨Nat.zero_le _, Nat.zero_le _⟩ (fun q9 hq9 => c_X6_get l D K ad la rest 4 (by decide) y5 y2 σ q9 hq9) hF (fun v4 σ3 hF => ?_)
      refine x_istore C [(6, .int v4), (0, .ref (ad 0)), (1, .int y1), (2, .int y2), (3, .long y3), (5, .int y5)] dX11_howOften_33 (by decide) rfl ?_
      refine x_lload_n C 4 3 dX11_howOften_35 rfl rfl ?_
      refine x_iload_n C 2 1 dX11_howOften_36 rfl rfl ?_
      refine x_iload C 5 5 dX11_howOften_37 rfl ?_
      refine x_ishr C dX11_howOften_39 ?_
      refine x_iconst C 1 dX11_howOften_40 (by decide +kernel) ?_
      refine x_iand C dX11_howOften_41 ?_
      refine x_iconst C 1 dX11_howOften_42 (by decide +kernel) ?_
      refine x_icmp_ne C 52 dX11_howOften_43 (by decide) hF (fun hF => ?_) (fun hF => ?_)
      · refine x_bipush C 100 dX11_howOften_52 (by decide +kernel) ?_
        refine x_iload C 0 6 dX11_howOften_54 rfl ?_
        refine x_isub C dX11_howOften_56 ?_
        refine x_i2l C dX11_howOften_57 ?_
        refine x_loc [(0, .ref (ad 0)), (1, .int y1), (2, .int y2), (5, .int y5)] [1, 2, 3, 5] rfl ?_
        exact x_X11_howOften_58 C z ((F_X11_howOften_5 n)) ih y1 y2 y5 y3 ((100 - v4).toInt64) σ3 hF
      · refine x_iload C 0 6 dX11_howOften_46 rfl ?_
        refine x_i2l C dX11_howOften_48 ?_
        refine x_goto C 58 dX11_howOften_49 (by decide) ?_
        refine x_loc [(0, .ref (ad 0)), (1, .int y1), (2, .int y2), (5, .int y5)] [1, 2, 3, 5] rfl ?_
        exact x_X11_howOften_58 C z ((F_X11_howOften_5 n)) ih y1 y2 y5 y3 (v4.toInt64) σ3 hF
set_option maxHeartbeats 4000000 in
set_option maxRecDepth 100000 in
theorem c_X11_howOften (l : Launch) (D : va_G) (K : Nat → ClassId) (ad la : Nat → Nat) (rest : va_W)  (a1 : Int32) (a2 : Int32) (σ : xS) (z : Int64 × xS) (hF : F_X11_howOften a1 a2 σ = some z) : CL l D K yX11_howOften cX11_howOften 7 (some .long) 2 43 [.ref (ad 0), .int a1, .int a2] (CW K ad la rest σ) z.1 (CW K ad la rest z.2) := by
  refine x_enterL [(0, .ref (ad 0)), (1, .int a1), (2, .int a2)] pnX11 (Nat.le_of_ble_eq_true rfl) rfl ?_
  intro p e s m args below meth c A C
  unfold F_X11_howOften at hF
  refine x_lconst C 1 dX11_howOften_0 (by decide +kernel) ?_
  refine x_topL hF (fun x1 hF => ?_)
  refine x_lstore_n C [(3, .long x1), (0, .ref (ad 0)), (1, .int a1), (2, .int a2)] dX11_howOften_1 rfl (by decide) rfl ?_
  refine x_iconst C 0 dX11_howOften_2 (by decide +kernel) ?_
  refine x_topI hF (fun x2 hF => ?_)
  refine x_istore C [(5, .int x2), (3, .long x1), (0, .ref (ad 0)), (1, .int a1), (2, .int a2)] dX11_howOften_3 (by decide) rfl ?_
  refine x_loc [(0, .ref (ad 0)), (1, .int a1), (2, .int a2), (3, .long x1), (5, .int x2)] [2, 3, 4, 1, 0] rfl ?_
  exact x_X11_howOften_5 C z FU a1 a2 x1 x2 σ hF
theorem dX11_likely_0 : decode cX11_likely 0 = .ok (.iload_n 1, 1) := by decide +kernel
theorem dX11_likely_1 : decode cX11_likely 1 = .ok (.iconst 0, 1) := by decide +kernel
theorem dX11_likely_2 : decode cX11_likely 2 = .ok (.iconst 1, 1) := by decide +kernel
theorem dX11_likely_3 : decode cX11_likely 3 = .ok (.aload_n 0, 1) := by decide +kernel
theorem dX11_likely_4 : decode cX11_likely 4 = .ok (.getfield 10, 3) := by decide +kernel
theorem dX11_likely_7 : decode cX11_likely 7 = .ok (.getfield 302, 3) := by decide +kernel
theorem dX11_likely_10 : decode cX11_likely 10 = .ok (.getfield 209, 3) := by decide +kernel
theorem dX11_likely_13 : decode cX11_likely 13 = .ok (.ishl, 1) := by decide +kernel
theorem dX11_likely_14 : decode cX11_likely 14 = .ok (.iconst 1, 1) := by decide +kernel
theorem dX11_likely_15 : decode cX11_likely 15 = .ok (.isub, 1) := by decide +kernel
theorem dX11_likely_16 : decode cX11_likely 16 = .ok (.invokestatic 105, 3) := by decide +kernel
theorem dX11_likely_19 : decode cX11_likely 19 = .ok (.ifCond .eq 22, 3) := by decide +kernel
theorem dX11_likely_22 : decode cX11_likely 22 = .ok (.iload_n 2, 1) := by decide +kernel
theorem dX11_likely_23 : decode cX11_likely 23 = .ok (.iconst 0, 1) := by decide +kernel
theorem dX11_likely_24 : decode cX11_likely 24 = .ok (.bipush 100, 2) := by decide +kernel
theorem dX11_likely_26 : decode cX11_likely 26 = .ok (.invokestatic 105, 3) := by decide +kernel
theorem dX11_likely_29 : decode cX11_likely 29 = .ok (.ifCond .eq 12, 3) := by decide +kernel
theorem dX11_likely_32 : decode cX11_likely 32 = .ok (.iload_n 3, 1) := by decide +kernel
theorem dX11_likely_33 : decode cX11_likely 33 = .ok (.iconst 0, 1) := by decide +kernel
theorem dX11_likely_34 : decode cX11_likely 34 = .ok (.iconst 1, 1) := by decide +kernel
theorem dX11_likely_35 : decode cX11_likely 35 = .ok (.invokestatic 105, 3) := by decide +kernel
theorem dX11_likely_38 : decode cX11_likely 38 = .ok (.ifCond .ne 7, 3) := by decide +kernel
theorem dX11_likely_41 : decode cX11_likely 41 = .ok (.ldc2_w 191, 3) := by decide +kernel
theorem dX11_likely_44 : decode cX11_likely 44 = .ok (.lreturn, 1) := by decide +kernel
theorem dX11_likely_45 : decode cX11_likely 45 = .ok (.iload_n 2, 1) := by decide +kernel
theorem dX11_likely_46 : decode cX11_likely 46 = .ok (.i2l, 1) := by decide +kernel
theorem dX11_likely_47 : decode cX11_likely 47 = .ok (.aload_n 0, 1) := by decide +kernel
theorem dX11_likely_48 : decode cX11_likely 48 = .ok (.iload_n 1, 1) := by decide +kernel
theorem dX11_likely_49 : decode cX11_likely 49 = .ok (.iconst 0, 1) := by decide +kernel
theorem dX11_likely_50 : decode cX11_likely 50 = .ok (.invokevirtual 305, 3) := by decide +kernel
theorem dX11_likely_53 : decode cX11_likely 53 = .ok (.lmul, 1) := by decide +kernel
theorem dX11_likely_54 : decode cX11_likely 54 = .ok (.lstore 4, 2) := by decide +kernel
theorem dX11_likely_56 : decode cX11_likely 56 = .ok (.bipush 100, 2) := by decide +kernel
theorem dX11_likely_58 : decode cX11_likely 58 = .ok (.iload_n 2, 1) := by decide +kernel
theorem dX11_likely_59 : decode cX11_likely 59 = .ok (.isub, 1) := by decide +kernel
theorem dX11_likely_60 : decode cX11_likely 60 = .ok (.i2l, 1) := by decide +kernel
theorem dX11_likely_61 : decode cX11_likely 61 = .ok (.aload_n 0, 1) := by decide +kernel
theorem dX11_likely_62 : decode cX11_likely 62 = .ok (.iload_n 1, 1) := by decide +kernel
theorem dX11_likely_63 : decode cX11_likely 63 = .ok (.iconst 1, 1) := by decide +kernel
theorem dX11_likely_64 : decode cX11_likely 64 = .ok (.invokevirtual 305, 3) := by decide +kernel
theorem dX11_likely_67 : decode cX11_likely 67 = .ok (.lmul, 1) := by decide +kernel
theorem dX11_likely_68 : decode cX11_likely 68 = .ok (.lstore 6, 2) := by decide +kernel
theorem dX11_likely_70 : decode cX11_likely 70 = .ok (.lload 4, 2) := by decide +kernel
theorem dX11_likely_72 : decode cX11_likely 72 = .ok (.lload 4, 2) := by decide +kernel
theorem dX11_likely_74 : decode cX11_likely 74 = .ok (.lload 6, 2) := by decide +kernel
theorem dX11_likely_76 : decode cX11_likely 76 = .ok (.ladd, 1) := by decide +kernel
theorem dX11_likely_77 : decode cX11_likely 77 = .ok (.iload_n 3, 1) := by decide +kernel
theorem dX11_likely_78 : decode cX11_likely 78 = .ok (.invokestatic 216, 3) := by decide +kernel
theorem dX11_likely_81 : decode cX11_likely 81 = .ok (.lreturn, 1) := by decide +kernel
set_option maxHeartbeats 4000000 in
set_option maxRecDepth 100000 in
theorem c_X11_likely (l : Launch) (D : va_G) (K : Nat → ClassId) (ad la : Nat → Nat) (rest : va_W)  (a1 : Int32) (a2 : Int32) (a3 : Int32) (σ : xS) (z : Int64 × xS) (hF : F_X11_likely a1 a2 a3 σ = some z) : CL l D K yX11_likely cX11_likely 8 (some .long) 3 69 [.ref (ad 0), .int a1, .int a2, .int a3] (CW K ad la rest σ) z.1 (CW K ad la rest z.2) := by
  refine x_enterL [(0, .ref (ad 0)), (1, .int a1), (2, .int a2), (3, .int a3)] pnX11 (Nat.le_of_ble_eq_true rfl) rfl ?_
  intro p e s m args below meth c A C
  unfold F_X11_likely at hF
  refine x_iload_n C 1 1 dX11_likely_0 rfl rfl ?_
  refine x_iconst C 0 dX11_likely_1 (by decide +kernel) ?_
  refine x_iconst C 1 dX11_likely_2 (by decide +kernel) ?_
  refine x_aload_n C 0 0 dX11_likely_3 rfl rfl ?_
  refine x_get C 0 dX11_likely_4 fl_X11_10 (CW_0 K ad la rest σ) rfl ?_
  refine x_get C 5 dX11_likely_7 fl_X11_302 (CW_5 K ad la rest σ) rfl ?_
  refine x_get C 16 dX11_likely_10 fl_X11_209 (CW_16 K ad la rest σ) rfl ?_
  refine x_ishl C dX11_likely_13 ?_
  refine x_iconst C 1 dX11_likely_14 (by decide +kernel) ?_
  refine x_isub C dX11_likely_15 ?_
  refine x_callSI C (wf := CW K ad la rest) (As := [.int a1, .int 0, .int (((1 : Int32) <<< ((sI σ 259) &&& 31)) - 1)]) (rest := []) dX11_likely_16 ml_X11_105 rfl rfl (Nat.le_of_ble_eq_true rfl) ⟨Nat.le_of_ble_eq_true rfl, Nat.le_of_ble_eq_true rfl⟩ ⟨Nat.zero_le _, Nat.zero_le _⟩ (fun q9 hq9 => c_X11_isWithin l D K ad la rest a1 0 (((1 : Int32) <<< ((sI σ 259) &&& 31)) - 1) σ q9 hq9) hF (fun v2 σ1 hF => ?_)
  refine x_if_eq C 41 dX11_likely_19 (by decide) hF (fun hF => ?_) (fun hF => ?_)
  · refine x_ldc2 C (-1000000000000000000) dX11_likely_41 cl_X11_191 ?_
    exact x_lret C dX11_likely_44 rfl (congrArg Prod.fst (Option.some.inj hF)) (congrArg (fun q9 : Int64 × xS => CW K ad la rest q9.2) (Option.some.inj hF))
  · refine x_iload_n C 2 2 dX11_likely_22 rfl rfl ?_
    refine x_iconst C 0 dX11_likely_23 (by decide +kernel) ?_
    refine x_bipush C 100 dX11_likely_24 (by decide +kernel) ?_
    refine x_callSI C (wf := CW K ad la rest) (As := [.int a2, .int 0, .int 100]) (rest := []) dX11_likely_26 ml_X11_105 rfl rfl (Nat.le_of_ble_eq_true rfl) ⟨Nat.le_of_ble_eq_true rfl, Nat.le_of_ble_eq_true rfl⟩ ⟨Nat.zero_le _, Nat.zero_le _⟩ (fun q9 hq9 => c_X11_isWithin l D K ad la rest a2 0 100 σ1 q9 hq9) hF (fun v4 σ3 hF => ?_)
    refine x_if_eq C 41 dX11_likely_29 (by decide) hF (fun hF => ?_) (fun hF => ?_)
    · refine x_ldc2 C (-1000000000000000000) dX11_likely_41 cl_X11_191 ?_
      exact x_lret C dX11_likely_44 rfl (congrArg Prod.fst (Option.some.inj hF)) (congrArg (fun q9 : Int64 × xS => CW K ad la rest q9.2) (Option.some.inj hF))
    · refine x_iload_n C 3 3 dX11_likely_32 rfl rfl ?_
      refine x_iconst C 0 dX11_likely_33 (by decide +kernel) ?_
      refine x_iconst C 1 dX11_likely_34 (by decide +kernel) ?_
      refine x_callSI C (wf := CW K ad la rest) (As := [.int a3, .int 0, .int 1]) (rest := []) dX11_likely_35 ml_X11_105 rfl rfl (Nat.le_of_ble_eq_true rfl) ⟨Nat.le_of_ble_eq_true rfl, Nat.le_of_ble_eq_true rfl⟩ ⟨Nat.zero_le _, Nat.zero_le _⟩ (fun q9 hq9 => c_X11_isWithin l D K ad la rest a3 0 1 σ3 q9 hq9) hF (fun v6 σ5 hF => ?_)
      refine x_if_ne C 45 dX11_likely_38 (by decide) hF (fun hF => ?_) (fun hF => ?_)
      · refine x_iload_n C 2 2 dX11_likely_45 rfl rfl ?_
        refine x_i2l C dX11_likely_46 ?_
        refine x_aload_n C 0 0 dX11_likely_47 rfl rfl ?_
        refine x_iload_n C 1 1 dX11_likely_48 rfl rfl ?_
        refine x_iconst C 0 dX11_likely_49 (by decide +kernel) ?_
        refine x_callVL C (wf := CW K ad la rest) (As := [.int a1, .int 0]) (rest := [.long (a2.toInt64)]) dX11_likely_50 ml_X11_305 rfl rfl (Nat.le_of_ble_eq_true rfl) 0 (CW_0 K ad la rest σ5) rfl ⟨Nat.le_of_ble_eq_true rfl, Nat.le_of_ble_eq_true rfl⟩ ⟨Nat.zero_le _, Nat.zero_le _⟩ (fun q9 hq9 => c_X11_howOften l D K ad la rest a1 0 σ5 q9 hq9) hF (fun v8 σ7 hF => ?_)
        refine x_lmul C dX11_likely_53 ?_
        refine x_topL hF (fun x9 hF => ?_)
        refine x_lstore C [(4, .long x9), (0, .ref (ad 0)), (1, .int a1), (2, .int a2), (3, .int a3)] dX11_likely_54 (by decide) rfl ?_
        refine x_bipush C 100 dX11_likely_56 (by decide +kernel) ?_
        refine x_iload_n C 3 2 dX11_likely_58 rfl rfl ?_
        refine x_isub C dX11_likely_59 ?_
        refine x_i2l C dX11_likely_60 ?_
        refine x_aload_n C 1 0 dX11_likely_61 rfl rfl ?_
        refine x_iload_n C 2 1 dX11_likely_62 rfl rfl ?_
        refine x_iconst C 1 dX11_likely_63 (by decide +kernel) ?_
        refine x_callVL C (wf := CW K ad la rest) (As := [.int a1, .int 1]) (rest := [.long ((100 - a2).toInt64)]) dX11_likely_64 ml_X11_305 rfl rfl (Nat.le_of_ble_eq_true rfl) 0 (CW_0 K ad la rest σ7) rfl ⟨Nat.le_of_ble_eq_true rfl, Nat.le_of_ble_eq_true rfl⟩ ⟨Nat.zero_le _, Nat.zero_le _⟩ (fun q9 hq9 => c_X11_howOften l D K ad la rest a1 1 σ7 q9 hq9) hF (fun v11 σ10 hF => ?_)
        refine x_lmul C dX11_likely_67 ?_
        refine x_topL hF (fun x12 hF => ?_)
        refine x_lstore C [(6, .long x12), (4, .long x9), (0, .ref (ad 0)), (1, .int a1), (2, .int a2), (3, .int a3)] dX11_likely_68 (by decide) rfl ?_
        refine x_lload C 1 4 dX11_likely_70 rfl ?_
        refine x_lload C 1 4 dX11_likely_72 rfl ?_
        refine x_lload C 0 6 dX11_likely_74 rfl ?_
        refine x_ladd C dX11_likely_76 ?_
        refine x_iload_n C 5 3 dX11_likely_77 rfl rfl ?_
        refine x_callSL C (wf := CW K ad la rest) (As := [.long x9, .long (x9 + x12), .int a3]) (rest := []) dX11_likely_78 ml_X11_216 rfl rfl (Nat.le_of_ble_eq_true rfl) ⟨Nat.le_of_ble_eq_true rfl, Nat.le_of_ble_eq_true rfl⟩ ⟨Nat.zero_le _, Nat.zero_le _⟩ (fun q9 hq9 => c_X11_lowestTerms l D K ad la rest x9 (x9 + x12) a3 σ10 q9 hq9) hF (fun v14 σ13 hF => ?_)
        exact x_lret C dX11_likely_81 rfl (congrArg Prod.fst (Option.some.inj hF)) (congrArg (fun q9 : Int64 × xS => CW K ad la rest q9.2) (Option.some.inj hF))
      · refine x_ldc2 C (-1000000000000000000) dX11_likely_41 cl_X11_191 ?_
        exact x_lret C dX11_likely_44 rfl (congrArg Prod.fst (Option.some.inj hF)) (congrArg (fun q9 : Int64 × xS => CW K ad la rest q9.2) (Option.some.inj hF))
theorem dX11_isCalled_0 : decode cX11_isCalled 0 = .ok (.lload_n 0, 1) := by decide +kernel
theorem dX11_isCalled_1 : decode cX11_isCalled 1 = .ok (.lload_n 2, 1) := by decide +kernel
theorem dX11_isCalled_2 : decode cX11_isCalled 2 = .ok (.ladd, 1) := by decide +kernel
theorem dX11_isCalled_3 : decode cX11_isCalled 3 = .ok (.lconst 0, 1) := by decide +kernel
theorem dX11_isCalled_4 : decode cX11_isCalled 4 = .ok (.lcmp, 1) := by decide +kernel
theorem dX11_isCalled_5 : decode cX11_isCalled 5 = .ok (.ifCond .le 23, 3) := by decide +kernel
theorem dX11_isCalled_8 : decode cX11_isCalled 8 = .ok (.lload_n 0, 1) := by decide +kernel
theorem dX11_isCalled_9 : decode cX11_isCalled 9 = .ok (.ldc2_w 337, 3) := by decide +kernel
theorem dX11_isCalled_12 : decode cX11_isCalled 12 = .ok (.lmul, 1) := by decide +kernel
theorem dX11_isCalled_13 : decode cX11_isCalled 13 = .ok (.lload_n 0, 1) := by decide +kernel
theorem dX11_isCalled_14 : decode cX11_isCalled 14 = .ok (.lload_n 2, 1) := by decide +kernel
theorem dX11_isCalled_15 : decode cX11_isCalled 15 = .ok (.ladd, 1) := by decide +kernel
theorem dX11_isCalled_16 : decode cX11_isCalled 16 = .ok (.iload 4, 2) := by decide +kernel
theorem dX11_isCalled_18 : decode cX11_isCalled 18 = .ok (.i2l, 1) := by decide +kernel
theorem dX11_isCalled_19 : decode cX11_isCalled 19 = .ok (.lmul, 1) := by decide +kernel
theorem dX11_isCalled_20 : decode cX11_isCalled 20 = .ok (.lcmp, 1) := by decide +kernel
theorem dX11_isCalled_21 : decode cX11_isCalled 21 = .ok (.ifCond .lt 7, 3) := by decide +kernel
theorem dX11_isCalled_24 : decode cX11_isCalled 24 = .ok (.iconst 1, 1) := by decide +kernel
theorem dX11_isCalled_25 : decode cX11_isCalled 25 = .ok (.goto 4, 3) := by decide +kernel
theorem dX11_isCalled_28 : decode cX11_isCalled 28 = .ok (.iconst 0, 1) := by decide +kernel
theorem dX11_isCalled_29 : decode cX11_isCalled 29 = .ok (.ireturn, 1) := by decide +kernel
set_option maxHeartbeats 4000000 in
set_option maxRecDepth 100000 in
theorem c_X11_isCalled (l : Launch) (D : va_G) (K : Nat → ClassId) (ad la : Nat → Nat) (rest : va_W)  (a1 : Int64) (a2 : Int64) (a3 : Int32) (σ : xS) (z : Int32 × xS) (hF : F_X11_isCalled a1 a2 a3 σ = some z) : CI l D K yX11_isCalled cX11_isCalled 5 (some .boolean) 0 0 [.long a1, .long a2, .int a3] (CW K ad la rest σ) z.1 (CW K ad la rest z.2) := by
  refine x_enterI [(0, .long a1), (2, .long a2), (4, .int a3)] pnX11 (Nat.le_of_ble_eq_true rfl) rfl ?_
  intro p e s m args below meth c A C
  unfold F_X11_isCalled at hF
  refine x_lload_n C 0 0 dX11_isCalled_0 rfl rfl ?_
  refine x_lload_n C 1 2 dX11_isCalled_1 rfl rfl ?_
  refine x_ladd C dX11_isCalled_2 ?_
  refine x_lconst C 0 dX11_isCalled_3 (by decide +kernel) ?_
  refine x_lcmp C dX11_isCalled_4 ?_
  refine x_if_le C 28 dX11_isCalled_5 (by decide) hF (fun hF => ?_) (fun hF => ?_)
  · refine x_iconst C 0 dX11_isCalled_28 (by decide +kernel) ?_
    have hz := (cz_some hF).1
    replace hF := (cz_some hF).2
    exact x_zret C dX11_isCalled_29 rfl hz (congrArg Prod.fst (Option.some.inj hF)) (congrArg (fun q9 : Int32 × xS => CW K ad la rest q9.2) (Option.some.inj hF))
  · refine x_lload_n C 0 0 dX11_isCalled_8 rfl rfl ?_
    refine x_ldc2 C 100 dX11_isCalled_9 cl_X11_337 ?_
    refine x_lmul C dX11_isCalled_12 ?_
    refine x_lload_n C 0 0 dX11_isCalled_13 rfl rfl ?_
    refine x_lload_n C 1 2 dX11_isCalled_14 rfl rfl ?_
    refine x_ladd C dX11_isCalled_15 ?_
    refine x_iload C 2 4 dX11_isCalled_16 rfl ?_
    refine x_i2l C dX11_isCalled_18 ?_
    refine x_lmul C dX11_isCalled_19 ?_
    refine x_lcmp C dX11_isCalled_20 ?_
    refine x_if_lt C 28 dX11_isCalled_21 (by decide) hF (fun hF => ?_) (fun hF => ?_)
    · refine x_iconst C 0 dX11_isCalled_28 (by decide +kernel) ?_
      have hz := (cz_some hF).1
      replace hF := (cz_some hF).2
      exact x_zret C dX11_isCalled_29 rfl hz (congrArg Prod.fst (Option.some.inj hF)) (congrArg (fun q9 : Int32 × xS => CW K ad la rest q9.2) (Option.some.inj hF))
    · refine x_iconst C 1 dX11_isCalled_24 (by decide +kernel) ?_
      refine x_goto C 29 dX11_isCalled_25 (by decide) ?_
      have hz := (cz_some hF).1
      replace hF := (cz_some hF).2
      exact x_zret C dX11_isCalled_29 rfl hz (congrArg Prod.fst (Option.some.inj hF)) (congrArg (fun q9 : Int32 × xS => CW K ad la rest q9.2) (Option.some.inj hF))
theorem dX11_errors_0 : decode cX11_errors 0 = .ok (.iload_n 1, 1) := by decide +kernel
theorem dX11_errors_1 : decode cX11_errors 1 = .ok (.iconst 0, 1) := by decide +kernel
theorem dX11_errors_2 : decode cX11_errors 2 = .ok (.bipush 100, 2) := by decide +kernel
theorem dX11_errors_4 : decode cX11_errors 4 = .ok (.invokestatic 105, 3) := by decide +kernel
theorem dX11_errors_7 : decode cX11_errors 7 = .ok (.ifCond .eq 22, 3) := by decide +kernel
theorem dX11_errors_10 : decode cX11_errors 10 = .ok (.iload_n 2, 1) := by decide +kernel
theorem dX11_errors_11 : decode cX11_errors 11 = .ok (.iconst 0, 1) := by decide +kernel
theorem dX11_errors_12 : decode cX11_errors 12 = .ok (.bipush 100, 2) := by decide +kernel
theorem dX11_errors_14 : decode cX11_errors 14 = .ok (.invokestatic 105, 3) := by decide +kernel
theorem dX11_errors_17 : decode cX11_errors 17 = .ok (.ifCond .eq 12, 3) := by decide +kernel
theorem dX11_errors_20 : decode cX11_errors 20 = .ok (.iload_n 3, 1) := by decide +kernel
theorem dX11_errors_21 : decode cX11_errors 21 = .ok (.iconst 0, 1) := by decide +kernel
theorem dX11_errors_22 : decode cX11_errors 22 = .ok (.iconst 1, 1) := by decide +kernel
theorem dX11_errors_23 : decode cX11_errors 23 = .ok (.invokestatic 105, 3) := by decide +kernel
theorem dX11_errors_26 : decode cX11_errors 26 = .ok (.ifCond .ne 7, 3) := by decide +kernel
theorem dX11_errors_29 : decode cX11_errors 29 = .ok (.ldc2_w 191, 3) := by decide +kernel
theorem dX11_errors_32 : decode cX11_errors 32 = .ok (.lreturn, 1) := by decide +kernel
theorem dX11_errors_33 : decode cX11_errors 33 = .ok (.lconst 0, 1) := by decide +kernel
theorem dX11_errors_34 : decode cX11_errors 34 = .ok (.lstore 4, 2) := by decide +kernel
theorem dX11_errors_36 : decode cX11_errors 36 = .ok (.lconst 0, 1) := by decide +kernel
theorem dX11_errors_37 : decode cX11_errors 37 = .ok (.lstore 6, 2) := by decide +kernel
theorem dX11_errors_39 : decode cX11_errors 39 = .ok (.iconst 0, 1) := by decide +kernel
theorem dX11_errors_40 : decode cX11_errors 40 = .ok (.istore 8, 2) := by decide +kernel
theorem dX11_errors_42 : decode cX11_errors 42 = .ok (.iload 8, 2) := by decide +kernel
theorem dX11_errors_44 : decode cX11_errors 44 = .ok (.iconst 1, 1) := by decide +kernel
theorem dX11_errors_45 : decode cX11_errors 45 = .ok (.aload_n 0, 1) := by decide +kernel
theorem dX11_errors_46 : decode cX11_errors 46 = .ok (.getfield 10, 3) := by decide +kernel
theorem dX11_errors_49 : decode cX11_errors 49 = .ok (.getfield 302, 3) := by decide +kernel
theorem dX11_errors_52 : decode cX11_errors 52 = .ok (.getfield 209, 3) := by decide +kernel
theorem dX11_errors_55 : decode cX11_errors 55 = .ok (.ishl, 1) := by decide +kernel
theorem dX11_errors_56 : decode cX11_errors 56 = .ok (.if_icmp .ge 64, 3) := by decide +kernel
theorem dX11_errors_59 : decode cX11_errors 59 = .ok (.aload_n 0, 1) := by decide +kernel
theorem dX11_errors_60 : decode cX11_errors 60 = .ok (.iload 8, 2) := by decide +kernel
theorem dX11_errors_62 : decode cX11_errors 62 = .ok (.iconst 0, 1) := by decide +kernel
theorem dX11_errors_63 : decode cX11_errors 63 = .ok (.invokevirtual 305, 3) := by decide +kernel
theorem dX11_errors_66 : decode cX11_errors 66 = .ok (.lstore 9, 2) := by decide +kernel
theorem dX11_errors_68 : decode cX11_errors 68 = .ok (.aload_n 0, 1) := by decide +kernel
theorem dX11_errors_69 : decode cX11_errors 69 = .ok (.iload 8, 2) := by decide +kernel
theorem dX11_errors_71 : decode cX11_errors 71 = .ok (.iconst 1, 1) := by decide +kernel
theorem dX11_errors_72 : decode cX11_errors 72 = .ok (.invokevirtual 305, 3) := by decide +kernel
theorem dX11_errors_75 : decode cX11_errors 75 = .ok (.lstore 11, 2) := by decide +kernel
theorem dX11_errors_77 : decode cX11_errors 77 = .ok (.iload_n 1, 1) := by decide +kernel
theorem dX11_errors_78 : decode cX11_errors 78 = .ok (.i2l, 1) := by decide +kernel
theorem dX11_errors_79 : decode cX11_errors 79 = .ok (.lload 9, 2) := by decide +kernel
theorem dX11_errors_81 : decode cX11_errors 81 = .ok (.lmul, 1) := by decide +kernel
theorem dX11_errors_82 : decode cX11_errors 82 = .ok (.bipush 100, 2) := by decide +kernel
theorem dX11_errors_84 : decode cX11_errors 84 = .ok (.iload_n 1, 1) := by decide +kernel
theorem dX11_errors_85 : decode cX11_errors 85 = .ok (.isub, 1) := by decide +kernel
theorem dX11_errors_86 : decode cX11_errors 86 = .ok (.i2l, 1) := by decide +kernel
theorem dX11_errors_87 : decode cX11_errors 87 = .ok (.lload 11, 2) := by decide +kernel
theorem dX11_errors_89 : decode cX11_errors 89 = .ok (.lmul, 1) := by decide +kernel
theorem dX11_errors_90 : decode cX11_errors 90 = .ok (.iload_n 2, 1) := by decide +kernel
theorem dX11_errors_91 : decode cX11_errors 91 = .ok (.invokestatic 308, 3) := by decide +kernel
theorem dX11_errors_94 : decode cX11_errors 94 = .ok (.ifCond .eq 13, 3) := by decide +kernel
theorem dX11_errors_97 : decode cX11_errors 97 = .ok (.lload 6, 2) := by decide +kernel
theorem dX11_errors_99 : decode cX11_errors 99 = .ok (.lload 11, 2) := by decide +kernel
theorem dX11_errors_101 : decode cX11_errors 101 = .ok (.ladd, 1) := by decide +kernel
theorem dX11_errors_102 : decode cX11_errors 102 = .ok (.lstore 6, 2) := by decide +kernel
theorem dX11_errors_104 : decode cX11_errors 104 = .ok (.goto 10, 3) := by decide +kernel
theorem dX11_errors_107 : decode cX11_errors 107 = .ok (.lload 4, 2) := by decide +kernel
theorem dX11_errors_109 : decode cX11_errors 109 = .ok (.lload 9, 2) := by decide +kernel
theorem dX11_errors_111 : decode cX11_errors 111 = .ok (.ladd, 1) := by decide +kernel
theorem dX11_errors_112 : decode cX11_errors 112 = .ok (.lstore 4, 2) := by decide +kernel
theorem dX11_errors_114 : decode cX11_errors 114 = .ok (.iinc 8 1, 3) := by decide +kernel
theorem dX11_errors_117 : decode cX11_errors 117 = .ok (.goto (-75), 3) := by decide +kernel
theorem dX11_errors_120 : decode cX11_errors 120 = .ok (.iload_n 3, 1) := by decide +kernel
theorem dX11_errors_121 : decode cX11_errors 121 = .ok (.ifCond .ne 8, 3) := by decide +kernel
theorem dX11_errors_124 : decode cX11_errors 124 = .ok (.lload 4, 2) := by decide +kernel
theorem dX11_errors_126 : decode cX11_errors 126 = .ok (.goto 5, 3) := by decide +kernel
theorem dX11_errors_129 : decode cX11_errors 129 = .ok (.lload 6, 2) := by decide +kernel
theorem dX11_errors_131 : decode cX11_errors 131 = .ok (.lreturn, 1) := by decide +kernel
set_option maxHeartbeats 4000000 in
set_option maxRecDepth 100000 in
theorem x_X11_errors_42 {p : Program} {l : Launch} {e : Env} {s : State} {m : MethodId} {args : Array Value} {below : List Frame} {meth : Method} {c : Code} {D : va_G} {K : Nat → ClassId} {A : Nat → Prop} {ad la : Nat → Nat} {rest : va_W} (C : xC p s m args meth c D K A RX11 cX11_errors 13 (some .long)) (z : Int64 × xS) : ∀ (n : Nat) (y1 : Int32) (y2 : Int32) (y3 : Int32) (y4 : Int64) (y6 : Int64) (y8 : Int32) (σ : xS), F_X11_errors_42  n y1 y2 y3 y4 y6 y8 σ = some z → X p l e (xR 3 69) s m args below meth c D A 13 (xQl below D K A args s z.1 (CW K ad la rest z.2)) 0 0 42 [(0, .ref (ad 0)), (1, .int y1), (2, .int y2), (3, .int y3), (4, .long y4), (6, .long y6), (8, .int y8)] [] (CW K ad la rest σ) := by
  intro n
  induction n with
  | zero =>
    intro y1 y2 y3 y4 y6 y8 σ hF
    cases hF
  | succ n ih =>
    intro y1 y2 y3 y4 y6 y8 σ hF
    rw [F_X11_errors_42] at hF
    refine x_iload C 6 8 dX11_errors_42 rfl ?_
    refine x_iconst C 1 dX11_errors_44 (by decide +kernel) ?_
    refine x_aload_n C 0 0 dX11_errors_45 rfl rfl ?_
    refine x_get C 0 dX11_errors_46 fl_X11_10 (CW_0 K ad la rest σ) rfl ?_
    refine x_get C 5 dX11_errors_49 fl_X11_302 (CW_5 K ad la rest σ) rfl ?_
    refine x_get C 16 dX11_errors_52 fl_X11_209 (CW_16 K ad la rest σ) rfl ?_
    refine x_ishl C dX11_errors_55 ?_
    refine x_icmp_ge C 120 dX11_errors_56 (by decide) hF (fun hF => ?_) (fun hF => ?_)
    · refine x_iload_n C 3 3 dX11_errors_120 rfl rfl ?_
      refine x_if_ne C 129 dX11_errors_121 (by decide) hF (fun hF => ?_) (fun hF => ?_)
      · refine x_lload C 5 6 dX11_errors_129 rfl ?_
        exact x_lret C dX11_errors_131 rfl (congrArg Prod.fst (Option.some.inj hF)) (congrArg (fun q9 : Int64 × xS => CW K ad la rest q9.2) (Option.some.inj hF))
      · refine x_lload C 4 4 dX11_errors_124 rfl ?_
        refine x_goto C 131 dX11_errors_126 (by decide) ?_
        exact x_lret C dX11_errors_131 rfl (congrArg Prod.fst (Option.some.inj hF)) (congrArg (fun q9 : Int64 × xS => CW K ad la rest q9.2) (Option.some.inj hF))
    · refine x_aload_n C 0 0 dX11_errors_59 rfl rfl ?_
      refine x_iload C 6 8 dX11_errors_60 rfl ?_
      refine x_iconst C 0 dX11_errors_62 (by decide +kernel) ?_
      refine x_callVL C (wf := CW K ad la rest) (As := [.int y8, .int 0]) (rest := []) dX11_errors_63 ml_X11_305 rfl rfl (Nat.le_of_ble_eq_true rfl) 0 (CW_0 K ad la rest σ) rfl ⟨Nat.le_of_ble_eq_true rfl, Nat.le_of_ble_eq_true rfl⟩ ⟨Nat.zero_le _, Nat.zero_le _⟩ (fun q9 hq9 => c_X11_howOften l D K ad la rest y8 0 σ q9 hq9) hF (fun v11 σ10 hF => ?_)
      refine x_lstore C [(9, .long v11), (0, .ref (ad 0)), (1, .int y1), (2, .int y2), (3, .int y3), (4, .long y4), (6, .long y6), (8, .int y8)] dX11_errors_66 (by decide) rfl ?_
      refine x_aload_n C 1 0 dX11_errors_68 rfl rfl ?_
      refine x_iload C 7 8 dX11_errors_69 rfl ?_
      refine x_iconst C 1 dX11_errors_71 (by decide +kernel) ?_
      refine x_callVL C (wf := CW K ad la rest) (As := [.int y8, .int 1]) (rest := []) dX11_errors_72 ml_X11_305 rfl rfl (Nat.le_of_ble_eq_true rfl) 0 (CW_0 K ad la rest σ10) rfl ⟨Nat.le_of_ble_eq_true rfl, Nat.le_of_ble_eq_true rfl⟩ ⟨Nat.zero_le _, Nat.zero_le _⟩ (fun q9 hq9 => c_X11_howOften l D K ad la rest y8 1 σ10 q9 hq9) hF (fun v13 σ12 hF => ?_)
      refine x_lstore C [(11, .long v13), (9, .long v11), (0, .ref (ad 0)), (1, .int y1), (2, .int y2), (3, .int y3), (4, .long y4), (6, .long y6), (8, .int y8)] dX11_errors_75 (by decide) rfl ?_
      refine x_iload_n C 3 1 dX11_errors_77 rfl rfl ?_
      refine x_i2l C dX11_errors_78 ?_
      refine x_lload C 1 9 dX11_errors_79 rfl ?_
      refine x_lmul C dX11_errors_81 ?_
      refine x_bipush C 100 dX11_errors_82 (by decide +kernel) ?_
      refine x_iload_n C 3 1 dX11_errors_84 rfl rfl ?_
      refine x_isub C dX11_errors_85 ?_
      refine x_i2l C dX11_errors_86 ?_
      refine x_lload C 0 11 dX11_errors_87 rfl ?_
      refine x_lmul C dX11_errors_89 ?_
      refine x_iload_n C 4 2 dX11_errors_90 rfl rfl ?_
      refine x_callSI C (wf := CW K ad la rest) (As := [.long ((y1.toInt64) * v11), .long (((100 - y1).toInt64) * v13), .int y2]) (rest := []) dX11_errors_91 ml_X11_308 rfl rfl (Nat.le_of_ble_eq_true rfl) ⟨Nat.le_of_ble_eq_true rfl, Nat.le_of_ble_eq_true rfl⟩ ⟨Nat.zero_le _, Nat.zero_le _⟩ (fun q9 hq9 => c_X11_isCalled l D K ad la rest ((y1.toInt64) * v11) (((100 - y1).toInt64) * v13) y2 σ12 q9 hq9) hF (fun v15 σ14 hF => ?_)
      refine x_if_eq C 107 dX11_errors_94 (by decide) hF (fun hF => ?_) (fun hF => ?_)
      · refine x_lload C 6 4 dX11_errors_107 rfl ?_
        refine x_lload C 1 9 dX11_errors_109 rfl ?_
        refine x_ladd C dX11_errors_111 ?_
        refine x_topL hF (fun x16 hF => ?_)
        refine x_lstore C [(4, .long x16), (11, .long v13), (9, .long v11), (0, .ref (ad 0)), (1, .int y1), (2, .int y2), (3, .int y3), (6, .long y6), (8, .int y8)] dX11_errors_112 (by decide) rfl ?_
        refine x_iincN C 1 8 (fun x17 => [(8, .int x17), (4, .long x16), (11, .long v13), (9, .long v11), (0, .ref (ad 0)), (1, .int y1), (2, .int y2), (3, .int y3), (6, .long y6)]) dX11_errors_114 rfl (by decide +kernel) (by decide) (fun _ => rfl) hF (fun x17 hF => ?_)
        refine x_goto C 42 dX11_errors_117 (by decide) ?_
        refine x_loc [(0, .ref (ad 0)), (1, .int y1), (2, .int y2), (3, .int y3), (4, .long x16), (6, .long y6), (8, .int x17)] [4, 5, 6, 7, 1, 8, 0] rfl ?_
        exact ih y1 y2 y3 x16 y6 x17 σ14 hF
      · refine x_lload C 7 6 dX11_errors_97 rfl ?_
        refine x_lload C 0 11 dX11_errors_99 rfl ?_
        refine x_ladd C dX11_errors_101 ?_
        refine x_topL hF (fun x18 hF => ?_)
        refine x_lstore C [(6, .long x18), (11, .long v13), (9, .long v11), (0, .ref (ad 0)), (1, .int y1), (2, .int y2), (3, .int y3), (4, .long y4), (8, .int y8)] dX11_errors_102 (by decide) rfl ?_
        refine x_goto C 114 dX11_errors_104 (by decide) ?_
        refine x_iincN C 1 8 (fun x19 => [(8, .int x19), (6, .long x18), (11, .long v13), (9, .long v11), (0, .ref (ad 0)), (1, .int y1), (2, .int y2), (3, .int y3), (4, .long y4)]) dX11_errors_114 rfl (by decide +kernel) (by decide) (fun _ => rfl) hF (fun x19 hF => ?_)
        refine x_goto C 42 dX11_errors_117 (by decide) ?_
        refine x_loc [(0, .ref (ad 0)), (1, .int y1), (2, .int y2), (3, .int y3), (4, .long y4), (6, .long x18), (8, .int x19)] [4, 5, 6, 7, 8, 1, 0] rfl ?_
        exact ih y1 y2 y3 y4 x18 x19 σ14 hF
set_option maxHeartbeats 4000000 in
set_option maxRecDepth 100000 in
theorem c_X11_errors (l : Launch) (D : va_G) (K : Nat → ClassId) (ad la : Nat → Nat) (rest : va_W)  (a1 : Int32) (a2 : Int32) (a3 : Int32) (σ : xS) (z : Int64 × xS) (hF : F_X11_errors a1 a2 a3 σ = some z) : CL l D K yX11_errors cX11_errors 13 (some .long) 3 69 [.ref (ad 0), .int a1, .int a2, .int a3] (CW K ad la rest σ) z.1 (CW K ad la rest z.2) := by
  refine x_enterL [(0, .ref (ad 0)), (1, .int a1), (2, .int a2), (3, .int a3)] pnX11 (Nat.le_of_ble_eq_true rfl) rfl ?_
  intro p e s m args below meth c A C
  unfold F_X11_errors at hF
  refine x_iload_n C 1 1 dX11_errors_0 rfl rfl ?_
  refine x_iconst C 0 dX11_errors_1 (by decide +kernel) ?_
  refine x_bipush C 100 dX11_errors_2 (by decide +kernel) ?_
  refine x_callSI C (wf := CW K ad la rest) (As := [.int a1, .int 0, .int 100]) (rest := []) dX11_errors_4 ml_X11_105 rfl rfl (Nat.le_of_ble_eq_true rfl) ⟨Nat.le_of_ble_eq_true rfl, Nat.le_of_ble_eq_true rfl⟩ ⟨Nat.zero_le _, Nat.zero_le _⟩ (fun q9 hq9 => c_X11_isWithin l D K ad la rest a1 0 100 σ q9 hq9) hF (fun v2 σ1 hF => ?_)
  refine x_if_eq C 29 dX11_errors_7 (by decide) hF (fun hF => ?_) (fun hF => ?_)
  · refine x_ldc2 C (-1000000000000000000) dX11_errors_29 cl_X11_191 ?_
    exact x_lret C dX11_errors_32 rfl (congrArg Prod.fst (Option.some.inj hF)) (congrArg (fun q9 : Int64 × xS => CW K ad la rest q9.2) (Option.some.inj hF))
  · refine x_iload_n C 2 2 dX11_errors_10 rfl rfl ?_
    refine x_iconst C 0 dX11_errors_11 (by decide +kernel) ?_
    refine x_bipush C 100 dX11_errors_12 (by decide +kernel) ?_
    refine x_callSI C (wf := CW K ad la rest) (As := [.int a2, .int 0, .int 100]) (rest := []) dX11_errors_14 ml_X11_105 rfl rfl (Nat.le_of_ble_eq_true rfl) ⟨Nat.le_of_ble_eq_true rfl, Nat.le_of_ble_eq_true rfl⟩ ⟨Nat.zero_le _, Nat.zero_le _⟩ (fun q9 hq9 => c_X11_isWithin l D K ad la rest a2 0 100 σ1 q9 hq9) hF (fun v4 σ3 hF => ?_)
    refine x_if_eq C 29 dX11_errors_17 (by decide) hF (fun hF => ?_) (fun hF => ?_)
    · refine x_ldc2 C (-1000000000000000000) dX11_errors_29 cl_X11_191 ?_
      exact x_lret C dX11_errors_32 rfl (congrArg Prod.fst (Option.some.inj hF)) (congrArg (fun q9 : Int64 × xS => CW K ad la rest q9.2) (Option.some.inj hF))
    · refine x_iload_n C 3 3 dX11_errors_20 rfl rfl ?_
      refine x_iconst C 0 dX11_errors_21 (by decide +kernel) ?_
      refine x_iconst C 1 dX11_errors_22 (by decide +kernel) ?_
      refine x_callSI C (wf := CW K ad la rest) (As := [.int a3, .int 0, .int 1]) (rest := []) dX11_errors_23 ml_X11_105 rfl rfl (Nat.le_of_ble_eq_true rfl) ⟨Nat.le_of_ble_eq_true rfl, Nat.le_of_ble_eq_true rfl⟩ ⟨Nat.zero_le _, Nat.zero_le _⟩ (fun q9 hq9 => c_X11_isWithin l D K ad la rest a3 0 1 σ3 q9 hq9) hF (fun v6 σ5 hF => ?_)
      refine x_if_ne C 33 dX11_errors_26 (by decide) hF (fun hF => ?_) (fun hF => ?_)
      · refine x_lconst C 0 dX11_errors_33 (by decide +kernel) ?_
        refine x_topL hF (fun x7 hF => ?_)
        refine x_lstore C [(4, .long x7), (0, .ref (ad 0)), (1, .int a1), (2, .int a2), (3, .int a3)] dX11_errors_34 (by decide) rfl ?_
        refine x_lconst C 0 dX11_errors_36 (by decide +kernel) ?_
        refine x_topL hF (fun x8 hF => ?_)
        refine x_lstore C [(6, .long x8), (4, .long x7), (0, .ref (ad 0)), (1, .int a1), (2, .int a2), (3, .int a3)] dX11_errors_37 (by decide) rfl ?_
        refine x_iconst C 0 dX11_errors_39 (by decide +kernel) ?_
        refine x_topI hF (fun x9 hF => ?_)
        refine x_istore C [(8, .int x9), (6, .long x8), (4, .long x7), (0, .ref (ad 0)), (1, .int a1), (2, .int a2), (3, .int a3)] dX11_errors_40 (by decide) rfl ?_
        refine x_loc [(0, .ref (ad 0)), (1, .int a1), (2, .int a2), (3, .int a3), (4, .long x7), (6, .long x8), (8, .int x9)] [3, 4, 5, 6, 2, 1, 0] rfl ?_
        exact x_X11_errors_42 C z FU a1 a2 a3 x7 x8 x9 σ5 hF
      · refine x_ldc2 C (-1000000000000000000) dX11_errors_29 cl_X11_191 ?_
        exact x_lret C dX11_errors_32 rfl (congrArg Prod.fst (Option.some.inj hF)) (congrArg (fun q9 : Int64 × xS => CW K ad la rest q9.2) (Option.some.inj hF))
theorem dX11_weeks_0 : decode cX11_weeks 0 = .ok (.iload_n 1, 1) := by decide +kernel
theorem dX11_weeks_1 : decode cX11_weeks 1 = .ok (.iconst 0, 1) := by decide +kernel
theorem dX11_weeks_2 : decode cX11_weeks 2 = .ok (.ldc_w 312, 3) := by decide +kernel
theorem dX11_weeks_5 : decode cX11_weeks 5 = .ok (.invokestatic 105, 3) := by decide +kernel
theorem dX11_weeks_8 : decode cX11_weeks 8 = .ok (.ifCond .eq 13, 3) := by decide +kernel
theorem dX11_weeks_11 : decode cX11_weeks 11 = .ok (.iload_n 2, 1) := by decide +kernel
theorem dX11_weeks_12 : decode cX11_weeks 12 = .ok (.iconst 1, 1) := by decide +kernel
theorem dX11_weeks_13 : decode cX11_weeks 13 = .ok (.bipush 40, 2) := by decide +kernel
theorem dX11_weeks_15 : decode cX11_weeks 15 = .ok (.invokestatic 105, 3) := by decide +kernel
theorem dX11_weeks_18 : decode cX11_weeks 18 = .ok (.ifCond .ne 9, 3) := by decide +kernel
theorem dX11_weeks_21 : decode cX11_weeks 21 = .ok (.aload_n 0, 1) := by decide +kernel
theorem dX11_weeks_22 : decode cX11_weeks 22 = .ok (.iconst (-1), 1) := by decide +kernel
theorem dX11_weeks_23 : decode cX11_weeks 23 = .ok (.invokevirtual 94, 3) := by decide +kernel
theorem dX11_weeks_26 : decode cX11_weeks 26 = .ok (.ireturn, 1) := by decide +kernel
theorem dX11_weeks_27 : decode cX11_weeks 27 = .ok (.aload_n 0, 1) := by decide +kernel
theorem dX11_weeks_28 : decode cX11_weeks 28 = .ok (.aload_n 0, 1) := by decide +kernel
theorem dX11_weeks_29 : decode cX11_weeks 29 = .ok (.getfield 75, 3) := by decide +kernel
theorem dX11_weeks_32 : decode cX11_weeks 32 = .ok (.iload_n 1, 1) := by decide +kernel
theorem dX11_weeks_33 : decode cX11_weeks 33 = .ok (.iload_n 2, 1) := by decide +kernel
theorem dX11_weeks_34 : decode cX11_weeks 34 = .ok (.invokevirtual 313, 3) := by decide +kernel
theorem dX11_weeks_37 : decode cX11_weeks 37 = .ok (.invokevirtual 102, 3) := by decide +kernel
theorem dX11_weeks_40 : decode cX11_weeks 40 = .ok (.ireturn, 1) := by decide +kernel
set_option maxHeartbeats 4000000 in
set_option maxRecDepth 100000 in
theorem x_X11_weeks_21 {p : Program} {l : Launch} {e : Env} {s : State} {m : MethodId} {args : Array Value} {below : List Frame} {meth : Method} {c : Code} {D : va_G} {K : Nat → ClassId} {A : Nat → Prop} {ad la : Nat → Nat} {rest : va_W} (C : xC p s m args meth c D K A RX11 cX11_weeks 3 (some .int)) (z : Int32 × xS) : ∀  (σ : xS), F_X11_weeks_21  σ = some z → X p l e (xR 7 174) s m args below meth c D A 3 (xQi below D K A args s z.1 (CW K ad la rest z.2)) 0 0 21 [(0, .ref (ad 0))] [] (CW K ad la rest σ) := by
  intro σ hF
  unfold F_X11_weeks_21 at hF
  refine x_aload_n C 0 0 dX11_weeks_21 rfl rfl ?_
  refine x_iconst C (-1) dX11_weeks_22 (by decide +kernel) ?_
  refine x_callVI C (wf := CW K ad la rest) (As := [.int ((-1))]) (rest := []) dX11_weeks_23 ml_X11_94 rfl rfl (Nat.le_of_ble_eq_true rfl) 0 (CW_0 K ad la rest σ) rfl ⟨Nat.le_of_ble_eq_true rfl, Nat.le_of_ble_eq_true rfl⟩ ⟨Nat.zero_le _, Nat.zero_le _⟩ (fun q9 hq9 => c_X11_refused l D K ad la rest ((-1)) σ q9 hq9) hF (fun v10 σ9 hF => ?_)
  exact x_iret C dX11_weeks_26 rfl (congrArg Prod.fst (Option.some.inj hF)) (congrArg (fun q9 : Int32 × xS => CW K ad la rest q9.2) (Option.some.inj hF))
set_option maxHeartbeats 4000000 in
set_option maxRecDepth 100000 in
theorem c_X11_weeks (l : Launch) (D : va_G) (K : Nat → ClassId) (ad la : Nat → Nat) (rest : va_W)  (a1 : Int32) (a2 : Int32) (σ : xS) (z : Int32 × xS) (hF : F_X11_weeks a1 a2 σ = some z) : CI l D K yX11_weeks cX11_weeks 3 (some .int) 7 174 [.ref (ad 0), .int a1, .int a2] (CW K ad la rest σ) z.1 (CW K ad la rest z.2) := by
  refine x_enterI [(0, .ref (ad 0)), (1, .int a1), (2, .int a2)] pnX11 (Nat.le_of_ble_eq_true rfl) rfl ?_
  intro p e s m args below meth c A C
  unfold F_X11_weeks at hF
  refine x_iload_n C 1 1 dX11_weeks_0 rfl rfl ?_
  refine x_iconst C 0 dX11_weeks_1 (by decide +kernel) ?_
  refine x_ldcw C 1000000 dX11_weeks_2 cl_X11_312 ?_
  refine x_callSI C (wf := CW K ad la rest) (As := [.int a1, .int 0, .int 1000000]) (rest := []) dX11_weeks_5 ml_X11_105 rfl rfl (Nat.le_of_ble_eq_true rfl) ⟨Nat.le_of_ble_eq_true rfl, Nat.le_of_ble_eq_true rfl⟩ ⟨Nat.zero_le _, Nat.zero_le _⟩ (fun q9 hq9 => c_X11_isWithin l D K ad la rest a1 0 1000000 σ q9 hq9) hF (fun v2 σ1 hF => ?_)
  refine x_if_eq C 21 dX11_weeks_8 (by decide) hF (fun hF => ?_) (fun hF => ?_)
  · refine x_loc [(0, .ref (ad 0))] [0] rfl ?_
    exact x_X11_weeks_21 C z σ1 hF
  · refine x_iload_n C 2 2 dX11_weeks_11 rfl rfl ?_
    refine x_iconst C 1 dX11_weeks_12 (by decide +kernel) ?_
    refine x_bipush C 40 dX11_weeks_13 (by decide +kernel) ?_
    refine x_callSI C (wf := CW K ad la rest) (As := [.int a2, .int 1, .int 40]) (rest := []) dX11_weeks_15 ml_X11_105 rfl rfl (Nat.le_of_ble_eq_true rfl) ⟨Nat.le_of_ble_eq_true rfl, Nat.le_of_ble_eq_true rfl⟩ ⟨Nat.zero_le _, Nat.zero_le _⟩ (fun q9 hq9 => c_X11_isWithin l D K ad la rest a2 1 40 σ1 q9 hq9) hF (fun v4 σ3 hF => ?_)
    refine x_if_ne C 27 dX11_weeks_18 (by decide) hF (fun hF => ?_) (fun hF => ?_)
    · refine x_aload_n C 0 0 dX11_weeks_27 rfl rfl ?_
      refine x_aload_n C 0 0 dX11_weeks_28 rfl rfl ?_
      refine x_get C 0 dX11_weeks_29 fl_X11_75 (CW_0 K ad la rest σ3) rfl ?_
      refine x_iload_n C 1 1 dX11_weeks_32 rfl rfl ?_
      refine x_iload_n C 2 2 dX11_weeks_33 rfl rfl ?_
      refine x_callVI C (wf := CW K ad la rest) (As := [.int a1, .int a2]) (rest := [.ref (ad 0)]) dX11_weeks_34 ml_X11_313 rfl rfl (Nat.le_of_ble_eq_true rfl) 99 (CW_99 K ad la rest σ3) rfl ⟨Nat.le_of_ble_eq_true rfl, Nat.le_of_ble_eq_true rfl⟩ ⟨Nat.zero_le _, Nat.zero_le _⟩ (fun q9 hq9 => c_X2_live l D K ad la rest a1 a2 σ3 q9 hq9) hF (fun v6 σ5 hF => ?_)
      refine x_callVI C (wf := CW K ad la rest) (As := [.int v6]) (rest := []) dX11_weeks_37 ml_X11_102 rfl rfl (Nat.le_of_ble_eq_true rfl) 0 (CW_0 K ad la rest σ5) rfl ⟨Nat.le_of_ble_eq_true rfl, Nat.le_of_ble_eq_true rfl⟩ ⟨Nat.zero_le _, Nat.zero_le _⟩ (fun q9 hq9 => c_X11_accepted l D K ad la rest v6 σ5 q9 hq9) hF (fun v8 σ7 hF => ?_)
      exact x_iret C dX11_weeks_40 rfl (congrArg Prod.fst (Option.some.inj hF)) (congrArg (fun q9 : Int32 × xS => CW K ad la rest q9.2) (Option.some.inj hF))
    · refine x_loc [(0, .ref (ad 0))] [0] rfl ?_
      exact x_X11_weeks_21 C z σ3 hF
theorem dX11_gone_0 : decode cX11_gone 0 = .ok (.iload_n 1, 1) := by decide +kernel
theorem dX11_gone_1 : decode cX11_gone 1 = .ok (.iconst 0, 1) := by decide +kernel
theorem dX11_gone_2 : decode cX11_gone 2 = .ok (.bipush 9, 2) := by decide +kernel
theorem dX11_gone_4 : decode cX11_gone 4 = .ok (.invokestatic 105, 3) := by decide +kernel
theorem dX11_gone_7 : decode cX11_gone 7 = .ok (.ifCond .eq 12, 3) := by decide +kernel
theorem dX11_gone_10 : decode cX11_gone 10 = .ok (.iload_n 2, 1) := by decide +kernel
theorem dX11_gone_11 : decode cX11_gone 11 = .ok (.iconst 0, 1) := by decide +kernel
theorem dX11_gone_12 : decode cX11_gone 12 = .ok (.iconst 1, 1) := by decide +kernel
theorem dX11_gone_13 : decode cX11_gone 13 = .ok (.invokestatic 105, 3) := by decide +kernel
theorem dX11_gone_16 : decode cX11_gone 16 = .ok (.ifCond .ne 5, 3) := by decide +kernel
theorem dX11_gone_19 : decode cX11_gone 19 = .ok (.iconst (-1), 1) := by decide +kernel
theorem dX11_gone_20 : decode cX11_gone 20 = .ok (.ireturn, 1) := by decide +kernel
theorem dX11_gone_21 : decode cX11_gone 21 = .ok (.iload_n 2, 1) := by decide +kernel
theorem dX11_gone_22 : decode cX11_gone 22 = .ok (.ifCond .ne 15, 3) := by decide +kernel
theorem dX11_gone_25 : decode cX11_gone 25 = .ok (.aload_n 0, 1) := by decide +kernel
theorem dX11_gone_26 : decode cX11_gone 26 = .ok (.getfield 75, 3) := by decide +kernel
theorem dX11_gone_29 : decode cX11_gone 29 = .ok (.getfield 316, 3) := by decide +kernel
theorem dX11_gone_32 : decode cX11_gone 32 = .ok (.iload_n 1, 1) := by decide +kernel
theorem dX11_gone_33 : decode cX11_gone 33 = .ok (.iaload, 1) := by decide +kernel
theorem dX11_gone_34 : decode cX11_gone 34 = .ok (.goto 12, 3) := by decide +kernel
theorem dX11_gone_37 : decode cX11_gone 37 = .ok (.aload_n 0, 1) := by decide +kernel
theorem dX11_gone_38 : decode cX11_gone 38 = .ok (.getfield 75, 3) := by decide +kernel
theorem dX11_gone_41 : decode cX11_gone 41 = .ok (.getfield 319, 3) := by decide +kernel
theorem dX11_gone_44 : decode cX11_gone 44 = .ok (.iload_n 1, 1) := by decide +kernel
theorem dX11_gone_45 : decode cX11_gone 45 = .ok (.iaload, 1) := by decide +kernel
theorem dX11_gone_46 : decode cX11_gone 46 = .ok (.ireturn, 1) := by decide +kernel
set_option maxHeartbeats 4000000 in
set_option maxRecDepth 100000 in
theorem c_X11_gone (l : Launch) (D : va_G) (K : Nat → ClassId) (ad la : Nat → Nat) (rest : va_W)  (a1 : Int32) (a2 : Int32) (σ : xS) (z : Int32 × xS) (hF : F_X11_gone a1 a2 σ = some z) : CI l D K yX11_gone cX11_gone 3 (some .int) 1 22 [.ref (ad 0), .int a1, .int a2] (CW K ad la rest σ) z.1 (CW K ad la rest z.2) := by
  refine x_enterI [(0, .ref (ad 0)), (1, .int a1), (2, .int a2)] pnX11 (Nat.le_of_ble_eq_true rfl) rfl ?_
  intro p e s m args below meth c A C
  unfold F_X11_gone at hF
  refine x_iload_n C 1 1 dX11_gone_0 rfl rfl ?_
  refine x_iconst C 0 dX11_gone_1 (by decide +kernel) ?_
  refine x_bipush C 9 dX11_gone_2 (by decide +kernel) ?_
  refine x_callSI C (wf := CW K ad la rest) (As := [.int a1, .int 0, .int 9]) (rest := []) dX11_gone_4 ml_X11_105 rfl rfl (Nat.le_of_ble_eq_true rfl) ⟨Nat.le_of_ble_eq_true rfl, Nat.le_of_ble_eq_true rfl⟩ ⟨Nat.zero_le _, Nat.zero_le _⟩ (fun q9 hq9 => c_X11_isWithin l D K ad la rest a1 0 9 σ q9 hq9) hF (fun v2 σ1 hF => ?_)
  refine x_if_eq C 19 dX11_gone_7 (by decide) hF (fun hF => ?_) (fun hF => ?_)
  · refine x_iconst C (-1) dX11_gone_19 (by decide +kernel) ?_
    exact x_iret C dX11_gone_20 rfl (congrArg Prod.fst (Option.some.inj hF)) (congrArg (fun q9 : Int32 × xS => CW K ad la rest q9.2) (Option.some.inj hF))
  · refine x_iload_n C 2 2 dX11_gone_10 rfl rfl ?_
    refine x_iconst C 0 dX11_gone_11 (by decide +kernel) ?_
    refine x_iconst C 1 dX11_gone_12 (by decide +kernel) ?_
    refine x_callSI C (wf := CW K ad la rest) (As := [.int a2, .int 0, .int 1]) (rest := []) dX11_gone_13 ml_X11_105 rfl rfl (Nat.le_of_ble_eq_true rfl) ⟨Nat.le_of_ble_eq_true rfl, Nat.le_of_ble_eq_true rfl⟩ ⟨Nat.zero_le _, Nat.zero_le _⟩ (fun q9 hq9 => c_X11_isWithin l D K ad la rest a2 0 1 σ1 q9 hq9) hF (fun v4 σ3 hF => ?_)
    refine x_if_ne C 21 dX11_gone_16 (by decide) hF (fun hF => ?_) (fun hF => ?_)
    · refine x_iload_n C 2 2 dX11_gone_21 rfl rfl ?_
      refine x_if_ne C 37 dX11_gone_22 (by decide) hF (fun hF => ?_) (fun hF => ?_)
      · refine x_aload_n C 0 0 dX11_gone_37 rfl rfl ?_
        refine x_get C 0 dX11_gone_38 fl_X11_75 (CW_0 K ad la rest σ3) rfl ?_
        refine x_get C 99 dX11_gone_41 fl_X11_319 (CW_99 K ad la rest σ3) rfl ?_
        refine x_iload_n C 1 1 dX11_gone_44 rfl rfl ?_
        refine x_iald C 101 dX11_gone_45 (CW_101 K ad la rest σ3) hF (fun v5 hF => ?_)
        exact x_iret C dX11_gone_46 rfl (congrArg Prod.fst (Option.some.inj hF)) (congrArg (fun q9 : Int32 × xS => CW K ad la rest q9.2) (Option.some.inj hF))
      · refine x_aload_n C 0 0 dX11_gone_25 rfl rfl ?_
        refine x_get C 0 dX11_gone_26 fl_X11_75 (CW_0 K ad la rest σ3) rfl ?_
        refine x_get C 99 dX11_gone_29 fl_X11_316 (CW_99 K ad la rest σ3) rfl ?_
        refine x_iload_n C 1 1 dX11_gone_32 rfl rfl ?_
        refine x_iald C 100 dX11_gone_33 (CW_100 K ad la rest σ3) hF (fun v6 hF => ?_)
        refine x_goto C 46 dX11_gone_34 (by decide) ?_
        exact x_iret C dX11_gone_46 rfl (congrArg Prod.fst (Option.some.inj hF)) (congrArg (fun q9 : Int32 × xS => CW K ad la rest q9.2) (Option.some.inj hF))
    · refine x_iconst C (-1) dX11_gone_19 (by decide +kernel) ?_
      exact x_iret C dX11_gone_20 rfl (congrArg Prod.fst (Option.some.inj hF)) (congrArg (fun q9 : Int32 × xS => CW K ad la rest q9.2) (Option.some.inj hF))
theorem dX11_image_0 : decode cX11_image 0 = .ok (.iload_n 1, 1) := by decide +kernel
theorem dX11_image_1 : decode cX11_image 1 = .ok (.iconst 0, 1) := by decide +kernel
theorem dX11_image_2 : decode cX11_image 2 = .ok (.iconst 1, 1) := by decide +kernel
theorem dX11_image_3 : decode cX11_image 3 = .ok (.invokestatic 105, 3) := by decide +kernel
theorem dX11_image_6 : decode cX11_image 6 = .ok (.ifCond .ne 9, 3) := by decide +kernel
theorem dX11_image_9 : decode cX11_image 9 = .ok (.aload_n 0, 1) := by decide +kernel
theorem dX11_image_10 : decode cX11_image 10 = .ok (.iconst (-1), 1) := by decide +kernel
theorem dX11_image_11 : decode cX11_image 11 = .ok (.invokevirtual 94, 3) := by decide +kernel
theorem dX11_image_14 : decode cX11_image 14 = .ok (.ireturn, 1) := by decide +kernel
theorem dX11_image_15 : decode cX11_image 15 = .ok (.aload_n 0, 1) := by decide +kernel
theorem dX11_image_16 : decode cX11_image 16 = .ok (.getfield 16, 3) := by decide +kernel
theorem dX11_image_19 : decode cX11_image 19 = .ok (.iload_n 1, 1) := by decide +kernel
theorem dX11_image_20 : decode cX11_image 20 = .ok (.aaload, 1) := by decide +kernel
theorem dX11_image_21 : decode cX11_image 21 = .ok (.aload_n 0, 1) := by decide +kernel
theorem dX11_image_22 : decode cX11_image 22 = .ok (.getfield 10, 3) := by decide +kernel
theorem dX11_image_25 : decode cX11_image 25 = .ok (.invokevirtual 322, 3) := by decide +kernel
theorem dX11_image_28 : decode cX11_image 28 = .ok (.aload_n 0, 1) := by decide +kernel
theorem dX11_image_29 : decode cX11_image 29 = .ok (.getfield 20, 3) := by decide +kernel
theorem dX11_image_32 : decode cX11_image 32 = .ok (.iload_n 1, 1) := by decide +kernel
theorem dX11_image_33 : decode cX11_image 33 = .ok (.iconst 1, 1) := by decide +kernel
theorem dX11_image_34 : decode cX11_image 34 = .ok (.bastore, 1) := by decide +kernel
theorem dX11_image_35 : decode cX11_image 35 = .ok (.aload_n 0, 1) := by decide +kernel
theorem dX11_image_36 : decode cX11_image 36 = .ok (.iconst 0, 1) := by decide +kernel
theorem dX11_image_37 : decode cX11_image 37 = .ok (.invokevirtual 102, 3) := by decide +kernel
theorem dX11_image_40 : decode cX11_image 40 = .ok (.ireturn, 1) := by decide +kernel
set_option maxHeartbeats 4000000 in
set_option maxRecDepth 100000 in
theorem c_X11_image (l : Launch) (D : va_G) (K : Nat → ClassId) (ad la : Nat → Nat) (rest : va_W)  (a1 : Int32) (σ : xS) (z : Int32 × xS) (hF : F_X11_image a1 σ = some z) : CI l D K yX11_image cX11_image 2 (some .int) 3 73 [.ref (ad 0), .int a1] (CW K ad la rest σ) z.1 (CW K ad la rest z.2) := by
  refine x_enterI [(0, .ref (ad 0)), (1, .int a1)] pnX11 (Nat.le_of_ble_eq_true rfl) rfl ?_
  intro p e s m args below meth c A C
  unfold F_X11_image at hF
  refine x_iload_n C 1 1 dX11_image_0 rfl rfl ?_
  refine x_iconst C 0 dX11_image_1 (by decide +kernel) ?_
  refine x_iconst C 1 dX11_image_2 (by decide +kernel) ?_
  refine x_callSI C (wf := CW K ad la rest) (As := [.int a1, .int 0, .int 1]) (rest := []) dX11_image_3 ml_X11_105 rfl rfl (Nat.le_of_ble_eq_true rfl) ⟨Nat.le_of_ble_eq_true rfl, Nat.le_of_ble_eq_true rfl⟩ ⟨Nat.zero_le _, Nat.zero_le _⟩ (fun q9 hq9 => c_X11_isWithin l D K ad la rest a1 0 1 σ q9 hq9) hF (fun v2 σ1 hF => ?_)
  refine x_if_ne C 15 dX11_image_6 (by decide) hF (fun hF => ?_) (fun hF => ?_)
  · refine x_aload_n C 0 0 dX11_image_15 rfl rfl ?_
    refine x_get C 0 dX11_image_16 fl_X11_16 (CW_0 K ad la rest σ1) rfl ?_
    refine x_iload_n C 1 1 dX11_image_19 rfl rfl ?_
    refine x_aald C (t0 := 6) 1 dX11_image_20 (CW_1 K ad la rest σ1) rfl rfl hF (fun hF hj3 => ?_)
    refine x_if_cast (st2 := [.ref (ad (5 + (1 + a1.toNatClampNeg)))]) rfl ?_
    refine x_aload_n C 0 0 dX11_image_21 rfl rfl ?_
    refine x_get C 0 dX11_image_22 fl_X11_10 (CW_0 K ad la rest σ1) rfl ?_
    refine x_callVV C (wf := CW K ad la rest) (As := [.ref (ad 5)]) (rest := []) dX11_image_25 ml_X11_322 rfl rfl (Nat.le_of_ble_eq_true rfl) (5 + (1 + a1.toNatClampNeg)) (CW_t K ad la rest σ1 (1 + a1.toNatClampNeg) (by omega)) rfl ⟨Nat.le_of_ble_eq_true rfl, Nat.le_of_ble_eq_true rfl⟩ ⟨Nat.zero_le _, Nat.zero_le _⟩ (fun q9 hq9 => c_X7_becomeAs l D K ad la rest (1 + a1.toNatClampNeg) (by omega) 0 (by decide) σ1 q9 hq9) hF (fun _ σ4 hF => ?_)
    refine x_aload_n C 0 0 dX11_image_28 rfl rfl ?_
    refine x_get C 0 dX11_image_29 fl_X11_20 (CW_0 K ad la rest σ4) rfl ?_
    refine x_iload_n C 1 1 dX11_image_32 rfl rfl ?_
    refine x_iconst C 1 dX11_image_33 (by decide +kernel) ?_
    refine x_zast C 2 dX11_image_34 (CW_2 K ad la rest σ4) hF (CW_s2 K ad la rest σ4 _) (fun hF => ?_)
    refine x_st (wf := CW K ad la rest) hF (fun σ5 hF => ?_)
    refine x_aload_n C 0 0 dX11_image_35 rfl rfl ?_
    refine x_iconst C 0 dX11_image_36 (by decide +kernel) ?_
    refine x_callVI C (wf := CW K ad la rest) (As := [.int 0]) (rest := []) dX11_image_37 ml_X11_102 rfl rfl (Nat.le_of_ble_eq_true rfl) 0 (CW_0 K ad la rest σ5) rfl ⟨Nat.le_of_ble_eq_true rfl, Nat.le_of_ble_eq_true rfl⟩ ⟨Nat.zero_le _, Nat.zero_le _⟩ (fun q9 hq9 => c_X11_accepted l D K ad la rest 0 σ5 q9 hq9) hF (fun v7 σ6 hF => ?_)
    exact x_iret C dX11_image_40 rfl (congrArg Prod.fst (Option.some.inj hF)) (congrArg (fun q9 : Int32 × xS => CW K ad la rest q9.2) (Option.some.inj hF))
  · refine x_aload_n C 0 0 dX11_image_9 rfl rfl ?_
    refine x_iconst C (-1) dX11_image_10 (by decide +kernel) ?_
    refine x_callVI C (wf := CW K ad la rest) (As := [.int ((-1))]) (rest := []) dX11_image_11 ml_X11_94 rfl rfl (Nat.le_of_ble_eq_true rfl) 0 (CW_0 K ad la rest σ1) rfl ⟨Nat.le_of_ble_eq_true rfl, Nat.le_of_ble_eq_true rfl⟩ ⟨Nat.zero_le _, Nat.zero_le _⟩ (fun q9 hq9 => c_X11_refused l D K ad la rest ((-1)) σ1 q9 hq9) hF (fun v9 σ8 hF => ?_)
    exact x_iret C dX11_image_14 rfl (congrArg Prod.fst (Option.some.inj hF)) (congrArg (fun q9 : Int32 × xS => CW K ad la rest q9.2) (Option.some.inj hF))
theorem dX11_back_0 : decode cX11_back 0 = .ok (.iload_n 1, 1) := by decide +kernel
theorem dX11_back_1 : decode cX11_back 1 = .ok (.iconst 0, 1) := by decide +kernel
theorem dX11_back_2 : decode cX11_back 2 = .ok (.iconst 1, 1) := by decide +kernel
theorem dX11_back_3 : decode cX11_back 3 = .ok (.invokestatic 105, 3) := by decide +kernel
theorem dX11_back_6 : decode cX11_back 6 = .ok (.ifCond .ne 9, 3) := by decide +kernel
theorem dX11_back_9 : decode cX11_back 9 = .ok (.aload_n 0, 1) := by decide +kernel
theorem dX11_back_10 : decode cX11_back 10 = .ok (.iconst (-1), 1) := by decide +kernel
theorem dX11_back_11 : decode cX11_back 11 = .ok (.invokevirtual 94, 3) := by decide +kernel
theorem dX11_back_14 : decode cX11_back 14 = .ok (.ireturn, 1) := by decide +kernel
theorem dX11_back_15 : decode cX11_back 15 = .ok (.aload_n 0, 1) := by decide +kernel
theorem dX11_back_16 : decode cX11_back 16 = .ok (.getfield 20, 3) := by decide +kernel
theorem dX11_back_19 : decode cX11_back 19 = .ok (.iload_n 1, 1) := by decide +kernel
theorem dX11_back_20 : decode cX11_back 20 = .ok (.baload, 1) := by decide +kernel
theorem dX11_back_21 : decode cX11_back 21 = .ok (.ifCond .ne 10, 3) := by decide +kernel
theorem dX11_back_24 : decode cX11_back 24 = .ok (.aload_n 0, 1) := by decide +kernel
theorem dX11_back_25 : decode cX11_back 25 = .ok (.bipush (-2), 2) := by decide +kernel
theorem dX11_back_27 : decode cX11_back 27 = .ok (.invokevirtual 94, 3) := by decide +kernel
theorem dX11_back_30 : decode cX11_back 30 = .ok (.ireturn, 1) := by decide +kernel
theorem dX11_back_31 : decode cX11_back 31 = .ok (.aload_n 0, 1) := by decide +kernel
theorem dX11_back_32 : decode cX11_back 32 = .ok (.getfield 10, 3) := by decide +kernel
theorem dX11_back_35 : decode cX11_back 35 = .ok (.aload_n 0, 1) := by decide +kernel
theorem dX11_back_36 : decode cX11_back 36 = .ok (.getfield 16, 3) := by decide +kernel
theorem dX11_back_39 : decode cX11_back 39 = .ok (.iload_n 1, 1) := by decide +kernel
theorem dX11_back_40 : decode cX11_back 40 = .ok (.aaload, 1) := by decide +kernel
theorem dX11_back_41 : decode cX11_back 41 = .ok (.invokevirtual 322, 3) := by decide +kernel
theorem dX11_back_44 : decode cX11_back 44 = .ok (.aload_n 0, 1) := by decide +kernel
theorem dX11_back_45 : decode cX11_back 45 = .ok (.iconst 0, 1) := by decide +kernel
theorem dX11_back_46 : decode cX11_back 46 = .ok (.invokevirtual 102, 3) := by decide +kernel
theorem dX11_back_49 : decode cX11_back 49 = .ok (.ireturn, 1) := by decide +kernel
set_option maxHeartbeats 4000000 in
set_option maxRecDepth 100000 in
theorem c_X11_back (l : Launch) (D : va_G) (K : Nat → ClassId) (ad la : Nat → Nat) (rest : va_W)  (a1 : Int32) (σ : xS) (z : Int32 × xS) (hF : F_X11_back a1 σ = some z) : CI l D K yX11_back cX11_back 2 (some .int) 3 73 [.ref (ad 0), .int a1] (CW K ad la rest σ) z.1 (CW K ad la rest z.2) := by
  refine x_enterI [(0, .ref (ad 0)), (1, .int a1)] pnX11 (Nat.le_of_ble_eq_true rfl) rfl ?_
  intro p e s m args below meth c A C
  unfold F_X11_back at hF
  refine x_iload_n C 1 1 dX11_back_0 rfl rfl ?_
  refine x_iconst C 0 dX11_back_1 (by decide +kernel) ?_
  refine x_iconst C 1 dX11_back_2 (by decide +kernel) ?_
  refine x_callSI C (wf := CW K ad la rest) (As := [.int a1, .int 0, .int 1]) (rest := []) dX11_back_3 ml_X11_105 rfl rfl (Nat.le_of_ble_eq_true rfl) ⟨Nat.le_of_ble_eq_true rfl, Nat.le_of_ble_eq_true rfl⟩ ⟨Nat.zero_le _, Nat.zero_le _⟩ (fun q9 hq9 => c_X11_isWithin l D K ad la rest a1 0 1 σ q9 hq9) hF (fun v2 σ1 hF => ?_)
  refine x_if_ne C 15 dX11_back_6 (by decide) hF (fun hF => ?_) (fun hF => ?_)
  · refine x_aload_n C 0 0 dX11_back_15 rfl rfl ?_
    refine x_get C 0 dX11_back_16 fl_X11_20 (CW_0 K ad la rest σ1) rfl ?_
    refine x_iload_n C 1 1 dX11_back_19 rfl rfl ?_
    refine x_zald C 2 dX11_back_20 (CW_2 K ad la rest σ1) hF (fun v3 hF => ?_)
    refine x_if_ne C 31 dX11_back_21 (by decide) hF (fun hF => ?_) (fun hF => ?_)
    · refine x_aload_n C 0 0 dX11_back_31 rfl rfl ?_
      refine x_get C 0 dX11_back_32 fl_X11_10 (CW_0 K ad la rest σ1) rfl ?_
      refine x_aload_n C 0 0 dX11_back_35 rfl rfl ?_
      refine x_get C 0 dX11_back_36 fl_X11_16 (CW_0 K ad la rest σ1) rfl ?_
      refine x_iload_n C 1 1 dX11_back_39 rfl rfl ?_
      refine x_aald C (t0 := 6) 1 dX11_back_40 (CW_1 K ad la rest σ1) rfl rfl hF (fun hF hj4 => ?_)
      refine x_if_cast (st2 := [.ref (ad (5 + (1 + a1.toNatClampNeg))), .ref (ad 5)]) rfl ?_
      refine x_callVV C (wf := CW K ad la rest) (As := [.ref (ad (5 + (1 + a1.toNatClampNeg)))]) (rest := []) dX11_back_41 ml_X11_322 rfl rfl (Nat.le_of_ble_eq_true rfl) 5 (CW_5 K ad la rest σ1) rfl ⟨Nat.le_of_ble_eq_true rfl, Nat.le_of_ble_eq_true rfl⟩ ⟨Nat.zero_le _, Nat.zero_le _⟩ (fun q9 hq9 => c_X7_becomeAs l D K ad la rest 0 (by decide) (1 + a1.toNatClampNeg) (by omega) σ1 q9 hq9) hF (fun _ σ5 hF => ?_)
      refine x_aload_n C 0 0 dX11_back_44 rfl rfl ?_
      refine x_iconst C 0 dX11_back_45 (by decide +kernel) ?_
      refine x_callVI C (wf := CW K ad la rest) (As := [.int 0]) (rest := []) dX11_back_46 ml_X11_102 rfl rfl (Nat.le_of_ble_eq_true rfl) 0 (CW_0 K ad la rest σ5) rfl ⟨Nat.le_of_ble_eq_true rfl, Nat.le_of_ble_eq_true rfl⟩ ⟨Nat.zero_le _, Nat.zero_le _⟩ (fun q9 hq9 => c_X11_accepted l D K ad la rest 0 σ5 q9 hq9) hF (fun v7 σ6 hF => ?_)
      exact x_iret C dX11_back_49 rfl (congrArg Prod.fst (Option.some.inj hF)) (congrArg (fun q9 : Int32 × xS => CW K ad la rest q9.2) (Option.some.inj hF))
    · refine x_aload_n C 0 0 dX11_back_24 rfl rfl ?_
      refine x_bipush C (-2) dX11_back_25 (by decide +kernel) ?_
      refine x_callVI C (wf := CW K ad la rest) (As := [.int ((-2))]) (rest := []) dX11_back_27 ml_X11_94 rfl rfl (Nat.le_of_ble_eq_true rfl) 0 (CW_0 K ad la rest σ1) rfl ⟨Nat.le_of_ble_eq_true rfl, Nat.le_of_ble_eq_true rfl⟩ ⟨Nat.zero_le _, Nat.zero_le _⟩ (fun q9 hq9 => c_X11_refused l D K ad la rest ((-2)) σ1 q9 hq9) hF (fun v9 σ8 hF => ?_)
      exact x_iret C dX11_back_30 rfl (congrArg Prod.fst (Option.some.inj hF)) (congrArg (fun q9 : Int32 × xS => CW K ad la rest q9.2) (Option.some.inj hF))
  · refine x_aload_n C 0 0 dX11_back_9 rfl rfl ?_
    refine x_iconst C (-1) dX11_back_10 (by decide +kernel) ?_
    refine x_callVI C (wf := CW K ad la rest) (As := [.int ((-1))]) (rest := []) dX11_back_11 ml_X11_94 rfl rfl (Nat.le_of_ble_eq_true rfl) 0 (CW_0 K ad la rest σ1) rfl ⟨Nat.le_of_ble_eq_true rfl, Nat.le_of_ble_eq_true rfl⟩ ⟨Nat.zero_le _, Nat.zero_le _⟩ (fun q9 hq9 => c_X11_refused l D K ad la rest ((-1)) σ1 q9 hq9) hF (fun v11 σ10 hF => ?_)
    exact x_iret C dX11_back_14 rfl (congrArg Prod.fst (Option.some.inj hF)) (congrArg (fun q9 : Int32 × xS => CW K ad la rest q9.2) (Option.some.inj hF))
theorem dX11_count_0 : decode cX11_count 0 = .ok (.iload_n 1, 1) := by decide +kernel
theorem dX11_count_1 : decode cX11_count 1 = .ok (.tableswitch 168 0 11 #[63, 74, 82, 93, 104, 115, 126, 131, 138, 145, 152, 160], 63) := by decide +kernel
theorem dX11_count_64 : decode cX11_count 64 = .ok (.aload_n 0, 1) := by decide +kernel
theorem dX11_count_65 : decode cX11_count 65 = .ok (.getfield 10, 3) := by decide +kernel
theorem dX11_count_68 : decode cX11_count 68 = .ok (.getfield 112, 3) := by decide +kernel
theorem dX11_count_71 : decode cX11_count 71 = .ok (.getfield 209, 3) := by decide +kernel
theorem dX11_count_74 : decode cX11_count 74 = .ok (.ireturn, 1) := by decide +kernel
theorem dX11_count_75 : decode cX11_count 75 = .ok (.aload_n 0, 1) := by decide +kernel
theorem dX11_count_76 : decode cX11_count 76 = .ok (.getfield 10, 3) := by decide +kernel
theorem dX11_count_79 : decode cX11_count 79 = .ok (.getfield 156, 3) := by decide +kernel
theorem dX11_count_82 : decode cX11_count 82 = .ok (.ireturn, 1) := by decide +kernel
theorem dX11_count_83 : decode cX11_count 83 = .ok (.aload_n 0, 1) := by decide +kernel
theorem dX11_count_84 : decode cX11_count 84 = .ok (.getfield 10, 3) := by decide +kernel
theorem dX11_count_87 : decode cX11_count 87 = .ok (.getfield 203, 3) := by decide +kernel
theorem dX11_count_90 : decode cX11_count 90 = .ok (.getfield 209, 3) := by decide +kernel
theorem dX11_count_93 : decode cX11_count 93 = .ok (.ireturn, 1) := by decide +kernel
theorem dX11_count_94 : decode cX11_count 94 = .ok (.aload_n 0, 1) := by decide +kernel
theorem dX11_count_95 : decode cX11_count 95 = .ok (.getfield 10, 3) := by decide +kernel
theorem dX11_count_98 : decode cX11_count 98 = .ok (.getfield 248, 3) := by decide +kernel
theorem dX11_count_101 : decode cX11_count 101 = .ok (.getfield 209, 3) := by decide +kernel
theorem dX11_count_104 : decode cX11_count 104 = .ok (.ireturn, 1) := by decide +kernel
theorem dX11_count_105 : decode cX11_count 105 = .ok (.aload_n 0, 1) := by decide +kernel
theorem dX11_count_106 : decode cX11_count 106 = .ok (.getfield 10, 3) := by decide +kernel
theorem dX11_count_109 : decode cX11_count 109 = .ok (.getfield 286, 3) := by decide +kernel
theorem dX11_count_112 : decode cX11_count 112 = .ok (.getfield 209, 3) := by decide +kernel
theorem dX11_count_115 : decode cX11_count 115 = .ok (.ireturn, 1) := by decide +kernel
theorem dX11_count_116 : decode cX11_count 116 = .ok (.aload_n 0, 1) := by decide +kernel
theorem dX11_count_117 : decode cX11_count 117 = .ok (.getfield 10, 3) := by decide +kernel
theorem dX11_count_120 : decode cX11_count 120 = .ok (.getfield 302, 3) := by decide +kernel
theorem dX11_count_123 : decode cX11_count 123 = .ok (.getfield 209, 3) := by decide +kernel
theorem dX11_count_126 : decode cX11_count 126 = .ok (.ireturn, 1) := by decide +kernel
theorem dX11_count_127 : decode cX11_count 127 = .ok (.aload_n 0, 1) := by decide +kernel
theorem dX11_count_128 : decode cX11_count 128 = .ok (.getfield 143, 3) := by decide +kernel
theorem dX11_count_131 : decode cX11_count 131 = .ok (.ireturn, 1) := by decide +kernel
theorem dX11_count_132 : decode cX11_count 132 = .ok (.aload_n 0, 1) := by decide +kernel
theorem dX11_count_133 : decode cX11_count 133 = .ok (.getfield 87, 3) := by decide +kernel
theorem dX11_count_136 : decode cX11_count 136 = .ok (.iconst 1, 1) := by decide +kernel
theorem dX11_count_137 : decode cX11_count 137 = .ok (.iaload, 1) := by decide +kernel
theorem dX11_count_138 : decode cX11_count 138 = .ok (.ireturn, 1) := by decide +kernel
theorem dX11_count_139 : decode cX11_count 139 = .ok (.aload_n 0, 1) := by decide +kernel
theorem dX11_count_140 : decode cX11_count 140 = .ok (.getfield 87, 3) := by decide +kernel
theorem dX11_count_143 : decode cX11_count 143 = .ok (.iconst 2, 1) := by decide +kernel
theorem dX11_count_144 : decode cX11_count 144 = .ok (.iaload, 1) := by decide +kernel
theorem dX11_count_145 : decode cX11_count 145 = .ok (.ireturn, 1) := by decide +kernel
theorem dX11_count_146 : decode cX11_count 146 = .ok (.aload_n 0, 1) := by decide +kernel
theorem dX11_count_147 : decode cX11_count 147 = .ok (.getfield 87, 3) := by decide +kernel
theorem dX11_count_150 : decode cX11_count 150 = .ok (.iconst 5, 1) := by decide +kernel
theorem dX11_count_151 : decode cX11_count 151 = .ok (.iaload, 1) := by decide +kernel
theorem dX11_count_152 : decode cX11_count 152 = .ok (.ireturn, 1) := by decide +kernel
theorem dX11_count_153 : decode cX11_count 153 = .ok (.aload_n 0, 1) := by decide +kernel
theorem dX11_count_154 : decode cX11_count 154 = .ok (.getfield 87, 3) := by decide +kernel
theorem dX11_count_157 : decode cX11_count 157 = .ok (.bipush 6, 2) := by decide +kernel
theorem dX11_count_159 : decode cX11_count 159 = .ok (.iaload, 1) := by decide +kernel
theorem dX11_count_160 : decode cX11_count 160 = .ok (.ireturn, 1) := by decide +kernel
theorem dX11_count_161 : decode cX11_count 161 = .ok (.aload_n 0, 1) := by decide +kernel
theorem dX11_count_162 : decode cX11_count 162 = .ok (.getfield 10, 3) := by decide +kernel
theorem dX11_count_165 : decode cX11_count 165 = .ok (.getfield 170, 3) := by decide +kernel
theorem dX11_count_168 : decode cX11_count 168 = .ok (.ireturn, 1) := by decide +kernel
theorem dX11_count_169 : decode cX11_count 169 = .ok (.iload_n 1, 1) := by decide +kernel
theorem dX11_count_170 : decode cX11_count 170 = .ok (.bipush 12, 2) := by decide +kernel
theorem dX11_count_172 : decode cX11_count 172 = .ok (.bipush 17, 2) := by decide +kernel
theorem dX11_count_174 : decode cX11_count 174 = .ok (.invokestatic 105, 3) := by decide +kernel
theorem dX11_count_177 : decode cX11_count 177 = .ok (.ifCond .eq 18, 3) := by decide +kernel
theorem dX11_count_180 : decode cX11_count 180 = .ok (.aload_n 0, 1) := by decide +kernel
theorem dX11_count_181 : decode cX11_count 181 = .ok (.getfield 10, 3) := by decide +kernel
theorem dX11_count_184 : decode cX11_count 184 = .ok (.getfield 140, 3) := by decide +kernel
theorem dX11_count_187 : decode cX11_count 187 = .ok (.iload_n 1, 1) := by decide +kernel
theorem dX11_count_188 : decode cX11_count 188 = .ok (.bipush 12, 2) := by decide +kernel
theorem dX11_count_190 : decode cX11_count 190 = .ok (.isub, 1) := by decide +kernel
theorem dX11_count_191 : decode cX11_count 191 = .ok (.iaload, 1) := by decide +kernel
theorem dX11_count_192 : decode cX11_count 192 = .ok (.goto 4, 3) := by decide +kernel
theorem dX11_count_195 : decode cX11_count 195 = .ok (.iconst (-1), 1) := by decide +kernel
theorem dX11_count_196 : decode cX11_count 196 = .ok (.ireturn, 1) := by decide +kernel
set_option maxHeartbeats 4000000 in
set_option maxRecDepth 100000 in
theorem c_X11_count (l : Launch) (D : va_G) (K : Nat → ClassId) (ad la : Nat → Nat) (rest : va_W)  (a1 : Int32) (σ : xS) (z : Int32 × xS) (hF : F_X11_count a1 σ = some z) : CI l D K yX11_count cX11_count 2 (some .int) 1 22 [.ref (ad 0), .int a1] (CW K ad la rest σ) z.1 (CW K ad la rest z.2) := by
  refine x_enterI [(0, .ref (ad 0)), (1, .int a1)] pnX11 (Nat.le_of_ble_eq_true rfl) rfl ?_
  intro p e s m args below meth c A C
  unfold F_X11_count at hF
  refine x_iload_n C 1 1 dX11_count_0 rfl rfl ?_
  by_cases h1 : a1 = 0
  · rw [if_pos h1] at hF
    refine x_tabG C 64 dX11_count_1 (by rw [h1]; exact Or.inl ⟨_, by decide +kernel, rfl, by decide⟩) ?_
    refine x_aload_n C 0 0 dX11_count_64 rfl rfl ?_
    refine x_get C 0 dX11_count_65 fl_X11_10 (CW_0 K ad la rest σ) rfl ?_
    refine x_get C 5 dX11_count_68 fl_X11_112 (CW_5 K ad la rest σ) rfl ?_
    refine x_get C 8 dX11_count_71 fl_X11_209 (CW_8 K ad la rest σ) rfl ?_
    exact x_iret C dX11_count_74 rfl (congrArg Prod.fst (Option.some.inj hF)) (congrArg (fun q9 : Int32 × xS => CW K ad la rest q9.2) (Option.some.inj hF))
  · rw [if_neg h1] at hF
    by_cases h2 : a1 = 1
    · rw [if_pos h2] at hF
      refine x_tabG C 75 dX11_count_1 (by rw [h2]; exact Or.inl ⟨_, by decide +kernel, rfl, by decide⟩) ?_
      refine x_aload_n C 0 0 dX11_count_75 rfl rfl ?_
      refine x_get C 0 dX11_count_76 fl_X11_10 (CW_0 K ad la rest σ) rfl ?_
      refine x_get C 5 dX11_count_79 fl_X11_156 (CW_5 K ad la rest σ) rfl ?_
      exact x_iret C dX11_count_82 rfl (congrArg Prod.fst (Option.some.inj hF)) (congrArg (fun q9 : Int32 × xS => CW K ad la rest q9.2) (Option.some.inj hF))
    · rw [if_neg h2] at hF
      by_cases h3 : a1 = 2
      · rw [if_pos h3] at hF
        refine x_tabG C 83 dX11_count_1 (by rw [h3]; exact Or.inl ⟨_, by decide +kernel, rfl, by decide⟩) ?_
        refine x_aload_n C 0 0 dX11_count_83 rfl rfl ?_
        refine x_get C 0 dX11_count_84 fl_X11_10 (CW_0 K ad la rest σ) rfl ?_
        refine x_get C 5 dX11_count_87 fl_X11_203 (CW_5 K ad la rest σ) rfl ?_
        refine x_get C 10 dX11_count_90 fl_X11_209 (CW_10 K ad la rest σ) rfl ?_
        exact x_iret C dX11_count_93 rfl (congrArg Prod.fst (Option.some.inj hF)) (congrArg (fun q9 : Int32 × xS => CW K ad la rest q9.2) (Option.some.inj hF))
      · rw [if_neg h3] at hF
        by_cases h4 : a1 = 3
        · rw [if_pos h4] at hF
          refine x_tabG C 94 dX11_count_1 (by rw [h4]; exact Or.inl ⟨_, by decide +kernel, rfl, by decide⟩) ?_
          refine x_aload_n C 0 0 dX11_count_94 rfl rfl ?_
          refine x_get C 0 dX11_count_95 fl_X11_10 (CW_0 K ad la rest σ) rfl ?_
          refine x_get C 5 dX11_count_98 fl_X11_248 (CW_5 K ad la rest σ) rfl ?_
          refine x_get C 12 dX11_count_101 fl_X11_209 (CW_12 K ad la rest σ) rfl ?_
          exact x_iret C dX11_count_104 rfl (congrArg Prod.fst (Option.some.inj hF)) (congrArg (fun q9 : Int32 × xS => CW K ad la rest q9.2) (Option.some.inj hF))
        · rw [if_neg h4] at hF
          by_cases h5 : a1 = 4
          · rw [if_pos h5] at hF
            refine x_tabG C 105 dX11_count_1 (by rw [h5]; exact Or.inl ⟨_, by decide +kernel, rfl, by decide⟩) ?_
            refine x_aload_n C 0 0 dX11_count_105 rfl rfl ?_
            refine x_get C 0 dX11_count_106 fl_X11_10 (CW_0 K ad la rest σ) rfl ?_
            refine x_get C 5 dX11_count_109 fl_X11_286 (CW_5 K ad la rest σ) rfl ?_
            refine x_get C 14 dX11_count_112 fl_X11_209 (CW_14 K ad la rest σ) rfl ?_
            exact x_iret C dX11_count_115 rfl (congrArg Prod.fst (Option.some.inj hF)) (congrArg (fun q9 : Int32 × xS => CW K ad la rest q9.2) (Option.some.inj hF))
          · rw [if_neg h5] at hF
            by_cases h6 : a1 = 5
            · rw [if_pos h6] at hF
              refine x_tabG C 116 dX11_count_1 (by rw [h6]; exact Or.inl ⟨_, by decide +kernel, rfl, by decide⟩) ?_
              refine x_aload_n C 0 0 dX11_count_116 rfl rfl ?_
              refine x_get C 0 dX11_count_117 fl_X11_10 (CW_0 K ad la rest σ) rfl ?_
              refine x_get C 5 dX11_count_120 fl_X11_302 (CW_5 K ad la rest σ) rfl ?_
              refine x_get C 16 dX11_count_123 fl_X11_209 (CW_16 K ad la rest σ) rfl ?_
              exact x_iret C dX11_count_126 rfl (congrArg Prod.fst (Option.some.inj hF)) (congrArg (fun q9 : Int32 × xS => CW K ad la rest q9.2) (Option.some.inj hF))
            · rw [if_neg h6] at hF
              by_cases h7 : a1 = 6
              · rw [if_pos h7] at hF
                refine x_tabG C 127 dX11_count_1 (by rw [h7]; exact Or.inl ⟨_, by decide +kernel, rfl, by decide⟩) ?_
                refine x_aload_n C 0 0 dX11_count_127 rfl rfl ?_
                refine x_get C 0 dX11_count_128 fl_X11_143 (CW_0 K ad la rest σ) rfl ?_
                exact x_iret C dX11_count_131 rfl (congrArg Prod.fst (Option.some.inj hF)) (congrArg (fun q9 : Int32 × xS => CW K ad la rest q9.2) (Option.some.inj hF))
              · rw [if_neg h7] at hF
                by_cases h9 : a1 = 7
                · rw [if_pos h9] at hF
                  refine x_tabG C 132 dX11_count_1 (by rw [h9]; exact Or.inl ⟨_, by decide +kernel, rfl, by decide⟩) ?_
                  refine x_aload_n C 0 0 dX11_count_132 rfl rfl ?_
                  refine x_get C 0 dX11_count_133 fl_X11_87 (CW_0 K ad la rest σ) rfl ?_
                  refine x_iconst C 1 dX11_count_136 (by decide +kernel) ?_
                  refine x_iald C 4 dX11_count_137 (CW_4 K ad la rest σ) hF (fun v8 hF => ?_)
                  exact x_iret C dX11_count_138 rfl (congrArg Prod.fst (Option.some.inj hF)) (congrArg (fun q9 : Int32 × xS => CW K ad la rest q9.2) (Option.some.inj hF))
                · rw [if_neg h9] at hF
                  by_cases h11 : a1 = 8
                  · rw [if_pos h11] at hF
                    refine x_tabG C 139 dX11_count_1 (by rw [h11]; exact Or.inl ⟨_, by decide +kernel, rfl, by decide⟩) ?_
                    refine x_aload_n C 0 0 dX11_count_139 rfl rfl ?_
                    refine x_get C 0 dX11_count_140 fl_X11_87 (CW_0 K ad la rest σ) rfl ?_
                    refine x_iconst C 2 dX11_count_143 (by decide +kernel) ?_
                    refine x_iald C 4 dX11_count_144 (CW_4 K ad la rest σ) hF (fun v10 hF => ?_)
                    exact x_iret C dX11_count_145 rfl (congrArg Prod.fst (Option.some.inj hF)) (congrArg (fun q9 : Int32 × xS => CW K ad la rest q9.2) (Option.some.inj hF))
                  · rw [if_neg h11] at hF
                    by_cases h13 : a1 = 9
                    · rw [if_pos h13] at hF
                      refine x_tabG C 146 dX11_count_1 (by rw [h13]; exact Or.inl ⟨_, by decide +kernel, rfl, by decide⟩) ?_
                      refine x_aload_n C 0 0 dX11_count_146 rfl rfl ?_
                      refine x_get C 0 dX11_count_147 fl_X11_87 (CW_0 K ad la rest σ) rfl ?_
                      refine x_iconst C 5 dX11_count_150 (by decide +kernel) ?_
                      refine x_iald C 4 dX11_count_151 (CW_4 K ad la rest σ) hF (fun v12 hF => ?_)
                      exact x_iret C dX11_count_152 rfl (congrArg Prod.fst (Option.some.inj hF)) (congrArg (fun q9 : Int32 × xS => CW K ad la rest q9.2) (Option.some.inj hF))
                    · rw [if_neg h13] at hF
                      by_cases h15 : a1 = 10
                      · rw [if_pos h15] at hF
                        refine x_tabG C 153 dX11_count_1 (by rw [h15]; exact Or.inl ⟨_, by decide +kernel, rfl, by decide⟩) ?_
                        refine x_aload_n C 0 0 dX11_count_153 rfl rfl ?_
                        refine x_get C 0 dX11_count_154 fl_X11_87 (CW_0 K ad la rest σ) rfl ?_
                        refine x_bipush C 6 dX11_count_157 (by decide +kernel) ?_
                        refine x_iald C 4 dX11_count_159 (CW_4 K ad la rest σ) hF (fun v14 hF => ?_)
                        exact x_iret C dX11_count_160 rfl (congrArg Prod.fst (Option.some.inj hF)) (congrArg (fun q9 : Int32 × xS => CW K ad la rest q9.2) (Option.some.inj hF))
                      · rw [if_neg h15] at hF
                        by_cases h16 : a1 = 11
                        · rw [if_pos h16] at hF
                          refine x_tabG C 161 dX11_count_1 (by rw [h16]; exact Or.inl ⟨_, by decide +kernel, rfl, by decide⟩) ?_
                          refine x_aload_n C 0 0 dX11_count_161 rfl rfl ?_
                          refine x_get C 0 dX11_count_162 fl_X11_10 (CW_0 K ad la rest σ) rfl ?_
                          refine x_get C 5 dX11_count_165 fl_X11_170 (CW_5 K ad la rest σ) rfl ?_
                          exact x_iret C dX11_count_168 rfl (congrArg Prod.fst (Option.some.inj hF)) (congrArg (fun q9 : Int32 × xS => CW K ad la rest q9.2) (Option.some.inj hF))
                        · rw [if_neg h16] at hF
                          refine x_tabG C 169 dX11_count_1 (by have e0 : a1.toInt ≠ 0 := x_neT h1; have e1 : a1.toInt ≠ 1 := x_neT h2; have e2 : a1.toInt ≠ 2 := x_neT h3; have e3 : a1.toInt ≠ 3 := x_neT h4; have e4 : a1.toInt ≠ 4 := x_neT h5; have e5 : a1.toInt ≠ 5 := x_neT h6; have e6 : a1.toInt ≠ 6 := x_neT h7; have e7 : a1.toInt ≠ 7 := x_neT h9; have e8 : a1.toInt ≠ 8 := x_neT h11; have e9 : a1.toInt ≠ 9 := x_neT h13; have e10 : a1.toInt ≠ 10 := x_neT h15; have e11 : a1.toInt ≠ 11 := x_neT h16; exact Or.inr ⟨by omega, by decide⟩) ?_
                          refine x_iload_n C 1 1 dX11_count_169 rfl rfl ?_
                          refine x_bipush C 12 dX11_count_170 (by decide +kernel) ?_
                          refine x_bipush C 17 dX11_count_172 (by decide +kernel) ?_
                          refine x_callSI C (wf := CW K ad la rest) (As := [.int a1, .int 12, .int 17]) (rest := []) dX11_count_174 ml_X11_105 rfl rfl (Nat.le_of_ble_eq_true rfl) ⟨Nat.le_of_ble_eq_true rfl, Nat.le_of_ble_eq_true rfl⟩ ⟨Nat.zero_le _, Nat.zero_le _⟩ (fun q9 hq9 => c_X11_isWithin l D K ad la rest a1 12 17 σ q9 hq9) hF (fun v18 σ17 hF => ?_)
                          refine x_if_eq C 195 dX11_count_177 (by decide) hF (fun hF => ?_) (fun hF => ?_)
                          · refine x_iconst C (-1) dX11_count_195 (by decide +kernel) ?_
                            exact x_iret C dX11_count_196 rfl (congrArg Prod.fst (Option.some.inj hF)) (congrArg (fun q9 : Int32 × xS => CW K ad la rest q9.2) (Option.some.inj hF))
                          · refine x_aload_n C 0 0 dX11_count_180 rfl rfl ?_
                            refine x_get C 0 dX11_count_181 fl_X11_10 (CW_0 K ad la rest σ17) rfl ?_
                            refine x_get C 5 dX11_count_184 fl_X11_140 (CW_5 K ad la rest σ17) rfl ?_
                            refine x_iload_n C 1 1 dX11_count_187 rfl rfl ?_
                            refine x_bipush C 12 dX11_count_188 (by decide +kernel) ?_
                            refine x_isub C dX11_count_190 ?_
                            refine x_iald C 38 dX11_count_191 (CW_38 K ad la rest σ17) hF (fun v19 hF => ?_)
                            refine x_goto C 196 dX11_count_192 (by decide) ?_
                            exact x_iret C dX11_count_196 rfl (congrArg Prod.fst (Option.some.inj hF)) (congrArg (fun q9 : Int32 × xS => CW K ad la rest q9.2) (Option.some.inj hF))
theorem dX11_status_0 : decode cX11_status 0 = .ok (.aload_n 0, 1) := by decide +kernel
theorem dX11_status_1 : decode cX11_status 1 = .ok (.getfield 325, 3) := by decide +kernel
theorem dX11_status_4 : decode cX11_status 4 = .ok (.ireturn, 1) := by decide +kernel
set_option maxHeartbeats 4000000 in
set_option maxRecDepth 100000 in
theorem c_X11_status (l : Launch) (D : va_G) (K : Nat → ClassId) (ad la : Nat → Nat) (rest : va_W)   (σ : xS) (z : Int32 × xS) (hF : F_X11_status σ = some z) : CI l D K yX11_status cX11_status 1 (some .int) 0 0 [.ref (ad 0)] (CW K ad la rest σ) z.1 (CW K ad la rest z.2) := by
  refine x_enterI [(0, .ref (ad 0))] pnX11 (Nat.le_of_ble_eq_true rfl) rfl ?_
  intro p e s m args below meth c A C
  unfold F_X11_status at hF
  refine x_aload_n C 0 0 dX11_status_0 rfl rfl ?_
  refine x_get C 0 dX11_status_1 fl_X11_325 (CW_0 K ad la rest σ) rfl ?_
  exact x_iret C dX11_status_4 rfl (congrArg Prod.fst (Option.some.inj hF)) (congrArg (fun q9 : Int32 × xS => CW K ad la rest q9.2) (Option.some.inj hF))
