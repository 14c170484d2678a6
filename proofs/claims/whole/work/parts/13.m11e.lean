theorem dX10_priceInWeek_0 : decode cX10_priceInWeek 0 = .ok (.bipush 20, 2) := by decide +kernel
theorem dX10_priceInWeek_2 : decode cX10_priceInWeek 2 = .ok (.istore_n 2, 1) := by decide +kernel
theorem dX10_priceInWeek_3 : decode cX10_priceInWeek 3 = .ok (.iconst 0, 1) := by decide +kernel
theorem dX10_priceInWeek_4 : decode cX10_priceInWeek 4 = .ok (.istore_n 3, 1) := by decide +kernel
theorem dX10_priceInWeek_5 : decode cX10_priceInWeek 5 = .ok (.iload_n 3, 1) := by decide +kernel
theorem dX10_priceInWeek_6 : decode cX10_priceInWeek 6 = .ok (.iload_n 1, 1) := by decide +kernel
theorem dX10_priceInWeek_7 : decode cX10_priceInWeek 7 = .ok (.if_icmp .gt 34, 3) := by decide +kernel
theorem dX10_priceInWeek_10 : decode cX10_priceInWeek 10 = .ok (.aload_n 0, 1) := by decide +kernel
theorem dX10_priceInWeek_11 : decode cX10_priceInWeek 11 = .ok (.getfield 20, 3) := by decide +kernel
theorem dX10_priceInWeek_14 : decode cX10_priceInWeek 14 = .ok (.iload_n 3, 1) := by decide +kernel
theorem dX10_priceInWeek_15 : decode cX10_priceInWeek 15 = .ok (.laload, 1) := by decide +kernel
theorem dX10_priceInWeek_16 : decode cX10_priceInWeek 16 = .ok (.aload_n 0, 1) := by decide +kernel
theorem dX10_priceInWeek_17 : decode cX10_priceInWeek 17 = .ok (.getfield 17, 3) := by decide +kernel
theorem dX10_priceInWeek_20 : decode cX10_priceInWeek 20 = .ok (.iload_n 3, 1) := by decide +kernel
theorem dX10_priceInWeek_21 : decode cX10_priceInWeek 21 = .ok (.aaload, 1) := by decide +kernel
theorem dX10_priceInWeek_22 : decode cX10_priceInWeek 22 = .ok (.iload_n 2, 1) := by decide +kernel
theorem dX10_priceInWeek_23 : decode cX10_priceInWeek 23 = .ok (.laload, 1) := by decide +kernel
theorem dX10_priceInWeek_24 : decode cX10_priceInWeek 24 = .ok (.lcmp, 1) := by decide +kernel
theorem dX10_priceInWeek_25 : decode cX10_priceInWeek 25 = .ok (.ifCond .le 10, 3) := by decide +kernel
theorem dX10_priceInWeek_28 : decode cX10_priceInWeek 28 = .ok (.aload_n 0, 1) := by decide +kernel
theorem dX10_priceInWeek_29 : decode cX10_priceInWeek 29 = .ok (.getfield 24, 3) := by decide +kernel
theorem dX10_priceInWeek_32 : decode cX10_priceInWeek 32 = .ok (.iload_n 3, 1) := by decide +kernel
theorem dX10_priceInWeek_33 : decode cX10_priceInWeek 33 = .ok (.iaload, 1) := by decide +kernel
theorem dX10_priceInWeek_34 : decode cX10_priceInWeek 34 = .ok (.istore_n 2, 1) := by decide +kernel
theorem dX10_priceInWeek_35 : decode cX10_priceInWeek 35 = .ok (.iinc 3 1, 3) := by decide +kernel
theorem dX10_priceInWeek_38 : decode cX10_priceInWeek 38 = .ok (.goto (-33), 3) := by decide +kernel
theorem dX10_priceInWeek_41 : decode cX10_priceInWeek 41 = .ok (.aload_n 0, 1) := by decide +kernel
theorem dX10_priceInWeek_42 : decode cX10_priceInWeek 42 = .ok (.getfield 9, 3) := by decide +kernel
theorem dX10_priceInWeek_45 : decode cX10_priceInWeek 45 = .ok (.iload_n 2, 1) := by decide +kernel
theorem dX10_priceInWeek_46 : decode cX10_priceInWeek 46 = .ok (.iaload, 1) := by decide +kernel
theorem dX10_priceInWeek_47 : decode cX10_priceInWeek 47 = .ok (.ireturn, 1) := by decide +kernel
set_option maxHeartbeats 4000000 in
set_option maxRecDepth 100000 in
theorem x_X10_priceInWeek_5 {p : Program} {l : Launch} {e : Env} {s : State} {m : MethodId} {args : Array Value} {below : List Frame} {meth : Method} {c : Code} {D : va_G} {K : Nat → ClassId} {A : Nat → Prop} {ad la : Nat → Nat} {rest : va_W} (C : xC p s m args meth c D K A RX10 cX10_priceInWeek 4 (some .int)) (z : Int32 × xS) : ∀ (n : Nat) (y1 : Int32) (y2 : Int32) (y3 : Int32) (σ : xS), F_X10_priceInWeek_5  n y1 y2 y3 σ = some z → X p l e (xR 0 0) s m args below meth c D A 4 (xQi below D K A args s z.1 (CW K ad la rest z.2)) 0 0 5 [(0, .ref (ad 55)), (1, .int y1), (2, .int y2), (3, .int y3)] [] (CW K ad la rest σ) := by
  intro n
  induction n with
  | zero =>
    intro y1 y2 y3 σ hF
    cases hF
  | succ n ih =>
    intro y1 y2 y3 σ hF
    rw [F_X10_priceInWeek_5] at hF
    refine x_iload_n C 3 3 dX10_priceInWeek_5 rfl rfl ?_
    refine x_iload_n C 1 1 dX10_priceInWeek_6 rfl rfl ?_
    refine x_icmp_gt C 41 dX10_priceInWeek_7 (by decide) hF (fun hF => ?_) (fun hF => ?_)
    · refine x_aload_n C 0 0 dX10_priceInWeek_41 rfl rfl ?_
      refine x_get C 55 dX10_priceInWeek_42 fl_X10_9 (CW_55 K ad la rest σ) rfl ?_
      refine x_iload_n C 2 2 dX10_priceInWeek_45 rfl rfl ?_
      refine x_iald C 56 dX10_priceInWeek_46 (CW_56 K ad la rest σ) hF (fun v3 hF => ?_)
      exact x_iret C dX10_priceInWeek_47 rfl (congrArg Prod.fst (Option.some.inj hF)) (congrArg (fun q9 : Int32 × xS => CW K ad la rest q9.2) (Option.some.inj hF))
    · refine x_aload_n C 0 0 dX10_priceInWeek_10 rfl rfl ?_
      refine x_get C 55 dX10_priceInWeek_11 fl_X10_20 (CW_55 K ad la rest σ) rfl ?_
      refine x_iload_n C 3 3 dX10_priceInWeek_14 rfl rfl ?_
      refine x_lald C 64 dX10_priceInWeek_15 (CW_64 K ad la rest σ) hF (fun v4 hF => ?_)
      refine x_aload_n C 0 0 dX10_priceInWeek_16 rfl rfl ?_
      refine x_get C 55 dX10_priceInWeek_17 fl_X10_17 (CW_55 K ad la rest σ) rfl ?_
      refine x_iload_n C 3 3 dX10_priceInWeek_20 rfl rfl ?_
      refine x_aald C (t0 := 5) 57 dX10_priceInWeek_21 (CW_57 K ad la rest σ) rfl rfl hF (fun hF hj5 => ?_)
      refine x_if_cast (st2 := [.ref (ad (58 + y3.toNatClampNeg)), .long v4]) rfl ?_
      refine x_iload_n C 2 2 dX10_priceInWeek_22 rfl rfl ?_
      refine x_lald C (58 + y3.toNatClampNeg) dX10_priceInWeek_23 (CW_i57 K ad la rest σ (y3.toNatClampNeg) hj5) hF (fun v6 hF => ?_)
      refine x_lcmp C dX10_priceInWeek_24 ?_
      refine x_if_le C 35 dX10_priceInWeek_25 (by decide) hF (fun hF => ?_) (fun hF => ?_)
      · refine x_iincN C 1 3 (fun x7 => [(3, .int x7), (0, .ref (ad 55)), (1, .int y1), (2, .int y2)]) dX10_priceInWeek_35 rfl (by decide +kernel) (by decide) (fun _ => rfl) hF (fun x7 hF => ?_)
        refine x_goto C 5 dX10_priceInWeek_38 (by decide) ?_
        refine x_loc [(0, .ref (ad 55)), (1, .int y1), (2, .int y2), (3, .int x7)] [1, 2, 3, 0] rfl ?_
        exact ih y1 y2 x7 σ hF
      · refine x_aload_n C 0 0 dX10_priceInWeek_28 rfl rfl ?_
        refine x_get C 55 dX10_priceInWeek_29 fl_X10_24 (CW_55 K ad la rest σ) rfl ?_
        refine x_iload_n C 3 3 dX10_priceInWeek_32 rfl rfl ?_
        refine x_iald C 65 dX10_priceInWeek_33 (CW_65 K ad la rest σ) hF (fun v8 hF => ?_)
        refine x_istore_n C [(2, .int v8), (0, .ref (ad 55)), (1, .int y1), (3, .int y3)] dX10_priceInWeek_34 rfl (by decide) rfl ?_
        refine x_iincN C 1 3 (fun x9 => [(3, .int x9), (2, .int v8), (0, .ref (ad 55)), (1, .int y1)]) dX10_priceInWeek_35 rfl (by decide +kernel) (by decide) (fun _ => rfl) hF (fun x9 hF => ?_)
        refine x_goto C 5 dX10_priceInWeek_38 (by decide) ?_
        refine x_loc [(0, .ref (ad 55)), (1, .int y1), (2, .int v8), (3, .int x9)] [2, 3, 1, 0] rfl ?_
        exact ih y1 v8 x9 σ hF
set_option maxHeartbeats 4000000 in
set_option maxRecDepth 100000 in
theorem c_X10_priceInWeek (l : Launch) (D : va_G) (K : Nat → ClassId) (ad la : Nat → Nat) (rest : va_W)  (a1 : Int32) (σ : xS) (z : Int32 × xS) (hF : F_X10_priceInWeek a1 σ = some z) : CI l D K yX10_priceInWeek cX10_priceInWeek 4 (some .int) 0 0 [.ref (ad 55), .int a1] (CW K ad la rest σ) z.1 (CW K ad la rest z.2) := by
  refine x_enterI [(0, .ref (ad 55)), (1, .int a1)] pnX10 (Nat.le_of_ble_eq_true rfl) rfl ?_
  intro p e s m args below meth c A C
  unfold F_X10_priceInWeek at hF
  refine x_bipush C 20 dX10_priceInWeek_0 (by decide +kernel) ?_
  refine x_topI hF (fun x1 hF => ?_)
  refine x_istore_n C [(2, .int x1), (0, .ref (ad 55)), (1, .int a1)] dX10_priceInWeek_2 rfl (by decide) rfl ?_
  refine x_iconst C 0 dX10_priceInWeek_3 (by decide +kernel) ?_
  refine x_topI hF (fun x2 hF => ?_)
  refine x_istore_n C [(3, .int x2), (2, .int x1), (0, .ref (ad 55)), (1, .int a1)] dX10_priceInWeek_4 rfl (by decide) rfl ?_
  refine x_loc [(0, .ref (ad 55)), (1, .int a1), (2, .int x1), (3, .int x2)] [2, 3, 1, 0] rfl ?_
  exact x_X10_priceInWeek_5 C z FU a1 x1 x2 σ hF
theorem dX11_isWithin_0 : decode cX11_isWithin 0 = .ok (.iload_n 0, 1) := by decide +kernel
theorem dX11_isWithin_1 : decode cX11_isWithin 1 = .ok (.iload_n 1, 1) := by decide +kernel
theorem dX11_isWithin_2 : decode cX11_isWithin 2 = .ok (.if_icmp .lt 12, 3) := by decide +kernel
theorem dX11_isWithin_5 : decode cX11_isWithin 5 = .ok (.iload_n 0, 1) := by decide +kernel
theorem dX11_isWithin_6 : decode cX11_isWithin 6 = .ok (.iload_n 2, 1) := by decide +kernel
theorem dX11_isWithin_7 : decode cX11_isWithin 7 = .ok (.if_icmp .gt 7, 3) := by decide +kernel
theorem dX11_isWithin_10 : decode cX11_isWithin 10 = .ok (.iconst 1, 1) := by decide +kernel
theorem dX11_isWithin_11 : decode cX11_isWithin 11 = .ok (.goto 4, 3) := by decide +kernel
theorem dX11_isWithin_14 : decode cX11_isWithin 14 = .ok (.iconst 0, 1) := by decide +kernel
theorem dX11_isWithin_15 : decode cX11_isWithin 15 = .ok (.ireturn, 1) := by decide +kernel
set_option maxHeartbeats 4000000 in
set_option maxRecDepth 100000 in
theorem c_X11_isWithin (l : Launch) (D : va_G) (K : Nat → ClassId) (ad la : Nat → Nat) (rest : va_W)  (a1 : Int32) (a2 : Int32) (a3 : Int32) (σ : xS) (z : Int32 × xS) (hF : F_X11_isWithin a1 a2 a3 σ = some z) : CI l D K yX11_isWithin cX11_isWithin 3 (some .boolean) 0 0 [.int a1, .int a2, .int a3] (CW K ad la rest σ) z.1 (CW K ad la rest z.2) := by
  refine x_enterI [(0, .int a1), (1, .int a2), (2, .int a3)] pnX11 (Nat.le_of_ble_eq_true rfl) rfl ?_
  intro p e s m args below meth c A C
  unfold F_X11_isWithin at hF
  refine x_iload_n C 0 0 dX11_isWithin_0 rfl rfl ?_
  refine x_iload_n C 1 1 dX11_isWithin_1 rfl rfl ?_
  refine x_icmp_lt C 14 dX11_isWithin_2 (by decide) hF (fun hF => ?_) (fun hF => ?_)
  · refine x_iconst C 0 dX11_isWithin_14 (by decide +kernel) ?_
    have hz := (cz_some hF).1
    replace hF := (cz_some hF).2
    exact x_zret C dX11_isWithin_15 rfl hz (congrArg Prod.fst (Option.some.inj hF)) (congrArg (fun q9 : Int32 × xS => CW K ad la rest q9.2) (Option.some.inj hF))
  · refine x_iload_n C 0 0 dX11_isWithin_5 rfl rfl ?_
    refine x_iload_n C 2 2 dX11_isWithin_6 rfl rfl ?_
    refine x_icmp_gt C 14 dX11_isWithin_7 (by decide) hF (fun hF => ?_) (fun hF => ?_)
    · refine x_iconst C 0 dX11_isWithin_14 (by decide +kernel) ?_
      have hz := (cz_some hF).1
      replace hF := (cz_some hF).2
      exact x_zret C dX11_isWithin_15 rfl hz (congrArg Prod.fst (Option.some.inj hF)) (congrArg (fun q9 : Int32 × xS => CW K ad la rest q9.2) (Option.some.inj hF))
    · refine x_iconst C 1 dX11_isWithin_10 (by decide +kernel) ?_
      refine x_goto C 15 dX11_isWithin_11 (by decide) ?_
      have hz := (cz_some hF).1
      replace hF := (cz_some hF).2
      exact x_zret C dX11_isWithin_15 rfl hz (congrArg Prod.fst (Option.some.inj hF)) (congrArg (fun q9 : Int32 × xS => CW K ad la rest q9.2) (Option.some.inj hF))
theorem dX11_bookCanBe_0 : decode cX11_bookCanBe 0 = .ok (.iload_n 0, 1) := by decide +kernel
theorem dX11_bookCanBe_1 : decode cX11_bookCanBe 1 = .ok (.iconst 0, 1) := by decide +kernel
theorem dX11_bookCanBe_2 : decode cX11_bookCanBe 2 = .ok (.getstatic 109, 3) := by decide +kernel
theorem dX11_bookCanBe_5 : decode cX11_bookCanBe 5 = .ok (.iconst 0, 1) := by decide +kernel
theorem dX11_bookCanBe_6 : decode cX11_bookCanBe 6 = .ok (.iaload, 1) := by decide +kernel
theorem dX11_bookCanBe_7 : decode cX11_bookCanBe 7 = .ok (.invokestatic 105, 3) := by decide +kernel
theorem dX11_bookCanBe_10 : decode cX11_bookCanBe 10 = .ok (.ifCond .eq 60, 3) := by decide +kernel
theorem dX11_bookCanBe_13 : decode cX11_bookCanBe 13 = .ok (.iload_n 1, 1) := by decide +kernel
theorem dX11_bookCanBe_14 : decode cX11_bookCanBe 14 = .ok (.iconst 0, 1) := by decide +kernel
theorem dX11_bookCanBe_15 : decode cX11_bookCanBe 15 = .ok (.getstatic 109, 3) := by decide +kernel
theorem dX11_bookCanBe_18 : decode cX11_bookCanBe 18 = .ok (.iconst 1, 1) := by decide +kernel
theorem dX11_bookCanBe_19 : decode cX11_bookCanBe 19 = .ok (.iaload, 1) := by decide +kernel
theorem dX11_bookCanBe_20 : decode cX11_bookCanBe 20 = .ok (.invokestatic 105, 3) := by decide +kernel
theorem dX11_bookCanBe_23 : decode cX11_bookCanBe 23 = .ok (.ifCond .eq 47, 3) := by decide +kernel
theorem dX11_bookCanBe_26 : decode cX11_bookCanBe 26 = .ok (.iload_n 2, 1) := by decide +kernel
theorem dX11_bookCanBe_27 : decode cX11_bookCanBe 27 = .ok (.iconst 0, 1) := by decide +kernel
theorem dX11_bookCanBe_28 : decode cX11_bookCanBe 28 = .ok (.getstatic 109, 3) := by decide +kernel
theorem dX11_bookCanBe_31 : decode cX11_bookCanBe 31 = .ok (.iconst 2, 1) := by decide +kernel
theorem dX11_bookCanBe_32 : decode cX11_bookCanBe 32 = .ok (.iaload, 1) := by decide +kernel
theorem dX11_bookCanBe_33 : decode cX11_bookCanBe 33 = .ok (.invokestatic 105, 3) := by decide +kernel
theorem dX11_bookCanBe_36 : decode cX11_bookCanBe 36 = .ok (.ifCond .eq 34, 3) := by decide +kernel
theorem dX11_bookCanBe_39 : decode cX11_bookCanBe 39 = .ok (.iload_n 3, 1) := by decide +kernel
theorem dX11_bookCanBe_40 : decode cX11_bookCanBe 40 = .ok (.iconst 0, 1) := by decide +kernel
theorem dX11_bookCanBe_41 : decode cX11_bookCanBe 41 = .ok (.getstatic 109, 3) := by decide +kernel
theorem dX11_bookCanBe_44 : decode cX11_bookCanBe 44 = .ok (.iconst 3, 1) := by decide +kernel
theorem dX11_bookCanBe_45 : decode cX11_bookCanBe 45 = .ok (.iaload, 1) := by decide +kernel
theorem dX11_bookCanBe_46 : decode cX11_bookCanBe 46 = .ok (.invokestatic 105, 3) := by decide +kernel
theorem dX11_bookCanBe_49 : decode cX11_bookCanBe 49 = .ok (.ifCond .eq 21, 3) := by decide +kernel
theorem dX11_bookCanBe_52 : decode cX11_bookCanBe 52 = .ok (.iload 4, 2) := by decide +kernel
theorem dX11_bookCanBe_54 : decode cX11_bookCanBe 54 = .ok (.iconst 0, 1) := by decide +kernel
theorem dX11_bookCanBe_55 : decode cX11_bookCanBe 55 = .ok (.getstatic 109, 3) := by decide +kernel
theorem dX11_bookCanBe_58 : decode cX11_bookCanBe 58 = .ok (.iconst 4, 1) := by decide +kernel
theorem dX11_bookCanBe_59 : decode cX11_bookCanBe 59 = .ok (.iaload, 1) := by decide +kernel
theorem dX11_bookCanBe_60 : decode cX11_bookCanBe 60 = .ok (.invokestatic 105, 3) := by decide +kernel
theorem dX11_bookCanBe_63 : decode cX11_bookCanBe 63 = .ok (.ifCond .eq 7, 3) := by decide +kernel
theorem dX11_bookCanBe_66 : decode cX11_bookCanBe 66 = .ok (.iconst 1, 1) := by decide +kernel
theorem dX11_bookCanBe_67 : decode cX11_bookCanBe 67 = .ok (.goto 4, 3) := by decide +kernel
theorem dX11_bookCanBe_70 : decode cX11_bookCanBe 70 = .ok (.iconst 0, 1) := by decide +kernel
theorem dX11_bookCanBe_71 : decode cX11_bookCanBe 71 = .ok (.ireturn, 1) := by decide +kernel
set_option maxHeartbeats 4000000 in
set_option maxRecDepth 100000 in
theorem c_X11_bookCanBe (l : Launch) (D : va_G) (K : Nat → ClassId) (ad la : Nat → Nat) (rest : va_W)  (a1 : Int32) (a2 : Int32) (a3 : Int32) (a4 : Int32) (a5 : Int32) (σ : xS) (z : Int32 × xS) (hF : F_X11_bookCanBe a1 a2 a3 a4 a5 σ = some z) : CI l D K yX11_bookCanBe cX11_bookCanBe 5 (some .boolean) 1 22 [.int a1, .int a2, .int a3, .int a4, .int a5] (CW K ad la rest σ) z.1 (CW K ad la rest z.2) := by
  refine x_enterI [(0, .int a1), (1, .int a2), (2, .int a3), (3, .int a4), (4, .int a5)] pnX11 (Nat.le_of_ble_eq_true rfl) rfl ?_
  intro p e s m args below meth c A C
  unfold F_X11_bookCanBe at hF
  refine x_iload_n C 0 0 dX11_bookCanBe_0 rfl rfl ?_
  refine x_iconst C 0 dX11_bookCanBe_1 (by decide +kernel) ?_
  refine x_tabZ C C.2.2.2.2.2.2.2.2.2.1 dX11_bookCanBe_2 (xT_mem (List.mem_append_right _ (List.mem_of_getElem? (i := 405) (by decide +kernel))) (by decide +kernel)) (fun t1 ht1 => ?_)
  refine x_iconst C 0 dX11_bookCanBe_5 (by decide +kernel) ?_
  refine x_tabI C ht1 dX11_bookCanBe_6 hF (fun v2 hF => ?_)
  refine x_callSI C (wf := CW K ad la rest) (As := [.int a1, .int 0, .int v2]) (rest := []) dX11_bookCanBe_7 ml_X11_105 rfl rfl (Nat.le_of_ble_eq_true rfl) ⟨Nat.le_of_ble_eq_true rfl, Nat.le_of_ble_eq_true rfl⟩ ⟨Nat.zero_le _, Nat.zero_le _⟩ (fun q9 hq9 => c_X11_isWithin l D K ad la rest a1 0 v2 σ q9 hq9) hF (fun v4 σ3 hF => ?_)
  refine x_if_eq C 70 dX11_bookCanBe_10 (by decide) hF (fun hF => ?_) (fun hF => ?_)
  · refine x_iconst C 0 dX11_bookCanBe_70 (by decide +kernel) ?_
    have hz := (cz_some hF).1
    replace hF := (cz_some hF).2
    exact x_zret C dX11_bookCanBe_71 rfl hz (congrArg Prod.fst (Option.some.inj hF)) (congrArg (fun q9 : Int32 × xS => CW K ad la rest q9.2) (Option.some.inj hF))
  · refine x_iload_n C 1 1 dX11_bookCanBe_13 rfl rfl ?_
    refine x_iconst C 0 dX11_bookCanBe_14 (by decide +kernel) ?_
    refine x_tabZ C C.2.2.2.2.2.2.2.2.2.1 dX11_bookCanBe_15 (xT_mem (List.mem_append_right _ (List.mem_of_getElem? (i := 405) (by decide +kernel))) (by decide +kernel)) (fun t5 ht5 => ?_)
    refine x_iconst C 1 dX11_bookCanBe_18 (by decide +kernel) ?_
    refine x_tabI C ht5 dX11_bookCanBe_19 hF (fun v6 hF => ?_)
    refine x_callSI C (wf := CW K ad la rest) (As := [.int a2, .int 0, .int v6]) (rest := []) dX11_bookCanBe_20 ml_X11_105 rfl rfl (Nat.le_of_ble_eq_true rfl) ⟨Nat.le_of_ble_eq_true rfl, Nat.le_of_ble_eq_true rfl⟩ ⟨Nat.zero_le _, Nat.zero_le _⟩ (fun q9 hq9 => c_X11_isWithin l D K ad la rest a2 0 v6 σ3 q9 hq9) hF (fun v8 σ7 hF => ?_)
    refine x_if_eq C 70 dX11_bookCanBe_23 (by decide) hF (fun hF => ?_) (fun hF => ?_)
    · refine x_iconst C 0 dX11_bookCanBe_70 (by decide +kernel) ?_
      have hz := (cz_some hF).1
      replace hF := (cz_some hF).2
      exact x_zret C dX11_bookCanBe_71 rfl hz (congrArg Prod.fst (Option.some.inj hF)) (congrArg (fun q9 : Int32 × xS => CW K ad la rest q9.2) (Option.some.inj hF))
    · refine x_iload_n C 2 2 dX11_bookCanBe_26 rfl rfl ?_
      refine x_iconst C 0 dX11_bookCanBe_27 (by decide +kernel) ?_
      refine x_tabZ C C.2.2.2.2.2.2.2.2.2.1 dX11_bookCanBe_28 (xT_mem (List.mem_append_right _ (List.mem_of_getElem? (i := 405) (by decide +kernel))) (by decide +kernel)) (fun t9 ht9 => ?_)
      refine x_iconst C 2 dX11_bookCanBe_31 (by decide +kernel) ?_
      refine x_tabI C ht9 dX11_bookCanBe_32 hF (fun v10 hF => ?_)
      refine x_callSI C (wf := CW K ad la rest) (As := [.int a3, .int 0, .int v10]) (rest := []) dX11_bookCanBe_33 ml_X11_105 rfl rfl (Nat.le_of_ble_eq_true rfl) ⟨Nat.le_of_ble_eq_true rfl, Nat.le_of_ble_eq_true rfl⟩ ⟨Nat.zero_le _, Nat.zero_le _⟩ (fun q9 hq9 => c_X11_isWithin l D K ad la rest a3 0 v10 σ7 q9 hq9) hF (fun v12 σ11 hF => ?_)
      refine x_if_eq C 70 dX11_bookCanBe_36 (by decide) hF (fun hF => ?_) (fun hF => ?_)
      · refine x_iconst C 0 dX11_bookCanBe_70 (by decide +kernel) ?_
        have hz := (cz_some hF).1
        replace hF := (cz_some hF).2
        exact x_zret C dX11_bookCanBe_71 rfl hz (congrArg Prod.fst (Option.some.inj hF)) (congrArg (fun q9 : Int32 × xS => CW K ad la rest q9.2) (Option.some.inj hF))
      · refine x_iload_n C 3 3 dX11_bookCanBe_39 rfl rfl ?_
        refine x_iconst C 0 dX11_bookCanBe_40 (by decide +kernel) ?_
        refine x_tabZ C C.2.2.2.2.2.2.2.2.2.1 dX11_bookCanBe_41 (xT_mem (List.mem_append_right _ (List.mem_of_getElem? (i := 405) (by decide +kernel))) (by decide +kernel)) (fun t13 ht13 => ?_)
        refine x_iconst C 3 dX11_bookCanBe_44 (by decide +kernel) ?_
        refine x_tabI C ht13 dX11_bookCanBe_45 hF (fun v14 hF => ?_)
        refine x_callSI C (wf := CW K ad la rest) (As := [.int a4, .int 0, .int v14]) (rest := []) dX11_bookCanBe_46 ml_X11_105 rfl rfl (Nat.le_of_ble_eq_true rfl) ⟨Nat.le_of_ble_eq_true rfl, Nat.le_of_ble_eq_true rfl⟩ ⟨Nat.zero_le _, Nat.zero_le _⟩ (fun q9 hq9 => c_X11_isWithin l D K ad la rest a4 0 v14 σ11 q9 hq9) hF (fun v16 σ15 hF => ?_)
        refine x_if_eq C 70 dX11_bookCanBe_49 (by decide) hF (fun hF => ?_) (fun hF => ?_)
        · refine x_iconst C 0 dX11_bookCanBe_70 (by decide +kernel) ?_
          have hz := (cz_some hF).1
          replace hF := (cz_some hF).2
          exact x_zret C dX11_bookCanBe_71 rfl hz (congrArg Prod.fst (Option.some.inj hF)) (congrArg (fun q9 : Int32 × xS => CW K ad la rest q9.2) (Option.some.inj hF))
        · refine x_iload C 4 4 dX11_bookCanBe_52 rfl ?_
          refine x_iconst C 0 dX11_bookCanBe_54 (by decide +kernel) ?_
          refine x_tabZ C C.2.2.2.2.2.2.2.2.2.1 dX11_bookCanBe_55 (xT_mem (List.mem_append_right _ (List.mem_of_getElem? (i := 405) (by decide +kernel))) (by decide +kernel)) (fun t17 ht17 => ?_)
          refine x_iconst C 4 dX11_bookCanBe_58 (by decide +kernel) ?_
          refine x_tabI C ht17 dX11_bookCanBe_59 hF (fun v18 hF => ?_)
          refine x_callSI C (wf := CW K ad la rest) (As := [.int a5, .int 0, .int v18]) (rest := []) dX11_bookCanBe_60 ml_X11_105 rfl rfl (Nat.le_of_ble_eq_true rfl) ⟨Nat.le_of_ble_eq_true rfl, Nat.le_of_ble_eq_true rfl⟩ ⟨Nat.zero_le _, Nat.zero_le _⟩ (fun q9 hq9 => c_X11_isWithin l D K ad la rest a5 0 v18 σ15 q9 hq9) hF (fun v20 σ19 hF => ?_)
          refine x_if_eq C 70 dX11_bookCanBe_63 (by decide) hF (fun hF => ?_) (fun hF => ?_)
          · refine x_iconst C 0 dX11_bookCanBe_70 (by decide +kernel) ?_
            have hz := (cz_some hF).1
            replace hF := (cz_some hF).2
            exact x_zret C dX11_bookCanBe_71 rfl hz (congrArg Prod.fst (Option.some.inj hF)) (congrArg (fun q9 : Int32 × xS => CW K ad la rest q9.2) (Option.some.inj hF))
          · refine x_iconst C 1 dX11_bookCanBe_66 (by decide +kernel) ?_
            refine x_goto C 71 dX11_bookCanBe_67 (by decide) ?_
            have hz := (cz_some hF).1
            replace hF := (cz_some hF).2
            exact x_zret C dX11_bookCanBe_71 rfl hz (congrArg Prod.fst (Option.some.inj hF)) (congrArg (fun q9 : Int32 × xS => CW K ad la rest q9.2) (Option.some.inj hF))
theorem dX11_refused_0 : decode cX11_refused 0 = .ok (.aload_n 0, 1) := by decide +kernel
theorem dX11_refused_1 : decode cX11_refused 1 = .ok (.iload_n 1, 1) := by decide +kernel
theorem dX11_refused_2 : decode cX11_refused 2 = .ok (.putfield 325, 3) := by decide +kernel
theorem dX11_refused_5 : decode cX11_refused 5 = .ok (.aload_n 0, 1) := by decide +kernel
theorem dX11_refused_6 : decode cX11_refused 6 = .ok (.getfield 87, 3) := by decide +kernel
theorem dX11_refused_9 : decode cX11_refused 9 = .ok (.iload_n 1, 1) := by decide +kernel
theorem dX11_refused_10 : decode cX11_refused 10 = .ok (.ineg, 1) := by decide +kernel
theorem dX11_refused_11 : decode cX11_refused 11 = .ok (.dup2, 1) := by decide +kernel
theorem dX11_refused_12 : decode cX11_refused 12 = .ok (.iaload, 1) := by decide +kernel
theorem dX11_refused_13 : decode cX11_refused 13 = .ok (.iconst 1, 1) := by decide +kernel
theorem dX11_refused_14 : decode cX11_refused 14 = .ok (.iadd, 1) := by decide +kernel
theorem dX11_refused_15 : decode cX11_refused 15 = .ok (.iastore, 1) := by decide +kernel
theorem dX11_refused_16 : decode cX11_refused 16 = .ok (.iload_n 1, 1) := by decide +kernel
theorem dX11_refused_17 : decode cX11_refused 17 = .ok (.ireturn, 1) := by decide +kernel
set_option maxHeartbeats 4000000 in
set_option maxRecDepth 100000 in
theorem c_X11_refused (l : Launch) (D : va_G) (K : Nat → ClassId) (ad la : Nat → Nat) (rest : va_W)  (a1 : Int32) (σ : xS) (z : Int32 × xS) (hF : F_X11_refused a1 σ = some z) : CI l D K yX11_refused cX11_refused 2 (some .int) 0 0 [.ref (ad 0), .int a1] (CW K ad la rest σ) z.1 (CW K ad la rest z.2) := by
  refine x_enterI [(0, .ref (ad 0)), (1, .int a1)] pnX11 (Nat.le_of_ble_eq_true rfl) rfl ?_
  intro p e s m args below meth c A C
  unfold F_X11_refused at hF
  refine x_aload_n C 0 0 dX11_refused_0 rfl rfl ?_
  refine x_iload_n C 1 1 dX11_refused_1 rfl rfl ?_
  refine x_put C 0 dX11_refused_2 fl_X11_325 fm_X11_14 rfl rfl (CW_0 K ad la rest σ) (Nat.le_of_ble_eq_true rfl) (CW_s0_14 K ad la rest σ _) ?_
  refine x_st (wf := CW K ad la rest) hF (fun σ1 hF => ?_)
  refine x_aload_n C 0 0 dX11_refused_5 rfl rfl ?_
  refine x_get C 0 dX11_refused_6 fl_X11_87 (CW_0 K ad la rest σ1) rfl ?_
  refine x_iload_n C 1 1 dX11_refused_9 rfl rfl ?_
  refine x_ineg C dX11_refused_10 ?_
  refine x_dup2 C rfl rfl dX11_refused_11 ?_
  refine x_iald C 4 dX11_refused_12 (CW_4 K ad la rest σ1) hF (fun v2 hF => ?_)
  refine x_iconst C 1 dX11_refused_13 (by decide +kernel) ?_
  refine x_iadd C dX11_refused_14 ?_
  refine x_iast C 4 dX11_refused_15 (CW_4 K ad la rest σ1) hF (CW_s4 K ad la rest σ1 _) (fun hF => ?_)
  refine x_st (wf := CW K ad la rest) hF (fun σ3 hF => ?_)
  refine x_iload_n C 1 1 dX11_refused_16 rfl rfl ?_
  exact x_iret C dX11_refused_17 rfl (congrArg Prod.fst (Option.some.inj hF)) (congrArg (fun q9 : Int32 × xS => CW K ad la rest q9.2) (Option.some.inj hF))
theorem dX11_addBook_0 : decode cX11_addBook 0 = .ok (.aload_n 0, 1) := by decide +kernel
theorem dX11_addBook_1 : decode cX11_addBook 1 = .ok (.getfield 10, 3) := by decide +kernel
theorem dX11_addBook_4 : decode cX11_addBook 4 = .ok (.getfield 112, 3) := by decide +kernel
theorem dX11_addBook_7 : decode cX11_addBook 7 = .ok (.invokevirtual 206, 3) := by decide +kernel
theorem dX11_addBook_10 : decode cX11_addBook 10 = .ok (.istore 6, 2) := by decide +kernel
theorem dX11_addBook_12 : decode cX11_addBook 12 = .ok (.iload 6, 2) := by decide +kernel
theorem dX11_addBook_14 : decode cX11_addBook 14 = .ok (.iconst (-1), 1) := by decide +kernel
theorem dX11_addBook_15 : decode cX11_addBook 15 = .ok (.if_icmp .eq 75, 3) := by decide +kernel
theorem dX11_addBook_18 : decode cX11_addBook 18 = .ok (.aload_n 0, 1) := by decide +kernel
theorem dX11_addBook_19 : decode cX11_addBook 19 = .ok (.getfield 10, 3) := by decide +kernel
theorem dX11_addBook_22 : decode cX11_addBook 22 = .ok (.getfield 112, 3) := by decide +kernel
theorem dX11_addBook_25 : decode cX11_addBook 25 = .ok (.iload 6, 2) := by decide +kernel
theorem dX11_addBook_27 : decode cX11_addBook 27 = .ok (.iconst 0, 1) := by decide +kernel
theorem dX11_addBook_28 : decode cX11_addBook 28 = .ok (.iload_n 1, 1) := by decide +kernel
theorem dX11_addBook_29 : decode cX11_addBook 29 = .ok (.invokevirtual 126, 3) := by decide +kernel
theorem dX11_addBook_32 : decode cX11_addBook 32 = .ok (.aload_n 0, 1) := by decide +kernel
theorem dX11_addBook_33 : decode cX11_addBook 33 = .ok (.getfield 10, 3) := by decide +kernel
theorem dX11_addBook_36 : decode cX11_addBook 36 = .ok (.getfield 112, 3) := by decide +kernel
theorem dX11_addBook_39 : decode cX11_addBook 39 = .ok (.iload 6, 2) := by decide +kernel
theorem dX11_addBook_41 : decode cX11_addBook 41 = .ok (.iconst 1, 1) := by decide +kernel
theorem dX11_addBook_42 : decode cX11_addBook 42 = .ok (.iload_n 2, 1) := by decide +kernel
theorem dX11_addBook_43 : decode cX11_addBook 43 = .ok (.invokevirtual 126, 3) := by decide +kernel
theorem dX11_addBook_46 : decode cX11_addBook 46 = .ok (.aload_n 0, 1) := by decide +kernel
theorem dX11_addBook_47 : decode cX11_addBook 47 = .ok (.getfield 10, 3) := by decide +kernel
theorem dX11_addBook_50 : decode cX11_addBook 50 = .ok (.getfield 112, 3) := by decide +kernel
theorem dX11_addBook_53 : decode cX11_addBook 53 = .ok (.iload 6, 2) := by decide +kernel
theorem dX11_addBook_55 : decode cX11_addBook 55 = .ok (.iconst 2, 1) := by decide +kernel
theorem dX11_addBook_56 : decode cX11_addBook 56 = .ok (.iload_n 3, 1) := by decide +kernel
theorem dX11_addBook_57 : decode cX11_addBook 57 = .ok (.invokevirtual 126, 3) := by decide +kernel
theorem dX11_addBook_60 : decode cX11_addBook 60 = .ok (.aload_n 0, 1) := by decide +kernel
theorem dX11_addBook_61 : decode cX11_addBook 61 = .ok (.getfield 10, 3) := by decide +kernel
theorem dX11_addBook_64 : decode cX11_addBook 64 = .ok (.getfield 112, 3) := by decide +kernel
theorem dX11_addBook_67 : decode cX11_addBook 67 = .ok (.iload 6, 2) := by decide +kernel
theorem dX11_addBook_69 : decode cX11_addBook 69 = .ok (.iconst 3, 1) := by decide +kernel
theorem dX11_addBook_70 : decode cX11_addBook 70 = .ok (.iload 4, 2) := by decide +kernel
theorem dX11_addBook_72 : decode cX11_addBook 72 = .ok (.invokevirtual 126, 3) := by decide +kernel
theorem dX11_addBook_75 : decode cX11_addBook 75 = .ok (.aload_n 0, 1) := by decide +kernel
theorem dX11_addBook_76 : decode cX11_addBook 76 = .ok (.getfield 10, 3) := by decide +kernel
theorem dX11_addBook_79 : decode cX11_addBook 79 = .ok (.getfield 112, 3) := by decide +kernel
theorem dX11_addBook_82 : decode cX11_addBook 82 = .ok (.iload 6, 2) := by decide +kernel
theorem dX11_addBook_84 : decode cX11_addBook 84 = .ok (.iconst 4, 1) := by decide +kernel
theorem dX11_addBook_85 : decode cX11_addBook 85 = .ok (.iload 5, 2) := by decide +kernel
theorem dX11_addBook_87 : decode cX11_addBook 87 = .ok (.invokevirtual 126, 3) := by decide +kernel
theorem dX11_addBook_90 : decode cX11_addBook 90 = .ok (.iload 6, 2) := by decide +kernel
theorem dX11_addBook_92 : decode cX11_addBook 92 = .ok (.ireturn, 1) := by decide +kernel
set_option maxHeartbeats 4000000 in
set_option maxRecDepth 100000 in
theorem c_X11_addBook (l : Launch) (D : va_G) (K : Nat → ClassId) (ad la : Nat → Nat) (rest : va_W)  (a1 : Int32) (a2 : Int32) (a3 : Int32) (a4 : Int32) (a5 : Int32) (σ : xS) (z : Int32 × xS) (hF : F_X11_addBook a1 a2 a3 a4 a5 σ = some z) : CI l D K yX11_addBook cX11_addBook 7 (some .int) 2 44 [.ref (ad 0), .int a1, .int a2, .int a3, .int a4, .int a5] (CW K ad la rest σ) z.1 (CW K ad la rest z.2) := by
  refine x_enterI [(0, .ref (ad 0)), (1, .int a1), (2, .int a2), (3, .int a3), (4, .int a4), (5, .int a5)] pnX11 (Nat.le_of_ble_eq_true rfl) rfl ?_
  intro p e s m args below meth c A C
  unfold F_X11_addBook at hF
  refine x_aload_n C 0 0 dX11_addBook_0 rfl rfl ?_
  refine x_get C 0 dX11_addBook_1 fl_X11_10 (CW_0 K ad la rest σ) rfl ?_
  refine x_get C 5 dX11_addBook_4 fl_X11_112 (CW_5 K ad la rest σ) rfl ?_
  refine x_callVI C (wf := CW K ad la rest) (As := []) (rest := []) dX11_addBook_7 ml_X11_206 rfl rfl (Nat.le_of_ble_eq_true rfl) 8 (CW_8 K ad la rest σ) rfl ⟨Nat.le_of_ble_eq_true rfl, Nat.le_of_ble_eq_true rfl⟩ ⟨Nat.zero_le _, Nat.zero_le _⟩ (fun q9 hq9 => c_X6_open l D K ad la rest 0 (by decide) σ q9 hq9) hF (fun v2 σ1 hF => ?_)
  refine x_istore C [(6, .int v2), (0, .ref (ad 0)), (1, .int a1), (2, .int a2), (3, .int a3), (4, .int a4), (5, .int a5)] dX11_addBook_10 (by decide) rfl ?_
  refine x_iload C 0 6 dX11_addBook_12 rfl ?_
  refine x_iconst C (-1) dX11_addBook_14 (by decide +kernel) ?_
  refine x_icmp_eq C 90 dX11_addBook_15 (by decide) hF (fun hF => ?_) (fun hF => ?_)
  · refine x_iload C 0 6 dX11_addBook_90 rfl ?_
    exact x_iret C dX11_addBook_92 rfl (congrArg Prod.fst (Option.some.inj hF)) (congrArg (fun q9 : Int32 × xS => CW K ad la rest q9.2) (Option.some.inj hF))
  · refine x_aload_n C 1 0 dX11_addBook_18 rfl rfl ?_
    refine x_get C 0 dX11_addBook_19 fl_X11_10 (CW_0 K ad la rest σ1) rfl ?_
    refine x_get C 5 dX11_addBook_22 fl_X11_112 (CW_5 K ad la rest σ1) rfl ?_
    refine x_iload C 0 6 dX11_addBook_25 rfl ?_
    refine x_iconst C 0 dX11_addBook_27 (by decide +kernel) ?_
    refine x_iload_n C 2 1 dX11_addBook_28 rfl rfl ?_
    refine x_callVV C (wf := CW K ad la rest) (As := [.int v2, .int 0, .int a1]) (rest := []) dX11_addBook_29 ml_X11_126 rfl rfl (Nat.le_of_ble_eq_true rfl) 8 (CW_8 K ad la rest σ1) rfl ⟨Nat.le_of_ble_eq_true rfl, Nat.le_of_ble_eq_true rfl⟩ ⟨Nat.zero_le _, Nat.zero_le _⟩ (fun q9 hq9 => c_X6_set l D K ad la rest 0 (by decide) v2 0 a1 σ1 q9 hq9) hF (fun _ σ3 hF => ?_)
    refine x_aload_n C 1 0 dX11_addBook_32 rfl rfl ?_
    refine x_get C 0 dX11_addBook_33 fl_X11_10 (CW_0 K ad la rest σ3) rfl ?_
    refine x_get C 5 dX11_addBook_36 fl_X11_112 (CW_5 K ad la rest σ3) rfl ?_
    refine x_iload C 0 6 dX11_addBook_39 rfl ?_
    refine x_iconst C 1 dX11_addBook_41 (by decide +kernel) ?_
    refine x_iload_n C 3 2 dX11_addBook_42 rfl rfl ?_
    refine x_callVV C (wf := CW K ad la rest) (As := [.int v2, .int 1, .int a2]) (rest := []) dX11_addBook_43 ml_X11_126 rfl rfl (Nat.le_of_ble_eq_true rfl) 8 (CW_8 K ad la rest σ3) rfl ⟨Nat.le_of_ble_eq_true rfl, Nat.le_of_ble_eq_true rfl⟩ ⟨Nat.zero_le _, Nat.zero_le _⟩ (fun q9 hq9 => c_X6_set l D K ad la rest 0 (by decide) v2 1 a2 σ3 q9 hq9) hF (fun _ σ4 hF => ?_)
    refine x_aload_n C 1 0 dX11_addBook_46 rfl rfl ?_
    refine x_get C 0 dX11_addBook_47 fl_X11_10 (CW_0 K ad la rest σ4) rfl ?_
    refine x_get C 5 dX11_addBook_50 fl_X11_112 (CW_5 K ad la rest σ4) rfl ?_
    refine x_iload C 0 6 dX11_addBook_53 rfl ?_
    refine x_iconst C 2 dX11_addBook_55 (by decide +kernel) ?_
    refine x_iload_n C 4 3 dX11_addBook_56 rfl rfl ?_
    refine x_callVV C (wf := CW K ad la rest) (As := [.int v2, .int 2, .int a3]) (rest := []) dX11_addBook_57 ml_X11_126 rfl rfl (Nat.le_of_ble_eq_true rfl) 8 (CW_8 K ad la rest σ4) rfl ⟨Nat.le_of_ble_eq_true rfl, Nat.le_of_ble_eq_true rfl⟩ ⟨Nat.zero_le _, Nat.zero_le _⟩ (fun q9 hq9 => c_X6_set l D K ad la rest 0 (by decide) v2 2 a3 σ4 q9 hq9) hF (fun _ σ5 hF => ?_)
    refine x_aload_n C 1 0 dX11_addBook_60 rfl rfl ?_
    refine x_get C 0 dX11_addBook_61 fl_X11_10 (CW_0 K ad la rest σ5) rfl ?_
    refine x_get C 5 dX11_addBook_64 fl_X11_112 (CW_5 K ad la rest σ5) rfl ?_
    refine x_iload C 0 6 dX11_addBook_67 rfl ?_
    refine x_iconst C 3 dX11_addBook_69 (by decide +kernel) ?_
    refine x_iload C 5 4 dX11_addBook_70 rfl ?_
    refine x_callVV C (wf := CW K ad la rest) (As := [.int v2, .int 3, .int a4]) (rest := []) dX11_addBook_72 ml_X11_126 rfl rfl (Nat.le_of_ble_eq_true rfl) 8 (CW_8 K ad la rest σ5) rfl ⟨Nat.le_of_ble_eq_true rfl, Nat.le_of_ble_eq_true rfl⟩ ⟨Nat.zero_le _, Nat.zero_le _⟩ (fun q9 hq9 => c_X6_set l D K ad la rest 0 (by decide) v2 3 a4 σ5 q9 hq9) hF (fun _ σ6 hF => ?_)
    refine x_aload_n C 1 0 dX11_addBook_75 rfl rfl ?_
    refine x_get C 0 dX11_addBook_76 fl_X11_10 (CW_0 K ad la rest σ6) rfl ?_
    refine x_get C 5 dX11_addBook_79 fl_X11_112 (CW_5 K ad la rest σ6) rfl ?_
    refine x_iload C 0 6 dX11_addBook_82 rfl ?_
    refine x_iconst C 4 dX11_addBook_84 (by decide +kernel) ?_
    refine x_iload C 6 5 dX11_addBook_85 rfl ?_
    refine x_callVV C (wf := CW K ad la rest) (As := [.int v2, .int 4, .int a5]) (rest := []) dX11_addBook_87 ml_X11_126 rfl rfl (Nat.le_of_ble_eq_true rfl) 8 (CW_8 K ad la rest σ6) rfl ⟨Nat.le_of_ble_eq_true rfl, Nat.le_of_ble_eq_true rfl⟩ ⟨Nat.zero_le _, Nat.zero_le _⟩ (fun q9 hq9 => c_X6_set l D K ad la rest 0 (by decide) v2 4 a5 σ6 q9 hq9) hF (fun _ σ7 hF => ?_)
    refine x_iload C 0 6 dX11_addBook_90 rfl ?_
    exact x_iret C dX11_addBook_92 rfl (congrArg Prod.fst (Option.some.inj hF)) (congrArg (fun q9 : Int32 × xS => CW K ad la rest q9.2) (Option.some.inj hF))
theorem dX11_accepted_0 : decode cX11_accepted 0 = .ok (.aload_n 0, 1) := by decide +kernel
theorem dX11_accepted_1 : decode cX11_accepted 1 = .ok (.iconst 0, 1) := by decide +kernel
theorem dX11_accepted_2 : decode cX11_accepted 2 = .ok (.putfield 325, 3) := by decide +kernel
theorem dX11_accepted_5 : decode cX11_accepted 5 = .ok (.iload_n 1, 1) := by decide +kernel
theorem dX11_accepted_6 : decode cX11_accepted 6 = .ok (.ireturn, 1) := by decide +kernel
set_option maxHeartbeats 4000000 in
set_option maxRecDepth 100000 in
theorem c_X11_accepted (l : Launch) (D : va_G) (K : Nat → ClassId) (ad la : Nat → Nat) (rest : va_W)  (a1 : Int32) (σ : xS) (z : Int32 × xS) (hF : F_X11_accepted a1 σ = some z) : CI l D K yX11_accepted cX11_accepted 2 (some .int) 0 0 [.ref (ad 0), .int a1] (CW K ad la rest σ) z.1 (CW K ad la rest z.2) := by
  refine x_enterI [(0, .ref (ad 0)), (1, .int a1)] pnX11 (Nat.le_of_ble_eq_true rfl) rfl ?_
  intro p e s m args below meth c A C
  unfold F_X11_accepted at hF
  refine x_aload_n C 0 0 dX11_accepted_0 rfl rfl ?_
  refine x_iconst C 0 dX11_accepted_1 (by decide +kernel) ?_
  refine x_put C 0 dX11_accepted_2 fl_X11_325 fm_X11_14 rfl rfl (CW_0 K ad la rest σ) (Nat.le_of_ble_eq_true rfl) (CW_s0_14 K ad la rest σ _) ?_
  refine x_st (wf := CW K ad la rest) hF (fun σ1 hF => ?_)
  refine x_iload_n C 1 1 dX11_accepted_5 rfl rfl ?_
  exact x_iret C dX11_accepted_6 rfl (congrArg Prod.fst (Option.some.inj hF)) (congrArg (fun q9 : Int32 × xS => CW K ad la rest q9.2) (Option.some.inj hF))
theorem dX11_book_0 : decode cX11_book 0 = .ok (.iload_n 1, 1) := by decide +kernel
theorem dX11_book_1 : decode cX11_book 1 = .ok (.iload_n 2, 1) := by decide +kernel
theorem dX11_book_2 : decode cX11_book 2 = .ok (.iload_n 3, 1) := by decide +kernel
theorem dX11_book_3 : decode cX11_book 3 = .ok (.iload 4, 2) := by decide +kernel
theorem dX11_book_5 : decode cX11_book 5 = .ok (.iload 5, 2) := by decide +kernel
theorem dX11_book_7 : decode cX11_book 7 = .ok (.invokestatic 90, 3) := by decide +kernel
theorem dX11_book_10 : decode cX11_book 10 = .ok (.ifCond .ne 9, 3) := by decide +kernel
theorem dX11_book_13 : decode cX11_book 13 = .ok (.aload_n 0, 1) := by decide +kernel
theorem dX11_book_14 : decode cX11_book 14 = .ok (.iconst (-1), 1) := by decide +kernel
theorem dX11_book_15 : decode cX11_book 15 = .ok (.invokevirtual 94, 3) := by decide +kernel
theorem dX11_book_18 : decode cX11_book 18 = .ok (.ireturn, 1) := by decide +kernel
theorem dX11_book_19 : decode cX11_book 19 = .ok (.aload_n 0, 1) := by decide +kernel
theorem dX11_book_20 : decode cX11_book 20 = .ok (.iload_n 1, 1) := by decide +kernel
theorem dX11_book_21 : decode cX11_book 21 = .ok (.iload_n 2, 1) := by decide +kernel
theorem dX11_book_22 : decode cX11_book 22 = .ok (.iload_n 3, 1) := by decide +kernel
theorem dX11_book_23 : decode cX11_book 23 = .ok (.iload 4, 2) := by decide +kernel
theorem dX11_book_25 : decode cX11_book 25 = .ok (.iload 5, 2) := by decide +kernel
theorem dX11_book_27 : decode cX11_book 27 = .ok (.invokevirtual 98, 3) := by decide +kernel
theorem dX11_book_30 : decode cX11_book 30 = .ok (.istore 6, 2) := by decide +kernel
theorem dX11_book_32 : decode cX11_book 32 = .ok (.iload 6, 2) := by decide +kernel
theorem dX11_book_34 : decode cX11_book 34 = .ok (.iconst (-1), 1) := by decide +kernel
theorem dX11_book_35 : decode cX11_book 35 = .ok (.if_icmp .ne 12, 3) := by decide +kernel
theorem dX11_book_38 : decode cX11_book 38 = .ok (.aload_n 0, 1) := by decide +kernel
theorem dX11_book_39 : decode cX11_book 39 = .ok (.bipush (-5), 2) := by decide +kernel
theorem dX11_book_41 : decode cX11_book 41 = .ok (.invokevirtual 94, 3) := by decide +kernel
theorem dX11_book_44 : decode cX11_book 44 = .ok (.goto 9, 3) := by decide +kernel
theorem dX11_book_47 : decode cX11_book 47 = .ok (.aload_n 0, 1) := by decide +kernel
theorem dX11_book_48 : decode cX11_book 48 = .ok (.iload 6, 2) := by decide +kernel
theorem dX11_book_50 : decode cX11_book 50 = .ok (.invokevirtual 102, 3) := by decide +kernel
theorem dX11_book_53 : decode cX11_book 53 = .ok (.ireturn, 1) := by decide +kernel
set_option maxHeartbeats 4000000 in
set_option maxRecDepth 100000 in
theorem c_X11_book (l : Launch) (D : va_G) (K : Nat → ClassId) (ad la : Nat → Nat) (rest : va_W)  (a1 : Int32) (a2 : Int32) (a3 : Int32) (a4 : Int32) (a5 : Int32) (σ : xS) (z : Int32 × xS) (hF : F_X11_book a1 a2 a3 a4 a5 σ = some z) : CI l D K yX11_book cX11_book 7 (some .int) 3 70 [.ref (ad 0), .int a1, .int a2, .int a3, .int a4, .int a5] (CW K ad la rest σ) z.1 (CW K ad la rest z.2) := by
  refine x_enterI [(0, .ref (ad 0)), (1, .int a1), (2, .int a2), (3, .int a3), (4, .int a4), (5, .int a5)] pnX11 (Nat.le_of_ble_eq_true rfl) rfl ?_
  intro p e s m args below meth c A C
  unfold F_X11_book at hF
  refine x_iload_n C 1 1 dX11_book_0 rfl rfl ?_
  refine x_iload_n C 2 2 dX11_book_1 rfl rfl ?_
  refine x_iload_n C 3 3 dX11_book_2 rfl rfl ?_
  refine x_iload C 4 4 dX11_book_3 rfl ?_
  refine x_iload C 5 5 dX11_book_5 rfl ?_
  refine x_callSI C (wf := CW K ad la rest) (As := [.int a1, .int a2, .int a3, .int a4, .int a5]) (rest := []) dX11_book_7 ml_X11_90 rfl rfl (Nat.le_of_ble_eq_true rfl) ⟨Nat.le_of_ble_eq_true rfl, Nat.le_of_ble_eq_true rfl⟩ ⟨Nat.zero_le _, Nat.zero_le _⟩ (fun q9 hq9 => c_X11_bookCanBe l D K ad la rest a1 a2 a3 a4 a5 σ q9 hq9) hF (fun v2 σ1 hF => ?_)
  refine x_if_ne C 19 dX11_book_10 (by decide) hF (fun hF => ?_) (fun hF => ?_)
  · refine x_aload_n C 0 0 dX11_book_19 rfl rfl ?_
    refine x_iload_n C 1 1 dX11_book_20 rfl rfl ?_
    refine x_iload_n C 2 2 dX11_book_21 rfl rfl ?_
    refine x_iload_n C 3 3 dX11_book_22 rfl rfl ?_
    refine x_iload C 4 4 dX11_book_23 rfl ?_
    refine x_iload C 5 5 dX11_book_25 rfl ?_
    refine x_callVI C (wf := CW K ad la rest) (As := [.int a1, .int a2, .int a3, .int a4, .int a5]) (rest := []) dX11_book_27 ml_X11_98 rfl rfl (Nat.le_of_ble_eq_true rfl) 0 (CW_0 K ad la rest σ1) rfl ⟨Nat.le_of_ble_eq_true rfl, Nat.le_of_ble_eq_true rfl⟩ ⟨Nat.zero_le _, Nat.zero_le _⟩ (fun q9 hq9 => c_X11_addBook l D K ad la rest a1 a2 a3 a4 a5 σ1 q9 hq9) hF (fun v4 σ3 hF => ?_)
    refine x_istore C [(6, .int v4), (0, .ref (ad 0)), (1, .int a1), (2, .int a2), (3, .int a3), (4, .int a4), (5, .int a5)] dX11_book_30 (by decide) rfl ?_
    refine x_iload C 0 6 dX11_book_32 rfl ?_
    refine x_iconst C (-1) dX11_book_34 (by decide +kernel) ?_
    refine x_icmp_ne C 47 dX11_book_35 (by decide) hF (fun hF => ?_) (fun hF => ?_)
    · refine x_aload_n C 1 0 dX11_book_47 rfl rfl ?_
      refine x_iload C 0 6 dX11_book_48 rfl ?_
      refine x_callVI C (wf := CW K ad la rest) (As := [.int v4]) (rest := []) dX11_book_50 ml_X11_102 rfl rfl (Nat.le_of_ble_eq_true rfl) 0 (CW_0 K ad la rest σ3) rfl ⟨Nat.le_of_ble_eq_true rfl, Nat.le_of_ble_eq_true rfl⟩ ⟨Nat.zero_le _, Nat.zero_le _⟩ (fun q9 hq9 => c_X11_accepted l D K ad la rest v4 σ3 q9 hq9) hF (fun v6 σ5 hF => ?_)
      exact x_iret C dX11_book_53 rfl (congrArg Prod.fst (Option.some.inj hF)) (congrArg (fun q9 : Int32 × xS => CW K ad la rest q9.2) (Option.some.inj hF))
    · refine x_aload_n C 1 0 dX11_book_38 rfl rfl ?_
      refine x_bipush C (-5) dX11_book_39 (by decide +kernel) ?_
      refine x_callVI C (wf := CW K ad la rest) (As := [.int ((-5))]) (rest := []) dX11_book_41 ml_X11_94 rfl rfl (Nat.le_of_ble_eq_true rfl) 0 (CW_0 K ad la rest σ3) rfl ⟨Nat.le_of_ble_eq_true rfl, Nat.le_of_ble_eq_true rfl⟩ ⟨Nat.zero_le _, Nat.zero_le _⟩ (fun q9 hq9 => c_X11_refused l D K ad la rest ((-5)) σ3 q9 hq9) hF (fun v8 σ7 hF => ?_)
      refine x_goto C 53 dX11_book_44 (by decide) ?_
      exact x_iret C dX11_book_53 rfl (congrArg Prod.fst (Option.some.inj hF)) (congrArg (fun q9 : Int32 × xS => CW K ad la rest q9.2) (Option.some.inj hF))
  · refine x_aload_n C 0 0 dX11_book_13 rfl rfl ?_
    refine x_iconst C (-1) dX11_book_14 (by decide +kernel) ?_
    refine x_callVI C (wf := CW K ad la rest) (As := [.int ((-1))]) (rest := []) dX11_book_15 ml_X11_94 rfl rfl (Nat.le_of_ble_eq_true rfl) 0 (CW_0 K ad la rest σ1) rfl ⟨Nat.le_of_ble_eq_true rfl, Nat.le_of_ble_eq_true rfl⟩ ⟨Nat.zero_le _, Nat.zero_le _⟩ (fun q9 hq9 => c_X11_refused l D K ad la rest ((-1)) σ1 q9 hq9) hF (fun v10 σ9 hF => ?_)
    exact x_iret C dX11_book_18 rfl (congrArg Prod.fst (Option.some.inj hF)) (congrArg (fun q9 : Int32 × xS => CW K ad la rest q9.2) (Option.some.inj hF))
theorem dX11_put_0 : decode cX11_put 0 = .ok (.iload_n 2, 1) := by decide +kernel
theorem dX11_put_1 : decode cX11_put 1 = .ok (.iconst 0, 1) := by decide +kernel
theorem dX11_put_2 : decode cX11_put 2 = .ok (.iconst 4, 1) := by decide +kernel
theorem dX11_put_3 : decode cX11_put 3 = .ok (.invokestatic 105, 3) := by decide +kernel
theorem dX11_put_6 : decode cX11_put 6 = .ok (.ifCond .eq 16, 3) := by decide +kernel
theorem dX11_put_9 : decode cX11_put 9 = .ok (.iload_n 3, 1) := by decide +kernel
theorem dX11_put_10 : decode cX11_put 10 = .ok (.iconst 0, 1) := by decide +kernel
theorem dX11_put_11 : decode cX11_put 11 = .ok (.getstatic 109, 3) := by decide +kernel
theorem dX11_put_14 : decode cX11_put 14 = .ok (.iload_n 2, 1) := by decide +kernel
theorem dX11_put_15 : decode cX11_put 15 = .ok (.iaload, 1) := by decide +kernel
theorem dX11_put_16 : decode cX11_put 16 = .ok (.invokestatic 105, 3) := by decide +kernel
theorem dX11_put_19 : decode cX11_put 19 = .ok (.ifCond .ne 9, 3) := by decide +kernel
theorem dX11_put_22 : decode cX11_put 22 = .ok (.aload_n 0, 1) := by decide +kernel
theorem dX11_put_23 : decode cX11_put 23 = .ok (.iconst (-1), 1) := by decide +kernel
theorem dX11_put_24 : decode cX11_put 24 = .ok (.invokevirtual 94, 3) := by decide +kernel
theorem dX11_put_27 : decode cX11_put 27 = .ok (.ireturn, 1) := by decide +kernel
theorem dX11_put_28 : decode cX11_put 28 = .ok (.aload_n 0, 1) := by decide +kernel
theorem dX11_put_29 : decode cX11_put 29 = .ok (.getfield 10, 3) := by decide +kernel
theorem dX11_put_32 : decode cX11_put 32 = .ok (.getfield 112, 3) := by decide +kernel
theorem dX11_put_35 : decode cX11_put 35 = .ok (.iload_n 1, 1) := by decide +kernel
theorem dX11_put_36 : decode cX11_put 36 = .ok (.invokevirtual 116, 3) := by decide +kernel
theorem dX11_put_39 : decode cX11_put 39 = .ok (.ifCond .ne 10, 3) := by decide +kernel
theorem dX11_put_42 : decode cX11_put 42 = .ok (.aload_n 0, 1) := by decide +kernel
theorem dX11_put_43 : decode cX11_put 43 = .ok (.bipush (-2), 2) := by decide +kernel
theorem dX11_put_45 : decode cX11_put 45 = .ok (.invokevirtual 94, 3) := by decide +kernel
theorem dX11_put_48 : decode cX11_put 48 = .ok (.ireturn, 1) := by decide +kernel
theorem dX11_put_49 : decode cX11_put 49 = .ok (.aload_n 0, 1) := by decide +kernel
theorem dX11_put_50 : decode cX11_put 50 = .ok (.getfield 10, 3) := by decide +kernel
theorem dX11_put_53 : decode cX11_put 53 = .ok (.getfield 112, 3) := by decide +kernel
theorem dX11_put_56 : decode cX11_put 56 = .ok (.iload_n 1, 1) := by decide +kernel
theorem dX11_put_57 : decode cX11_put 57 = .ok (.iload_n 2, 1) := by decide +kernel
theorem dX11_put_58 : decode cX11_put 58 = .ok (.invokevirtual 122, 3) := by decide +kernel
theorem dX11_put_61 : decode cX11_put 61 = .ok (.istore 4, 2) := by decide +kernel
theorem dX11_put_63 : decode cX11_put 63 = .ok (.aload_n 0, 1) := by decide +kernel
theorem dX11_put_64 : decode cX11_put 64 = .ok (.getfield 10, 3) := by decide +kernel
theorem dX11_put_67 : decode cX11_put 67 = .ok (.getfield 112, 3) := by decide +kernel
theorem dX11_put_70 : decode cX11_put 70 = .ok (.iload_n 1, 1) := by decide +kernel
theorem dX11_put_71 : decode cX11_put 71 = .ok (.iload_n 2, 1) := by decide +kernel
theorem dX11_put_72 : decode cX11_put 72 = .ok (.iload_n 3, 1) := by decide +kernel
theorem dX11_put_73 : decode cX11_put 73 = .ok (.invokevirtual 126, 3) := by decide +kernel
theorem dX11_put_76 : decode cX11_put 76 = .ok (.aload_n 0, 1) := by decide +kernel
theorem dX11_put_77 : decode cX11_put 77 = .ok (.iload 4, 2) := by decide +kernel
theorem dX11_put_79 : decode cX11_put 79 = .ok (.invokevirtual 102, 3) := by decide +kernel
theorem dX11_put_82 : decode cX11_put 82 = .ok (.ireturn, 1) := by decide +kernel
set_option maxHeartbeats 4000000 in
set_option maxRecDepth 100000 in
theorem x_X11_put_22 {p : Program} {l : Launch} {e : Env} {s : State} {m : MethodId} {args : Array Value} {below : List Frame} {meth : Method} {c : Code} {D : va_G} {K : Nat → ClassId} {A : Nat → Prop} {ad la : Nat → Nat} {rest : va_W} (C : xC p s m args meth c D K A RX11 cX11_put 5 (some .int)) (z : Int32 × xS) : ∀  (σ : xS), F_X11_put_22  σ = some z → X p l e (xR 2 44) s m args below meth c D A 5 (xQi below D K A args s z.1 (CW K ad la rest z.2)) 0 0 22 [(0, .ref (ad 0))] [] (CW K ad la rest σ) := by
  intro σ hF
  unfold F_X11_put_22 at hF
  refine x_aload_n C 0 0 dX11_put_22 rfl rfl ?_
  refine x_iconst C (-1) dX11_put_23 (by decide +kernel) ?_
  refine x_callVI C (wf := CW K ad la rest) (As := [.int ((-1))]) (rest := []) dX11_put_24 ml_X11_94 rfl rfl (Nat.le_of_ble_eq_true rfl) 0 (CW_0 K ad la rest σ) rfl ⟨Nat.le_of_ble_eq_true rfl, Nat.le_of_ble_eq_true rfl⟩ ⟨Nat.zero_le _, Nat.zero_le _⟩ (fun q9 hq9 => c_X11_refused l D K ad la rest ((-1)) σ q9 hq9) hF (fun v17 σ16 hF => ?_)
  exact x_iret C dX11_put_27 rfl (congrArg Prod.fst (Option.some.inj hF)) (congrArg (fun q9 : Int32 × xS => CW K ad la rest q9.2) (Option.some.inj hF))
set_option maxHeartbeats 4000000 in
set_option maxRecDepth 100000 in
theorem c_X11_put (l : Launch) (D : va_G) (K : Nat → ClassId) (ad la : Nat → Nat) (rest : va_W)  (a1 : Int32) (a2 : Int32) (a3 : Int32) (σ : xS) (z : Int32 × xS) (hF : F_X11_put a1 a2 a3 σ = some z) : CI l D K yX11_put cX11_put 5 (some .int) 2 44 [.ref (ad 0), .int a1, .int a2, .int a3] (CW K ad la rest σ) z.1 (CW K ad la rest z.2) := by
  refine x_enterI [(0, .ref (ad 0)), (1, .int a1), (2, .int a2), (3, .int a3)] pnX11 (Nat.le_of_ble_eq_true rfl) rfl ?_
  intro p e s m args below meth c A C
  unfold F_X11_put at hF
  refine x_iload_n C 2 2 dX11_put_0 rfl rfl ?_
  refine x_iconst C 0 dX11_put_1 (by decide +kernel) ?_
  refine x_iconst C 4 dX11_put_2 (by decide +kernel) ?_
  refine x_callSI C (wf := CW K ad la rest) (As := [.int a2, .int 0, .int 4]) (rest := []) dX11_put_3 ml_X11_105 rfl rfl (Nat.le_of_ble_eq_true rfl) ⟨Nat.le_of_ble_eq_true rfl, Nat.le_of_ble_eq_true rfl⟩ ⟨Nat.zero_le _, Nat.zero_le _⟩ (fun q9 hq9 => c_X11_isWithin l D K ad la rest a2 0 4 σ q9 hq9) hF (fun v2 σ1 hF => ?_)
  refine x_if_eq C 22 dX11_put_6 (by decide) hF (fun hF => ?_) (fun hF => ?_)
  · refine x_loc [(0, .ref (ad 0))] [0] rfl ?_
    exact x_X11_put_22 C z σ1 hF
  · refine x_iload_n C 3 3 dX11_put_9 rfl rfl ?_
    refine x_iconst C 0 dX11_put_10 (by decide +kernel) ?_
    refine x_tabZ C C.2.2.2.2.2.2.2.2.2.1 dX11_put_11 (xT_mem (List.mem_append_right _ (List.mem_of_getElem? (i := 405) (by decide +kernel))) (by decide +kernel)) (fun t3 ht3 => ?_)
    refine x_iload_n C 2 2 dX11_put_14 rfl rfl ?_
    refine x_tabI C ht3 dX11_put_15 hF (fun v4 hF => ?_)
    refine x_callSI C (wf := CW K ad la rest) (As := [.int a3, .int 0, .int v4]) (rest := []) dX11_put_16 ml_X11_105 rfl rfl (Nat.le_of_ble_eq_true rfl) ⟨Nat.le_of_ble_eq_true rfl, Nat.le_of_ble_eq_true rfl⟩ ⟨Nat.zero_le _, Nat.zero_le _⟩ (fun q9 hq9 => c_X11_isWithin l D K ad la rest a3 0 v4 σ1 q9 hq9) hF (fun v6 σ5 hF => ?_)
    refine x_if_ne C 28 dX11_put_19 (by decide) hF (fun hF => ?_) (fun hF => ?_)
    · refine x_aload_n C 0 0 dX11_put_28 rfl rfl ?_
      refine x_get C 0 dX11_put_29 fl_X11_10 (CW_0 K ad la rest σ5) rfl ?_
      refine x_get C 5 dX11_put_32 fl_X11_112 (CW_5 K ad la rest σ5) rfl ?_
      refine x_iload_n C 1 1 dX11_put_35 rfl rfl ?_
      refine x_callVI C (wf := CW K ad la rest) (As := [.int a1]) (rest := []) dX11_put_36 ml_X11_116 rfl rfl (Nat.le_of_ble_eq_true rfl) 8 (CW_8 K ad la rest σ5) rfl ⟨Nat.le_of_ble_eq_true rfl, Nat.le_of_ble_eq_true rfl⟩ ⟨Nat.zero_le _, Nat.zero_le _⟩ (fun q9 hq9 => c_X6_has l D K ad la rest 0 (by decide) a1 σ5 q9 hq9) hF (fun v8 σ7 hF => ?_)
      refine x_if_ne C 49 dX11_put_39 (by decide) hF (fun hF => ?_) (fun hF => ?_)
      · refine x_aload_n C 0 0 dX11_put_49 rfl rfl ?_
        refine x_get C 0 dX11_put_50 fl_X11_10 (CW_0 K ad la rest σ7) rfl ?_
        refine x_get C 5 dX11_put_53 fl_X11_112 (CW_5 K ad la rest σ7) rfl ?_
        refine x_iload_n C 1 1 dX11_put_56 rfl rfl ?_
        refine x_iload_n C 2 2 dX11_put_57 rfl rfl ?_
        refine x_callVI C (wf := CW K ad la rest) (As := [.int a1, .int a2]) (rest := []) dX11_put_58 ml_X11_122 rfl rfl (Nat.le_of_ble_eq_true rfl) 8 (CW_8 K ad la rest σ7) rfl ⟨Nat.le_of_ble_eq_true rfl, Nat.le_of_ble_eq_true rfl⟩ ⟨Nat.zero_le _, Nat.zero_le _⟩ (fun q9 hq9 => c_X6_get l D K ad la rest 0 (by decide) a1 a2 σ7 q9 hq9) hF (fun v10 σ9 hF => ?_)
        refine x_istore C [(4, .int v10), (0, .ref (ad 0)), (1, .int a1), (2, .int a2), (3, .int a3)] dX11_put_61 (by decide) rfl ?_
        refine x_aload_n C 1 0 dX11_put_63 rfl rfl ?_
        refine x_get C 0 dX11_put_64 fl_X11_10 (CW_0 K ad la rest σ9) rfl ?_
        refine x_get C 5 dX11_put_67 fl_X11_112 (CW_5 K ad la rest σ9) rfl ?_
        refine x_iload_n C 2 1 dX11_put_70 rfl rfl ?_
        refine x_iload_n C 3 2 dX11_put_71 rfl rfl ?_
        refine x_iload_n C 4 3 dX11_put_72 rfl rfl ?_
        refine x_callVV C (wf := CW K ad la rest) (As := [.int a1, .int a2, .int a3]) (rest := []) dX11_put_73 ml_X11_126 rfl rfl (Nat.le_of_ble_eq_true rfl) 8 (CW_8 K ad la rest σ9) rfl ⟨Nat.le_of_ble_eq_true rfl, Nat.le_of_ble_eq_true rfl⟩ ⟨Nat.zero_le _, Nat.zero_le _⟩ (fun q9 hq9 => c_X6_set l D K ad la rest 0 (by decide) a1 a2 a3 σ9 q9 hq9) hF (fun _ σ11 hF => ?_)
        refine x_aload_n C 1 0 dX11_put_76 rfl rfl ?_
        refine x_iload C 0 4 dX11_put_77 rfl ?_
        refine x_callVI C (wf := CW K ad la rest) (As := [.int v10]) (rest := []) dX11_put_79 ml_X11_102 rfl rfl (Nat.le_of_ble_eq_true rfl) 0 (CW_0 K ad la rest σ11) rfl ⟨Nat.le_of_ble_eq_true rfl, Nat.le_of_ble_eq_true rfl⟩ ⟨Nat.zero_le _, Nat.zero_le _⟩ (fun q9 hq9 => c_X11_accepted l D K ad la rest v10 σ11 q9 hq9) hF (fun v13 σ12 hF => ?_)
        exact x_iret C dX11_put_82 rfl (congrArg Prod.fst (Option.some.inj hF)) (congrArg (fun q9 : Int32 × xS => CW K ad la rest q9.2) (Option.some.inj hF))
      · refine x_aload_n C 0 0 dX11_put_42 rfl rfl ?_
        refine x_bipush C (-2) dX11_put_43 (by decide +kernel) ?_
        refine x_callVI C (wf := CW K ad la rest) (As := [.int ((-2))]) (rest := []) dX11_put_45 ml_X11_94 rfl rfl (Nat.le_of_ble_eq_true rfl) 0 (CW_0 K ad la rest σ7) rfl ⟨Nat.le_of_ble_eq_true rfl, Nat.le_of_ble_eq_true rfl⟩ ⟨Nat.zero_le _, Nat.zero_le _⟩ (fun q9 hq9 => c_X11_refused l D K ad la rest ((-2)) σ7 q9 hq9) hF (fun v15 σ14 hF => ?_)
        exact x_iret C dX11_put_48 rfl (congrArg Prod.fst (Option.some.inj hF)) (congrArg (fun q9 : Int32 × xS => CW K ad la rest q9.2) (Option.some.inj hF))
    · refine x_loc [(0, .ref (ad 0))] [0] rfl ?_
      exact x_X11_put_22 C z σ5 hF
theorem dX11_of_0 : decode cX11_of 0 = .ok (.aload_n 0, 1) := by decide +kernel
theorem dX11_of_1 : decode cX11_of 1 = .ok (.getfield 10, 3) := by decide +kernel
theorem dX11_of_4 : decode cX11_of 4 = .ok (.getfield 112, 3) := by decide +kernel
theorem dX11_of_7 : decode cX11_of 7 = .ok (.iload_n 1, 1) := by decide +kernel
theorem dX11_of_8 : decode cX11_of 8 = .ok (.iload_n 2, 1) := by decide +kernel
theorem dX11_of_9 : decode cX11_of 9 = .ok (.invokevirtual 122, 3) := by decide +kernel
theorem dX11_of_12 : decode cX11_of 12 = .ok (.ireturn, 1) := by decide +kernel
set_option maxHeartbeats 4000000 in
set_option maxRecDepth 100000 in
theorem c_X11_of (l : Launch) (D : va_G) (K : Nat → ClassId) (ad la : Nat → Nat) (rest : va_W)  (a1 : Int32) (a2 : Int32) (σ : xS) (z : Int32 × xS) (hF : F_X11_of a1 a2 σ = some z) : CI l D K yX11_of cX11_of 3 (some .int) 2 43 [.ref (ad 0), .int a1, .int a2] (CW K ad la rest σ) z.1 (CW K ad la rest z.2) := by
  refine x_enterI [(0, .ref (ad 0)), (1, .int a1), (2, .int a2)] pnX11 (Nat.le_of_ble_eq_true rfl) rfl ?_
  intro p e s m args below meth c A C
  unfold F_X11_of at hF
  refine x_aload_n C 0 0 dX11_of_0 rfl rfl ?_
  refine x_get C 0 dX11_of_1 fl_X11_10 (CW_0 K ad la rest σ) rfl ?_
  refine x_get C 5 dX11_of_4 fl_X11_112 (CW_5 K ad la rest σ) rfl ?_
  refine x_iload_n C 1 1 dX11_of_7 rfl rfl ?_
  refine x_iload_n C 2 2 dX11_of_8 rfl rfl ?_
  refine x_callVI C (wf := CW K ad la rest) (As := [.int a1, .int a2]) (rest := []) dX11_of_9 ml_X11_122 rfl rfl (Nat.le_of_ble_eq_true rfl) 8 (CW_8 K ad la rest σ) rfl ⟨Nat.le_of_ble_eq_true rfl, Nat.le_of_ble_eq_true rfl⟩ ⟨Nat.zero_le _, Nat.zero_le _⟩ (fun q9 hq9 => c_X6_get l D K ad la rest 0 (by decide) a1 a2 σ q9 hq9) hF (fun v2 σ1 hF => ?_)
  exact x_iret C dX11_of_12 rfl (congrArg Prod.fst (Option.some.inj hF)) (congrArg (fun q9 : Int32 × xS => CW K ad la rest q9.2) (Option.some.inj hF))
theorem dX11_removed_0 : decode cX11_removed 0 = .ok (.aload_n 1, 1) := by decide +kernel
theorem dX11_removed_1 : decode cX11_removed 1 = .ok (.iload_n 2, 1) := by decide +kernel
theorem dX11_removed_2 : decode cX11_removed 2 = .ok (.invokevirtual 116, 3) := by decide +kernel
theorem dX11_removed_5 : decode cX11_removed 5 = .ok (.ifCond .ne 10, 3) := by decide +kernel
theorem dX11_removed_8 : decode cX11_removed 8 = .ok (.aload_n 0, 1) := by decide +kernel
theorem dX11_removed_9 : decode cX11_removed 9 = .ok (.bipush (-2), 2) := by decide +kernel
theorem dX11_removed_11 : decode cX11_removed 11 = .ok (.invokevirtual 94, 3) := by decide +kernel
theorem dX11_removed_14 : decode cX11_removed 14 = .ok (.ireturn, 1) := by decide +kernel
theorem dX11_removed_15 : decode cX11_removed 15 = .ok (.aload_n 1, 1) := by decide +kernel
theorem dX11_removed_16 : decode cX11_removed 16 = .ok (.iload_n 2, 1) := by decide +kernel
theorem dX11_removed_17 : decode cX11_removed 17 = .ok (.invokevirtual 328, 3) := by decide +kernel
theorem dX11_removed_20 : decode cX11_removed 20 = .ok (.aload_n 0, 1) := by decide +kernel
theorem dX11_removed_21 : decode cX11_removed 21 = .ok (.aload_n 1, 1) := by decide +kernel
theorem dX11_removed_22 : decode cX11_removed 22 = .ok (.getfield 209, 3) := by decide +kernel
theorem dX11_removed_25 : decode cX11_removed 25 = .ok (.invokevirtual 102, 3) := by decide +kernel
theorem dX11_removed_28 : decode cX11_removed 28 = .ok (.ireturn, 1) := by decide +kernel
set_option maxHeartbeats 4000000 in
set_option maxRecDepth 100000 in
theorem c_X11_removed (l : Launch) (D : va_G) (K : Nat → ClassId) (ad la : Nat → Nat) (rest : va_W) (r1 : Nat) (hr1 : r1 < 15) (a2 : Int32) (σ : xS) (z : Int32 × xS) (hF : F_X11_removed r1 a2 σ = some z) : CI l D K yX11_removed cX11_removed 3 (some .int) 2 51 [.ref (ad 0), .ref (ad (8 + 2 * r1)), .int a2] (CW K ad la rest σ) z.1 (CW K ad la rest z.2) := by
  refine x_enterI [(0, .ref (ad 0)), (1, .ref (ad (8 + 2 * r1))), (2, .int a2)] pnX11 (Nat.le_of_ble_eq_true rfl) rfl ?_
  intro p e s m args below meth c A C
  unfold F_X11_removed at hF
  refine x_aload_n C 1 1 dX11_removed_0 rfl rfl ?_
  refine x_iload_n C 2 2 dX11_removed_1 rfl rfl ?_
  refine x_callVI C (wf := CW K ad la rest) (As := [.int a2]) (rest := []) dX11_removed_2 ml_X11_116 rfl rfl (Nat.le_of_ble_eq_true rfl) (8 + 2 * r1) (CW_r K ad la rest σ r1 hr1) rfl ⟨Nat.le_of_ble_eq_true rfl, Nat.le_of_ble_eq_true rfl⟩ ⟨Nat.zero_le _, Nat.zero_le _⟩ (fun q9 hq9 => c_X6_has l D K ad la rest r1 hr1 a2 σ q9 hq9) hF (fun v2 σ1 hF => ?_)
  refine x_if_ne C 15 dX11_removed_5 (by decide) hF (fun hF => ?_) (fun hF => ?_)
  · refine x_aload_n C 1 1 dX11_removed_15 rfl rfl ?_
    refine x_iload_n C 2 2 dX11_removed_16 rfl rfl ?_
    refine x_callVV C (wf := CW K ad la rest) (As := [.int a2]) (rest := []) dX11_removed_17 ml_X11_328 rfl rfl (Nat.le_of_ble_eq_true rfl) (8 + 2 * r1) (CW_r K ad la rest σ1 r1 hr1) rfl ⟨Nat.le_of_ble_eq_true rfl, Nat.le_of_ble_eq_true rfl⟩ ⟨Nat.zero_le _, Nat.zero_le _⟩ (fun q9 hq9 => c_X6_remove l D K ad la rest r1 hr1 a2 σ1 q9 hq9) hF (fun _ σ3 hF => ?_)
    refine x_aload_n C 0 0 dX11_removed_20 rfl rfl ?_
    refine x_aload_n C 1 1 dX11_removed_21 rfl rfl ?_
    refine x_get C (8 + 2 * r1) dX11_removed_22 fl_X11_209 (CW_r K ad la rest σ3 r1 hr1) rfl ?_
    refine x_callVI C (wf := CW K ad la rest) (As := [.int (sI σ3 (16 * (8 + 2 * r1) + 3))]) (rest := []) dX11_removed_25 ml_X11_102 rfl rfl (Nat.le_of_ble_eq_true rfl) 0 (CW_0 K ad la rest σ3) rfl ⟨Nat.le_of_ble_eq_true rfl, Nat.le_of_ble_eq_true rfl⟩ ⟨Nat.zero_le _, Nat.zero_le _⟩ (fun q9 hq9 => c_X11_accepted l D K ad la rest (sI σ3 (16 * (8 + 2 * r1) + 3)) σ3 q9 hq9) hF (fun v5 σ4 hF => ?_)
    exact x_iret C dX11_removed_28 rfl (congrArg Prod.fst (Option.some.inj hF)) (congrArg (fun q9 : Int32 × xS => CW K ad la rest q9.2) (Option.some.inj hF))
  · refine x_aload_n C 0 0 dX11_removed_8 rfl rfl ?_
    refine x_bipush C (-2) dX11_removed_9 (by decide +kernel) ?_
    refine x_callVI C (wf := CW K ad la rest) (As := [.int ((-2))]) (rest := []) dX11_removed_11 ml_X11_94 rfl rfl (Nat.le_of_ble_eq_true rfl) 0 (CW_0 K ad la rest σ1) rfl ⟨Nat.le_of_ble_eq_true rfl, Nat.le_of_ble_eq_true rfl⟩ ⟨Nat.zero_le _, Nat.zero_le _⟩ (fun q9 hq9 => c_X11_refused l D K ad la rest ((-2)) σ1 q9 hq9) hF (fun v7 σ6 hF => ?_)
    exact x_iret C dX11_removed_14 rfl (congrArg Prod.fst (Option.some.inj hF)) (congrArg (fun q9 : Int32 × xS => CW K ad la rest q9.2) (Option.some.inj hF))
theorem dX11_drop_0 : decode cX11_drop 0 = .ok (.aload_n 0, 1) := by decide +kernel
theorem dX11_drop_1 : decode cX11_drop 1 = .ok (.aload_n 0, 1) := by decide +kernel
theorem dX11_drop_2 : decode cX11_drop 2 = .ok (.getfield 10, 3) := by decide +kernel
theorem dX11_drop_5 : decode cX11_drop 5 = .ok (.getfield 112, 3) := by decide +kernel
theorem dX11_drop_8 : decode cX11_drop 8 = .ok (.iload_n 1, 1) := by decide +kernel
theorem dX11_drop_9 : decode cX11_drop 9 = .ok (.invokevirtual 130, 3) := by decide +kernel
theorem dX11_drop_12 : decode cX11_drop 12 = .ok (.ireturn, 1) := by decide +kernel
set_option maxHeartbeats 4000000 in
set_option maxRecDepth 100000 in
theorem c_X11_drop (l : Launch) (D : va_G) (K : Nat → ClassId) (ad la : Nat → Nat) (rest : va_W)  (a1 : Int32) (σ : xS) (z : Int32 × xS) (hF : F_X11_drop a1 σ = some z) : CI l D K yX11_drop cX11_drop 2 (some .int) 3 73 [.ref (ad 0), .int a1] (CW K ad la rest σ) z.1 (CW K ad la rest z.2) := by
  refine x_enterI [(0, .ref (ad 0)), (1, .int a1)] pnX11 (Nat.le_of_ble_eq_true rfl) rfl ?_
  intro p e s m args below meth c A C
  unfold F_X11_drop at hF
  refine x_aload_n C 0 0 dX11_drop_0 rfl rfl ?_
  refine x_aload_n C 0 0 dX11_drop_1 rfl rfl ?_
  refine x_get C 0 dX11_drop_2 fl_X11_10 (CW_0 K ad la rest σ) rfl ?_
  refine x_get C 5 dX11_drop_5 fl_X11_112 (CW_5 K ad la rest σ) rfl ?_
  refine x_iload_n C 1 1 dX11_drop_8 rfl rfl ?_
  refine x_callVI C (wf := CW K ad la rest) (As := [.ref (ad 8), .int a1]) (rest := []) dX11_drop_9 ml_X11_130 rfl rfl (Nat.le_of_ble_eq_true rfl) 0 (CW_0 K ad la rest σ) rfl ⟨Nat.le_of_ble_eq_true rfl, Nat.le_of_ble_eq_true rfl⟩ ⟨Nat.zero_le _, Nat.zero_le _⟩ (fun q9 hq9 => c_X11_removed l D K ad la rest 0 (by decide) a1 σ q9 hq9) hF (fun v2 σ1 hF => ?_)
  exact x_iret C dX11_drop_12 rfl (congrArg Prod.fst (Option.some.inj hF)) (congrArg (fun q9 : Int32 × xS => CW K ad la rest q9.2) (Option.some.inj hF))
theorem dX11_terms_0 : decode cX11_terms 0 = .ok (.iload_n 1, 1) := by decide +kernel
theorem dX11_terms_1 : decode cX11_terms 1 = .ok (.iconst 0, 1) := by decide +kernel
theorem dX11_terms_2 : decode cX11_terms 2 = .ok (.iconst 5, 1) := by decide +kernel
theorem dX11_terms_3 : decode cX11_terms 3 = .ok (.invokestatic 105, 3) := by decide +kernel
theorem dX11_terms_6 : decode cX11_terms 6 = .ok (.ifCond .eq 20, 3) := by decide +kernel
theorem dX11_terms_9 : decode cX11_terms 9 = .ok (.iload_n 2, 1) := by decide +kernel
theorem dX11_terms_10 : decode cX11_terms 10 = .ok (.getstatic 134, 3) := by decide +kernel
theorem dX11_terms_13 : decode cX11_terms 13 = .ok (.iload_n 1, 1) := by decide +kernel
theorem dX11_terms_14 : decode cX11_terms 14 = .ok (.iaload, 1) := by decide +kernel
theorem dX11_terms_15 : decode cX11_terms 15 = .ok (.getstatic 137, 3) := by decide +kernel
theorem dX11_terms_18 : decode cX11_terms 18 = .ok (.iload_n 1, 1) := by decide +kernel
theorem dX11_terms_19 : decode cX11_terms 19 = .ok (.iaload, 1) := by decide +kernel
theorem dX11_terms_20 : decode cX11_terms 20 = .ok (.invokestatic 105, 3) := by decide +kernel
theorem dX11_terms_23 : decode cX11_terms 23 = .ok (.ifCond .ne 9, 3) := by decide +kernel
theorem dX11_terms_26 : decode cX11_terms 26 = .ok (.aload_n 0, 1) := by decide +kernel
theorem dX11_terms_27 : decode cX11_terms 27 = .ok (.iconst (-1), 1) := by decide +kernel
theorem dX11_terms_28 : decode cX11_terms 28 = .ok (.invokevirtual 94, 3) := by decide +kernel
theorem dX11_terms_31 : decode cX11_terms 31 = .ok (.ireturn, 1) := by decide +kernel
theorem dX11_terms_32 : decode cX11_terms 32 = .ok (.aload_n 0, 1) := by decide +kernel
theorem dX11_terms_33 : decode cX11_terms 33 = .ok (.getfield 10, 3) := by decide +kernel
theorem dX11_terms_36 : decode cX11_terms 36 = .ok (.getfield 140, 3) := by decide +kernel
theorem dX11_terms_39 : decode cX11_terms 39 = .ok (.iload_n 1, 1) := by decide +kernel
theorem dX11_terms_40 : decode cX11_terms 40 = .ok (.iaload, 1) := by decide +kernel
theorem dX11_terms_41 : decode cX11_terms 41 = .ok (.istore_n 3, 1) := by decide +kernel
theorem dX11_terms_42 : decode cX11_terms 42 = .ok (.aload_n 0, 1) := by decide +kernel
theorem dX11_terms_43 : decode cX11_terms 43 = .ok (.getfield 10, 3) := by decide +kernel
theorem dX11_terms_46 : decode cX11_terms 46 = .ok (.getfield 140, 3) := by decide +kernel
theorem dX11_terms_49 : decode cX11_terms 49 = .ok (.iload_n 1, 1) := by decide +kernel
theorem dX11_terms_50 : decode cX11_terms 50 = .ok (.iload_n 2, 1) := by decide +kernel
theorem dX11_terms_51 : decode cX11_terms 51 = .ok (.iastore, 1) := by decide +kernel
theorem dX11_terms_52 : decode cX11_terms 52 = .ok (.aload_n 0, 1) := by decide +kernel
theorem dX11_terms_53 : decode cX11_terms 53 = .ok (.iload_n 3, 1) := by decide +kernel
theorem dX11_terms_54 : decode cX11_terms 54 = .ok (.invokevirtual 102, 3) := by decide +kernel
theorem dX11_terms_57 : decode cX11_terms 57 = .ok (.ireturn, 1) := by decide +kernel
set_option maxHeartbeats 4000000 in
set_option maxRecDepth 100000 in
theorem x_X11_terms_26 {p : Program} {l : Launch} {e : Env} {s : State} {m : MethodId} {args : Array Value} {below : List Frame} {meth : Method} {c : Code} {D : va_G} {K : Nat → ClassId} {A : Nat → Prop} {ad la : Nat → Nat} {rest : va_W} (C : xC p s m args meth c D K A RX11 cX11_terms 4 (some .int)) (z : Int32 × xS) : ∀  (σ : xS), F_X11_terms_26  σ = some z → X p l e (xR 1 22) s m args below meth c D A 4 (xQi below D K A args s z.1 (CW K ad la rest z.2)) 0 0 26 [(0, .ref (ad 0))] [] (CW K ad la rest σ) := by
  intro σ hF
  unfold F_X11_terms_26 at hF
  refine x_aload_n C 0 0 dX11_terms_26 rfl rfl ?_
  refine x_iconst C (-1) dX11_terms_27 (by decide +kernel) ?_
  refine x_callVI C (wf := CW K ad la rest) (As := [.int ((-1))]) (rest := []) dX11_terms_28 ml_X11_94 rfl rfl (Nat.le_of_ble_eq_true rfl) 0 (CW_0 K ad la rest σ) rfl ⟨Nat.le_of_ble_eq_true rfl, Nat.le_of_ble_eq_true rfl⟩ ⟨Nat.zero_le _, Nat.zero_le _⟩ (fun q9 hq9 => c_X11_refused l D K ad la rest ((-1)) σ q9 hq9) hF (fun v14 σ13 hF => ?_)
  exact x_iret C dX11_terms_31 rfl (congrArg Prod.fst (Option.some.inj hF)) (congrArg (fun q9 : Int32 × xS => CW K ad la rest q9.2) (Option.some.inj hF))
set_option maxHeartbeats 4000000 in
set_option maxRecDepth 100000 in
theorem c_X11_terms (l : Launch) (D : va_G) (K : Nat → ClassId) (ad la : Nat → Nat) (rest : va_W)  (a1 : Int32) (a2 : Int32) (σ : xS) (z : Int32 × xS) (hF : F_X11_terms a1 a2 σ = some z) : CI l D K yX11_terms cX11_terms 4 (some .int) 1 22 [.ref (ad 0), .int a1, .int a2] (CW K ad la rest σ) z.1 (CW K ad la rest z.2) := by
  refine x_enterI [(0, .ref (ad 0)), (1, .int a1), (2, .int a2)] pnX11 (Nat.le_of_ble_eq_true rfl) rfl ?_
  intro p e s m args below meth c A C
  unfold F_X11_terms at hF
  refine x_iload_n C 1 1 dX11_terms_0 rfl rfl ?_
  refine x_iconst C 0 dX11_terms_1 (by decide +kernel) ?_
  refine x_iconst C 5 dX11_terms_2 (by decide +kernel) ?_
  refine x_callSI C (wf := CW K ad la rest) (As := [.int a1, .int 0, .int 5]) (rest := []) dX11_terms_3 ml_X11_105 rfl rfl (Nat.le_of_ble_eq_true rfl) ⟨Nat.le_of_ble_eq_true rfl, Nat.le_of_ble_eq_true rfl⟩ ⟨Nat.zero_le _, Nat.zero_le _⟩ (fun q9 hq9 => c_X11_isWithin l D K ad la rest a1 0 5 σ q9 hq9) hF (fun v2 σ1 hF => ?_)
  refine x_if_eq C 26 dX11_terms_6 (by decide) hF (fun hF => ?_) (fun hF => ?_)
  · refine x_loc [(0, .ref (ad 0))] [0] rfl ?_
    exact x_X11_terms_26 C z σ1 hF
  · refine x_iload_n C 2 2 dX11_terms_9 rfl rfl ?_
    refine x_tabZ C C.2.2.2.2.2.2.2.2.2.2.1 dX11_terms_10 (xT_mem (List.mem_append_right _ (List.mem_of_getElem? (i := 466) (by decide +kernel))) (by decide +kernel)) (fun t3 ht3 => ?_)
    refine x_iload_n C 1 1 dX11_terms_13 rfl rfl ?_
    refine x_tabI C ht3 dX11_terms_14 hF (fun v4 hF => ?_)
    refine x_tabZ C C.2.2.2.2.2.2.2.2.2.2.2.1 dX11_terms_15 (xT_mem (List.mem_append_right _ (List.mem_of_getElem? (i := 468) (by decide +kernel))) (by decide +kernel)) (fun t5 ht5 => ?_)
    refine x_iload_n C 1 1 dX11_terms_18 rfl rfl ?_
    refine x_tabI C ht5 dX11_terms_19 hF (fun v6 hF => ?_)
    refine x_callSI C (wf := CW K ad la rest) (As := [.int a2, .int v4, .int v6]) (rest := []) dX11_terms_20 ml_X11_105 rfl rfl (Nat.le_of_ble_eq_true rfl) ⟨Nat.le_of_ble_eq_true rfl, Nat.le_of_ble_eq_true rfl⟩ ⟨Nat.zero_le _, Nat.zero_le _⟩ (fun q9 hq9 => c_X11_isWithin l D K ad la rest a2 v4 v6 σ1 q9 hq9) hF (fun v8 σ7 hF => ?_)
    refine x_if_ne C 32 dX11_terms_23 (by decide) hF (fun hF => ?_) (fun hF => ?_)
    · refine x_aload_n C 0 0 dX11_terms_32 rfl rfl ?_
      refine x_get C 0 dX11_terms_33 fl_X11_10 (CW_0 K ad la rest σ7) rfl ?_
      refine x_get C 5 dX11_terms_36 fl_X11_140 (CW_5 K ad la rest σ7) rfl ?_
      refine x_iload_n C 1 1 dX11_terms_39 rfl rfl ?_
      refine x_iald C 38 dX11_terms_40 (CW_38 K ad la rest σ7) hF (fun v9 hF => ?_)
      refine x_istore_n C [(3, .int v9), (0, .ref (ad 0)), (1, .int a1), (2, .int a2)] dX11_terms_41 rfl (by decide) rfl ?_
      refine x_aload_n C 1 0 dX11_terms_42 rfl rfl ?_
      refine x_get C 0 dX11_terms_43 fl_X11_10 (CW_0 K ad la rest σ7) rfl ?_
      refine x_get C 5 dX11_terms_46 fl_X11_140 (CW_5 K ad la rest σ7) rfl ?_
      refine x_iload_n C 2 1 dX11_terms_49 rfl rfl ?_
      refine x_iload_n C 3 2 dX11_terms_50 rfl rfl ?_
      refine x_iast C 38 dX11_terms_51 (CW_38 K ad la rest σ7) hF (CW_s38 K ad la rest σ7 _) (fun hF => ?_)
      refine x_st (wf := CW K ad la rest) hF (fun σ10 hF => ?_)
      refine x_aload_n C 1 0 dX11_terms_52 rfl rfl ?_
      refine x_iload_n C 0 3 dX11_terms_53 rfl rfl ?_
      refine x_callVI C (wf := CW K ad la rest) (As := [.int v9]) (rest := []) dX11_terms_54 ml_X11_102 rfl rfl (Nat.le_of_ble_eq_true rfl) 0 (CW_0 K ad la rest σ10) rfl ⟨Nat.le_of_ble_eq_true rfl, Nat.le_of_ble_eq_true rfl⟩ ⟨Nat.zero_le _, Nat.zero_le _⟩ (fun q9 hq9 => c_X11_accepted l D K ad la rest v9 σ10 q9 hq9) hF (fun v12 σ11 hF => ?_)
      exact x_iret C dX11_terms_57 rfl (congrArg Prod.fst (Option.some.inj hF)) (congrArg (fun q9 : Int32 × xS => CW K ad la rest q9.2) (Option.some.inj hF))
    · refine x_loc [(0, .ref (ad 0))] [0] rfl ?_
      exact x_X11_terms_26 C z σ7 hF
theorem dX11_feedNumber_0 : decode cX11_feedNumber 0 = .ok (.bipush 24, 2) := by decide +kernel
theorem dX11_feedNumber_2 : decode cX11_feedNumber 2 = .ok (.istore_n 2, 1) := by decide +kernel
theorem dX11_feedNumber_3 : decode cX11_feedNumber 3 = .ok (.iload_n 2, 1) := by decide +kernel
theorem dX11_feedNumber_4 : decode cX11_feedNumber 4 = .ok (.ifCond .lt 45, 3) := by decide +kernel
theorem dX11_feedNumber_7 : decode cX11_feedNumber 7 = .ok (.aload_n 0, 1) := by decide +kernel
theorem dX11_feedNumber_8 : decode cX11_feedNumber 8 = .ok (.getfield 143, 3) := by decide +kernel
theorem dX11_feedNumber_11 : decode cX11_feedNumber 11 = .ok (.sipush 400, 3) := by decide +kernel
theorem dX11_feedNumber_14 : decode cX11_feedNumber 14 = .ok (.if_icmp .ge 35, 3) := by decide +kernel
theorem dX11_feedNumber_17 : decode cX11_feedNumber 17 = .ok (.aload_n 0, 1) := by decide +kernel
theorem dX11_feedNumber_18 : decode cX11_feedNumber 18 = .ok (.getfield 79, 3) := by decide +kernel
theorem dX11_feedNumber_21 : decode cX11_feedNumber 21 = .ok (.aload_n 0, 1) := by decide +kernel
theorem dX11_feedNumber_22 : decode cX11_feedNumber 22 = .ok (.getfield 143, 3) := by decide +kernel
theorem dX11_feedNumber_25 : decode cX11_feedNumber 25 = .ok (.iload_n 1, 1) := by decide +kernel
theorem dX11_feedNumber_26 : decode cX11_feedNumber 26 = .ok (.iload_n 2, 1) := by decide +kernel
theorem dX11_feedNumber_27 : decode cX11_feedNumber 27 = .ok (.iushr, 1) := by decide +kernel
theorem dX11_feedNumber_28 : decode cX11_feedNumber 28 = .ok (.sipush 255, 3) := by decide +kernel
theorem dX11_feedNumber_31 : decode cX11_feedNumber 31 = .ok (.iand, 1) := by decide +kernel
theorem dX11_feedNumber_32 : decode cX11_feedNumber 32 = .ok (.iastore, 1) := by decide +kernel
theorem dX11_feedNumber_33 : decode cX11_feedNumber 33 = .ok (.aload_n 0, 1) := by decide +kernel
theorem dX11_feedNumber_34 : decode cX11_feedNumber 34 = .ok (.dup, 1) := by decide +kernel
theorem dX11_feedNumber_35 : decode cX11_feedNumber 35 = .ok (.getfield 143, 3) := by decide +kernel
theorem dX11_feedNumber_38 : decode cX11_feedNumber 38 = .ok (.iconst 1, 1) := by decide +kernel
theorem dX11_feedNumber_39 : decode cX11_feedNumber 39 = .ok (.iadd, 1) := by decide +kernel
theorem dX11_feedNumber_40 : decode cX11_feedNumber 40 = .ok (.putfield 143, 3) := by decide +kernel
theorem dX11_feedNumber_43 : decode cX11_feedNumber 43 = .ok (.iinc 2 (-8), 3) := by decide +kernel
theorem dX11_feedNumber_46 : decode cX11_feedNumber 46 = .ok (.goto (-43), 3) := by decide +kernel
theorem dX11_feedNumber_49 : decode cX11_feedNumber 49 = .ok (.return_, 1) := by decide +kernel
set_option maxHeartbeats 4000000 in
set_option maxRecDepth 100000 in
theorem x_X11_feedNumber_3 {p : Program} {l : Launch} {e : Env} {s : State} {m : MethodId} {args : Array Value} {below : List Frame} {meth : Method} {c : Code} {D : va_G} {K : Nat → ClassId} {A : Nat → Prop} {ad la : Nat → Nat} {rest : va_W} (C : xC p s m args meth c D K A RX11 cX11_feedNumber 3 none) (z : Unit × xS) : ∀ (n : Nat) (y1 : Int32) (y2 : Int32) (σ : xS), F_X11_feedNumber_3  n y1 y2 σ = some z → X p l e (xR 0 0) s m args below meth c D A 3 (xQv below D K A args s (CW K ad la rest z.2)) 0 0 3 [(0, .ref (ad 0)), (1, .int y1), (2, .int y2)] [] (CW K ad la rest σ) := by
  intro n
  induction n with
  | zero =>
    intro y1 y2 σ hF
    cases hF
  | succ n ih =>
    intro y1 y2 σ hF
    rw [F_X11_feedNumber_3] at hF
    refine x_iload_n C 2 2 dX11_feedNumber_3 rfl rfl ?_
    refine x_if_lt C 49 dX11_feedNumber_4 (by decide) hF (fun hF => ?_) (fun hF => ?_)
    · exact x_vret C dX11_feedNumber_49 rfl (congrArg (fun q9 : Unit × xS => CW K ad la rest q9.2) (Option.some.inj hF))
    · refine x_aload_n C 0 0 dX11_feedNumber_7 rfl rfl ?_
      refine x_get C 0 dX11_feedNumber_8 fl_X11_143 (CW_0 K ad la rest σ) rfl ?_
      refine x_sipush C 400 dX11_feedNumber_11 (by decide +kernel) ?_
      refine x_icmp_ge C 49 dX11_feedNumber_14 (by decide) hF (fun hF => ?_) (fun hF => ?_)
      · exact x_vret C dX11_feedNumber_49 rfl (congrArg (fun q9 : Unit × xS => CW K ad la rest q9.2) (Option.some.inj hF))
      · refine x_aload_n C 0 0 dX11_feedNumber_17 rfl rfl ?_
        refine x_get C 0 dX11_feedNumber_18 fl_X11_79 (CW_0 K ad la rest σ) rfl ?_
        refine x_aload_n C 0 0 dX11_feedNumber_21 rfl rfl ?_
        refine x_get C 0 dX11_feedNumber_22 fl_X11_143 (CW_0 K ad la rest σ) rfl ?_
        refine x_iload_n C 1 1 dX11_feedNumber_25 rfl rfl ?_
        refine x_iload_n C 2 2 dX11_feedNumber_26 rfl rfl ?_
        refine x_iushr C dX11_feedNumber_27 ?_
        refine x_sipush C 255 dX11_feedNumber_28 (by decide +kernel) ?_
        refine x_iand C dX11_feedNumber_31 ?_
        refine x_iast C 3 dX11_feedNumber_32 (CW_3 K ad la rest σ) hF (CW_s3 K ad la rest σ _) (fun hF => ?_)
        refine x_st (wf := CW K ad la rest) hF (fun σ2 hF => ?_)
        refine x_aload_n C 0 0 dX11_feedNumber_33 rfl rfl ?_
        refine x_dup C rfl dX11_feedNumber_34 ?_
        refine x_get C 0 dX11_feedNumber_35 fl_X11_143 (CW_0 K ad la rest σ2) rfl ?_
        refine x_iconst C 1 dX11_feedNumber_38 (by decide +kernel) ?_
        refine x_iadd C dX11_feedNumber_39 ?_
        refine x_put C 0 dX11_feedNumber_40 fl_X11_143 fm_X11_11 rfl rfl (CW_0 K ad la rest σ2) (Nat.le_of_ble_eq_true rfl) (CW_s0_11 K ad la rest σ2 _) ?_
        refine x_st (wf := CW K ad la rest) hF (fun σ3 hF => ?_)
        refine x_iincN C (-8) 2 (fun x4 => [(2, .int x4), (0, .ref (ad 0)), (1, .int y1)]) dX11_feedNumber_43 rfl (by decide +kernel) (by decide) (fun _ => rfl) hF (fun x4 hF => ?_)
        refine x_goto C 3 dX11_feedNumber_46 (by decide) ?_
        refine x_loc [(0, .ref (ad 0)), (1, .int y1), (2, .int x4)] [1, 2, 0] rfl ?_
        exact ih y1 x4 σ3 hF
set_option maxHeartbeats 4000000 in
set_option maxRecDepth 100000 in
theorem c_X11_feedNumber (l : Launch) (D : va_G) (K : Nat → ClassId) (ad la : Nat → Nat) (rest : va_W)  (a1 : Int32) (σ : xS) (z : Unit × xS) (hF : F_X11_feedNumber a1 σ = some z) : CV l D K yX11_feedNumber cX11_feedNumber 3 none 0 0 [.ref (ad 0), .int a1] (CW K ad la rest σ) (CW K ad la rest z.2) := by
  refine x_enterV [(0, .ref (ad 0)), (1, .int a1)] pnX11 (Nat.le_of_ble_eq_true rfl) rfl ?_
  intro p e s m args below meth c A C
  unfold F_X11_feedNumber at hF
  refine x_bipush C 24 dX11_feedNumber_0 (by decide +kernel) ?_
  refine x_topI hF (fun x1 hF => ?_)
  refine x_istore_n C [(2, .int x1), (0, .ref (ad 0)), (1, .int a1)] dX11_feedNumber_2 rfl (by decide) rfl ?_
  refine x_loc [(0, .ref (ad 0)), (1, .int a1), (2, .int x1)] [1, 2, 0] rfl ?_
  exact x_X11_feedNumber_3 C z FU a1 x1 σ hF
theorem dX11_feed_0 : decode cX11_feed 0 = .ok (.aload_n 0, 1) := by decide +kernel
theorem dX11_feed_1 : decode cX11_feed 1 = .ok (.getfield 143, 3) := by decide +kernel
theorem dX11_feed_4 : decode cX11_feed 4 = .ok (.bipush 20, 2) := by decide +kernel
theorem dX11_feed_6 : decode cX11_feed 6 = .ok (.iadd, 1) := by decide +kernel
theorem dX11_feed_7 : decode cX11_feed 7 = .ok (.sipush 400, 3) := by decide +kernel
theorem dX11_feed_10 : decode cX11_feed 10 = .ok (.if_icmp .le 5, 3) := by decide +kernel
theorem dX11_feed_13 : decode cX11_feed 13 = .ok (.iconst (-1), 1) := by decide +kernel
theorem dX11_feed_14 : decode cX11_feed 14 = .ok (.ireturn, 1) := by decide +kernel
theorem dX11_feed_15 : decode cX11_feed 15 = .ok (.aload_n 0, 1) := by decide +kernel
theorem dX11_feed_16 : decode cX11_feed 16 = .ok (.iload_n 1, 1) := by decide +kernel
theorem dX11_feed_17 : decode cX11_feed 17 = .ok (.invokevirtual 146, 3) := by decide +kernel
theorem dX11_feed_20 : decode cX11_feed 20 = .ok (.aload_n 0, 1) := by decide +kernel
theorem dX11_feed_21 : decode cX11_feed 21 = .ok (.iload_n 2, 1) := by decide +kernel
theorem dX11_feed_22 : decode cX11_feed 22 = .ok (.invokevirtual 146, 3) := by decide +kernel
theorem dX11_feed_25 : decode cX11_feed 25 = .ok (.aload_n 0, 1) := by decide +kernel
theorem dX11_feed_26 : decode cX11_feed 26 = .ok (.iload_n 3, 1) := by decide +kernel
theorem dX11_feed_27 : decode cX11_feed 27 = .ok (.invokevirtual 146, 3) := by decide +kernel
theorem dX11_feed_30 : decode cX11_feed 30 = .ok (.aload_n 0, 1) := by decide +kernel
theorem dX11_feed_31 : decode cX11_feed 31 = .ok (.iload 4, 2) := by decide +kernel
theorem dX11_feed_33 : decode cX11_feed 33 = .ok (.invokevirtual 146, 3) := by decide +kernel
theorem dX11_feed_36 : decode cX11_feed 36 = .ok (.aload_n 0, 1) := by decide +kernel
theorem dX11_feed_37 : decode cX11_feed 37 = .ok (.iload 5, 2) := by decide +kernel
theorem dX11_feed_39 : decode cX11_feed 39 = .ok (.invokevirtual 146, 3) := by decide +kernel
theorem dX11_feed_42 : decode cX11_feed 42 = .ok (.aload_n 0, 1) := by decide +kernel
theorem dX11_feed_43 : decode cX11_feed 43 = .ok (.getfield 143, 3) := by decide +kernel
theorem dX11_feed_46 : decode cX11_feed 46 = .ok (.ireturn, 1) := by decide +kernel
set_option maxHeartbeats 4000000 in
set_option maxRecDepth 100000 in
theorem c_X11_feed (l : Launch) (D : va_G) (K : Nat → ClassId) (ad la : Nat → Nat) (rest : va_W)  (a1 : Int32) (a2 : Int32) (a3 : Int32) (a4 : Int32) (a5 : Int32) (σ : xS) (z : Int32 × xS) (hF : F_X11_feed a1 a2 a3 a4 a5 σ = some z) : CI l D K yX11_feed cX11_feed 6 (some .int) 1 22 [.ref (ad 0), .int a1, .int a2, .int a3, .int a4, .int a5] (CW K ad la rest σ) z.1 (CW K ad la rest z.2) := by
  refine x_enterI [(0, .ref (ad 0)), (1, .int a1), (2, .int a2), (3, .int a3), (4, .int a4), (5, .int a5)] pnX11 (Nat.le_of_ble_eq_true rfl) rfl ?_
  intro p e s m args below meth c A C
  unfold F_X11_feed at hF
  refine x_aload_n C 0 0 dX11_feed_0 rfl rfl ?_
  refine x_get C 0 dX11_feed_1 fl_X11_143 (CW_0 K ad la rest σ) rfl ?_
  refine x_bipush C 20 dX11_feed_4 (by decide +kernel) ?_
  refine x_iadd C dX11_feed_6 ?_
  refine x_sipush C 400 dX11_feed_7 (by decide +kernel) ?_
  refine x_icmp_le C 15 dX11_feed_10 (by decide) hF (fun hF => ?_) (fun hF => ?_)
  · refine x_aload_n C 0 0 dX11_feed_15 rfl rfl ?_
    refine x_iload_n C 1 1 dX11_feed_16 rfl rfl ?_
    refine x_callVV C (wf := CW K ad la rest) (As := [.int a1]) (rest := []) dX11_feed_17 ml_X11_146 rfl rfl (Nat.le_of_ble_eq_true rfl) 0 (CW_0 K ad la rest σ) rfl ⟨Nat.le_of_ble_eq_true rfl, Nat.le_of_ble_eq_true rfl⟩ ⟨Nat.zero_le _, Nat.zero_le _⟩ (fun q9 hq9 => c_X11_feedNumber l D K ad la rest a1 σ q9 hq9) hF (fun _ σ1 hF => ?_)
    refine x_aload_n C 0 0 dX11_feed_20 rfl rfl ?_
    refine x_iload_n C 2 2 dX11_feed_21 rfl rfl ?_
    refine x_callVV C (wf := CW K ad la rest) (As := [.int a2]) (rest := []) dX11_feed_22 ml_X11_146 rfl rfl (Nat.le_of_ble_eq_true rfl) 0 (CW_0 K ad la rest σ1) rfl ⟨Nat.le_of_ble_eq_true rfl, Nat.le_of_ble_eq_true rfl⟩ ⟨Nat.zero_le _, Nat.zero_le _⟩ (fun q9 hq9 => c_X11_feedNumber l D K ad la rest a2 σ1 q9 hq9) hF (fun _ σ2 hF => ?_)
    refine x_aload_n C 0 0 dX11_feed_25 rfl rfl ?_
    refine x_iload_n C 3 3 dX11_feed_26 rfl rfl ?_
    refine x_callVV C (wf := CW K ad la rest) (As := [.int a3]) (rest := []) dX11_feed_27 ml_X11_146 rfl rfl (Nat.le_of_ble_eq_true rfl) 0 (CW_0 K ad la rest σ2) rfl ⟨Nat.le_of_ble_eq_true rfl, Nat.le_of_ble_eq_true rfl⟩ ⟨Nat.zero_le _, Nat.zero_le _⟩ (fun q9 hq9 => c_X11_feedNumber l D K ad la rest a3 σ2 q9 hq9) hF (fun _ σ3 hF => ?_)
    refine x_aload_n C 0 0 dX11_feed_30 rfl rfl ?_
    refine x_iload C 4 4 dX11_feed_31 rfl ?_
    refine x_callVV C (wf := CW K ad la rest) (As := [.int a4]) (rest := []) dX11_feed_33 ml_X11_146 rfl rfl (Nat.le_of_ble_eq_true rfl) 0 (CW_0 K ad la rest σ3) rfl ⟨Nat.le_of_ble_eq_true rfl, Nat.le_of_ble_eq_true rfl⟩ ⟨Nat.zero_le _, Nat.zero_le _⟩ (fun q9 hq9 => c_X11_feedNumber l D K ad la rest a4 σ3 q9 hq9) hF (fun _ σ4 hF => ?_)
    refine x_aload_n C 0 0 dX11_feed_36 rfl rfl ?_
    refine x_iload C 5 5 dX11_feed_37 rfl ?_
    refine x_callVV C (wf := CW K ad la rest) (As := [.int a5]) (rest := []) dX11_feed_39 ml_X11_146 rfl rfl (Nat.le_of_ble_eq_true rfl) 0 (CW_0 K ad la rest σ4) rfl ⟨Nat.le_of_ble_eq_true rfl, Nat.le_of_ble_eq_true rfl⟩ ⟨Nat.zero_le _, Nat.zero_le _⟩ (fun q9 hq9 => c_X11_feedNumber l D K ad la rest a5 σ4 q9 hq9) hF (fun _ σ5 hF => ?_)
    refine x_aload_n C 0 0 dX11_feed_42 rfl rfl ?_
    refine x_get C 0 dX11_feed_43 fl_X11_143 (CW_0 K ad la rest σ5) rfl ?_
    exact x_iret C dX11_feed_46 rfl (congrArg Prod.fst (Option.some.inj hF)) (congrArg (fun q9 : Int32 × xS => CW K ad la rest q9.2) (Option.some.inj hF))
  · refine x_iconst C (-1) dX11_feed_13 (by decide +kernel) ?_
    exact x_iret C dX11_feed_14 rfl (congrArg Prod.fst (Option.some.inj hF)) (congrArg (fun q9 : Int32 × xS => CW K ad la rest q9.2) (Option.some.inj hF))
theorem dX11_end_0 : decode cX11_end 0 = .ok (.iload_n 1, 1) := by decide +kernel
theorem dX11_end_1 : decode cX11_end 1 = .ok (.iconst 0, 1) := by decide +kernel
theorem dX11_end_2 : decode cX11_end 2 = .ok (.aload_n 0, 1) := by decide +kernel
theorem dX11_end_3 : decode cX11_end 3 = .ok (.getfield 143, 3) := by decide +kernel
theorem dX11_end_6 : decode cX11_end 6 = .ok (.invokestatic 105, 3) := by decide +kernel
theorem dX11_end_9 : decode cX11_end 9 = .ok (.ifCond .ne 5, 3) := by decide +kernel
theorem dX11_end_12 : decode cX11_end 12 = .ok (.iconst (-1), 1) := by decide +kernel
theorem dX11_end_13 : decode cX11_end 13 = .ok (.ireturn, 1) := by decide +kernel
theorem dX11_end_14 : decode cX11_end 14 = .ok (.aload_n 0, 1) := by decide +kernel
theorem dX11_end_15 : decode cX11_end 15 = .ok (.iload_n 1, 1) := by decide +kernel
theorem dX11_end_16 : decode cX11_end 16 = .ok (.putfield 143, 3) := by decide +kernel
theorem dX11_end_19 : decode cX11_end 19 = .ok (.iload_n 1, 1) := by decide +kernel
theorem dX11_end_20 : decode cX11_end 20 = .ok (.ireturn, 1) := by decide +kernel
set_option maxHeartbeats 4000000 in
set_option maxRecDepth 100000 in
theorem c_X11_end (l : Launch) (D : va_G) (K : Nat → ClassId) (ad la : Nat → Nat) (rest : va_W)  (a1 : Int32) (σ : xS) (z : Int32 × xS) (hF : F_X11_end a1 σ = some z) : CI l D K yX11_end cX11_end 2 (some .int) 1 22 [.ref (ad 0), .int a1] (CW K ad la rest σ) z.1 (CW K ad la rest z.2) := by
  refine x_enterI [(0, .ref (ad 0)), (1, .int a1)] pnX11 (Nat.le_of_ble_eq_true rfl) rfl ?_
  intro p e s m args below meth c A C
  unfold F_X11_end at hF
  refine x_iload_n C 1 1 dX11_end_0 rfl rfl ?_
  refine x_iconst C 0 dX11_end_1 (by decide +kernel) ?_
  refine x_aload_n C 0 0 dX11_end_2 rfl rfl ?_
  refine x_get C 0 dX11_end_3 fl_X11_143 (CW_0 K ad la rest σ) rfl ?_
  refine x_callSI C (wf := CW K ad la rest) (As := [.int a1, .int 0, .int (sI σ 11)]) (rest := []) dX11_end_6 ml_X11_105 rfl rfl (Nat.le_of_ble_eq_true rfl) ⟨Nat.le_of_ble_eq_true rfl, Nat.le_of_ble_eq_true rfl⟩ ⟨Nat.zero_le _, Nat.zero_le _⟩ (fun q9 hq9 => c_X11_isWithin l D K ad la rest a1 0 (sI σ 11) σ q9 hq9) hF (fun v2 σ1 hF => ?_)
  refine x_if_ne C 14 dX11_end_9 (by decide) hF (fun hF => ?_) (fun hF => ?_)
  · refine x_aload_n C 0 0 dX11_end_14 rfl rfl ?_
    refine x_iload_n C 1 1 dX11_end_15 rfl rfl ?_
    refine x_put C 0 dX11_end_16 fl_X11_143 fm_X11_11 rfl rfl (CW_0 K ad la rest σ1) (Nat.le_of_ble_eq_true rfl) (CW_s0_11 K ad la rest σ1 _) ?_
    refine x_st (wf := CW K ad la rest) hF (fun σ3 hF => ?_)
    refine x_iload_n C 1 1 dX11_end_19 rfl rfl ?_
    exact x_iret C dX11_end_20 rfl (congrArg Prod.fst (Option.some.inj hF)) (congrArg (fun q9 : Int32 × xS => CW K ad la rest q9.2) (Option.some.inj hF))
  · refine x_iconst C (-1) dX11_end_12 (by decide +kernel) ?_
    exact x_iret C dX11_end_13 rfl (congrArg Prod.fst (Option.some.inj hF)) (congrArg (fun q9 : Int32 × xS => CW K ad la rest q9.2) (Option.some.inj hF))
theorem dX11_bookFromTape_0 : decode cX11_bookFromTape 0 = .ok (.iload_n 1, 1) := by decide +kernel
theorem dX11_bookFromTape_1 : decode cX11_bookFromTape 1 = .ok (.iconst 2, 1) := by decide +kernel
theorem dX11_bookFromTape_2 : decode cX11_bookFromTape 2 = .ok (.iadd, 1) := by decide +kernel
theorem dX11_bookFromTape_3 : decode cX11_bookFromTape 3 = .ok (.aload_n 0, 1) := by decide +kernel
theorem dX11_bookFromTape_4 : decode cX11_bookFromTape 4 = .ok (.getfield 143, 3) := by decide +kernel
theorem dX11_bookFromTape_7 : decode cX11_bookFromTape 7 = .ok (.if_icmp .ge 17, 3) := by decide +kernel
theorem dX11_bookFromTape_10 : decode cX11_bookFromTape 10 = .ok (.aload_n 0, 1) := by decide +kernel
theorem dX11_bookFromTape_11 : decode cX11_bookFromTape 11 = .ok (.getfield 79, 3) := by decide +kernel
theorem dX11_bookFromTape_14 : decode cX11_bookFromTape 14 = .ok (.iload_n 1, 1) := by decide +kernel
theorem dX11_bookFromTape_15 : decode cX11_bookFromTape 15 = .ok (.iaload, 1) := by decide +kernel
theorem dX11_bookFromTape_16 : decode cX11_bookFromTape 16 = .ok (.getstatic 109, 3) := by decide +kernel
theorem dX11_bookFromTape_19 : decode cX11_bookFromTape 19 = .ok (.iconst 0, 1) := by decide +kernel
theorem dX11_bookFromTape_20 : decode cX11_bookFromTape 20 = .ok (.iaload, 1) := by decide +kernel
theorem dX11_bookFromTape_21 : decode cX11_bookFromTape 21 = .ok (.if_icmp .le 5, 3) := by decide +kernel
theorem dX11_bookFromTape_24 : decode cX11_bookFromTape 24 = .ok (.iconst 0, 1) := by decide +kernel
theorem dX11_bookFromTape_25 : decode cX11_bookFromTape 25 = .ok (.ireturn, 1) := by decide +kernel
theorem dX11_bookFromTape_26 : decode cX11_bookFromTape 26 = .ok (.aload_n 0, 1) := by decide +kernel
theorem dX11_bookFromTape_27 : decode cX11_bookFromTape 27 = .ok (.aload_n 0, 1) := by decide +kernel
theorem dX11_bookFromTape_28 : decode cX11_bookFromTape 28 = .ok (.getfield 79, 3) := by decide +kernel
theorem dX11_bookFromTape_31 : decode cX11_bookFromTape 31 = .ok (.iload_n 1, 1) := by decide +kernel
theorem dX11_bookFromTape_32 : decode cX11_bookFromTape 32 = .ok (.iaload, 1) := by decide +kernel
theorem dX11_bookFromTape_33 : decode cX11_bookFromTape 33 = .ok (.aload_n 0, 1) := by decide +kernel
theorem dX11_bookFromTape_34 : decode cX11_bookFromTape 34 = .ok (.getfield 79, 3) := by decide +kernel
theorem dX11_bookFromTape_37 : decode cX11_bookFromTape 37 = .ok (.iload_n 1, 1) := by decide +kernel
theorem dX11_bookFromTape_38 : decode cX11_bookFromTape 38 = .ok (.iconst 1, 1) := by decide +kernel
theorem dX11_bookFromTape_39 : decode cX11_bookFromTape 39 = .ok (.iadd, 1) := by decide +kernel
theorem dX11_bookFromTape_40 : decode cX11_bookFromTape 40 = .ok (.iaload, 1) := by decide +kernel
theorem dX11_bookFromTape_41 : decode cX11_bookFromTape 41 = .ok (.iconst 0, 1) := by decide +kernel
theorem dX11_bookFromTape_42 : decode cX11_bookFromTape 42 = .ok (.aload_n 0, 1) := by decide +kernel
theorem dX11_bookFromTape_43 : decode cX11_bookFromTape 43 = .ok (.getfield 79, 3) := by decide +kernel
theorem dX11_bookFromTape_46 : decode cX11_bookFromTape 46 = .ok (.iload_n 1, 1) := by decide +kernel
theorem dX11_bookFromTape_47 : decode cX11_bookFromTape 47 = .ok (.iconst 2, 1) := by decide +kernel
theorem dX11_bookFromTape_48 : decode cX11_bookFromTape 48 = .ok (.iadd, 1) := by decide +kernel
theorem dX11_bookFromTape_49 : decode cX11_bookFromTape 49 = .ok (.iaload, 1) := by decide +kernel
theorem dX11_bookFromTape_50 : decode cX11_bookFromTape 50 = .ok (.iconst 0, 1) := by decide +kernel
theorem dX11_bookFromTape_51 : decode cX11_bookFromTape 51 = .ok (.invokevirtual 98, 3) := by decide +kernel
theorem dX11_bookFromTape_54 : decode cX11_bookFromTape 54 = .ok (.iconst (-1), 1) := by decide +kernel
theorem dX11_bookFromTape_55 : decode cX11_bookFromTape 55 = .ok (.if_icmp .eq 7, 3) := by decide +kernel
theorem dX11_bookFromTape_58 : decode cX11_bookFromTape 58 = .ok (.iconst 1, 1) := by decide +kernel
theorem dX11_bookFromTape_59 : decode cX11_bookFromTape 59 = .ok (.goto 4, 3) := by decide +kernel
theorem dX11_bookFromTape_62 : decode cX11_bookFromTape 62 = .ok (.iconst 0, 1) := by decide +kernel
theorem dX11_bookFromTape_63 : decode cX11_bookFromTape 63 = .ok (.ireturn, 1) := by decide +kernel
set_option maxHeartbeats 4000000 in
set_option maxRecDepth 100000 in
theorem c_X11_bookFromTape (l : Launch) (D : va_G) (K : Nat → ClassId) (ad la : Nat → Nat) (rest : va_W)  (a1 : Int32) (σ : xS) (z : Int32 × xS) (hF : F_X11_bookFromTape a1 σ = some z) : CI l D K yX11_bookFromTape cX11_bookFromTape 2 (some .boolean) 3 70 [.ref (ad 0), .int a1] (CW K ad la rest σ) z.1 (CW K ad la rest z.2) := by
  refine x_enterI [(0, .ref (ad 0)), (1, .int a1)] pnX11 (Nat.le_of_ble_eq_true rfl) rfl ?_
  intro p e s m args below meth c A C
  unfold F_X11_bookFromTape at hF
  refine x_iload_n C 1 1 dX11_bookFromTape_0 rfl rfl ?_
  refine x_iconst C 2 dX11_bookFromTape_1 (by decide +kernel) ?_
  refine x_iadd C dX11_bookFromTape_2 ?_
  refine x_aload_n C 0 0 dX11_bookFromTape_3 rfl rfl ?_
  refine x_get C 0 dX11_bookFromTape_4 fl_X11_143 (CW_0 K ad la rest σ) rfl ?_
  refine x_icmp_ge C 24 dX11_bookFromTape_7 (by decide) hF (fun hF => ?_) (fun hF => ?_)
  · refine x_iconst C 0 dX11_bookFromTape_24 (by decide +kernel) ?_
    have hz := (cz_some hF).1
    replace hF := (cz_some hF).2
    exact x_zret C dX11_bookFromTape_25 rfl hz (congrArg Prod.fst (Option.some.inj hF)) (congrArg (fun q9 : Int32 × xS => CW K ad la rest q9.2) (Option.some.inj hF))
  · refine x_aload_n C 0 0 dX11_bookFromTape_10 rfl rfl ?_
    refine x_get C 0 dX11_bookFromTape_11 fl_X11_79 (CW_0 K ad la rest σ) rfl ?_
    refine x_iload_n C 1 1 dX11_bookFromTape_14 rfl rfl ?_
    refine x_iald C 3 dX11_bookFromTape_15 (CW_3 K ad la rest σ) hF (fun v1 hF => ?_)
    refine x_tabZ C C.2.2.2.2.2.2.2.2.2.1 dX11_bookFromTape_16 (xT_mem (List.mem_append_right _ (List.mem_of_getElem? (i := 405) (by decide +kernel))) (by decide +kernel)) (fun t2 ht2 => ?_)
    refine x_iconst C 0 dX11_bookFromTape_19 (by decide +kernel) ?_
    refine x_tabI C ht2 dX11_bookFromTape_20 hF (fun v3 hF => ?_)
    refine x_icmp_le C 26 dX11_bookFromTape_21 (by decide) hF (fun hF => ?_) (fun hF => ?_)
    · refine x_aload_n C 0 0 dX11_bookFromTape_26 rfl rfl ?_
      refine x_aload_n C 0 0 dX11_bookFromTape_27 rfl rfl ?_
      refine x_get C 0 dX11_bookFromTape_28 fl_X11_79 (CW_0 K ad la rest σ) rfl ?_
      refine x_iload_n C 1 1 dX11_bookFromTape_31 rfl rfl ?_
      refine x_iald C 3 dX11_bookFromTape_32 (CW_3 K ad la rest σ) hF (fun v4 hF => ?_)
      refine x_aload_n C 0 0 dX11_bookFromTape_33 rfl rfl ?_
      refine x_get C 0 dX11_bookFromTape_34 fl_X11_79 (CW_0 K ad la rest σ) rfl ?_
      refine x_iload_n C 1 1 dX11_bookFromTape_37 rfl rfl ?_
      refine x_iconst C 1 dX11_bookFromTape_38 (by decide +kernel) ?_
      refine x_iadd C dX11_bookFromTape_39 ?_
      refine x_iald C 3 dX11_bookFromTape_40 (CW_3 K ad la rest σ) hF (fun v5 hF => ?_)
      refine x_iconst C 0 dX11_bookFromTape_41 (by decide +kernel) ?_
      refine x_aload_n C 0 0 dX11_bookFromTape_42 rfl rfl ?_
      refine x_get C 0 dX11_bookFromTape_43 fl_X11_79 (CW_0 K ad la rest σ) rfl ?_
      refine x_iload_n C 1 1 dX11_bookFromTape_46 rfl rfl ?_
      refine x_iconst C 2 dX11_bookFromTape_47 (by decide +kernel) ?_
      refine x_iadd C dX11_bookFromTape_48 ?_
      refine x_iald C 3 dX11_bookFromTape_49 (CW_3 K ad la rest σ) hF (fun v6 hF => ?_)
      refine x_iconst C 0 dX11_bookFromTape_50 (by decide +kernel) ?_
      refine x_callVI C (wf := CW K ad la rest) (As := [.int v4, .int v5, .int 0, .int v6, .int 0]) (rest := []) dX11_bookFromTape_51 ml_X11_98 rfl rfl (Nat.le_of_ble_eq_true rfl) 0 (CW_0 K ad la rest σ) rfl ⟨Nat.le_of_ble_eq_true rfl, Nat.le_of_ble_eq_true rfl⟩ ⟨Nat.zero_le _, Nat.zero_le _⟩ (fun q9 hq9 => c_X11_addBook l D K ad la rest v4 v5 0 v6 0 σ q9 hq9) hF (fun v8 σ7 hF => ?_)
      refine x_iconst C (-1) dX11_bookFromTape_54 (by decide +kernel) ?_
      refine x_icmp_eq C 62 dX11_bookFromTape_55 (by decide) hF (fun hF => ?_) (fun hF => ?_)
      · refine x_iconst C 0 dX11_bookFromTape_62 (by decide +kernel) ?_
        have hz := (cz_some hF).1
        replace hF := (cz_some hF).2
        exact x_zret C dX11_bookFromTape_63 rfl hz (congrArg Prod.fst (Option.some.inj hF)) (congrArg (fun q9 : Int32 × xS => CW K ad la rest q9.2) (Option.some.inj hF))
      · refine x_iconst C 1 dX11_bookFromTape_58 (by decide +kernel) ?_
        refine x_goto C 63 dX11_bookFromTape_59 (by decide) ?_
        have hz := (cz_some hF).1
        replace hF := (cz_some hF).2
        exact x_zret C dX11_bookFromTape_63 rfl hz (congrArg Prod.fst (Option.some.inj hF)) (congrArg (fun q9 : Int32 × xS => CW K ad la rest q9.2) (Option.some.inj hF))
    · refine x_iconst C 0 dX11_bookFromTape_24 (by decide +kernel) ?_
      have hz := (cz_some hF).1
      replace hF := (cz_some hF).2
      exact x_zret C dX11_bookFromTape_25 rfl hz (congrArg Prod.fst (Option.some.inj hF)) (congrArg (fun q9 : Int32 × xS => CW K ad la rest q9.2) (Option.some.inj hF))
theorem dX11_row_0 : decode cX11_row 0 = .ok (.aload_n 0, 1) := by decide +kernel
theorem dX11_row_1 : decode cX11_row 1 = .ok (.getfield 143, 3) := by decide +kernel
theorem dX11_row_4 : decode cX11_row 4 = .ok (.ifCond .ne 10, 3) := by decide +kernel
theorem dX11_row_7 : decode cX11_row 7 = .ok (.aload_n 0, 1) := by decide +kernel
theorem dX11_row_8 : decode cX11_row 8 = .ok (.bipush (-6), 2) := by decide +kernel
theorem dX11_row_10 : decode cX11_row 10 = .ok (.invokevirtual 94, 3) := by decide +kernel
theorem dX11_row_13 : decode cX11_row 13 = .ok (.ireturn, 1) := by decide +kernel
theorem dX11_row_14 : decode cX11_row 14 = .ok (.iconst 0, 1) := by decide +kernel
theorem dX11_row_15 : decode cX11_row 15 = .ok (.istore_n 1, 1) := by decide +kernel
theorem dX11_row_16 : decode cX11_row 16 = .ok (.aload_n 0, 1) := by decide +kernel
theorem dX11_row_17 : decode cX11_row 17 = .ok (.iconst 0, 1) := by decide +kernel
theorem dX11_row_18 : decode cX11_row 18 = .ok (.putfield 150, 3) := by decide +kernel
theorem dX11_row_21 : decode cX11_row 21 = .ok (.iconst 0, 1) := by decide +kernel
theorem dX11_row_22 : decode cX11_row 22 = .ok (.istore_n 2, 1) := by decide +kernel
theorem dX11_row_23 : decode cX11_row 23 = .ok (.iload_n 2, 1) := by decide +kernel
theorem dX11_row_24 : decode cX11_row 24 = .ok (.aload_n 0, 1) := by decide +kernel
theorem dX11_row_25 : decode cX11_row 25 = .ok (.getfield 143, 3) := by decide +kernel
theorem dX11_row_28 : decode cX11_row 28 = .ok (.if_icmp .ge 33, 3) := by decide +kernel
theorem dX11_row_31 : decode cX11_row 31 = .ok (.aload_n 0, 1) := by decide +kernel
theorem dX11_row_32 : decode cX11_row 32 = .ok (.iload_n 2, 1) := by decide +kernel
theorem dX11_row_33 : decode cX11_row 33 = .ok (.invokevirtual 153, 3) := by decide +kernel
theorem dX11_row_36 : decode cX11_row 36 = .ok (.ifCond .eq 9, 3) := by decide +kernel
theorem dX11_row_39 : decode cX11_row 39 = .ok (.iinc 1 1, 3) := by decide +kernel
theorem dX11_row_42 : decode cX11_row 42 = .ok (.goto 13, 3) := by decide +kernel
theorem dX11_row_45 : decode cX11_row 45 = .ok (.aload_n 0, 1) := by decide +kernel
theorem dX11_row_46 : decode cX11_row 46 = .ok (.dup, 1) := by decide +kernel
theorem dX11_row_47 : decode cX11_row 47 = .ok (.getfield 150, 3) := by decide +kernel
theorem dX11_row_50 : decode cX11_row 50 = .ok (.iconst 1, 1) := by decide +kernel
theorem dX11_row_51 : decode cX11_row 51 = .ok (.iadd, 1) := by decide +kernel
theorem dX11_row_52 : decode cX11_row 52 = .ok (.putfield 150, 3) := by decide +kernel
theorem dX11_row_55 : decode cX11_row 55 = .ok (.iinc 2 3, 3) := by decide +kernel
theorem dX11_row_58 : decode cX11_row 58 = .ok (.goto (-35), 3) := by decide +kernel
theorem dX11_row_61 : decode cX11_row 61 = .ok (.aload_n 0, 1) := by decide +kernel
theorem dX11_row_62 : decode cX11_row 62 = .ok (.iconst 0, 1) := by decide +kernel
theorem dX11_row_63 : decode cX11_row 63 = .ok (.putfield 143, 3) := by decide +kernel
theorem dX11_row_66 : decode cX11_row 66 = .ok (.aload_n 0, 1) := by decide +kernel
theorem dX11_row_67 : decode cX11_row 67 = .ok (.iload_n 1, 1) := by decide +kernel
theorem dX11_row_68 : decode cX11_row 68 = .ok (.invokevirtual 102, 3) := by decide +kernel
theorem dX11_row_71 : decode cX11_row 71 = .ok (.ireturn, 1) := by decide +kernel
set_option maxHeartbeats 4000000 in
set_option maxRecDepth 100000 in
theorem x_X11_row_23 {p : Program} {l : Launch} {e : Env} {s : State} {m : MethodId} {args : Array Value} {below : List Frame} {meth : Method} {c : Code} {D : va_G} {K : Nat → ClassId} {A : Nat → Prop} {ad la : Nat → Nat} {rest : va_W} (C : xC p s m args meth c D K A RX11 cX11_row 3 (some .int)) (z : Int32 × xS) : ∀ (n : Nat) (y1 : Int32) (y2 : Int32) (σ : xS), F_X11_row_23  n y1 y2 σ = some z → X p l e (xR 4 91) s m args below meth c D A 3 (xQi below D K A args s z.1 (CW K ad la rest z.2)) 0 0 23 [(0, .ref (ad 0)), (1, .int y1), (2, .int y2)] [] (CW K ad la rest σ) := by
  intro n
  induction n with
  | zero =>
    intro y1 y2 σ hF
    cases hF
  | succ n ih =>
    intro y1 y2 σ hF
    rw [F_X11_row_23] at hF
    refine x_iload_n C 2 2 dX11_row_23 rfl rfl ?_
    refine x_aload_n C 0 0 dX11_row_24 rfl rfl ?_
    refine x_get C 0 dX11_row_25 fl_X11_143 (CW_0 K ad la rest σ) rfl ?_
    refine x_icmp_ge C 61 dX11_row_28 (by decide) hF (fun hF => ?_) (fun hF => ?_)
    · refine x_aload_n C 0 0 dX11_row_61 rfl rfl ?_
      refine x_iconst C 0 dX11_row_62 (by decide +kernel) ?_
      refine x_put C 0 dX11_row_63 fl_X11_143 fm_X11_11 rfl rfl (CW_0 K ad la rest σ) (Nat.le_of_ble_eq_true rfl) (CW_s0_11 K ad la rest σ _) ?_
      refine x_st (wf := CW K ad la rest) hF (fun σ6 hF => ?_)
      refine x_aload_n C 0 0 dX11_row_66 rfl rfl ?_
      refine x_iload_n C 1 1 dX11_row_67 rfl rfl ?_
      refine x_callVI C (wf := CW K ad la rest) (As := [.int y1]) (rest := []) dX11_row_68 ml_X11_102 rfl rfl (Nat.le_of_ble_eq_true rfl) 0 (CW_0 K ad la rest σ6) rfl ⟨Nat.le_of_ble_eq_true rfl, Nat.le_of_ble_eq_true rfl⟩ ⟨Nat.zero_le _, Nat.zero_le _⟩ (fun q9 hq9 => c_X11_accepted l D K ad la rest y1 σ6 q9 hq9) hF (fun v8 σ7 hF => ?_)
      exact x_iret C dX11_row_71 rfl (congrArg Prod.fst (Option.some.inj hF)) (congrArg (fun q9 : Int32 × xS => CW K ad la rest q9.2) (Option.some.inj hF))
    · refine x_aload_n C 0 0 dX11_row_31 rfl rfl ?_
      refine x_iload_n C 2 2 dX11_row_32 rfl rfl ?_
      refine x_callVI C (wf := CW K ad la rest) (As := [.int y2]) (rest := []) dX11_row_33 ml_X11_153 rfl rfl (Nat.le_of_ble_eq_true rfl) 0 (CW_0 K ad la rest σ) rfl ⟨Nat.le_of_ble_eq_true rfl, Nat.le_of_ble_eq_true rfl⟩ ⟨Nat.zero_le _, Nat.zero_le _⟩ (fun q9 hq9 => c_X11_bookFromTape l D K ad la rest y2 σ q9 hq9) hF (fun v10 σ9 hF => ?_)
      refine x_if_eq C 45 dX11_row_36 (by decide) hF (fun hF => ?_) (fun hF => ?_)
      · refine x_aload_n C 0 0 dX11_row_45 rfl rfl ?_
        refine x_dup C rfl dX11_row_46 ?_
        refine x_get C 0 dX11_row_47 fl_X11_150 (CW_0 K ad la rest σ9) rfl ?_
        refine x_iconst C 1 dX11_row_50 (by decide +kernel) ?_
        refine x_iadd C dX11_row_51 ?_
        refine x_put C 0 dX11_row_52 fl_X11_150 fm_X11_13 rfl rfl (CW_0 K ad la rest σ9) (Nat.le_of_ble_eq_true rfl) (CW_s0_13 K ad la rest σ9 _) ?_
        refine x_st (wf := CW K ad la rest) hF (fun σ11 hF => ?_)
        refine x_iincN C 3 2 (fun x12 => [(2, .int x12), (0, .ref (ad 0)), (1, .int y1)]) dX11_row_55 rfl (by decide +kernel) (by decide) (fun _ => rfl) hF (fun x12 hF => ?_)
        refine x_goto C 23 dX11_row_58 (by decide) ?_
        refine x_loc [(0, .ref (ad 0)), (1, .int y1), (2, .int x12)] [1, 2, 0] rfl ?_
        exact ih y1 x12 σ11 hF
      · refine x_iincN C 1 1 (fun x13 => [(1, .int x13), (0, .ref (ad 0)), (2, .int y2)]) dX11_row_39 rfl (by decide +kernel) (by decide) (fun _ => rfl) hF (fun x13 hF => ?_)
        refine x_goto C 55 dX11_row_42 (by decide) ?_
        refine x_iincN C 3 2 (fun x14 => [(2, .int x14), (1, .int x13), (0, .ref (ad 0))]) dX11_row_55 rfl (by decide +kernel) (by decide) (fun _ => rfl) hF (fun x14 hF => ?_)
        refine x_goto C 23 dX11_row_58 (by decide) ?_
        refine x_loc [(0, .ref (ad 0)), (1, .int x13), (2, .int x14)] [2, 1, 0] rfl ?_
        exact ih x13 x14 σ9 hF
set_option maxHeartbeats 4000000 in
set_option maxRecDepth 100000 in
theorem c_X11_row (l : Launch) (D : va_G) (K : Nat → ClassId) (ad la : Nat → Nat) (rest : va_W)   (σ : xS) (z : Int32 × xS) (hF : F_X11_row σ = some z) : CI l D K yX11_row cX11_row 3 (some .int) 4 91 [.ref (ad 0)] (CW K ad la rest σ) z.1 (CW K ad la rest z.2) := by
  refine x_enterI [(0, .ref (ad 0))] pnX11 (Nat.le_of_ble_eq_true rfl) rfl ?_
  intro p e s m args below meth c A C
  unfold F_X11_row at hF
  refine x_aload_n C 0 0 dX11_row_0 rfl rfl ?_
  refine x_get C 0 dX11_row_1 fl_X11_143 (CW_0 K ad la rest σ) rfl ?_
  refine x_if_ne C 14 dX11_row_4 (by decide) hF (fun hF => ?_) (fun hF => ?_)
  · refine x_iconst C 0 dX11_row_14 (by decide +kernel) ?_
    refine x_topI hF (fun x1 hF => ?_)
    refine x_istore_n C [(1, .int x1), (0, .ref (ad 0))] dX11_row_15 rfl (by decide) rfl ?_
    refine x_aload_n C 1 0 dX11_row_16 rfl rfl ?_
    refine x_iconst C 0 dX11_row_17 (by decide +kernel) ?_
    refine x_put C 0 dX11_row_18 fl_X11_150 fm_X11_13 rfl rfl (CW_0 K ad la rest σ) (Nat.le_of_ble_eq_true rfl) (CW_s0_13 K ad la rest σ _) ?_
    refine x_st (wf := CW K ad la rest) hF (fun σ2 hF => ?_)
    refine x_iconst C 0 dX11_row_21 (by decide +kernel) ?_
    refine x_topI hF (fun x3 hF => ?_)
    refine x_istore_n C [(2, .int x3), (1, .int x1), (0, .ref (ad 0))] dX11_row_22 rfl (by decide) rfl ?_
    refine x_loc [(0, .ref (ad 0)), (1, .int x1), (2, .int x3)] [2, 1, 0] rfl ?_
    exact x_X11_row_23 C z FU x1 x3 σ2 hF
  · refine x_aload_n C 0 0 dX11_row_7 rfl rfl ?_
    refine x_bipush C (-6) dX11_row_8 (by decide +kernel) ?_
    refine x_callVI C (wf := CW K ad la rest) (As := [.int ((-6))]) (rest := []) dX11_row_10 ml_X11_94 rfl rfl (Nat.le_of_ble_eq_true rfl) 0 (CW_0 K ad la rest σ) rfl ⟨Nat.le_of_ble_eq_true rfl, Nat.le_of_ble_eq_true rfl⟩ ⟨Nat.zero_le _, Nat.zero_le _⟩ (fun q9 hq9 => c_X11_refused l D K ad la rest ((-6)) σ q9 hq9) hF (fun v5 σ4 hF => ?_)
    exact x_iret C dX11_row_13 rfl (congrArg Prod.fst (Option.some.inj hF)) (congrArg (fun q9 : Int32 × xS => CW K ad la rest q9.2) (Option.some.inj hF))
theorem dX11_foxed_0 : decode cX11_foxed 0 = .ok (.aload_n 0, 1) := by decide +kernel
theorem dX11_foxed_1 : decode cX11_foxed 1 = .ok (.getfield 150, 3) := by decide +kernel
theorem dX11_foxed_4 : decode cX11_foxed 4 = .ok (.ireturn, 1) := by decide +kernel
set_option maxHeartbeats 4000000 in
set_option maxRecDepth 100000 in
theorem c_X11_foxed (l : Launch) (D : va_G) (K : Nat → ClassId) (ad la : Nat → Nat) (rest : va_W)   (σ : xS) (z : Int32 × xS) (hF : F_X11_foxed σ = some z) : CI l D K yX11_foxed cX11_foxed 1 (some .int) 0 0 [.ref (ad 0)] (CW K ad la rest σ) z.1 (CW K ad la rest z.2) := by
  refine x_enterI [(0, .ref (ad 0))] pnX11 (Nat.le_of_ble_eq_true rfl) rfl ?_
  intro p e s m args below meth c A C
  unfold F_X11_foxed at hF
  refine x_aload_n C 0 0 dX11_foxed_0 rfl rfl ?_
  refine x_get C 0 dX11_foxed_1 fl_X11_150 (CW_0 K ad la rest σ) rfl ?_
  exact x_iret C dX11_foxed_4 rfl (congrArg Prod.fst (Option.some.inj hF)) (congrArg (fun q9 : Int32 × xS => CW K ad la rest q9.2) (Option.some.inj hF))
theorem dX11_fault_0 : decode cX11_fault 0 = .ok (.aload_n 0, 1) := by decide +kernel
theorem dX11_fault_1 : decode cX11_fault 1 = .ok (.getfield 83, 3) := by decide +kernel
theorem dX11_fault_4 : decode cX11_fault 4 = .ok (.ireturn, 1) := by decide +kernel
set_option maxHeartbeats 4000000 in
set_option maxRecDepth 100000 in
theorem c_X11_fault (l : Launch) (D : va_G) (K : Nat → ClassId) (ad la : Nat → Nat) (rest : va_W)   (σ : xS) (z : Int32 × xS) (hF : F_X11_fault σ = some z) : CI l D K yX11_fault cX11_fault 1 (some .int) 0 0 [.ref (ad 0)] (CW K ad la rest σ) z.1 (CW K ad la rest z.2) := by
  refine x_enterI [(0, .ref (ad 0))] pnX11 (Nat.le_of_ble_eq_true rfl) rfl ?_
  intro p e s m args below meth c A C
  unfold F_X11_fault at hF
  refine x_aload_n C 0 0 dX11_fault_0 rfl rfl ?_
  refine x_get C 0 dX11_fault_1 fl_X11_83 (CW_0 K ad la rest σ) rfl ?_
  exact x_iret C dX11_fault_4 rfl (congrArg Prod.fst (Option.some.inj hF)) (congrArg (fun q9 : Int32 × xS => CW K ad la rest q9.2) (Option.some.inj hF))
theorem dX11_force_0 : decode cX11_force 0 = .ok (.iload_n 1, 1) := by decide +kernel
theorem dX11_force_1 : decode cX11_force 1 = .ok (.iconst (-1), 1) := by decide +kernel
theorem dX11_force_2 : decode cX11_force 2 = .ok (.aload_n 0, 1) := by decide +kernel
theorem dX11_force_3 : decode cX11_force 3 = .ok (.getfield 10, 3) := by decide +kernel
theorem dX11_force_6 : decode cX11_force 6 = .ok (.getfield 156, 3) := by decide +kernel
theorem dX11_force_9 : decode cX11_force 9 = .ok (.iconst 1, 1) := by decide +kernel
theorem dX11_force_10 : decode cX11_force 10 = .ok (.isub, 1) := by decide +kernel
theorem dX11_force_11 : decode cX11_force 11 = .ok (.invokestatic 105, 3) := by decide +kernel
theorem dX11_force_14 : decode cX11_force 14 = .ok (.ifCond .ne 10, 3) := by decide +kernel
theorem dX11_force_17 : decode cX11_force 17 = .ok (.aload_n 0, 1) := by decide +kernel
theorem dX11_force_18 : decode cX11_force 18 = .ok (.bipush (-2), 2) := by decide +kernel
theorem dX11_force_20 : decode cX11_force 20 = .ok (.invokevirtual 94, 3) := by decide +kernel
theorem dX11_force_23 : decode cX11_force 23 = .ok (.ireturn, 1) := by decide +kernel
theorem dX11_force_24 : decode cX11_force 24 = .ok (.aload_n 0, 1) := by decide +kernel
theorem dX11_force_25 : decode cX11_force 25 = .ok (.getfield 10, 3) := by decide +kernel
theorem dX11_force_28 : decode cX11_force 28 = .ok (.getfield 170, 3) := by decide +kernel
theorem dX11_force_31 : decode cX11_force 31 = .ok (.istore_n 2, 1) := by decide +kernel
theorem dX11_force_32 : decode cX11_force 32 = .ok (.aload_n 0, 1) := by decide +kernel
theorem dX11_force_33 : decode cX11_force 33 = .ok (.getfield 10, 3) := by decide +kernel
theorem dX11_force_36 : decode cX11_force 36 = .ok (.iload_n 1, 1) := by decide +kernel
theorem dX11_force_37 : decode cX11_force 37 = .ok (.putfield 170, 3) := by decide +kernel
theorem dX11_force_40 : decode cX11_force 40 = .ok (.aload_n 0, 1) := by decide +kernel
theorem dX11_force_41 : decode cX11_force 41 = .ok (.iload_n 2, 1) := by decide +kernel
theorem dX11_force_42 : decode cX11_force 42 = .ok (.invokevirtual 102, 3) := by decide +kernel
theorem dX11_force_45 : decode cX11_force 45 = .ok (.ireturn, 1) := by decide +kernel
set_option maxHeartbeats 4000000 in
set_option maxRecDepth 100000 in
theorem c_X11_force (l : Launch) (D : va_G) (K : Nat → ClassId) (ad la : Nat → Nat) (rest : va_W)  (a1 : Int32) (σ : xS) (z : Int32 × xS) (hF : F_X11_force a1 σ = some z) : CI l D K yX11_force cX11_force 3 (some .int) 1 22 [.ref (ad 0), .int a1] (CW K ad la rest σ) z.1 (CW K ad la rest z.2) := by
  refine x_enterI [(0, .ref (ad 0)), (1, .int a1)] pnX11 (Nat.le_of_ble_eq_true rfl) rfl ?_
  intro p e s m args below meth c A C
  unfold F_X11_force at hF
  refine x_iload_n C 1 1 dX11_force_0 rfl rfl ?_
  refine x_iconst C (-1) dX11_force_1 (by decide +kernel) ?_
  refine x_aload_n C 0 0 dX11_force_2 rfl rfl ?_
  refine x_get C 0 dX11_force_3 fl_X11_10 (CW_0 K ad la rest σ) rfl ?_
  refine x_get C 5 dX11_force_6 fl_X11_156 (CW_5 K ad la rest σ) rfl ?_
  refine x_iconst C 1 dX11_force_9 (by decide +kernel) ?_
  refine x_isub C dX11_force_10 ?_
  refine x_callSI C (wf := CW K ad la rest) (As := [.int a1, .int ((-1)), .int ((sI σ 87) - 1)]) (rest := []) dX11_force_11 ml_X11_105 rfl rfl (Nat.le_of_ble_eq_true rfl) ⟨Nat.le_of_ble_eq_true rfl, Nat.le_of_ble_eq_true rfl⟩ ⟨Nat.zero_le _, Nat.zero_le _⟩ (fun q9 hq9 => c_X11_isWithin l D K ad la rest a1 ((-1)) ((sI σ 87) - 1) σ q9 hq9) hF (fun v2 σ1 hF => ?_)
  refine x_if_ne C 24 dX11_force_14 (by decide) hF (fun hF => ?_) (fun hF => ?_)
  · refine x_aload_n C 0 0 dX11_force_24 rfl rfl ?_
    refine x_get C 0 dX11_force_25 fl_X11_10 (CW_0 K ad la rest σ1) rfl ?_
    refine x_get C 5 dX11_force_28 fl_X11_170 (CW_5 K ad la rest σ1) rfl ?_
    refine x_topI hF (fun x3 hF => ?_)
    refine x_istore_n C [(2, .int x3), (0, .ref (ad 0)), (1, .int a1)] dX11_force_31 rfl (by decide) rfl ?_
    refine x_aload_n C 1 0 dX11_force_32 rfl rfl ?_
    refine x_get C 0 dX11_force_33 fl_X11_10 (CW_0 K ad la rest σ1) rfl ?_
    refine x_iload_n C 2 1 dX11_force_36 rfl rfl ?_
    refine x_put C 5 dX11_force_37 fl_X11_170 fm_X7_8 rfl rfl (CW_5 K ad la rest σ1) (Nat.le_of_ble_eq_true rfl) (CW_s5_8 K ad la rest σ1 _) ?_
    refine x_st (wf := CW K ad la rest) hF (fun σ4 hF => ?_)
    refine x_aload_n C 1 0 dX11_force_40 rfl rfl ?_
    refine x_iload_n C 0 2 dX11_force_41 rfl rfl ?_
    refine x_callVI C (wf := CW K ad la rest) (As := [.int x3]) (rest := []) dX11_force_42 ml_X11_102 rfl rfl (Nat.le_of_ble_eq_true rfl) 0 (CW_0 K ad la rest σ4) rfl ⟨Nat.le_of_ble_eq_true rfl, Nat.le_of_ble_eq_true rfl⟩ ⟨Nat.zero_le _, Nat.zero_le _⟩ (fun q9 hq9 => c_X11_accepted l D K ad la rest x3 σ4 q9 hq9) hF (fun v6 σ5 hF => ?_)
    exact x_iret C dX11_force_45 rfl (congrArg Prod.fst (Option.some.inj hF)) (congrArg (fun q9 : Int32 × xS => CW K ad la rest q9.2) (Option.some.inj hF))
  · refine x_aload_n C 0 0 dX11_force_17 rfl rfl ?_
    refine x_bipush C (-2) dX11_force_18 (by decide +kernel) ?_
    refine x_callVI C (wf := CW K ad la rest) (As := [.int ((-2))]) (rest := []) dX11_force_20 ml_X11_94 rfl rfl (Nat.le_of_ble_eq_true rfl) 0 (CW_0 K ad la rest σ1) rfl ⟨Nat.le_of_ble_eq_true rfl, Nat.le_of_ble_eq_true rfl⟩ ⟨Nat.zero_le _, Nat.zero_le _⟩ (fun q9 hq9 => c_X11_refused l D K ad la rest ((-2)) σ1 q9 hq9) hF (fun v8 σ7 hF => ?_)
    exact x_iret C dX11_force_23 rfl (congrArg Prod.fst (Option.some.inj hF)) (congrArg (fun q9 : Int32 × xS => CW K ad la rest q9.2) (Option.some.inj hF))
theorem dX11_chance_0 : decode cX11_chance 0 = .ok (.aload_n 0, 1) := by decide +kernel
theorem dX11_chance_1 : decode cX11_chance 1 = .ok (.getfield 10, 3) := by decide +kernel
theorem dX11_chance_4 : decode cX11_chance 4 = .ok (.getfield 112, 3) := by decide +kernel
theorem dX11_chance_7 : decode cX11_chance 7 = .ok (.iload_n 1, 1) := by decide +kernel
theorem dX11_chance_8 : decode cX11_chance 8 = .ok (.invokevirtual 116, 3) := by decide +kernel
theorem dX11_chance_11 : decode cX11_chance 11 = .ok (.ifCond .eq 36, 3) := by decide +kernel
theorem dX11_chance_14 : decode cX11_chance 14 = .ok (.iload_n 2, 1) := by decide +kernel
theorem dX11_chance_15 : decode cX11_chance 15 = .ok (.iconst 0, 1) := by decide +kernel
theorem dX11_chance_16 : decode cX11_chance 16 = .ok (.sipush 2000, 3) := by decide +kernel
theorem dX11_chance_19 : decode cX11_chance 19 = .ok (.invokestatic 105, 3) := by decide +kernel
theorem dX11_chance_22 : decode cX11_chance 22 = .ok (.ifCond .eq 25, 3) := by decide +kernel
theorem dX11_chance_25 : decode cX11_chance 25 = .ok (.iload_n 3, 1) := by decide +kernel
theorem dX11_chance_26 : decode cX11_chance 26 = .ok (.iconst 0, 1) := by decide +kernel
theorem dX11_chance_27 : decode cX11_chance 27 = .ok (.bipush 51, 2) := by decide +kernel
theorem dX11_chance_29 : decode cX11_chance 29 = .ok (.invokestatic 105, 3) := by decide +kernel
theorem dX11_chance_32 : decode cX11_chance 32 = .ok (.ifCond .eq 15, 3) := by decide +kernel
theorem dX11_chance_35 : decode cX11_chance 35 = .ok (.iload 4, 2) := by decide +kernel
theorem dX11_chance_37 : decode cX11_chance 37 = .ok (.iconst 0, 1) := by decide +kernel
theorem dX11_chance_38 : decode cX11_chance 38 = .ok (.sipush 999, 3) := by decide +kernel
theorem dX11_chance_41 : decode cX11_chance 41 = .ok (.invokestatic 105, 3) := by decide +kernel
theorem dX11_chance_44 : decode cX11_chance 44 = .ok (.ifCond .ne 5, 3) := by decide +kernel
theorem dX11_chance_47 : decode cX11_chance 47 = .ok (.iconst (-1), 1) := by decide +kernel
theorem dX11_chance_48 : decode cX11_chance 48 = .ok (.ireturn, 1) := by decide +kernel
theorem dX11_chance_49 : decode cX11_chance 49 = .ok (.aload_n 0, 1) := by decide +kernel
theorem dX11_chance_50 : decode cX11_chance 50 = .ok (.getfield 29, 3) := by decide +kernel
theorem dX11_chance_53 : decode cX11_chance 53 = .ok (.iload_n 1, 1) := by decide +kernel
theorem dX11_chance_54 : decode cX11_chance 54 = .ok (.iload_n 3, 1) := by decide +kernel
theorem dX11_chance_55 : decode cX11_chance 55 = .ok (.invokevirtual 173, 3) := by decide +kernel
theorem dX11_chance_58 : decode cX11_chance 58 = .ok (.aload_n 0, 1) := by decide +kernel
theorem dX11_chance_59 : decode cX11_chance 59 = .ok (.getfield 29, 3) := by decide +kernel
theorem dX11_chance_62 : decode cX11_chance 62 = .ok (.getfield 177, 3) := by decide +kernel
theorem dX11_chance_65 : decode cX11_chance 65 = .ok (.iconst 4, 1) := by decide +kernel
theorem dX11_chance_66 : decode cX11_chance 66 = .ok (.iload_n 2, 1) := by decide +kernel
theorem dX11_chance_67 : decode cX11_chance 67 = .ok (.iastore, 1) := by decide +kernel
theorem dX11_chance_68 : decode cX11_chance 68 = .ok (.aload_n 0, 1) := by decide +kernel
theorem dX11_chance_69 : decode cX11_chance 69 = .ok (.getfield 29, 3) := by decide +kernel
theorem dX11_chance_72 : decode cX11_chance 72 = .ok (.getfield 177, 3) := by decide +kernel
theorem dX11_chance_75 : decode cX11_chance 75 = .ok (.bipush 8, 2) := by decide +kernel
theorem dX11_chance_77 : decode cX11_chance 77 = .ok (.iload 4, 2) := by decide +kernel
theorem dX11_chance_79 : decode cX11_chance 79 = .ok (.iastore, 1) := by decide +kernel
theorem dX11_chance_80 : decode cX11_chance 80 = .ok (.aload_n 0, 1) := by decide +kernel
theorem dX11_chance_81 : decode cX11_chance 81 = .ok (.getfield 29, 3) := by decide +kernel
theorem dX11_chance_84 : decode cX11_chance 84 = .ok (.invokevirtual 180, 3) := by decide +kernel
theorem dX11_chance_87 : decode cX11_chance 87 = .ok (.ireturn, 1) := by decide +kernel
set_option maxHeartbeats 4000000 in
set_option maxRecDepth 100000 in
theorem c_X11_chance (l : Launch) (D : va_G) (K : Nat → ClassId) (ad la : Nat → Nat) (rest : va_W)  (a1 : Int32) (a2 : Int32) (a3 : Int32) (a4 : Int32) (σ : xS) (z : Int32 × xS) (hF : F_X11_chance a1 a2 a3 a4 σ = some z) : CI l D K yX11_chance cX11_chance 5 (some .int) 4 99 [.ref (ad 0), .int a1, .int a2, .int a3, .int a4] (CW K ad la rest σ) z.1 (CW K ad la rest z.2) := by
  refine x_enterI [(0, .ref (ad 0)), (1, .int a1), (2, .int a2), (3, .int a3), (4, .int a4)] pnX11 (Nat.le_of_ble_eq_true rfl) rfl ?_
  intro p e s m args below meth c A C
  unfold F_X11_chance at hF
  refine x_aload_n C 0 0 dX11_chance_0 rfl rfl ?_
  refine x_get C 0 dX11_chance_1 fl_X11_10 (CW_0 K ad la rest σ) rfl ?_
  refine x_get C 5 dX11_chance_4 fl_X11_112 (CW_5 K ad la rest σ) rfl ?_
  refine x_iload_n C 1 1 dX11_chance_7 rfl rfl ?_
  refine x_callVI C (wf := CW K ad la rest) (As := [.int a1]) (rest := []) dX11_chance_8 ml_X11_116 rfl rfl (Nat.le_of_ble_eq_true rfl) 8 (CW_8 K ad la rest σ) rfl ⟨Nat.le_of_ble_eq_true rfl, Nat.le_of_ble_eq_true rfl⟩ ⟨Nat.zero_le _, Nat.zero_le _⟩ (fun q9 hq9 => c_X6_has l D K ad la rest 0 (by decide) a1 σ q9 hq9) hF (fun v2 σ1 hF => ?_)
  refine x_if_eq C 47 dX11_chance_11 (by decide) hF (fun hF => ?_) (fun hF => ?_)
  · refine x_iconst C (-1) dX11_chance_47 (by decide +kernel) ?_
    exact x_iret C dX11_chance_48 rfl (congrArg Prod.fst (Option.some.inj hF)) (congrArg (fun q9 : Int32 × xS => CW K ad la rest q9.2) (Option.some.inj hF))
  · refine x_iload_n C 2 2 dX11_chance_14 rfl rfl ?_
    refine x_iconst C 0 dX11_chance_15 (by decide +kernel) ?_
    refine x_sipush C 2000 dX11_chance_16 (by decide +kernel) ?_
    refine x_callSI C (wf := CW K ad la rest) (As := [.int a2, .int 0, .int 2000]) (rest := []) dX11_chance_19 ml_X11_105 rfl rfl (Nat.le_of_ble_eq_true rfl) ⟨Nat.le_of_ble_eq_true rfl, Nat.le_of_ble_eq_true rfl⟩ ⟨Nat.zero_le _, Nat.zero_le _⟩ (fun q9 hq9 => c_X11_isWithin l D K ad la rest a2 0 2000 σ1 q9 hq9) hF (fun v4 σ3 hF => ?_)
    refine x_if_eq C 47 dX11_chance_22 (by decide) hF (fun hF => ?_) (fun hF => ?_)
    · refine x_iconst C (-1) dX11_chance_47 (by decide +kernel) ?_
      exact x_iret C dX11_chance_48 rfl (congrArg Prod.fst (Option.some.inj hF)) (congrArg (fun q9 : Int32 × xS => CW K ad la rest q9.2) (Option.some.inj hF))
    · refine x_iload_n C 3 3 dX11_chance_25 rfl rfl ?_
      refine x_iconst C 0 dX11_chance_26 (by decide +kernel) ?_
      refine x_bipush C 51 dX11_chance_27 (by decide +kernel) ?_
      refine x_callSI C (wf := CW K ad la rest) (As := [.int a3, .int 0, .int 51]) (rest := []) dX11_chance_29 ml_X11_105 rfl rfl (Nat.le_of_ble_eq_true rfl) ⟨Nat.le_of_ble_eq_true rfl, Nat.le_of_ble_eq_true rfl⟩ ⟨Nat.zero_le _, Nat.zero_le _⟩ (fun q9 hq9 => c_X11_isWithin l D K ad la rest a3 0 51 σ3 q9 hq9) hF (fun v6 σ5 hF => ?_)
      refine x_if_eq C 47 dX11_chance_32 (by decide) hF (fun hF => ?_) (fun hF => ?_)
      · refine x_iconst C (-1) dX11_chance_47 (by decide +kernel) ?_
        exact x_iret C dX11_chance_48 rfl (congrArg Prod.fst (Option.some.inj hF)) (congrArg (fun q9 : Int32 × xS => CW K ad la rest q9.2) (Option.some.inj hF))
      · refine x_iload C 4 4 dX11_chance_35 rfl ?_
        refine x_iconst C 0 dX11_chance_37 (by decide +kernel) ?_
        refine x_sipush C 999 dX11_chance_38 (by decide +kernel) ?_
        refine x_callSI C (wf := CW K ad la rest) (As := [.int a4, .int 0, .int 999]) (rest := []) dX11_chance_41 ml_X11_105 rfl rfl (Nat.le_of_ble_eq_true rfl) ⟨Nat.le_of_ble_eq_true rfl, Nat.le_of_ble_eq_true rfl⟩ ⟨Nat.zero_le _, Nat.zero_le _⟩ (fun q9 hq9 => c_X11_isWithin l D K ad la rest a4 0 999 σ5 q9 hq9) hF (fun v8 σ7 hF => ?_)
        refine x_if_ne C 49 dX11_chance_44 (by decide) hF (fun hF => ?_) (fun hF => ?_)
        · refine x_aload_n C 0 0 dX11_chance_49 rfl rfl ?_
          refine x_get C 0 dX11_chance_50 fl_X11_29 (CW_0 K ad la rest σ7) rfl ?_
          refine x_iload_n C 1 1 dX11_chance_53 rfl rfl ?_
          refine x_iload_n C 3 3 dX11_chance_54 rfl rfl ?_
          refine x_callVV C (wf := CW K ad la rest) (As := [.int a1, .int a3]) (rest := []) dX11_chance_55 ml_X11_173 rfl rfl (Nat.le_of_ble_eq_true rfl) 44 (CW_44 K ad la rest σ7) rfl ⟨Nat.le_of_ble_eq_true rfl, Nat.le_of_ble_eq_true rfl⟩ ⟨Nat.zero_le _, Nat.zero_le _⟩ (fun q9 hq9 => c_X0_about l D K ad la rest a1 a3 σ7 q9 hq9) hF (fun _ σ9 hF => ?_)
          refine x_aload_n C 0 0 dX11_chance_58 rfl rfl ?_
          refine x_get C 0 dX11_chance_59 fl_X11_29 (CW_0 K ad la rest σ9) rfl ?_
          refine x_get C 44 dX11_chance_62 fl_X11_177 (CW_44 K ad la rest σ9) rfl ?_
          refine x_iconst C 4 dX11_chance_65 (by decide +kernel) ?_
          refine x_iload_n C 2 2 dX11_chance_66 rfl rfl ?_
          refine x_iast C 45 dX11_chance_67 (CW_45 K ad la rest σ9) hF (CW_s45 K ad la rest σ9 _) (fun hF => ?_)
          refine x_st (wf := CW K ad la rest) hF (fun σ10 hF => ?_)
          refine x_aload_n C 0 0 dX11_chance_68 rfl rfl ?_
          refine x_get C 0 dX11_chance_69 fl_X11_29 (CW_0 K ad la rest σ10) rfl ?_
          refine x_get C 44 dX11_chance_72 fl_X11_177 (CW_44 K ad la rest σ10) rfl ?_
          refine x_bipush C 8 dX11_chance_75 (by decide +kernel) ?_
          refine x_iload C 4 4 dX11_chance_77 rfl ?_
          refine x_iast C 45 dX11_chance_79 (CW_45 K ad la rest σ10) hF (CW_s45 K ad la rest σ10 _) (fun hF => ?_)
          refine x_st (wf := CW K ad la rest) hF (fun σ11 hF => ?_)
          refine x_aload_n C 0 0 dX11_chance_80 rfl rfl ?_
          refine x_get C 0 dX11_chance_81 fl_X11_29 (CW_0 K ad la rest σ11) rfl ?_
          refine x_callVI C (wf := CW K ad la rest) (As := []) (rest := []) dX11_chance_84 ml_X11_180 rfl rfl (Nat.le_of_ble_eq_true rfl) 44 (CW_44 K ad la rest σ11) rfl ⟨Nat.le_of_ble_eq_true rfl, Nat.le_of_ble_eq_true rfl⟩ ⟨Nat.zero_le _, Nat.zero_le _⟩ (fun q9 hq9 => c_X0_sells l D K ad la rest σ11 q9 hq9) hF (fun v13 σ12 hF => ?_)
          exact x_iret C dX11_chance_87 rfl (congrArg Prod.fst (Option.some.inj hF)) (congrArg (fun q9 : Int32 × xS => CW K ad la rest q9.2) (Option.some.inj hF))
        · refine x_iconst C (-1) dX11_chance_47 (by decide +kernel) ?_
          exact x_iret C dX11_chance_48 rfl (congrArg Prod.fst (Option.some.inj hF)) (congrArg (fun q9 : Int32 × xS => CW K ad la rest q9.2) (Option.some.inj hF))
theorem dX11_asks_0 : decode cX11_asks 0 = .ok (.aload_n 0, 1) := by decide +kernel
theorem dX11_asks_1 : decode cX11_asks 1 = .ok (.getfield 10, 3) := by decide +kernel
theorem dX11_asks_4 : decode cX11_asks 4 = .ok (.getfield 112, 3) := by decide +kernel
theorem dX11_asks_7 : decode cX11_asks 7 = .ok (.iload_n 1, 1) := by decide +kernel
theorem dX11_asks_8 : decode cX11_asks 8 = .ok (.invokevirtual 116, 3) := by decide +kernel
theorem dX11_asks_11 : decode cX11_asks 11 = .ok (.ifCond .eq 12, 3) := by decide +kernel
theorem dX11_asks_14 : decode cX11_asks 14 = .ok (.iload_n 2, 1) := by decide +kernel
theorem dX11_asks_15 : decode cX11_asks 15 = .ok (.iconst 0, 1) := by decide +kernel
theorem dX11_asks_16 : decode cX11_asks 16 = .ok (.iconst 1, 1) := by decide +kernel
theorem dX11_asks_17 : decode cX11_asks 17 = .ok (.invokestatic 105, 3) := by decide +kernel
theorem dX11_asks_20 : decode cX11_asks 20 = .ok (.ifCond .ne 5, 3) := by decide +kernel
theorem dX11_asks_23 : decode cX11_asks 23 = .ok (.iconst (-1), 1) := by decide +kernel
theorem dX11_asks_24 : decode cX11_asks 24 = .ok (.ireturn, 1) := by decide +kernel
theorem dX11_asks_25 : decode cX11_asks 25 = .ok (.iload_n 2, 1) := by decide +kernel
theorem dX11_asks_26 : decode cX11_asks 26 = .ok (.ifCond .ne 13, 3) := by decide +kernel
theorem dX11_asks_29 : decode cX11_asks 29 = .ok (.aload_n 0, 1) := by decide +kernel
theorem dX11_asks_30 : decode cX11_asks 30 = .ok (.getfield 29, 3) := by decide +kernel
theorem dX11_asks_33 : decode cX11_asks 33 = .ok (.iload_n 1, 1) := by decide +kernel
theorem dX11_asks_34 : decode cX11_asks 34 = .ok (.iconst 0, 1) := by decide +kernel
theorem dX11_asks_35 : decode cX11_asks 35 = .ok (.invokevirtual 184, 3) := by decide +kernel
theorem dX11_asks_38 : decode cX11_asks 38 = .ok (.ireturn, 1) := by decide +kernel
theorem dX11_asks_39 : decode cX11_asks 39 = .ok (.aload_n 0, 1) := by decide +kernel
theorem dX11_asks_40 : decode cX11_asks 40 = .ok (.getfield 29, 3) := by decide +kernel
theorem dX11_asks_43 : decode cX11_asks 43 = .ok (.iload_n 1, 1) := by decide +kernel
theorem dX11_asks_44 : decode cX11_asks 44 = .ok (.iconst 0, 1) := by decide +kernel
theorem dX11_asks_45 : decode cX11_asks 45 = .ok (.invokevirtual 173, 3) := by decide +kernel
theorem dX11_asks_48 : decode cX11_asks 48 = .ok (.aload_n 0, 1) := by decide +kernel
theorem dX11_asks_49 : decode cX11_asks 49 = .ok (.getfield 29, 3) := by decide +kernel
theorem dX11_asks_52 : decode cX11_asks 52 = .ok (.invokevirtual 187, 3) := by decide +kernel
theorem dX11_asks_55 : decode cX11_asks 55 = .ok (.ifCond .eq 7, 3) := by decide +kernel
theorem dX11_asks_58 : decode cX11_asks 58 = .ok (.iconst 1, 1) := by decide +kernel
theorem dX11_asks_59 : decode cX11_asks 59 = .ok (.goto 4, 3) := by decide +kernel
theorem dX11_asks_62 : decode cX11_asks 62 = .ok (.iconst 0, 1) := by decide +kernel
theorem dX11_asks_63 : decode cX11_asks 63 = .ok (.ireturn, 1) := by decide +kernel
set_option maxHeartbeats 4000000 in
set_option maxRecDepth 100000 in
theorem c_X11_asks (l : Launch) (D : va_G) (K : Nat → ClassId) (ad la : Nat → Nat) (rest : va_W)  (a1 : Int32) (a2 : Int32) (σ : xS) (z : Int32 × xS) (hF : F_X11_asks a1 a2 σ = some z) : CI l D K yX11_asks cX11_asks 3 (some .int) 4 101 [.ref (ad 0), .int a1, .int a2] (CW K ad la rest σ) z.1 (CW K ad la rest z.2) := by
  refine x_enterI [(0, .ref (ad 0)), (1, .int a1), (2, .int a2)] pnX11 (Nat.le_of_ble_eq_true rfl) rfl ?_
  intro p e s m args below meth c A C
  unfold F_X11_asks at hF
  refine x_aload_n C 0 0 dX11_asks_0 rfl rfl ?_
  refine x_get C 0 dX11_asks_1 fl_X11_10 (CW_0 K ad la rest σ) rfl ?_
  refine x_get C 5 dX11_asks_4 fl_X11_112 (CW_5 K ad la rest σ) rfl ?_
  refine x_iload_n C 1 1 dX11_asks_7 rfl rfl ?_
  refine x_callVI C (wf := CW K ad la rest) (As := [.int a1]) (rest := []) dX11_asks_8 ml_X11_116 rfl rfl (Nat.le_of_ble_eq_true rfl) 8 (CW_8 K ad la rest σ) rfl ⟨Nat.le_of_ble_eq_true rfl, Nat.le_of_ble_eq_true rfl⟩ ⟨Nat.zero_le _, Nat.zero_le _⟩ (fun q9 hq9 => c_X6_has l D K ad la rest 0 (by decide) a1 σ q9 hq9) hF (fun v2 σ1 hF => ?_)
  refine x_if_eq C 23 dX11_asks_11 (by decide) hF (fun hF => ?_) (fun hF => ?_)
  · refine x_iconst C (-1) dX11_asks_23 (by decide +kernel) ?_
    exact x_iret C dX11_asks_24 rfl (congrArg Prod.fst (Option.some.inj hF)) (congrArg (fun q9 : Int32 × xS => CW K ad la rest q9.2) (Option.some.inj hF))
  · refine x_iload_n C 2 2 dX11_asks_14 rfl rfl ?_
    refine x_iconst C 0 dX11_asks_15 (by decide +kernel) ?_
    refine x_iconst C 1 dX11_asks_16 (by decide +kernel) ?_
    refine x_callSI C (wf := CW K ad la rest) (As := [.int a2, .int 0, .int 1]) (rest := []) dX11_asks_17 ml_X11_105 rfl rfl (Nat.le_of_ble_eq_true rfl) ⟨Nat.le_of_ble_eq_true rfl, Nat.le_of_ble_eq_true rfl⟩ ⟨Nat.zero_le _, Nat.zero_le _⟩ (fun q9 hq9 => c_X11_isWithin l D K ad la rest a2 0 1 σ1 q9 hq9) hF (fun v4 σ3 hF => ?_)
    refine x_if_ne C 25 dX11_asks_20 (by decide) hF (fun hF => ?_) (fun hF => ?_)
    · refine x_iload_n C 2 2 dX11_asks_25 rfl rfl ?_
      refine x_if_ne C 39 dX11_asks_26 (by decide) hF (fun hF => ?_) (fun hF => ?_)
      · refine x_aload_n C 0 0 dX11_asks_39 rfl rfl ?_
        refine x_get C 0 dX11_asks_40 fl_X11_29 (CW_0 K ad la rest σ3) rfl ?_
        refine x_iload_n C 1 1 dX11_asks_43 rfl rfl ?_
        refine x_iconst C 0 dX11_asks_44 (by decide +kernel) ?_
        refine x_callVV C (wf := CW K ad la rest) (As := [.int a1, .int 0]) (rest := []) dX11_asks_45 ml_X11_173 rfl rfl (Nat.le_of_ble_eq_true rfl) 44 (CW_44 K ad la rest σ3) rfl ⟨Nat.le_of_ble_eq_true rfl, Nat.le_of_ble_eq_true rfl⟩ ⟨Nat.zero_le _, Nat.zero_le _⟩ (fun q9 hq9 => c_X0_about l D K ad la rest a1 0 σ3 q9 hq9) hF (fun _ σ5 hF => ?_)
        refine x_aload_n C 0 0 dX11_asks_48 rfl rfl ?_
        refine x_get C 0 dX11_asks_49 fl_X11_29 (CW_0 K ad la rest σ5) rfl ?_
        refine x_callVI C (wf := CW K ad la rest) (As := []) (rest := []) dX11_asks_52 ml_X11_187 rfl rfl (Nat.le_of_ble_eq_true rfl) 44 (CW_44 K ad la rest σ5) rfl ⟨Nat.le_of_ble_eq_true rfl, Nat.le_of_ble_eq_true rfl⟩ ⟨Nat.zero_le _, Nat.zero_le _⟩ (fun q9 hq9 => c_X0_dealerTakes l D K ad la rest σ5 q9 hq9) hF (fun v7 σ6 hF => ?_)
        refine x_if_eq C 62 dX11_asks_55 (by decide) hF (fun hF => ?_) (fun hF => ?_)
        · refine x_iconst C 0 dX11_asks_62 (by decide +kernel) ?_
          exact x_iret C dX11_asks_63 rfl (congrArg Prod.fst (Option.some.inj hF)) (congrArg (fun q9 : Int32 × xS => CW K ad la rest q9.2) (Option.some.inj hF))
        · refine x_iconst C 1 dX11_asks_58 (by decide +kernel) ?_
          refine x_goto C 63 dX11_asks_59 (by decide) ?_
          exact x_iret C dX11_asks_63 rfl (congrArg Prod.fst (Option.some.inj hF)) (congrArg (fun q9 : Int32 × xS => CW K ad la rest q9.2) (Option.some.inj hF))
      · refine x_aload_n C 0 0 dX11_asks_29 rfl rfl ?_
        refine x_get C 0 dX11_asks_30 fl_X11_29 (CW_0 K ad la rest σ3) rfl ?_
        refine x_iload_n C 1 1 dX11_asks_33 rfl rfl ?_
        refine x_iconst C 0 dX11_asks_34 (by decide +kernel) ?_
        refine x_callVI C (wf := CW K ad la rest) (As := [.int a1, .int 0]) (rest := []) dX11_asks_35 ml_X11_184 rfl rfl (Nat.le_of_ble_eq_true rfl) 44 (CW_44 K ad la rest σ3) rfl ⟨Nat.le_of_ble_eq_true rfl, Nat.le_of_ble_eq_true rfl⟩ ⟨Nat.zero_le _, Nat.zero_le _⟩ (fun q9 hq9 => c_X0_drawsOnTable l D K ad la rest a1 0 σ3 q9 hq9) hF (fun v9 σ8 hF => ?_)
        exact x_iret C dX11_asks_38 rfl (congrArg Prod.fst (Option.some.inj hF)) (congrArg (fun q9 : Int32 × xS => CW K ad la rest q9.2) (Option.some.inj hF))
    · refine x_iconst C (-1) dX11_asks_23 (by decide +kernel) ?_
      exact x_iret C dX11_asks_24 rfl (congrArg Prod.fst (Option.some.inj hF)) (congrArg (fun q9 : Int32 × xS => CW K ad la rest q9.2) (Option.some.inj hF))
theorem dX11_write_0 : decode cX11_write 0 = .ok (.aload_n 0, 1) := by decide +kernel
theorem dX11_write_1 : decode cX11_write 1 = .ok (.getfield 10, 3) := by decide +kernel
theorem dX11_write_4 : decode cX11_write 4 = .ok (.getfield 112, 3) := by decide +kernel
theorem dX11_write_7 : decode cX11_write 7 = .ok (.iload_n 1, 1) := by decide +kernel
theorem dX11_write_8 : decode cX11_write 8 = .ok (.invokevirtual 116, 3) := by decide +kernel
theorem dX11_write_11 : decode cX11_write 11 = .ok (.ifCond .eq 13, 3) := by decide +kernel
theorem dX11_write_14 : decode cX11_write 14 = .ok (.iload_n 2, 1) := by decide +kernel
theorem dX11_write_15 : decode cX11_write 15 = .ok (.iconst 1, 1) := by decide +kernel
theorem dX11_write_16 : decode cX11_write 16 = .ok (.bipush 6, 2) := by decide +kernel
theorem dX11_write_18 : decode cX11_write 18 = .ok (.invokestatic 105, 3) := by decide +kernel
theorem dX11_write_21 : decode cX11_write 21 = .ok (.ifCond .ne 7, 3) := by decide +kernel
theorem dX11_write_24 : decode cX11_write 24 = .ok (.ldc2_w 191, 3) := by decide +kernel
theorem dX11_write_27 : decode cX11_write 27 = .ok (.lreturn, 1) := by decide +kernel
theorem dX11_write_28 : decode cX11_write 28 = .ok (.aload_n 0, 1) := by decide +kernel
theorem dX11_write_29 : decode cX11_write 29 = .ok (.getfield 45, 3) := by decide +kernel
theorem dX11_write_32 : decode cX11_write 32 = .ok (.iload_n 1, 1) := by decide +kernel
theorem dX11_write_33 : decode cX11_write 33 = .ok (.iload_n 2, 1) := by decide +kernel
theorem dX11_write_34 : decode cX11_write 34 = .ok (.invokevirtual 193, 3) := by decide +kernel
theorem dX11_write_37 : decode cX11_write 37 = .ok (.aload_n 0, 1) := by decide +kernel
theorem dX11_write_38 : decode cX11_write 38 = .ok (.getfield 45, 3) := by decide +kernel
theorem dX11_write_41 : decode cX11_write 41 = .ok (.iconst 0, 1) := by decide +kernel
theorem dX11_write_42 : decode cX11_write 42 = .ok (.bipush 20, 2) := by decide +kernel
theorem dX11_write_44 : decode cX11_write 44 = .ok (.invokevirtual 196, 3) := by decide +kernel
theorem dX11_write_47 : decode cX11_write 47 = .ok (.lreturn, 1) := by decide +kernel
set_option maxHeartbeats 4000000 in
set_option maxRecDepth 100000 in
theorem c_X11_write (l : Launch) (D : va_G) (K : Nat → ClassId) (ad la : Nat → Nat) (rest : va_W)  (a1 : Int32) (a2 : Int32) (σ : xS) (z : Int64 × xS) (hF : F_X11_write a1 a2 σ = some z) : CL l D K yX11_write cX11_write 3 (some .long) 6 154 [.ref (ad 0), .int a1, .int a2] (CW K ad la rest σ) z.1 (CW K ad la rest z.2) := by
  refine x_enterL [(0, .ref (ad 0)), (1, .int a1), (2, .int a2)] pnX11 (Nat.le_of_ble_eq_true rfl) rfl ?_
  intro p e s m args below meth c A C
  unfold F_X11_write at hF
  refine x_aload_n C 0 0 dX11_write_0 rfl rfl ?_
  refine x_get C 0 dX11_write_1 fl_X11_10 (CW_0 K ad la rest σ) rfl ?_
  refine x_get C 5 dX11_write_4 fl_X11_112 (CW_5 K ad la rest σ) rfl ?_
  refine x_iload_n C 1 1 dX11_write_7 rfl rfl ?_
  refine x_callVI C (wf := CW K ad la rest) (As := [.int a1]) (rest := []) dX11_write_8 ml_X11_116 rfl rfl (Nat.le_of_ble_eq_true rfl) 8 (CW_8 K ad la rest σ) rfl ⟨Nat.le_of_ble_eq_true rfl, Nat.le_of_ble_eq_true rfl⟩ ⟨Nat.zero_le _, Nat.zero_le _⟩ (fun q9 hq9 => c_X6_has l D K ad la rest 0 (by decide) a1 σ q9 hq9) hF (fun v2 σ1 hF => ?_)
  refine x_if_eq C 24 dX11_write_11 (by decide) hF (fun hF => ?_) (fun hF => ?_)
  · refine x_ldc2 C (-1000000000000000000) dX11_write_24 cl_X11_191 ?_
    exact x_lret C dX11_write_27 rfl (congrArg Prod.fst (Option.some.inj hF)) (congrArg (fun q9 : Int64 × xS => CW K ad la rest q9.2) (Option.some.inj hF))
  · refine x_iload_n C 2 2 dX11_write_14 rfl rfl ?_
    refine x_iconst C 1 dX11_write_15 (by decide +kernel) ?_
    refine x_bipush C 6 dX11_write_16 (by decide +kernel) ?_
    refine x_callSI C (wf := CW K ad la rest) (As := [.int a2, .int 1, .int 6]) (rest := []) dX11_write_18 ml_X11_105 rfl rfl (Nat.le_of_ble_eq_true rfl) ⟨Nat.le_of_ble_eq_true rfl, Nat.le_of_ble_eq_true rfl⟩ ⟨Nat.zero_le _, Nat.zero_le _⟩ (fun q9 hq9 => c_X11_isWithin l D K ad la rest a2 1 6 σ1 q9 hq9) hF (fun v4 σ3 hF => ?_)
    refine x_if_ne C 28 dX11_write_21 (by decide) hF (fun hF => ?_) (fun hF => ?_)
    · refine x_aload_n C 0 0 dX11_write_28 rfl rfl ?_
      refine x_get C 0 dX11_write_29 fl_X11_45 (CW_0 K ad la rest σ3) rfl ?_
      refine x_iload_n C 1 1 dX11_write_32 rfl rfl ?_
      refine x_iload_n C 2 2 dX11_write_33 rfl rfl ?_
      refine x_callVV C (wf := CW K ad la rest) (As := [.int a1, .int a2]) (rest := []) dX11_write_34 ml_X11_193 rfl rfl (Nat.le_of_ble_eq_true rfl) 55 (CW_55 K ad la rest σ3) rfl ⟨Nat.le_of_ble_eq_true rfl, Nat.le_of_ble_eq_true rfl⟩ ⟨Nat.zero_le _, Nat.zero_le _⟩ (fun q9 hq9 => c_X10_plan l D K ad la rest a1 a2 σ3 q9 hq9) hF (fun _ σ5 hF => ?_)
      refine x_aload_n C 0 0 dX11_write_37 rfl rfl ?_
      refine x_get C 0 dX11_write_38 fl_X11_45 (CW_0 K ad la rest σ5) rfl ?_
      refine x_iconst C 0 dX11_write_41 (by decide +kernel) ?_
      refine x_bipush C 20 dX11_write_42 (by decide +kernel) ?_
      refine x_callVL C (wf := CW K ad la rest) (As := [.int 0, .int 20]) (rest := []) dX11_write_44 ml_X11_196 rfl rfl (Nat.le_of_ble_eq_true rfl) 55 (CW_55 K ad la rest σ5) rfl ⟨Nat.le_of_ble_eq_true rfl, Nat.le_of_ble_eq_true rfl⟩ ⟨Nat.zero_le _, Nat.zero_le _⟩ (fun q9 hq9 => c_X10_most l D K ad la rest 0 20 σ5 q9 hq9) hF (fun v7 σ6 hF => ?_)
      exact x_lret C dX11_write_47 rfl (congrArg Prod.fst (Option.some.inj hF)) (congrArg (fun q9 : Int64 × xS => CW K ad la rest q9.2) (Option.some.inj hF))
    · refine x_ldc2 C (-1000000000000000000) dX11_write_24 cl_X11_191 ?_
      exact x_lret C dX11_write_27 rfl (congrArg Prod.fst (Option.some.inj hF)) (congrArg (fun q9 : Int64 × xS => CW K ad la rest q9.2) (Option.some.inj hF))
theorem dX11_pencil_0 : decode cX11_pencil 0 = .ok (.aload_n 0, 1) := by decide +kernel
theorem dX11_pencil_1 : decode cX11_pencil 1 = .ok (.getfield 10, 3) := by decide +kernel
theorem dX11_pencil_4 : decode cX11_pencil 4 = .ok (.getfield 112, 3) := by decide +kernel
theorem dX11_pencil_7 : decode cX11_pencil 7 = .ok (.iload_n 1, 1) := by decide +kernel
theorem dX11_pencil_8 : decode cX11_pencil 8 = .ok (.invokevirtual 116, 3) := by decide +kernel
theorem dX11_pencil_11 : decode cX11_pencil 11 = .ok (.ifCond .eq 24, 3) := by decide +kernel
theorem dX11_pencil_14 : decode cX11_pencil 14 = .ok (.iload_n 2, 1) := by decide +kernel
theorem dX11_pencil_15 : decode cX11_pencil 15 = .ok (.iconst 1, 1) := by decide +kernel
theorem dX11_pencil_16 : decode cX11_pencil 16 = .ok (.bipush 6, 2) := by decide +kernel
theorem dX11_pencil_18 : decode cX11_pencil 18 = .ok (.invokestatic 105, 3) := by decide +kernel
theorem dX11_pencil_21 : decode cX11_pencil 21 = .ok (.ifCond .eq 14, 3) := by decide +kernel
theorem dX11_pencil_24 : decode cX11_pencil 24 = .ok (.iload_n 3, 1) := by decide +kernel
theorem dX11_pencil_25 : decode cX11_pencil 25 = .ok (.iconst 0, 1) := by decide +kernel
theorem dX11_pencil_26 : decode cX11_pencil 26 = .ok (.iload_n 2, 1) := by decide +kernel
theorem dX11_pencil_27 : decode cX11_pencil 27 = .ok (.iconst 1, 1) := by decide +kernel
theorem dX11_pencil_28 : decode cX11_pencil 28 = .ok (.isub, 1) := by decide +kernel
theorem dX11_pencil_29 : decode cX11_pencil 29 = .ok (.invokestatic 105, 3) := by decide +kernel
theorem dX11_pencil_32 : decode cX11_pencil 32 = .ok (.ifCond .ne 5, 3) := by decide +kernel
theorem dX11_pencil_35 : decode cX11_pencil 35 = .ok (.iconst (-1), 1) := by decide +kernel
theorem dX11_pencil_36 : decode cX11_pencil 36 = .ok (.ireturn, 1) := by decide +kernel
theorem dX11_pencil_37 : decode cX11_pencil 37 = .ok (.aload_n 0, 1) := by decide +kernel
theorem dX11_pencil_38 : decode cX11_pencil 38 = .ok (.getfield 45, 3) := by decide +kernel
theorem dX11_pencil_41 : decode cX11_pencil 41 = .ok (.iload_n 1, 1) := by decide +kernel
theorem dX11_pencil_42 : decode cX11_pencil 42 = .ok (.iload_n 2, 1) := by decide +kernel
theorem dX11_pencil_43 : decode cX11_pencil 43 = .ok (.invokevirtual 193, 3) := by decide +kernel
theorem dX11_pencil_46 : decode cX11_pencil 46 = .ok (.aload_n 0, 1) := by decide +kernel
theorem dX11_pencil_47 : decode cX11_pencil 47 = .ok (.getfield 45, 3) := by decide +kernel
theorem dX11_pencil_50 : decode cX11_pencil 50 = .ok (.iload_n 3, 1) := by decide +kernel
theorem dX11_pencil_51 : decode cX11_pencil 51 = .ok (.invokevirtual 200, 3) := by decide +kernel
theorem dX11_pencil_54 : decode cX11_pencil 54 = .ok (.ireturn, 1) := by decide +kernel
set_option maxHeartbeats 4000000 in
set_option maxRecDepth 100000 in
theorem c_X11_pencil (l : Launch) (D : va_G) (K : Nat → ClassId) (ad la : Nat → Nat) (rest : va_W)  (a1 : Int32) (a2 : Int32) (a3 : Int32) (σ : xS) (z : Int32 × xS) (hF : F_X11_pencil a1 a2 a3 σ = some z) : CI l D K yX11_pencil cX11_pencil 4 (some .int) 6 154 [.ref (ad 0), .int a1, .int a2, .int a3] (CW K ad la rest σ) z.1 (CW K ad la rest z.2) := by
  refine x_enterI [(0, .ref (ad 0)), (1, .int a1), (2, .int a2), (3, .int a3)] pnX11 (Nat.le_of_ble_eq_true rfl) rfl ?_
  intro p e s m args below meth c A C
  unfold F_X11_pencil at hF
  refine x_aload_n C 0 0 dX11_pencil_0 rfl rfl ?_
  refine x_get C 0 dX11_pencil_1 fl_X11_10 (CW_0 K ad la rest σ) rfl ?_
  refine x_get C 5 dX11_pencil_4 fl_X11_112 (CW_5 K ad la rest σ) rfl ?_
  refine x_iload_n C 1 1 dX11_pencil_7 rfl rfl ?_
  refine x_callVI C (wf := CW K ad la rest) (As := [.int a1]) (rest := []) dX11_pencil_8 ml_X11_116 rfl rfl (Nat.le_of_ble_eq_true rfl) 8 (CW_8 K ad la rest σ) rfl ⟨Nat.le_of_ble_eq_true rfl, Nat.le_of_ble_eq_true rfl⟩ ⟨Nat.zero_le _, Nat.zero_le _⟩ (fun q9 hq9 => c_X6_has l D K ad la rest 0 (by decide) a1 σ q9 hq9) hF (fun v2 σ1 hF => ?_)
  refine x_if_eq C 35 dX11_pencil_11 (by decide) hF (fun hF => ?_) (fun hF => ?_)
  · refine x_iconst C (-1) dX11_pencil_35 (by decide +kernel) ?_
    exact x_iret C dX11_pencil_36 rfl (congrArg Prod.fst (Option.some.inj hF)) (congrArg (fun q9 : Int32 × xS => CW K ad la rest q9.2) (Option.some.inj hF))
  · refine x_iload_n C 2 2 dX11_pencil_14 rfl rfl ?_
    refine x_iconst C 1 dX11_pencil_15 (by decide +kernel) ?_
    refine x_bipush C 6 dX11_pencil_16 (by decide +kernel) ?_
    refine x_callSI C (wf := CW K ad la rest) (As := [.int a2, .int 1, .int 6]) (rest := []) dX11_pencil_18 ml_X11_105 rfl rfl (Nat.le_of_ble_eq_true rfl) ⟨Nat.le_of_ble_eq_true rfl, Nat.le_of_ble_eq_true rfl⟩ ⟨Nat.zero_le _, Nat.zero_le _⟩ (fun q9 hq9 => c_X11_isWithin l D K ad la rest a2 1 6 σ1 q9 hq9) hF (fun v4 σ3 hF => ?_)
    refine x_if_eq C 35 dX11_pencil_21 (by decide) hF (fun hF => ?_) (fun hF => ?_)
    · refine x_iconst C (-1) dX11_pencil_35 (by decide +kernel) ?_
      exact x_iret C dX11_pencil_36 rfl (congrArg Prod.fst (Option.some.inj hF)) (congrArg (fun q9 : Int32 × xS => CW K ad la rest q9.2) (Option.some.inj hF))
    · refine x_iload_n C 3 3 dX11_pencil_24 rfl rfl ?_
      refine x_iconst C 0 dX11_pencil_25 (by decide +kernel) ?_
      refine x_iload_n C 2 2 dX11_pencil_26 rfl rfl ?_
      refine x_iconst C 1 dX11_pencil_27 (by decide +kernel) ?_
      refine x_isub C dX11_pencil_28 ?_
      refine x_callSI C (wf := CW K ad la rest) (As := [.int a3, .int 0, .int (a2 - 1)]) (rest := []) dX11_pencil_29 ml_X11_105 rfl rfl (Nat.le_of_ble_eq_true rfl) ⟨Nat.le_of_ble_eq_true rfl, Nat.le_of_ble_eq_true rfl⟩ ⟨Nat.zero_le _, Nat.zero_le _⟩ (fun q9 hq9 => c_X11_isWithin l D K ad la rest a3 0 (a2 - 1) σ3 q9 hq9) hF (fun v6 σ5 hF => ?_)
      refine x_if_ne C 37 dX11_pencil_32 (by decide) hF (fun hF => ?_) (fun hF => ?_)
      · refine x_aload_n C 0 0 dX11_pencil_37 rfl rfl ?_
        refine x_get C 0 dX11_pencil_38 fl_X11_45 (CW_0 K ad la rest σ5) rfl ?_
        refine x_iload_n C 1 1 dX11_pencil_41 rfl rfl ?_
        refine x_iload_n C 2 2 dX11_pencil_42 rfl rfl ?_
        refine x_callVV C (wf := CW K ad la rest) (As := [.int a1, .int a2]) (rest := []) dX11_pencil_43 ml_X11_193 rfl rfl (Nat.le_of_ble_eq_true rfl) 55 (CW_55 K ad la rest σ5) rfl ⟨Nat.le_of_ble_eq_true rfl, Nat.le_of_ble_eq_true rfl⟩ ⟨Nat.zero_le _, Nat.zero_le _⟩ (fun q9 hq9 => c_X10_plan l D K ad la rest a1 a2 σ5 q9 hq9) hF (fun _ σ7 hF => ?_)
        refine x_aload_n C 0 0 dX11_pencil_46 rfl rfl ?_
        refine x_get C 0 dX11_pencil_47 fl_X11_45 (CW_0 K ad la rest σ7) rfl ?_
        refine x_iload_n C 3 3 dX11_pencil_50 rfl rfl ?_
        refine x_callVI C (wf := CW K ad la rest) (As := [.int a3]) (rest := []) dX11_pencil_51 ml_X11_200 rfl rfl (Nat.le_of_ble_eq_true rfl) 55 (CW_55 K ad la rest σ7) rfl ⟨Nat.le_of_ble_eq_true rfl, Nat.le_of_ble_eq_true rfl⟩ ⟨Nat.zero_le _, Nat.zero_le _⟩ (fun q9 hq9 => c_X10_priceInWeek l D K ad la rest a3 σ7 q9 hq9) hF (fun v9 σ8 hF => ?_)
        exact x_iret C dX11_pencil_54 rfl (congrArg Prod.fst (Option.some.inj hF)) (congrArg (fun q9 : Int32 × xS => CW K ad la rest q9.2) (Option.some.inj hF))
      · refine x_iconst C (-1) dX11_pencil_35 (by decide +kernel) ?_
        exact x_iret C dX11_pencil_36 rfl (congrArg Prod.fst (Option.some.inj hF)) (congrArg (fun q9 : Int32 × xS => CW K ad la rest q9.2) (Option.some.inj hF))
theorem dX11_stands_0 : decode cX11_stands 0 = .ok (.aload_n 0, 1) := by decide +kernel
theorem dX11_stands_1 : decode cX11_stands 1 = .ok (.getfield 10, 3) := by decide +kernel
theorem dX11_stands_4 : decode cX11_stands 4 = .ok (.getfield 112, 3) := by decide +kernel
theorem dX11_stands_7 : decode cX11_stands 7 = .ok (.iload_n 1, 1) := by decide +kernel
theorem dX11_stands_8 : decode cX11_stands 8 = .ok (.invokevirtual 116, 3) := by decide +kernel
theorem dX11_stands_11 : decode cX11_stands 11 = .ok (.ifCond .eq 13, 3) := by decide +kernel
theorem dX11_stands_14 : decode cX11_stands 14 = .ok (.iload_n 2, 1) := by decide +kernel
theorem dX11_stands_15 : decode cX11_stands 15 = .ok (.iconst 0, 1) := by decide +kernel
theorem dX11_stands_16 : decode cX11_stands 16 = .ok (.bipush 6, 2) := by decide +kernel
theorem dX11_stands_18 : decode cX11_stands 18 = .ok (.invokestatic 105, 3) := by decide +kernel
theorem dX11_stands_21 : decode cX11_stands 21 = .ok (.ifCond .ne 7, 3) := by decide +kernel
theorem dX11_stands_24 : decode cX11_stands 24 = .ok (.ldc2_w 191, 3) := by decide +kernel
theorem dX11_stands_27 : decode cX11_stands 27 = .ok (.lreturn, 1) := by decide +kernel
theorem dX11_stands_28 : decode cX11_stands 28 = .ok (.lconst 1, 1) := by decide +kernel
theorem dX11_stands_29 : decode cX11_stands 29 = .ok (.lstore_n 3, 1) := by decide +kernel
theorem dX11_stands_30 : decode cX11_stands 30 = .ok (.iconst 0, 1) := by decide +kernel
theorem dX11_stands_31 : decode cX11_stands 31 = .ok (.istore 5, 2) := by decide +kernel
theorem dX11_stands_33 : decode cX11_stands 33 = .ok (.iload 5, 2) := by decide +kernel
theorem dX11_stands_35 : decode cX11_stands 35 = .ok (.iload_n 2, 1) := by decide +kernel
theorem dX11_stands_36 : decode cX11_stands 36 = .ok (.if_icmp .ge 33, 3) := by decide +kernel
theorem dX11_stands_39 : decode cX11_stands 39 = .ok (.aload_n 0, 1) := by decide +kernel
theorem dX11_stands_40 : decode cX11_stands 40 = .ok (.getfield 29, 3) := by decide +kernel
theorem dX11_stands_43 : decode cX11_stands 43 = .ok (.iload_n 1, 1) := by decide +kernel
theorem dX11_stands_44 : decode cX11_stands 44 = .ok (.iload 5, 2) := by decide +kernel
theorem dX11_stands_46 : decode cX11_stands 46 = .ok (.invokevirtual 173, 3) := by decide +kernel
theorem dX11_stands_49 : decode cX11_stands 49 = .ok (.lload_n 3, 1) := by decide +kernel
theorem dX11_stands_50 : decode cX11_stands 50 = .ok (.bipush 100, 2) := by decide +kernel
theorem dX11_stands_52 : decode cX11_stands 52 = .ok (.aload_n 0, 1) := by decide +kernel
theorem dX11_stands_53 : decode cX11_stands 53 = .ok (.getfield 29, 3) := by decide +kernel
theorem dX11_stands_56 : decode cX11_stands 56 = .ok (.invokevirtual 180, 3) := by decide +kernel
theorem dX11_stands_59 : decode cX11_stands 59 = .ok (.isub, 1) := by decide +kernel
theorem dX11_stands_60 : decode cX11_stands 60 = .ok (.i2l, 1) := by decide +kernel
theorem dX11_stands_61 : decode cX11_stands 61 = .ok (.lmul, 1) := by decide +kernel
theorem dX11_stands_62 : decode cX11_stands 62 = .ok (.lstore_n 3, 1) := by decide +kernel
theorem dX11_stands_63 : decode cX11_stands 63 = .ok (.iinc 5 1, 3) := by decide +kernel
theorem dX11_stands_66 : decode cX11_stands 66 = .ok (.goto (-33), 3) := by decide +kernel
theorem dX11_stands_69 : decode cX11_stands 69 = .ok (.lload_n 3, 1) := by decide +kernel
theorem dX11_stands_70 : decode cX11_stands 70 = .ok (.lreturn, 1) := by decide +kernel
set_option maxHeartbeats 4000000 in
set_option maxRecDepth 100000 in
theorem x_X11_stands_33 {p : Program} {l : Launch} {e : Env} {s : State} {m : MethodId} {args : Array Value} {below : List Frame} {meth : Method} {c : Code} {D : va_G} {K : Nat → ClassId} {A : Nat → Prop} {ad la : Nat → Nat} {rest : va_W} (C : xC p s m args meth c D K A RX11 cX11_stands 6 (some .long)) (z : Int64 × xS) : ∀ (n : Nat) (y1 : Int32) (y2 : Int32) (y3 : Int64) (y5 : Int32) (σ : xS), F_X11_stands_33  n y1 y2 y3 y5 σ = some z → X p l e (xR 4 99) s m args below meth c D A 6 (xQl below D K A args s z.1 (CW K ad la rest z.2)) 0 0 33 [(0, .ref (ad 0)), (1, .int y1), (2, .int y2), (3, .long y3), (5, .int y5)] [] (CW K ad la rest σ) := by
  intro n
  induction n with
  | zero =>
    intro y1 y2 y3 y5 σ hF
    cases hF
  | succ n ih =>
    intro y1 y2 y3 y5 σ hF
    rw [F_X11_stands_33] at hF
    refine x_iload C 4 5 dX11_stands_33 rfl ?_
    refine x_iload_n C 2 2 dX11_stands_35 rfl rfl ?_
    refine x_icmp_ge C 69 dX11_stands_36 (by decide) hF (fun hF => ?_) (fun hF => ?_)
    · refine x_lload_n C 3 3 dX11_stands_69 rfl rfl ?_
      exact x_lret C dX11_stands_70 rfl (congrArg Prod.fst (Option.some.inj hF)) (congrArg (fun q9 : Int64 × xS => CW K ad la rest q9.2) (Option.some.inj hF))
    · refine x_aload_n C 0 0 dX11_stands_39 rfl rfl ?_
      refine x_get C 0 dX11_stands_40 fl_X11_29 (CW_0 K ad la rest σ) rfl ?_
      refine x_iload_n C 1 1 dX11_stands_43 rfl rfl ?_
      refine x_iload C 4 5 dX11_stands_44 rfl ?_
      refine x_callVV C (wf := CW K ad la rest) (As := [.int y1, .int y5]) (rest := []) dX11_stands_46 ml_X11_173 rfl rfl (Nat.le_of_ble_eq_true rfl) 44 (CW_44 K ad la rest σ) rfl ⟨Nat.le_of_ble_eq_true rfl, Nat.le_of_ble_eq_true rfl⟩ ⟨Nat.zero_le _, Nat.zero_le _⟩ (fun q9 hq9 => c_X0_about l D K ad la rest y1 y5 σ q9 hq9) hF (fun _ σ7 hF => ?_)
      refine x_lload_n C 3 3 dX11_stands_49 rfl rfl ?_
      refine x_bipush C 100 dX11_stands_50 (by decide +kernel) ?_
      refine x_aload_n C 0 0 dX11_stands_52 rfl rfl ?_
      refine x_get C 0 dX11_stands_53 fl_X11_29 (CW_0 K ad la rest σ7) rfl ?_
      refine x_callVI C (wf := CW K ad la rest) (As := []) (rest := [.int 100, .long y3]) dX11_stands_56 ml_X11_180 rfl rfl (Nat.le_of_ble_eq_true rfl) 44 (CW_44 K ad la rest σ7) rfl ⟨Nat.le_of_ble_eq_true rfl, Nat.le_of_ble_eq_true rfl⟩ ⟨Nat.zero_le _, Nat.zero_le _⟩ (fun q9 hq9 => c_X0_sells l D K ad la rest σ7 q9 hq9) hF (fun v9 σ8 hF => ?_)
      refine x_isub C dX11_stands_59 ?_
      refine x_i2l C dX11_stands_60 ?_
      refine x_lmul C dX11_stands_61 ?_
      refine x_topL hF (fun x10 hF => ?_)
      refine x_lstore_n C [(3, .long x10), (0, .ref (ad 0)), (1, .int y1), (2, .int y2), (5, .int y5)] dX11_stands_62 rfl (by decide) rfl ?_
      refine x_iincN C 1 4 (fun x11 => [(5, .int x11), (3, .long x10), (0, .ref (ad 0)), (1, .int y1), (2, .int y2)]) dX11_stands_63 rfl (by decide +kernel) (by decide) (fun _ => rfl) hF (fun x11 hF => ?_)
      refine x_goto C 33 dX11_stands_66 (by decide) ?_
      refine x_loc [(0, .ref (ad 0)), (1, .int y1), (2, .int y2), (3, .long x10), (5, .int x11)] [2, 3, 4, 1, 0] rfl ?_
      exact ih y1 y2 x10 x11 σ8 hF
set_option maxHeartbeats 4000000 in
set_option maxRecDepth 100000 in
theorem c_X11_stands (l : Launch) (D : va_G) (K : Nat → ClassId) (ad la : Nat → Nat) (rest : va_W)  (a1 : Int32) (a2 : Int32) (σ : xS) (z : Int64 × xS) (hF : F_X11_stands a1 a2 σ = some z) : CL l D K yX11_stands cX11_stands 6 (some .long) 4 99 [.ref (ad 0), .int a1, .int a2] (CW K ad la rest σ) z.1 (CW K ad la rest z.2) := by
  refine x_enterL [(0, .ref (ad 0)), (1, .int a1), (2, .int a2)] pnX11 (Nat.le_of_ble_eq_true rfl) rfl ?_
  intro p e s m args below meth c A C
  unfold F_X11_stands at hF
  refine x_aload_n C 0 0 dX11_stands_0 rfl rfl ?_
  refine x_get C 0 dX11_stands_1 fl_X11_10 (CW_0 K ad la rest σ) rfl ?_
  refine x_get C 5 dX11_stands_4 fl_X11_112 (CW_5 K ad la rest σ) rfl ?_
  refine x_iload_n C 1 1 dX11_stands_7 rfl rfl ?_
  refine x_callVI C (wf := CW K ad la rest) (As := [.int a1]) (rest := []) dX11_stands_8 ml_X11_116 rfl rfl (Nat.le_of_ble_eq_true rfl) 8 (CW_8 K ad la rest σ) rfl ⟨Nat.le_of_ble_eq_true rfl, Nat.le_of_ble_eq_true rfl⟩ ⟨Nat.zero_le _, Nat.zero_le _⟩ (fun q9 hq9 => c_X6_has l D K ad la rest 0 (by decide) a1 σ q9 hq9) hF (fun v2 σ1 hF => ?_)
  refine x_if_eq C 24 dX11_stands_11 (by decide) hF (fun hF => ?_) (fun hF => ?_)
  · refine x_ldc2 C (-1000000000000000000) dX11_stands_24 cl_X11_191 ?_
    exact x_lret C dX11_stands_27 rfl (congrArg Prod.fst (Option.some.inj hF)) (congrArg (fun q9 : Int64 × xS => CW K ad la rest q9.2) (Option.some.inj hF))
  · refine x_iload_n C 2 2 dX11_stands_14 rfl rfl ?_
    refine x_iconst C 0 dX11_stands_15 (by decide +kernel) ?_
    refine x_bipush C 6 dX11_stands_16 (by decide +kernel) ?_
    refine x_callSI C (wf := CW K ad la rest) (As := [.int a2, .int 0, .int 6]) (rest := []) dX11_stands_18 ml_X11_105 rfl rfl (Nat.le_of_ble_eq_true rfl) ⟨Nat.le_of_ble_eq_true rfl, Nat.le_of_ble_eq_true rfl⟩ ⟨Nat.zero_le _, Nat.zero_le _⟩ (fun q9 hq9 => c_X11_isWithin l D K ad la rest a2 0 6 σ1 q9 hq9) hF (fun v4 σ3 hF => ?_)
    refine x_if_ne C 28 dX11_stands_21 (by decide) hF (fun hF => ?_) (fun hF => ?_)
    · refine x_lconst C 1 dX11_stands_28 (by decide +kernel) ?_
      refine x_topL hF (fun x5 hF => ?_)
      refine x_lstore_n C [(3, .long x5), (0, .ref (ad 0)), (1, .int a1), (2, .int a2)] dX11_stands_29 rfl (by decide) rfl ?_
      refine x_iconst C 0 dX11_stands_30 (by decide +kernel) ?_
      refine x_topI hF (fun x6 hF => ?_)
      refine x_istore C [(5, .int x6), (3, .long x5), (0, .ref (ad 0)), (1, .int a1), (2, .int a2)] dX11_stands_31 (by decide) rfl ?_
      refine x_loc [(0, .ref (ad 0)), (1, .int a1), (2, .int a2), (3, .long x5), (5, .int x6)] [2, 3, 4, 1, 0] rfl ?_
      exact x_X11_stands_33 C z FU a1 a2 x5 x6 σ3 hF
    · refine x_ldc2 C (-1000000000000000000) dX11_stands_24 cl_X11_191 ?_
      exact x_lret C dX11_stands_27 rfl (congrArg Prod.fst (Option.some.inj hF)) (congrArg (fun q9 : Int64 × xS => CW K ad la rest q9.2) (Option.some.inj hF))
theorem dX11_box_0 : decode cX11_box 0 = .ok (.iload_n 1, 1) := by decide +kernel
theorem dX11_box_1 : decode cX11_box 1 = .ok (.iconst 1, 1) := by decide +kernel
theorem dX11_box_2 : decode cX11_box 2 = .ok (.bipush 20, 2) := by decide +kernel
theorem dX11_box_4 : decode cX11_box 4 = .ok (.invokestatic 105, 3) := by decide +kernel
theorem dX11_box_7 : decode cX11_box 7 = .ok (.ifCond .eq 23, 3) := by decide +kernel
theorem dX11_box_10 : decode cX11_box 10 = .ok (.iload_n 2, 1) := by decide +kernel
theorem dX11_box_11 : decode cX11_box 11 = .ok (.iconst 0, 1) := by decide +kernel
theorem dX11_box_12 : decode cX11_box 12 = .ok (.iload_n 1, 1) := by decide +kernel
theorem dX11_box_13 : decode cX11_box 13 = .ok (.invokestatic 105, 3) := by decide +kernel
theorem dX11_box_16 : decode cX11_box 16 = .ok (.ifCond .eq 14, 3) := by decide +kernel
theorem dX11_box_19 : decode cX11_box 19 = .ok (.iload_n 3, 1) := by decide +kernel
theorem dX11_box_20 : decode cX11_box 20 = .ok (.iconst 0, 1) := by decide +kernel
theorem dX11_box_21 : decode cX11_box 21 = .ok (.sipush 9999, 3) := by decide +kernel
theorem dX11_box_24 : decode cX11_box 24 = .ok (.invokestatic 105, 3) := by decide +kernel
theorem dX11_box_27 : decode cX11_box 27 = .ok (.ifCond .ne 9, 3) := by decide +kernel
theorem dX11_box_30 : decode cX11_box 30 = .ok (.aload_n 0, 1) := by decide +kernel
theorem dX11_box_31 : decode cX11_box 31 = .ok (.iconst (-1), 1) := by decide +kernel
theorem dX11_box_32 : decode cX11_box 32 = .ok (.invokevirtual 94, 3) := by decide +kernel
theorem dX11_box_35 : decode cX11_box 35 = .ok (.ireturn, 1) := by decide +kernel
theorem dX11_box_36 : decode cX11_box 36 = .ok (.aload_n 0, 1) := by decide +kernel
theorem dX11_box_37 : decode cX11_box 37 = .ok (.getfield 10, 3) := by decide +kernel
theorem dX11_box_40 : decode cX11_box 40 = .ok (.getfield 203, 3) := by decide +kernel
theorem dX11_box_43 : decode cX11_box 43 = .ok (.invokevirtual 206, 3) := by decide +kernel
theorem dX11_box_46 : decode cX11_box 46 = .ok (.istore 4, 2) := by decide +kernel
theorem dX11_box_48 : decode cX11_box 48 = .ok (.iload 4, 2) := by decide +kernel
theorem dX11_box_50 : decode cX11_box 50 = .ok (.iconst (-1), 1) := by decide +kernel
theorem dX11_box_51 : decode cX11_box 51 = .ok (.if_icmp .ne 10, 3) := by decide +kernel
theorem dX11_box_54 : decode cX11_box 54 = .ok (.aload_n 0, 1) := by decide +kernel
theorem dX11_box_55 : decode cX11_box 55 = .ok (.bipush (-5), 2) := by decide +kernel
theorem dX11_box_57 : decode cX11_box 57 = .ok (.invokevirtual 94, 3) := by decide +kernel
theorem dX11_box_60 : decode cX11_box 60 = .ok (.ireturn, 1) := by decide +kernel
theorem dX11_box_61 : decode cX11_box 61 = .ok (.aload_n 0, 1) := by decide +kernel
theorem dX11_box_62 : decode cX11_box 62 = .ok (.getfield 10, 3) := by decide +kernel
theorem dX11_box_65 : decode cX11_box 65 = .ok (.getfield 203, 3) := by decide +kernel
theorem dX11_box_68 : decode cX11_box 68 = .ok (.iload 4, 2) := by decide +kernel
theorem dX11_box_70 : decode cX11_box 70 = .ok (.iconst 0, 1) := by decide +kernel
theorem dX11_box_71 : decode cX11_box 71 = .ok (.iload_n 1, 1) := by decide +kernel
theorem dX11_box_72 : decode cX11_box 72 = .ok (.invokevirtual 126, 3) := by decide +kernel
theorem dX11_box_75 : decode cX11_box 75 = .ok (.aload_n 0, 1) := by decide +kernel
theorem dX11_box_76 : decode cX11_box 76 = .ok (.getfield 10, 3) := by decide +kernel
theorem dX11_box_79 : decode cX11_box 79 = .ok (.getfield 203, 3) := by decide +kernel
theorem dX11_box_82 : decode cX11_box 82 = .ok (.iload 4, 2) := by decide +kernel
theorem dX11_box_84 : decode cX11_box 84 = .ok (.iconst 1, 1) := by decide +kernel
theorem dX11_box_85 : decode cX11_box 85 = .ok (.iload_n 2, 1) := by decide +kernel
theorem dX11_box_86 : decode cX11_box 86 = .ok (.invokevirtual 126, 3) := by decide +kernel
theorem dX11_box_89 : decode cX11_box 89 = .ok (.aload_n 0, 1) := by decide +kernel
theorem dX11_box_90 : decode cX11_box 90 = .ok (.getfield 10, 3) := by decide +kernel
theorem dX11_box_93 : decode cX11_box 93 = .ok (.getfield 203, 3) := by decide +kernel
theorem dX11_box_96 : decode cX11_box 96 = .ok (.iload 4, 2) := by decide +kernel
theorem dX11_box_98 : decode cX11_box 98 = .ok (.iconst 2, 1) := by decide +kernel
theorem dX11_box_99 : decode cX11_box 99 = .ok (.iload_n 3, 1) := by decide +kernel
theorem dX11_box_100 : decode cX11_box 100 = .ok (.invokevirtual 126, 3) := by decide +kernel
theorem dX11_box_103 : decode cX11_box 103 = .ok (.aload_n 0, 1) := by decide +kernel
theorem dX11_box_104 : decode cX11_box 104 = .ok (.aload_n 0, 1) := by decide +kernel
theorem dX11_box_105 : decode cX11_box 105 = .ok (.getfield 10, 3) := by decide +kernel
theorem dX11_box_108 : decode cX11_box 108 = .ok (.getfield 203, 3) := by decide +kernel
theorem dX11_box_111 : decode cX11_box 111 = .ok (.getfield 209, 3) := by decide +kernel
theorem dX11_box_114 : decode cX11_box 114 = .ok (.invokevirtual 102, 3) := by decide +kernel
theorem dX11_box_117 : decode cX11_box 117 = .ok (.ireturn, 1) := by decide +kernel
set_option maxHeartbeats 4000000 in
set_option maxRecDepth 100000 in
theorem x_X11_box_30 {p : Program} {l : Launch} {e : Env} {s : State} {m : MethodId} {args : Array Value} {below : List Frame} {meth : Method} {c : Code} {D : va_G} {K : Nat → ClassId} {A : Nat → Prop} {ad la : Nat → Nat} {rest : va_W} (C : xC p s m args meth c D K A RX11 cX11_box 5 (some .int)) (z : Int32 × xS) : ∀  (σ : xS), F_X11_box_30  σ = some z → X p l e (xR 2 44) s m args below meth c D A 5 (xQi below D K A args s z.1 (CW K ad la rest z.2)) 0 0 30 [(0, .ref (ad 0))] [] (CW K ad la rest σ) := by
  intro σ hF
  unfold F_X11_box_30 at hF
  refine x_aload_n C 0 0 dX11_box_30 rfl rfl ?_
  refine x_iconst C (-1) dX11_box_31 (by decide +kernel) ?_
  refine x_callVI C (wf := CW K ad la rest) (As := [.int ((-1))]) (rest := []) dX11_box_32 ml_X11_94 rfl rfl (Nat.le_of_ble_eq_true rfl) 0 (CW_0 K ad la rest σ) rfl ⟨Nat.le_of_ble_eq_true rfl, Nat.le_of_ble_eq_true rfl⟩ ⟨Nat.zero_le _, Nat.zero_le _⟩ (fun q9 hq9 => c_X11_refused l D K ad la rest ((-1)) σ q9 hq9) hF (fun v17 σ16 hF => ?_)
  exact x_iret C dX11_box_35 rfl (congrArg Prod.fst (Option.some.inj hF)) (congrArg (fun q9 : Int32 × xS => CW K ad la rest q9.2) (Option.some.inj hF))
set_option maxHeartbeats 4000000 in
set_option maxRecDepth 100000 in
theorem c_X11_box (l : Launch) (D : va_G) (K : Nat → ClassId) (ad la : Nat → Nat) (rest : va_W)  (a1 : Int32) (a2 : Int32) (a3 : Int32) (σ : xS) (z : Int32 × xS) (hF : F_X11_box a1 a2 a3 σ = some z) : CI l D K yX11_box cX11_box 5 (some .int) 2 44 [.ref (ad 0), .int a1, .int a2, .int a3] (CW K ad la rest σ) z.1 (CW K ad la rest z.2) := by
  refine x_enterI [(0, .ref (ad 0)), (1, .int a1), (2, .int a2), (3, .int a3)] pnX11 (Nat.le_of_ble_eq_true rfl) rfl ?_
  intro p e s m args below meth c A C
  unfold F_X11_box at hF
  refine x_iload_n C 1 1 dX11_box_0 rfl rfl ?_
  refine x_iconst C 1 dX11_box_1 (by decide +kernel) ?_
  refine x_bipush C 20 dX11_box_2 (by decide +kernel) ?_
  refine x_callSI C (wf := CW K ad la rest) (As := [.int a1, .int 1, .int 20]) (rest := []) dX11_box_4 ml_X11_105 rfl rfl (Nat.le_of_ble_eq_true rfl) ⟨Nat.le_of_ble_eq_true rfl, Nat.le_of_ble_eq_true rfl⟩ ⟨Nat.zero_le _, Nat.zero_le _⟩ (fun q9 hq9 => c_X11_isWithin l D K ad la rest a1 1 20 σ q9 hq9) hF (fun v2 σ1 hF => ?_)
  refine x_if_eq C 30 dX11_box_7 (by decide) hF (fun hF => ?_) (fun hF => ?_)
  · refine x_loc [(0, .ref (ad 0))] [0] rfl ?_
    exact x_X11_box_30 C z σ1 hF
  · refine x_iload_n C 2 2 dX11_box_10 rfl rfl ?_
    refine x_iconst C 0 dX11_box_11 (by decide +kernel) ?_
    refine x_iload_n C 1 1 dX11_box_12 rfl rfl ?_
    refine x_callSI C (wf := CW K ad la rest) (As := [.int a2, .int 0, .int a1]) (rest := []) dX11_box_13 ml_X11_105 rfl rfl (Nat.le_of_ble_eq_true rfl) ⟨Nat.le_of_ble_eq_true rfl, Nat.le_of_ble_eq_true rfl⟩ ⟨Nat.zero_le _, Nat.zero_le _⟩ (fun q9 hq9 => c_X11_isWithin l D K ad la rest a2 0 a1 σ1 q9 hq9) hF (fun v4 σ3 hF => ?_)
    refine x_if_eq C 30 dX11_box_16 (by decide) hF (fun hF => ?_) (fun hF => ?_)
    · refine x_loc [(0, .ref (ad 0))] [0] rfl ?_
      exact x_X11_box_30 C z σ3 hF
    · refine x_iload_n C 3 3 dX11_box_19 rfl rfl ?_
      refine x_iconst C 0 dX11_box_20 (by decide +kernel) ?_
      refine x_sipush C 9999 dX11_box_21 (by decide +kernel) ?_
      refine x_callSI C (wf := CW K ad la rest) (As := [.int a3, .int 0, .int 9999]) (rest := []) dX11_box_24 ml_X11_105 rfl rfl (Nat.le_of_ble_eq_true rfl) ⟨Nat.le_of_ble_eq_true rfl, Nat.le_of_ble_eq_true rfl⟩ ⟨Nat.zero_le _, Nat.zero_le _⟩ (fun q9 hq9 => c_X11_isWithin l D K ad la rest a3 0 9999 σ3 q9 hq9) hF (fun v6 σ5 hF => ?_)
      refine x_if_ne C 36 dX11_box_27 (by decide) hF (fun hF => ?_) (fun hF => ?_)
      · refine x_aload_n C 0 0 dX11_box_36 rfl rfl ?_
        refine x_get C 0 dX11_box_37 fl_X11_10 (CW_0 K ad la rest σ5) rfl ?_
        refine x_get C 5 dX11_box_40 fl_X11_203 (CW_5 K ad la rest σ5) rfl ?_
        refine x_callVI C (wf := CW K ad la rest) (As := []) (rest := []) dX11_box_43 ml_X11_206 rfl rfl (Nat.le_of_ble_eq_true rfl) 10 (CW_10 K ad la rest σ5) rfl ⟨Nat.le_of_ble_eq_true rfl, Nat.le_of_ble_eq_true rfl⟩ ⟨Nat.zero_le _, Nat.zero_le _⟩ (fun q9 hq9 => c_X6_open l D K ad la rest 1 (by decide) σ5 q9 hq9) hF (fun v8 σ7 hF => ?_)
        refine x_istore C [(4, .int v8), (0, .ref (ad 0)), (1, .int a1), (2, .int a2), (3, .int a3)] dX11_box_46 (by decide) rfl ?_
        refine x_iload C 0 4 dX11_box_48 rfl ?_
        refine x_iconst C (-1) dX11_box_50 (by decide +kernel) ?_
        refine x_icmp_ne C 61 dX11_box_51 (by decide) hF (fun hF => ?_) (fun hF => ?_)
        · refine x_aload_n C 1 0 dX11_box_61 rfl rfl ?_
          refine x_get C 0 dX11_box_62 fl_X11_10 (CW_0 K ad la rest σ7) rfl ?_
          refine x_get C 5 dX11_box_65 fl_X11_203 (CW_5 K ad la rest σ7) rfl ?_
          refine x_iload C 0 4 dX11_box_68 rfl ?_
          refine x_iconst C 0 dX11_box_70 (by decide +kernel) ?_
          refine x_iload_n C 2 1 dX11_box_71 rfl rfl ?_
          refine x_callVV C (wf := CW K ad la rest) (As := [.int v8, .int 0, .int a1]) (rest := []) dX11_box_72 ml_X11_126 rfl rfl (Nat.le_of_ble_eq_true rfl) 10 (CW_10 K ad la rest σ7) rfl ⟨Nat.le_of_ble_eq_true rfl, Nat.le_of_ble_eq_true rfl⟩ ⟨Nat.zero_le _, Nat.zero_le _⟩ (fun q9 hq9 => c_X6_set l D K ad la rest 1 (by decide) v8 0 a1 σ7 q9 hq9) hF (fun _ σ9 hF => ?_)
          refine x_aload_n C 1 0 dX11_box_75 rfl rfl ?_
          refine x_get C 0 dX11_box_76 fl_X11_10 (CW_0 K ad la rest σ9) rfl ?_
          refine x_get C 5 dX11_box_79 fl_X11_203 (CW_5 K ad la rest σ9) rfl ?_
          refine x_iload C 0 4 dX11_box_82 rfl ?_
          refine x_iconst C 1 dX11_box_84 (by decide +kernel) ?_
          refine x_iload_n C 3 2 dX11_box_85 rfl rfl ?_
          refine x_callVV C (wf := CW K ad la rest) (As := [.int v8, .int 1, .int a2]) (rest := []) dX11_box_86 ml_X11_126 rfl rfl (Nat.le_of_ble_eq_true rfl) 10 (CW_10 K ad la rest σ9) rfl ⟨Nat.le_of_ble_eq_true rfl, Nat.le_of_ble_eq_true rfl⟩ ⟨Nat.zero_le _, Nat.zero_le _⟩ (fun q9 hq9 => c_X6_set l D K ad la rest 1 (by decide) v8 1 a2 σ9 q9 hq9) hF (fun _ σ10 hF => ?_)
          refine x_aload_n C 1 0 dX11_box_89 rfl rfl ?_
          refine x_get C 0 dX11_box_90 fl_X11_10 (CW_0 K ad la rest σ10) rfl ?_
          refine x_get C 5 dX11_box_93 fl_X11_203 (CW_5 K ad la rest σ10) rfl ?_
          refine x_iload C 0 4 dX11_box_96 rfl ?_
          refine x_iconst C 2 dX11_box_98 (by decide +kernel) ?_
          refine x_iload_n C 4 3 dX11_box_99 rfl rfl ?_
          refine x_callVV C (wf := CW K ad la rest) (As := [.int v8, .int 2, .int a3]) (rest := []) dX11_box_100 ml_X11_126 rfl rfl (Nat.le_of_ble_eq_true rfl) 10 (CW_10 K ad la rest σ10) rfl ⟨Nat.le_of_ble_eq_true rfl, Nat.le_of_ble_eq_true rfl⟩ ⟨Nat.zero_le _, Nat.zero_le _⟩ (fun q9 hq9 => c_X6_set l D K ad la rest 1 (by decide) v8 2 a3 σ10 q9 hq9) hF (fun _ σ11 hF => ?_)
          refine x_aload_n C 1 0 dX11_box_103 rfl rfl ?_
          refine x_aload_n C 1 0 dX11_box_104 rfl rfl ?_
          refine x_get C 0 dX11_box_105 fl_X11_10 (CW_0 K ad la rest σ11) rfl ?_
          refine x_get C 5 dX11_box_108 fl_X11_203 (CW_5 K ad la rest σ11) rfl ?_
          refine x_get C 10 dX11_box_111 fl_X11_209 (CW_10 K ad la rest σ11) rfl ?_
          refine x_callVI C (wf := CW K ad la rest) (As := [.int (sI σ11 163)]) (rest := []) dX11_box_114 ml_X11_102 rfl rfl (Nat.le_of_ble_eq_true rfl) 0 (CW_0 K ad la rest σ11) rfl ⟨Nat.le_of_ble_eq_true rfl, Nat.le_of_ble_eq_true rfl⟩ ⟨Nat.zero_le _, Nat.zero_le _⟩ (fun q9 hq9 => c_X11_accepted l D K ad la rest (sI σ11 163) σ11 q9 hq9) hF (fun v13 σ12 hF => ?_)
          exact x_iret C dX11_box_117 rfl (congrArg Prod.fst (Option.some.inj hF)) (congrArg (fun q9 : Int32 × xS => CW K ad la rest q9.2) (Option.some.inj hF))
        · refine x_aload_n C 1 0 dX11_box_54 rfl rfl ?_
          refine x_bipush C (-5) dX11_box_55 (by decide +kernel) ?_
          refine x_callVI C (wf := CW K ad la rest) (As := [.int ((-5))]) (rest := []) dX11_box_57 ml_X11_94 rfl rfl (Nat.le_of_ble_eq_true rfl) 0 (CW_0 K ad la rest σ7) rfl ⟨Nat.le_of_ble_eq_true rfl, Nat.le_of_ble_eq_true rfl⟩ ⟨Nat.zero_le _, Nat.zero_le _⟩ (fun q9 hq9 => c_X11_refused l D K ad la rest ((-5)) σ7 q9 hq9) hF (fun v15 σ14 hF => ?_)
          exact x_iret C dX11_box_60 rfl (congrArg Prod.fst (Option.some.inj hF)) (congrArg (fun q9 : Int32 × xS => CW K ad la rest q9.2) (Option.some.inj hF))
      · refine x_loc [(0, .ref (ad 0))] [0] rfl ?_
        exact x_X11_box_30 C z σ5 hF
