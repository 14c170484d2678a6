theorem dX8_look_0 : decode cX8_look 0 = .ok (.iconst 0, 1) := by decide +kernel
theorem dX8_look_1 : decode cX8_look 1 = .ok (.istore_n 1, 1) := by decide +kernel
theorem dX8_look_2 : decode cX8_look 2 = .ok (.aload_n 0, 1) := by decide +kernel
theorem dX8_look_3 : decode cX8_look 3 = .ok (.iconst 0, 1) := by decide +kernel
theorem dX8_look_4 : decode cX8_look 4 = .ok (.putfield 26, 3) := by decide +kernel
theorem dX8_look_7 : decode cX8_look 7 = .ok (.iconst 0, 1) := by decide +kernel
theorem dX8_look_8 : decode cX8_look 8 = .ok (.istore_n 2, 1) := by decide +kernel
theorem dX8_look_9 : decode cX8_look 9 = .ok (.iload_n 2, 1) := by decide +kernel
theorem dX8_look_10 : decode cX8_look 10 = .ok (.aload_n 0, 1) := by decide +kernel
theorem dX8_look_11 : decode cX8_look 11 = .ok (.getfield 18, 3) := by decide +kernel
theorem dX8_look_14 : decode cX8_look 14 = .ok (.getfield 30, 3) := by decide +kernel
theorem dX8_look_17 : decode cX8_look 17 = .ok (.getfield 36, 3) := by decide +kernel
theorem dX8_look_20 : decode cX8_look 20 = .ok (.if_icmp .ge 64, 3) := by decide +kernel
theorem dX8_look_23 : decode cX8_look 23 = .ok (.aload_n 0, 1) := by decide +kernel
theorem dX8_look_24 : decode cX8_look 24 = .ok (.getfield 9, 3) := by decide +kernel
theorem dX8_look_27 : decode cX8_look 27 = .ok (.iload_n 2, 1) := by decide +kernel
theorem dX8_look_28 : decode cX8_look 28 = .ok (.aload_n 0, 1) := by decide +kernel
theorem dX8_look_29 : decode cX8_look 29 = .ok (.getfield 22, 3) := by decide +kernel
theorem dX8_look_32 : decode cX8_look 32 = .ok (.iload_n 2, 1) := by decide +kernel
theorem dX8_look_33 : decode cX8_look 33 = .ok (.iconst 0, 1) := by decide +kernel
theorem dX8_look_34 : decode cX8_look 34 = .ok (.invokevirtual 41, 3) := by decide +kernel
theorem dX8_look_37 : decode cX8_look 37 = .ok (.iastore, 1) := by decide +kernel
theorem dX8_look_38 : decode cX8_look 38 = .ok (.aload_n 0, 1) := by decide +kernel
theorem dX8_look_39 : decode cX8_look 39 = .ok (.getfield 18, 3) := by decide +kernel
theorem dX8_look_42 : decode cX8_look 42 = .ok (.getfield 30, 3) := by decide +kernel
theorem dX8_look_45 : decode cX8_look 45 = .ok (.iload_n 2, 1) := by decide +kernel
theorem dX8_look_46 : decode cX8_look 46 = .ok (.iconst 4, 1) := by decide +kernel
theorem dX8_look_47 : decode cX8_look 47 = .ok (.invokevirtual 47, 3) := by decide +kernel
theorem dX8_look_50 : decode cX8_look 50 = .ok (.iconst 2, 1) := by decide +kernel
theorem dX8_look_51 : decode cX8_look 51 = .ok (.if_icmp .ne 18, 3) := by decide +kernel
theorem dX8_look_54 : decode cX8_look 54 = .ok (.aload_n 0, 1) := by decide +kernel
theorem dX8_look_55 : decode cX8_look 55 = .ok (.dup, 1) := by decide +kernel
theorem dX8_look_56 : decode cX8_look 56 = .ok (.getfield 26, 3) := by decide +kernel
theorem dX8_look_59 : decode cX8_look 59 = .ok (.iconst 1, 1) := by decide +kernel
theorem dX8_look_60 : decode cX8_look 60 = .ok (.iload_n 2, 1) := by decide +kernel
theorem dX8_look_61 : decode cX8_look 61 = .ok (.ishl, 1) := by decide +kernel
theorem dX8_look_62 : decode cX8_look 62 = .ok (.ior, 1) := by decide +kernel
theorem dX8_look_63 : decode cX8_look 63 = .ok (.putfield 26, 3) := by decide +kernel
theorem dX8_look_66 : decode cX8_look 66 = .ok (.goto 12, 3) := by decide +kernel
theorem dX8_look_69 : decode cX8_look 69 = .ok (.iload_n 1, 1) := by decide +kernel
theorem dX8_look_70 : decode cX8_look 70 = .ok (.aload_n 0, 1) := by decide +kernel
theorem dX8_look_71 : decode cX8_look 71 = .ok (.getfield 9, 3) := by decide +kernel
theorem dX8_look_74 : decode cX8_look 74 = .ok (.iload_n 2, 1) := by decide +kernel
theorem dX8_look_75 : decode cX8_look 75 = .ok (.iaload, 1) := by decide +kernel
theorem dX8_look_76 : decode cX8_look 76 = .ok (.iadd, 1) := by decide +kernel
theorem dX8_look_77 : decode cX8_look 77 = .ok (.istore_n 1, 1) := by decide +kernel
theorem dX8_look_78 : decode cX8_look 78 = .ok (.iinc 2 1, 3) := by decide +kernel
theorem dX8_look_81 : decode cX8_look 81 = .ok (.goto (-72), 3) := by decide +kernel
theorem dX8_look_84 : decode cX8_look 84 = .ok (.aload_n 0, 1) := by decide +kernel
theorem dX8_look_85 : decode cX8_look 85 = .ok (.getfield 15, 3) := by decide +kernel
theorem dX8_look_88 : decode cX8_look 88 = .ok (.iconst 0, 1) := by decide +kernel
theorem dX8_look_89 : decode cX8_look 89 = .ok (.aload_n 0, 1) := by decide +kernel
theorem dX8_look_90 : decode cX8_look 90 = .ok (.getfield 15, 3) := by decide +kernel
theorem dX8_look_93 : decode cX8_look 93 = .ok (.arraylength, 1) := by decide +kernel
theorem dX8_look_94 : decode cX8_look 94 = .ok (.iload_n 1, 1) := by decide +kernel
theorem dX8_look_95 : decode cX8_look 95 = .ok (.iconst 1, 1) := by decide +kernel
theorem dX8_look_96 : decode cX8_look 96 = .ok (.iadd, 1) := by decide +kernel
theorem dX8_look_97 : decode cX8_look 97 = .ok (.iconst 2, 1) := by decide +kernel
theorem dX8_look_98 : decode cX8_look 98 = .ok (.imul, 1) := by decide +kernel
theorem dX8_look_99 : decode cX8_look 99 = .ok (.bipush 10, 2) := by decide +kernel
theorem dX8_look_101 : decode cX8_look 101 = .ok (.imul, 1) := by decide +kernel
theorem dX8_look_102 : decode cX8_look 102 = .ok (.invokestatic 50, 3) := by decide +kernel
theorem dX8_look_105 : decode cX8_look 105 = .ok (.iconst (-1), 1) := by decide +kernel
theorem dX8_look_106 : decode cX8_look 106 = .ok (.invokestatic 55, 3) := by decide +kernel
theorem dX8_look_109 : decode cX8_look 109 = .ok (.return_, 1) := by decide +kernel
set_option maxHeartbeats 4000000 in
set_option maxRecDepth 100000 in
theorem x_X8_look_9 {p : Program} {l : Launch} {e : Env} {s : State} {m : MethodId} {args : Array Value} {below : List Frame} {meth : Method} {c : Code} {D : va_G} {K : Nat → ClassId} {A : Nat → Prop} {ad la : Nat → Nat} {rest : va_W} (C : xC p s m args meth c D K A RX8 cX8_look 3 none) (z : Unit × xS) : ∀ (n : Nat) (y1 : Int32) (y2 : Int32) (σ : xS), F_X8_look_9  n y1 y2 σ = some z → X p l e (xR 4 101) s m args below meth c D A 3 (xQv below D K A args s (CW K ad la rest z.2)) 0 0 9 [(0, .ref (ad 66)), (1, .int y1), (2, .int y2)] [] (CW K ad la rest σ) := by
  intro n
  induction n with
  | zero =>
    intro y1 y2 σ hF
    cases hF
  | succ n ih =>
    intro y1 y2 σ hF
    rw [F_X8_look_9] at hF
    refine x_iload_n C 2 2 dX8_look_9 rfl rfl ?_
    refine x_aload_n C 0 0 dX8_look_10 rfl rfl ?_
    refine x_get C 66 dX8_look_11 fl_X8_18 (CW_66 K ad la rest σ) rfl ?_
    refine x_get C 5 dX8_look_14 fl_X8_30 (CW_5 K ad la rest σ) rfl ?_
    refine x_get C 8 dX8_look_17 fl_X8_36 (CW_8 K ad la rest σ) rfl ?_
    refine x_icmp_ge C 84 dX8_look_20 (by decide) hF (fun hF => ?_) (fun hF => ?_)
    · refine x_aload_n C 0 0 dX8_look_84 rfl rfl ?_
      refine x_get C 66 dX8_look_85 fl_X8_15 (CW_66 K ad la rest σ) rfl ?_
      refine x_iconst C 0 dX8_look_88 (by decide +kernel) ?_
      refine x_aload_n C 0 0 dX8_look_89 rfl rfl ?_
      refine x_get C 66 dX8_look_90 fl_X8_15 (CW_66 K ad la rest σ) rfl ?_
      refine x_alen C (t0 := 0) 19820 68 dX8_look_93 (CW_68 K ad la rest σ) rfl rfl ?_
      refine x_iload_n C 1 1 dX8_look_94 rfl rfl ?_
      refine x_iconst C 1 dX8_look_95 (by decide +kernel) ?_
      refine x_iadd C dX8_look_96 ?_
      refine x_iconst C 2 dX8_look_97 (by decide +kernel) ?_
      refine x_imul C dX8_look_98 ?_
      refine x_bipush C 10 dX8_look_99 (by decide +kernel) ?_
      refine x_imul C dX8_look_101 ?_
      refine x_mmin C dX8_look_102 wl_X8_50 jMinI ⟨Nat.le_of_ble_eq_true rfl, Nat.le_of_ble_eq_true rfl⟩ ⟨Nat.zero_le _, Nat.zero_le _⟩ ?_
      refine x_iconst C (-1) dX8_look_105 (by decide +kernel) ?_
      refine x_fill4 C 68 dX8_look_106 wl_X8_55 ⟨Nat.le_of_ble_eq_true rfl, Nat.le_of_ble_eq_true rfl⟩ ⟨Nat.zero_le _, Nat.zero_le _⟩ (Nat.le_of_ble_eq_true rfl) (Nat.le_of_ble_eq_true rfl) (CW_68 K ad la rest σ) hF (CW_s68 K ad la rest σ _) (fun hF => ?_)
      refine x_st (wf := CW K ad la rest) hF (fun σ4 hF => ?_)
      exact x_vret C dX8_look_109 rfl (congrArg (fun q9 : Unit × xS => CW K ad la rest q9.2) (Option.some.inj hF))
    · refine x_aload_n C 0 0 dX8_look_23 rfl rfl ?_
      refine x_get C 66 dX8_look_24 fl_X8_9 (CW_66 K ad la rest σ) rfl ?_
      refine x_iload_n C 2 2 dX8_look_27 rfl rfl ?_
      refine x_aload_n C 0 0 dX8_look_28 rfl rfl ?_
      refine x_get C 66 dX8_look_29 fl_X8_22 (CW_66 K ad la rest σ) rfl ?_
      refine x_iload_n C 2 2 dX8_look_32 rfl rfl ?_
      refine x_iconst C 0 dX8_look_33 (by decide +kernel) ?_
      refine x_callVI C (wf := CW K ad la rest) (As := [.int y2, .int 0]) (rest := [.int y2, .ref (ad 67)]) dX8_look_34 ml_X8_41 rfl rfl (Nat.le_of_ble_eq_true rfl) 44 (CW_44 K ad la rest σ) rfl ⟨Nat.le_of_ble_eq_true rfl, Nat.le_of_ble_eq_true rfl⟩ ⟨Nat.zero_le _, Nat.zero_le _⟩ (fun q9 hq9 => c_X0_drawsOnTable l D K ad la rest y2 0 σ q9 hq9) hF (fun v6 σ5 hF => ?_)
      refine x_iast C 67 dX8_look_37 (CW_67 K ad la rest σ5) hF (CW_s67 K ad la rest σ5 _) (fun hF => ?_)
      refine x_st (wf := CW K ad la rest) hF (fun σ7 hF => ?_)
      refine x_aload_n C 0 0 dX8_look_38 rfl rfl ?_
      refine x_get C 66 dX8_look_39 fl_X8_18 (CW_66 K ad la rest σ7) rfl ?_
      refine x_get C 5 dX8_look_42 fl_X8_30 (CW_5 K ad la rest σ7) rfl ?_
      refine x_iload_n C 2 2 dX8_look_45 rfl rfl ?_
      refine x_iconst C 4 dX8_look_46 (by decide +kernel) ?_
      refine x_callVI C (wf := CW K ad la rest) (As := [.int y2, .int 4]) (rest := []) dX8_look_47 ml_X8_47 rfl rfl (Nat.le_of_ble_eq_true rfl) 8 (CW_8 K ad la rest σ7) rfl ⟨Nat.le_of_ble_eq_true rfl, Nat.le_of_ble_eq_true rfl⟩ ⟨Nat.zero_le _, Nat.zero_le _⟩ (fun q9 hq9 => c_X6_get l D K ad la rest 0 (by decide) y2 4 σ7 q9 hq9) hF (fun v9 σ8 hF => ?_)
      refine x_iconst C 2 dX8_look_50 (by decide +kernel) ?_
      refine x_icmp_ne C 69 dX8_look_51 (by decide) hF (fun hF => ?_) (fun hF => ?_)
      · refine x_iload_n C 1 1 dX8_look_69 rfl rfl ?_
        refine x_aload_n C 0 0 dX8_look_70 rfl rfl ?_
        refine x_get C 66 dX8_look_71 fl_X8_9 (CW_66 K ad la rest σ8) rfl ?_
        refine x_iload_n C 2 2 dX8_look_74 rfl rfl ?_
        refine x_iald C 67 dX8_look_75 (CW_67 K ad la rest σ8) hF (fun v10 hF => ?_)
        refine x_iadd C dX8_look_76 ?_
        refine x_topI hF (fun x11 hF => ?_)
        refine x_istore_n C [(1, .int x11), (0, .ref (ad 66)), (2, .int y2)] dX8_look_77 rfl (by decide) rfl ?_
        refine x_iincN C 1 2 (fun x12 => [(2, .int x12), (1, .int x11), (0, .ref (ad 66))]) dX8_look_78 rfl (by decide +kernel) (by decide) (fun _ => rfl) hF (fun x12 hF => ?_)
        refine x_goto C 9 dX8_look_81 (by decide) ?_
        refine x_loc [(0, .ref (ad 66)), (1, .int x11), (2, .int x12)] [2, 1, 0] rfl ?_
        exact ih x11 x12 σ8 hF
      · refine x_aload_n C 0 0 dX8_look_54 rfl rfl ?_
        refine x_dup C rfl dX8_look_55 ?_
        refine x_get C 66 dX8_look_56 fl_X8_26 (CW_66 K ad la rest σ8) rfl ?_
        refine x_iconst C 1 dX8_look_59 (by decide +kernel) ?_
        refine x_iload_n C 2 2 dX8_look_60 rfl rfl ?_
        refine x_ishl C dX8_look_61 ?_
        refine x_ior C dX8_look_62 ?_
        refine x_put C 66 dX8_look_63 fl_X8_26 fm_X8_4 rfl rfl (CW_66 K ad la rest σ8) (Nat.le_of_ble_eq_true rfl) (CW_s66_4 K ad la rest σ8 _) ?_
        refine x_st (wf := CW K ad la rest) hF (fun σ13 hF => ?_)
        refine x_goto C 78 dX8_look_66 (by decide) ?_
        refine x_iincN C 1 2 (fun x14 => [(2, .int x14), (0, .ref (ad 66)), (1, .int y1)]) dX8_look_78 rfl (by decide +kernel) (by decide) (fun _ => rfl) hF (fun x14 hF => ?_)
        refine x_goto C 9 dX8_look_81 (by decide) ?_
        refine x_loc [(0, .ref (ad 66)), (1, .int y1), (2, .int x14)] [1, 2, 0] rfl ?_
        exact ih y1 x14 σ13 hF
set_option maxHeartbeats 4000000 in
set_option maxRecDepth 100000 in
theorem c_X8_look (l : Launch) (D : va_G) (K : Nat → ClassId) (ad la : Nat → Nat) (rest : va_W)   (σ : xS) (z : Unit × xS) (hF : F_X8_look σ = some z) : CV l D K yX8_look cX8_look 3 none 4 101 [.ref (ad 66)] (CW K ad la rest σ) (CW K ad la rest z.2) := by
  refine x_enterV [(0, .ref (ad 66))] pnX8 (Nat.le_of_ble_eq_true rfl) rfl ?_
  intro p e s m args below meth c A C
  unfold F_X8_look at hF
  refine x_iconst C 0 dX8_look_0 (by decide +kernel) ?_
  refine x_topI hF (fun x1 hF => ?_)
  refine x_istore_n C [(1, .int x1), (0, .ref (ad 66))] dX8_look_1 rfl (by decide) rfl ?_
  refine x_aload_n C 1 0 dX8_look_2 rfl rfl ?_
  refine x_iconst C 0 dX8_look_3 (by decide +kernel) ?_
  refine x_put C 66 dX8_look_4 fl_X8_26 fm_X8_4 rfl rfl (CW_66 K ad la rest σ) (Nat.le_of_ble_eq_true rfl) (CW_s66_4 K ad la rest σ _) ?_
  refine x_st (wf := CW K ad la rest) hF (fun σ2 hF => ?_)
  refine x_iconst C 0 dX8_look_7 (by decide +kernel) ?_
  refine x_topI hF (fun x3 hF => ?_)
  refine x_istore_n C [(2, .int x3), (1, .int x1), (0, .ref (ad 66))] dX8_look_8 rfl (by decide) rfl ?_
  refine x_loc [(0, .ref (ad 66)), (1, .int x1), (2, .int x3)] [2, 1, 0] rfl ?_
  exact x_X8_look_9 C z FU x1 x3 σ2 hF
theorem dX8_crowdOf_0 : decode cX8_crowdOf 0 = .ok (.iconst 0, 1) := by decide +kernel
theorem dX8_crowdOf_1 : decode cX8_crowdOf 1 = .ok (.istore_n 2, 1) := by decide +kernel
theorem dX8_crowdOf_2 : decode cX8_crowdOf 2 = .ok (.iconst 0, 1) := by decide +kernel
theorem dX8_crowdOf_3 : decode cX8_crowdOf 3 = .ok (.istore_n 3, 1) := by decide +kernel
theorem dX8_crowdOf_4 : decode cX8_crowdOf 4 = .ok (.iload_n 3, 1) := by decide +kernel
theorem dX8_crowdOf_5 : decode cX8_crowdOf 5 = .ok (.aload_n 0, 1) := by decide +kernel
theorem dX8_crowdOf_6 : decode cX8_crowdOf 6 = .ok (.getfield 18, 3) := by decide +kernel
theorem dX8_crowdOf_9 : decode cX8_crowdOf 9 = .ok (.getfield 30, 3) := by decide +kernel
theorem dX8_crowdOf_12 : decode cX8_crowdOf 12 = .ok (.getfield 36, 3) := by decide +kernel
theorem dX8_crowdOf_15 : decode cX8_crowdOf 15 = .ok (.if_icmp .ge 27, 3) := by decide +kernel
theorem dX8_crowdOf_18 : decode cX8_crowdOf 18 = .ok (.iload_n 1, 1) := by decide +kernel
theorem dX8_crowdOf_19 : decode cX8_crowdOf 19 = .ok (.iload_n 3, 1) := by decide +kernel
theorem dX8_crowdOf_20 : decode cX8_crowdOf 20 = .ok (.ishr, 1) := by decide +kernel
theorem dX8_crowdOf_21 : decode cX8_crowdOf 21 = .ok (.iconst 1, 1) := by decide +kernel
theorem dX8_crowdOf_22 : decode cX8_crowdOf 22 = .ok (.iand, 1) := by decide +kernel
theorem dX8_crowdOf_23 : decode cX8_crowdOf 23 = .ok (.iconst 1, 1) := by decide +kernel
theorem dX8_crowdOf_24 : decode cX8_crowdOf 24 = .ok (.if_icmp .ne 12, 3) := by decide +kernel
theorem dX8_crowdOf_27 : decode cX8_crowdOf 27 = .ok (.iload_n 2, 1) := by decide +kernel
theorem dX8_crowdOf_28 : decode cX8_crowdOf 28 = .ok (.aload_n 0, 1) := by decide +kernel
theorem dX8_crowdOf_29 : decode cX8_crowdOf 29 = .ok (.getfield 9, 3) := by decide +kernel
theorem dX8_crowdOf_32 : decode cX8_crowdOf 32 = .ok (.iload_n 3, 1) := by decide +kernel
theorem dX8_crowdOf_33 : decode cX8_crowdOf 33 = .ok (.iaload, 1) := by decide +kernel
theorem dX8_crowdOf_34 : decode cX8_crowdOf 34 = .ok (.iadd, 1) := by decide +kernel
theorem dX8_crowdOf_35 : decode cX8_crowdOf 35 = .ok (.istore_n 2, 1) := by decide +kernel
theorem dX8_crowdOf_36 : decode cX8_crowdOf 36 = .ok (.iinc 3 1, 3) := by decide +kernel
theorem dX8_crowdOf_39 : decode cX8_crowdOf 39 = .ok (.goto (-35), 3) := by decide +kernel
theorem dX8_crowdOf_42 : decode cX8_crowdOf 42 = .ok (.iload_n 2, 1) := by decide +kernel
theorem dX8_crowdOf_43 : decode cX8_crowdOf 43 = .ok (.ireturn, 1) := by decide +kernel
set_option maxHeartbeats 4000000 in
set_option maxRecDepth 100000 in
theorem x_X8_crowdOf_4 {p : Program} {l : Launch} {e : Env} {s : State} {m : MethodId} {args : Array Value} {below : List Frame} {meth : Method} {c : Code} {D : va_G} {K : Nat → ClassId} {A : Nat → Prop} {ad la : Nat → Nat} {rest : va_W} (C : xC p s m args meth c D K A RX8 cX8_crowdOf 4 (some .int)) (z : Int32 × xS) : ∀ (n : Nat) (y1 : Int32) (y2 : Int32) (y3 : Int32) (σ : xS), F_X8_crowdOf_4  n y1 y2 y3 σ = some z → X p l e (xR 0 0) s m args below meth c D A 4 (xQi below D K A args s z.1 (CW K ad la rest z.2)) 0 0 4 [(0, .ref (ad 66)), (1, .int y1), (2, .int y2), (3, .int y3)] [] (CW K ad la rest σ) := by
  intro n
  induction n with
  | zero =>
    intro y1 y2 y3 σ hF
    cases hF
  | succ n ih =>
    intro y1 y2 y3 σ hF
    rw [F_X8_crowdOf_4] at hF
    refine x_iload_n C 3 3 dX8_crowdOf_4 rfl rfl ?_
    refine x_aload_n C 0 0 dX8_crowdOf_5 rfl rfl ?_
    refine x_get C 66 dX8_crowdOf_6 fl_X8_18 (CW_66 K ad la rest σ) rfl ?_
    refine x_get C 5 dX8_crowdOf_9 fl_X8_30 (CW_5 K ad la rest σ) rfl ?_
    refine x_get C 8 dX8_crowdOf_12 fl_X8_36 (CW_8 K ad la rest σ) rfl ?_
    refine x_icmp_ge C 42 dX8_crowdOf_15 (by decide) hF (fun hF => ?_) (fun hF => ?_)
    · refine x_iload_n C 2 2 dX8_crowdOf_42 rfl rfl ?_
      exact x_iret C dX8_crowdOf_43 rfl (congrArg Prod.fst (Option.some.inj hF)) (congrArg (fun q9 : Int32 × xS => CW K ad la rest q9.2) (Option.some.inj hF))
    · refine x_iload_n C 1 1 dX8_crowdOf_18 rfl rfl ?_
      refine x_iload_n C 3 3 dX8_crowdOf_19 rfl rfl ?_
      refine x_ishr C dX8_crowdOf_20 ?_
      refine x_iconst C 1 dX8_crowdOf_21 (by decide +kernel) ?_
      refine x_iand C dX8_crowdOf_22 ?_
      refine x_iconst C 1 dX8_crowdOf_23 (by decide +kernel) ?_
      refine x_icmp_ne C 36 dX8_crowdOf_24 (by decide) hF (fun hF => ?_) (fun hF => ?_)
      · refine x_iincN C 1 3 (fun x3 => [(3, .int x3), (0, .ref (ad 66)), (1, .int y1), (2, .int y2)]) dX8_crowdOf_36 rfl (by decide +kernel) (by decide) (fun _ => rfl) hF (fun x3 hF => ?_)
        refine x_goto C 4 dX8_crowdOf_39 (by decide) ?_
        refine x_loc [(0, .ref (ad 66)), (1, .int y1), (2, .int y2), (3, .int x3)] [1, 2, 3, 0] rfl ?_
        exact ih y1 y2 x3 σ hF
      · refine x_iload_n C 2 2 dX8_crowdOf_27 rfl rfl ?_
        refine x_aload_n C 0 0 dX8_crowdOf_28 rfl rfl ?_
        refine x_get C 66 dX8_crowdOf_29 fl_X8_9 (CW_66 K ad la rest σ) rfl ?_
        refine x_iload_n C 3 3 dX8_crowdOf_32 rfl rfl ?_
        refine x_iald C 67 dX8_crowdOf_33 (CW_67 K ad la rest σ) hF (fun v4 hF => ?_)
        refine x_iadd C dX8_crowdOf_34 ?_
        refine x_topI hF (fun x5 hF => ?_)
        refine x_istore_n C [(2, .int x5), (0, .ref (ad 66)), (1, .int y1), (3, .int y3)] dX8_crowdOf_35 rfl (by decide) rfl ?_
        refine x_iincN C 1 3 (fun x6 => [(3, .int x6), (2, .int x5), (0, .ref (ad 66)), (1, .int y1)]) dX8_crowdOf_36 rfl (by decide +kernel) (by decide) (fun _ => rfl) hF (fun x6 hF => ?_)
        refine x_goto C 4 dX8_crowdOf_39 (by decide) ?_
        refine x_loc [(0, .ref (ad 66)), (1, .int y1), (2, .int x5), (3, .int x6)] [2, 3, 1, 0] rfl ?_
        exact ih y1 x5 x6 σ hF
set_option maxHeartbeats 4000000 in
set_option maxRecDepth 100000 in
theorem c_X8_crowdOf (l : Launch) (D : va_G) (K : Nat → ClassId) (ad la : Nat → Nat) (rest : va_W)  (a1 : Int32) (σ : xS) (z : Int32 × xS) (hF : F_X8_crowdOf a1 σ = some z) : CI l D K yX8_crowdOf cX8_crowdOf 4 (some .int) 0 0 [.ref (ad 66), .int a1] (CW K ad la rest σ) z.1 (CW K ad la rest z.2) := by
  refine x_enterI [(0, .ref (ad 66)), (1, .int a1)] pnX8 (Nat.le_of_ble_eq_true rfl) rfl ?_
  intro p e s m args below meth c A C
  unfold F_X8_crowdOf at hF
  refine x_iconst C 0 dX8_crowdOf_0 (by decide +kernel) ?_
  refine x_topI hF (fun x1 hF => ?_)
  refine x_istore_n C [(2, .int x1), (0, .ref (ad 66)), (1, .int a1)] dX8_crowdOf_1 rfl (by decide) rfl ?_
  refine x_iconst C 0 dX8_crowdOf_2 (by decide +kernel) ?_
  refine x_topI hF (fun x2 hF => ?_)
  refine x_istore_n C [(3, .int x2), (2, .int x1), (0, .ref (ad 66)), (1, .int a1)] dX8_crowdOf_3 rfl (by decide) rfl ?_
  refine x_loc [(0, .ref (ad 66)), (1, .int a1), (2, .int x1), (3, .int x2)] [2, 3, 1, 0] rfl ?_
  exact x_X8_crowdOf_4 C z FU a1 x1 x2 σ hF
theorem dX8_placeThen_0 : decode cX8_placeThen 0 = .ok (.aload_n 0, 1) := by decide +kernel
theorem dX8_placeThen_1 : decode cX8_placeThen 1 = .ok (.getfield 26, 3) := by decide +kernel
theorem dX8_placeThen_4 : decode cX8_placeThen 4 = .ok (.iload_n 1, 1) := by decide +kernel
theorem dX8_placeThen_5 : decode cX8_placeThen 5 = .ok (.ishr, 1) := by decide +kernel
theorem dX8_placeThen_6 : decode cX8_placeThen 6 = .ok (.iconst 1, 1) := by decide +kernel
theorem dX8_placeThen_7 : decode cX8_placeThen 7 = .ok (.iand, 1) := by decide +kernel
theorem dX8_placeThen_8 : decode cX8_placeThen 8 = .ok (.iconst 1, 1) := by decide +kernel
theorem dX8_placeThen_9 : decode cX8_placeThen 9 = .ok (.if_icmp .ne 5, 3) := by decide +kernel
theorem dX8_placeThen_12 : decode cX8_placeThen 12 = .ok (.iconst 2, 1) := by decide +kernel
theorem dX8_placeThen_13 : decode cX8_placeThen 13 = .ok (.ireturn, 1) := by decide +kernel
theorem dX8_placeThen_14 : decode cX8_placeThen 14 = .ok (.iload_n 2, 1) := by decide +kernel
theorem dX8_placeThen_15 : decode cX8_placeThen 15 = .ok (.iconst 1, 1) := by decide +kernel
theorem dX8_placeThen_16 : decode cX8_placeThen 16 = .ok (.if_icmp .ne 7, 3) := by decide +kernel
theorem dX8_placeThen_19 : decode cX8_placeThen 19 = .ok (.iconst 1, 1) := by decide +kernel
theorem dX8_placeThen_20 : decode cX8_placeThen 20 = .ok (.goto 4, 3) := by decide +kernel
theorem dX8_placeThen_23 : decode cX8_placeThen 23 = .ok (.iconst 0, 1) := by decide +kernel
theorem dX8_placeThen_24 : decode cX8_placeThen 24 = .ok (.ireturn, 1) := by decide +kernel
set_option maxHeartbeats 4000000 in
set_option maxRecDepth 100000 in
theorem c_X8_placeThen (l : Launch) (D : va_G) (K : Nat → ClassId) (ad la : Nat → Nat) (rest : va_W)  (a1 : Int32) (a2 : Int32) (σ : xS) (z : Int32 × xS) (hF : F_X8_placeThen a1 a2 σ = some z) : CI l D K yX8_placeThen cX8_placeThen 3 (some .int) 0 0 [.ref (ad 66), .int a1, .int a2] (CW K ad la rest σ) z.1 (CW K ad la rest z.2) := by
  refine x_enterI [(0, .ref (ad 66)), (1, .int a1), (2, .int a2)] pnX8 (Nat.le_of_ble_eq_true rfl) rfl ?_
  intro p e s m args below meth c A C
  unfold F_X8_placeThen at hF
  refine x_aload_n C 0 0 dX8_placeThen_0 rfl rfl ?_
  refine x_get C 66 dX8_placeThen_1 fl_X8_26 (CW_66 K ad la rest σ) rfl ?_
  refine x_iload_n C 1 1 dX8_placeThen_4 rfl rfl ?_
  refine x_ishr C dX8_placeThen_5 ?_
  refine x_iconst C 1 dX8_placeThen_6 (by decide +kernel) ?_
  refine x_iand C dX8_placeThen_7 ?_
  refine x_iconst C 1 dX8_placeThen_8 (by decide +kernel) ?_
  refine x_icmp_ne C 14 dX8_placeThen_9 (by decide) hF (fun hF => ?_) (fun hF => ?_)
  · refine x_iload_n C 2 2 dX8_placeThen_14 rfl rfl ?_
    refine x_iconst C 1 dX8_placeThen_15 (by decide +kernel) ?_
    refine x_icmp_ne C 23 dX8_placeThen_16 (by decide) hF (fun hF => ?_) (fun hF => ?_)
    · refine x_iconst C 0 dX8_placeThen_23 (by decide +kernel) ?_
      exact x_iret C dX8_placeThen_24 rfl (congrArg Prod.fst (Option.some.inj hF)) (congrArg (fun q9 : Int32 × xS => CW K ad la rest q9.2) (Option.some.inj hF))
    · refine x_iconst C 1 dX8_placeThen_19 (by decide +kernel) ?_
      refine x_goto C 24 dX8_placeThen_20 (by decide) ?_
      exact x_iret C dX8_placeThen_24 rfl (congrArg Prod.fst (Option.some.inj hF)) (congrArg (fun q9 : Int32 × xS => CW K ad la rest q9.2) (Option.some.inj hF))
  · refine x_iconst C 2 dX8_placeThen_12 (by decide +kernel) ?_
    exact x_iret C dX8_placeThen_13 rfl (congrArg Prod.fst (Option.some.inj hF)) (congrArg (fun q9 : Int32 × xS => CW K ad la rest q9.2) (Option.some.inj hF))
theorem dX8_chanceWith_0 : decode cX8_chanceWith 0 = .ok (.iload_n 3, 1) := by decide +kernel
theorem dX8_chanceWith_1 : decode cX8_chanceWith 1 = .ok (.iconst 2, 1) := by decide +kernel
theorem dX8_chanceWith_2 : decode cX8_chanceWith 2 = .ok (.imul, 1) := by decide +kernel
theorem dX8_chanceWith_3 : decode cX8_chanceWith 3 = .ok (.iload_n 2, 1) := by decide +kernel
theorem dX8_chanceWith_4 : decode cX8_chanceWith 4 = .ok (.iadd, 1) := by decide +kernel
theorem dX8_chanceWith_5 : decode cX8_chanceWith 5 = .ok (.bipush 10, 2) := by decide +kernel
theorem dX8_chanceWith_7 : decode cX8_chanceWith 7 = .ok (.imul, 1) := by decide +kernel
theorem dX8_chanceWith_8 : decode cX8_chanceWith 8 = .ok (.iload_n 1, 1) := by decide +kernel
theorem dX8_chanceWith_9 : decode cX8_chanceWith 9 = .ok (.iadd, 1) := by decide +kernel
theorem dX8_chanceWith_10 : decode cX8_chanceWith 10 = .ok (.istore 4, 2) := by decide +kernel
theorem dX8_chanceWith_12 : decode cX8_chanceWith 12 = .ok (.iload 4, 2) := by decide +kernel
theorem dX8_chanceWith_14 : decode cX8_chanceWith 14 = .ok (.ifCond .lt 13, 3) := by decide +kernel
theorem dX8_chanceWith_17 : decode cX8_chanceWith 17 = .ok (.iload 4, 2) := by decide +kernel
theorem dX8_chanceWith_19 : decode cX8_chanceWith 19 = .ok (.aload_n 0, 1) := by decide +kernel
theorem dX8_chanceWith_20 : decode cX8_chanceWith 20 = .ok (.getfield 15, 3) := by decide +kernel
theorem dX8_chanceWith_23 : decode cX8_chanceWith 23 = .ok (.arraylength, 1) := by decide +kernel
theorem dX8_chanceWith_24 : decode cX8_chanceWith 24 = .ok (.if_icmp .lt 5, 3) := by decide +kernel
theorem dX8_chanceWith_27 : decode cX8_chanceWith 27 = .ok (.iconst 0, 1) := by decide +kernel
theorem dX8_chanceWith_28 : decode cX8_chanceWith 28 = .ok (.ireturn, 1) := by decide +kernel
theorem dX8_chanceWith_29 : decode cX8_chanceWith 29 = .ok (.aload_n 0, 1) := by decide +kernel
theorem dX8_chanceWith_30 : decode cX8_chanceWith 30 = .ok (.getfield 15, 3) := by decide +kernel
theorem dX8_chanceWith_33 : decode cX8_chanceWith 33 = .ok (.iload 4, 2) := by decide +kernel
theorem dX8_chanceWith_35 : decode cX8_chanceWith 35 = .ok (.iaload, 1) := by decide +kernel
theorem dX8_chanceWith_36 : decode cX8_chanceWith 36 = .ok (.iconst (-1), 1) := by decide +kernel
theorem dX8_chanceWith_37 : decode cX8_chanceWith 37 = .ok (.if_icmp .ne 52, 3) := by decide +kernel
theorem dX8_chanceWith_40 : decode cX8_chanceWith 40 = .ok (.aload_n 0, 1) := by decide +kernel
theorem dX8_chanceWith_41 : decode cX8_chanceWith 41 = .ok (.getfield 22, 3) := by decide +kernel
theorem dX8_chanceWith_44 : decode cX8_chanceWith 44 = .ok (.iload_n 1, 1) := by decide +kernel
theorem dX8_chanceWith_45 : decode cX8_chanceWith 45 = .ok (.iconst 0, 1) := by decide +kernel
theorem dX8_chanceWith_46 : decode cX8_chanceWith 46 = .ok (.invokevirtual 69, 3) := by decide +kernel
theorem dX8_chanceWith_49 : decode cX8_chanceWith 49 = .ok (.aload_n 0, 1) := by decide +kernel
theorem dX8_chanceWith_50 : decode cX8_chanceWith 50 = .ok (.getfield 22, 3) := by decide +kernel
theorem dX8_chanceWith_53 : decode cX8_chanceWith 53 = .ok (.getfield 73, 3) := by decide +kernel
theorem dX8_chanceWith_56 : decode cX8_chanceWith 56 = .ok (.iconst 5, 1) := by decide +kernel
theorem dX8_chanceWith_57 : decode cX8_chanceWith 57 = .ok (.aload_n 0, 1) := by decide +kernel
theorem dX8_chanceWith_58 : decode cX8_chanceWith 58 = .ok (.iload_n 1, 1) := by decide +kernel
theorem dX8_chanceWith_59 : decode cX8_chanceWith 59 = .ok (.iload_n 2, 1) := by decide +kernel
theorem dX8_chanceWith_60 : decode cX8_chanceWith 60 = .ok (.invokevirtual 78, 3) := by decide +kernel
theorem dX8_chanceWith_63 : decode cX8_chanceWith 63 = .ok (.iastore, 1) := by decide +kernel
theorem dX8_chanceWith_64 : decode cX8_chanceWith 64 = .ok (.aload_n 0, 1) := by decide +kernel
theorem dX8_chanceWith_65 : decode cX8_chanceWith 65 = .ok (.getfield 22, 3) := by decide +kernel
theorem dX8_chanceWith_68 : decode cX8_chanceWith 68 = .ok (.getfield 73, 3) := by decide +kernel
theorem dX8_chanceWith_71 : decode cX8_chanceWith 71 = .ok (.bipush 8, 2) := by decide +kernel
theorem dX8_chanceWith_73 : decode cX8_chanceWith 73 = .ok (.iload_n 3, 1) := by decide +kernel
theorem dX8_chanceWith_74 : decode cX8_chanceWith 74 = .ok (.iastore, 1) := by decide +kernel
theorem dX8_chanceWith_75 : decode cX8_chanceWith 75 = .ok (.aload_n 0, 1) := by decide +kernel
theorem dX8_chanceWith_76 : decode cX8_chanceWith 76 = .ok (.getfield 15, 3) := by decide +kernel
theorem dX8_chanceWith_79 : decode cX8_chanceWith 79 = .ok (.iload 4, 2) := by decide +kernel
theorem dX8_chanceWith_81 : decode cX8_chanceWith 81 = .ok (.aload_n 0, 1) := by decide +kernel
theorem dX8_chanceWith_82 : decode cX8_chanceWith 82 = .ok (.getfield 22, 3) := by decide +kernel
theorem dX8_chanceWith_85 : decode cX8_chanceWith 85 = .ok (.invokevirtual 81, 3) := by decide +kernel
theorem dX8_chanceWith_88 : decode cX8_chanceWith 88 = .ok (.iastore, 1) := by decide +kernel
theorem dX8_chanceWith_89 : decode cX8_chanceWith 89 = .ok (.aload_n 0, 1) := by decide +kernel
theorem dX8_chanceWith_90 : decode cX8_chanceWith 90 = .ok (.getfield 15, 3) := by decide +kernel
theorem dX8_chanceWith_93 : decode cX8_chanceWith 93 = .ok (.iload 4, 2) := by decide +kernel
theorem dX8_chanceWith_95 : decode cX8_chanceWith 95 = .ok (.iaload, 1) := by decide +kernel
theorem dX8_chanceWith_96 : decode cX8_chanceWith 96 = .ok (.ireturn, 1) := by decide +kernel
set_option maxHeartbeats 4000000 in
set_option maxRecDepth 100000 in
theorem x_X8_chanceWith_89 {p : Program} {l : Launch} {e : Env} {s : State} {m : MethodId} {args : Array Value} {below : List Frame} {meth : Method} {c : Code} {D : va_G} {K : Nat → ClassId} {A : Nat → Prop} {ad la : Nat → Nat} {rest : va_W} (C : xC p s m args meth c D K A RX8 cX8_chanceWith 5 (some .int)) (z : Int32 × xS) : ∀ (y4 : Int32) (σ : xS), F_X8_chanceWith_89  y4 σ = some z → X p l e (xR 4 99) s m args below meth c D A 5 (xQi below D K A args s z.1 (CW K ad la rest z.2)) 0 0 89 [(0, .ref (ad 66)), (4, .int y4)] [] (CW K ad la rest σ) := by
  intro y4 σ hF
  unfold F_X8_chanceWith_89 at hF
  refine x_aload_n C 0 0 dX8_chanceWith_89 rfl rfl ?_
  refine x_get C 66 dX8_chanceWith_90 fl_X8_15 (CW_66 K ad la rest σ) rfl ?_
  refine x_iload C 1 4 dX8_chanceWith_93 rfl ?_
  refine x_iald C 68 dX8_chanceWith_95 (CW_68 K ad la rest σ) hF (fun v11 hF => ?_)
  exact x_iret C dX8_chanceWith_96 rfl (congrArg Prod.fst (Option.some.inj hF)) (congrArg (fun q9 : Int32 × xS => CW K ad la rest q9.2) (Option.some.inj hF))
set_option maxHeartbeats 4000000 in
set_option maxRecDepth 100000 in
theorem c_X8_chanceWith (l : Launch) (D : va_G) (K : Nat → ClassId) (ad la : Nat → Nat) (rest : va_W)  (a1 : Int32) (a2 : Int32) (a3 : Int32) (σ : xS) (z : Int32 × xS) (hF : F_X8_chanceWith a1 a2 a3 σ = some z) : CI l D K yX8_chanceWith cX8_chanceWith 5 (some .int) 4 99 [.ref (ad 66), .int a1, .int a2, .int a3] (CW K ad la rest σ) z.1 (CW K ad la rest z.2) := by
  refine x_enterI [(0, .ref (ad 66)), (1, .int a1), (2, .int a2), (3, .int a3)] pnX8 (Nat.le_of_ble_eq_true rfl) rfl ?_
  intro p e s m args below meth c A C
  unfold F_X8_chanceWith at hF
  refine x_iload_n C 3 3 dX8_chanceWith_0 rfl rfl ?_
  refine x_iconst C 2 dX8_chanceWith_1 (by decide +kernel) ?_
  refine x_imul C dX8_chanceWith_2 ?_
  refine x_iload_n C 2 2 dX8_chanceWith_3 rfl rfl ?_
  refine x_iadd C dX8_chanceWith_4 ?_
  refine x_bipush C 10 dX8_chanceWith_5 (by decide +kernel) ?_
  refine x_imul C dX8_chanceWith_7 ?_
  refine x_iload_n C 1 1 dX8_chanceWith_8 rfl rfl ?_
  refine x_iadd C dX8_chanceWith_9 ?_
  refine x_topI hF (fun x1 hF => ?_)
  refine x_istore C [(4, .int x1), (0, .ref (ad 66)), (1, .int a1), (2, .int a2), (3, .int a3)] dX8_chanceWith_10 (by decide) rfl ?_
  refine x_iload C 0 4 dX8_chanceWith_12 rfl ?_
  refine x_if_lt C 27 dX8_chanceWith_14 (by decide) hF (fun hF => ?_) (fun hF => ?_)
  · refine x_iconst C 0 dX8_chanceWith_27 (by decide +kernel) ?_
    exact x_iret C dX8_chanceWith_28 rfl (congrArg Prod.fst (Option.some.inj hF)) (congrArg (fun q9 : Int32 × xS => CW K ad la rest q9.2) (Option.some.inj hF))
  · refine x_iload C 0 4 dX8_chanceWith_17 rfl ?_
    refine x_aload_n C 1 0 dX8_chanceWith_19 rfl rfl ?_
    refine x_get C 66 dX8_chanceWith_20 fl_X8_15 (CW_66 K ad la rest σ) rfl ?_
    refine x_alen C (t0 := 0) 19820 68 dX8_chanceWith_23 (CW_68 K ad la rest σ) rfl rfl ?_
    refine x_icmp_lt C 29 dX8_chanceWith_24 (by decide) hF (fun hF => ?_) (fun hF => ?_)
    · refine x_aload_n C 1 0 dX8_chanceWith_29 rfl rfl ?_
      refine x_get C 66 dX8_chanceWith_30 fl_X8_15 (CW_66 K ad la rest σ) rfl ?_
      refine x_iload C 0 4 dX8_chanceWith_33 rfl ?_
      refine x_iald C 68 dX8_chanceWith_35 (CW_68 K ad la rest σ) hF (fun v2 hF => ?_)
      refine x_iconst C (-1) dX8_chanceWith_36 (by decide +kernel) ?_
      refine x_icmp_ne C 89 dX8_chanceWith_37 (by decide) hF (fun hF => ?_) (fun hF => ?_)
      · refine x_loc [(0, .ref (ad 66)), (4, .int x1)] [1, 0] rfl ?_
        exact x_X8_chanceWith_89 C z x1 σ hF
      · refine x_aload_n C 1 0 dX8_chanceWith_40 rfl rfl ?_
        refine x_get C 66 dX8_chanceWith_41 fl_X8_22 (CW_66 K ad la rest σ) rfl ?_
        refine x_iload_n C 2 1 dX8_chanceWith_44 rfl rfl ?_
        refine x_iconst C 0 dX8_chanceWith_45 (by decide +kernel) ?_
        refine x_callVV C (wf := CW K ad la rest) (As := [.int a1, .int 0]) (rest := []) dX8_chanceWith_46 ml_X8_69 rfl rfl (Nat.le_of_ble_eq_true rfl) 44 (CW_44 K ad la rest σ) rfl ⟨Nat.le_of_ble_eq_true rfl, Nat.le_of_ble_eq_true rfl⟩ ⟨Nat.zero_le _, Nat.zero_le _⟩ (fun q9 hq9 => c_X0_about l D K ad la rest a1 0 σ q9 hq9) hF (fun _ σ3 hF => ?_)
        refine x_aload_n C 1 0 dX8_chanceWith_49 rfl rfl ?_
        refine x_get C 66 dX8_chanceWith_50 fl_X8_22 (CW_66 K ad la rest σ3) rfl ?_
        refine x_get C 44 dX8_chanceWith_53 fl_X8_73 (CW_44 K ad la rest σ3) rfl ?_
        refine x_iconst C 5 dX8_chanceWith_56 (by decide +kernel) ?_
        refine x_aload_n C 1 0 dX8_chanceWith_57 rfl rfl ?_
        refine x_iload_n C 2 1 dX8_chanceWith_58 rfl rfl ?_
        refine x_iload_n C 3 2 dX8_chanceWith_59 rfl rfl ?_
        refine x_callVI C (wf := CW K ad la rest) (As := [.int a1, .int a2]) (rest := [.int 5, .ref (ad 45)]) dX8_chanceWith_60 ml_X8_78 rfl rfl (Nat.le_of_ble_eq_true rfl) 66 (CW_66 K ad la rest σ3) rfl ⟨Nat.le_of_ble_eq_true rfl, Nat.le_of_ble_eq_true rfl⟩ ⟨Nat.zero_le _, Nat.zero_le _⟩ (fun q9 hq9 => c_X8_placeThen l D K ad la rest a1 a2 σ3 q9 hq9) hF (fun v5 σ4 hF => ?_)
        refine x_iast C 45 dX8_chanceWith_63 (CW_45 K ad la rest σ4) hF (CW_s45 K ad la rest σ4 _) (fun hF => ?_)
        refine x_st (wf := CW K ad la rest) hF (fun σ6 hF => ?_)
        refine x_aload_n C 1 0 dX8_chanceWith_64 rfl rfl ?_
        refine x_get C 66 dX8_chanceWith_65 fl_X8_22 (CW_66 K ad la rest σ6) rfl ?_
        refine x_get C 44 dX8_chanceWith_68 fl_X8_73 (CW_44 K ad la rest σ6) rfl ?_
        refine x_bipush C 8 dX8_chanceWith_71 (by decide +kernel) ?_
        refine x_iload_n C 4 3 dX8_chanceWith_73 rfl rfl ?_
        refine x_iast C 45 dX8_chanceWith_74 (CW_45 K ad la rest σ6) hF (CW_s45 K ad la rest σ6 _) (fun hF => ?_)
        refine x_st (wf := CW K ad la rest) hF (fun σ7 hF => ?_)
        refine x_aload_n C 1 0 dX8_chanceWith_75 rfl rfl ?_
        refine x_get C 66 dX8_chanceWith_76 fl_X8_15 (CW_66 K ad la rest σ7) rfl ?_
        refine x_iload C 0 4 dX8_chanceWith_79 rfl ?_
        refine x_aload_n C 1 0 dX8_chanceWith_81 rfl rfl ?_
        refine x_get C 66 dX8_chanceWith_82 fl_X8_22 (CW_66 K ad la rest σ7) rfl ?_
        refine x_callVI C (wf := CW K ad la rest) (As := []) (rest := [.int x1, .ref (ad 68)]) dX8_chanceWith_85 ml_X8_81 rfl rfl (Nat.le_of_ble_eq_true rfl) 44 (CW_44 K ad la rest σ7) rfl ⟨Nat.le_of_ble_eq_true rfl, Nat.le_of_ble_eq_true rfl⟩ ⟨Nat.zero_le _, Nat.zero_le _⟩ (fun q9 hq9 => c_X0_sells l D K ad la rest σ7 q9 hq9) hF (fun v9 σ8 hF => ?_)
        refine x_iast C 68 dX8_chanceWith_88 (CW_68 K ad la rest σ8) hF (CW_s68 K ad la rest σ8 _) (fun hF => ?_)
        refine x_st (wf := CW K ad la rest) hF (fun σ10 hF => ?_)
        refine x_loc [(0, .ref (ad 66)), (4, .int x1)] [1, 0] rfl ?_
        exact x_X8_chanceWith_89 C z x1 σ10 hF
    · refine x_iconst C 0 dX8_chanceWith_27 (by decide +kernel) ?_
      exact x_iret C dX8_chanceWith_28 rfl (congrArg Prod.fst (Option.some.inj hF)) (congrArg (fun q9 : Int32 × xS => CW K ad la rest q9.2) (Option.some.inj hF))
theorem dX8_incomeOf_0 : decode cX8_incomeOf 0 = .ok (.aload_n 0, 1) := by decide +kernel
theorem dX8_incomeOf_1 : decode cX8_incomeOf 1 = .ok (.iload_n 1, 1) := by decide +kernel
theorem dX8_incomeOf_2 : decode cX8_incomeOf 2 = .ok (.invokevirtual 61, 3) := by decide +kernel
theorem dX8_incomeOf_5 : decode cX8_incomeOf 5 = .ok (.istore_n 2, 1) := by decide +kernel
theorem dX8_incomeOf_6 : decode cX8_incomeOf 6 = .ok (.lconst 0, 1) := by decide +kernel
theorem dX8_incomeOf_7 : decode cX8_incomeOf 7 = .ok (.lstore_n 3, 1) := by decide +kernel
theorem dX8_incomeOf_8 : decode cX8_incomeOf 8 = .ok (.iconst 0, 1) := by decide +kernel
theorem dX8_incomeOf_9 : decode cX8_incomeOf 9 = .ok (.istore 5, 2) := by decide +kernel
theorem dX8_incomeOf_11 : decode cX8_incomeOf 11 = .ok (.iload 5, 2) := by decide +kernel
theorem dX8_incomeOf_13 : decode cX8_incomeOf 13 = .ok (.aload_n 0, 1) := by decide +kernel
theorem dX8_incomeOf_14 : decode cX8_incomeOf 14 = .ok (.getfield 18, 3) := by decide +kernel
theorem dX8_incomeOf_17 : decode cX8_incomeOf 17 = .ok (.getfield 30, 3) := by decide +kernel
theorem dX8_incomeOf_20 : decode cX8_incomeOf 20 = .ok (.getfield 36, 3) := by decide +kernel
theorem dX8_incomeOf_23 : decode cX8_incomeOf 23 = .ok (.if_icmp .ge 40, 3) := by decide +kernel
theorem dX8_incomeOf_26 : decode cX8_incomeOf 26 = .ok (.lload_n 3, 1) := by decide +kernel
theorem dX8_incomeOf_27 : decode cX8_incomeOf 27 = .ok (.aload_n 0, 1) := by decide +kernel
theorem dX8_incomeOf_28 : decode cX8_incomeOf 28 = .ok (.getfield 18, 3) := by decide +kernel
theorem dX8_incomeOf_31 : decode cX8_incomeOf 31 = .ok (.getfield 30, 3) := by decide +kernel
theorem dX8_incomeOf_34 : decode cX8_incomeOf 34 = .ok (.iload 5, 2) := by decide +kernel
theorem dX8_incomeOf_36 : decode cX8_incomeOf 36 = .ok (.iconst 3, 1) := by decide +kernel
theorem dX8_incomeOf_37 : decode cX8_incomeOf 37 = .ok (.invokevirtual 47, 3) := by decide +kernel
theorem dX8_incomeOf_40 : decode cX8_incomeOf 40 = .ok (.aload_n 0, 1) := by decide +kernel
theorem dX8_incomeOf_41 : decode cX8_incomeOf 41 = .ok (.iload 5, 2) := by decide +kernel
theorem dX8_incomeOf_43 : decode cX8_incomeOf 43 = .ok (.iload_n 1, 1) := by decide +kernel
theorem dX8_incomeOf_44 : decode cX8_incomeOf 44 = .ok (.iload 5, 2) := by decide +kernel
theorem dX8_incomeOf_46 : decode cX8_incomeOf 46 = .ok (.ishr, 1) := by decide +kernel
theorem dX8_incomeOf_47 : decode cX8_incomeOf 47 = .ok (.iconst 1, 1) := by decide +kernel
theorem dX8_incomeOf_48 : decode cX8_incomeOf 48 = .ok (.iand, 1) := by decide +kernel
theorem dX8_incomeOf_49 : decode cX8_incomeOf 49 = .ok (.iload_n 2, 1) := by decide +kernel
theorem dX8_incomeOf_50 : decode cX8_incomeOf 50 = .ok (.invokevirtual 65, 3) := by decide +kernel
theorem dX8_incomeOf_53 : decode cX8_incomeOf 53 = .ok (.imul, 1) := by decide +kernel
theorem dX8_incomeOf_54 : decode cX8_incomeOf 54 = .ok (.i2l, 1) := by decide +kernel
theorem dX8_incomeOf_55 : decode cX8_incomeOf 55 = .ok (.ladd, 1) := by decide +kernel
theorem dX8_incomeOf_56 : decode cX8_incomeOf 56 = .ok (.lstore_n 3, 1) := by decide +kernel
theorem dX8_incomeOf_57 : decode cX8_incomeOf 57 = .ok (.iinc 5 1, 3) := by decide +kernel
theorem dX8_incomeOf_60 : decode cX8_incomeOf 60 = .ok (.goto (-49), 3) := by decide +kernel
theorem dX8_incomeOf_63 : decode cX8_incomeOf 63 = .ok (.lload_n 3, 1) := by decide +kernel
theorem dX8_incomeOf_64 : decode cX8_incomeOf 64 = .ok (.lreturn, 1) := by decide +kernel
set_option maxHeartbeats 4000000 in
set_option maxRecDepth 100000 in
theorem x_X8_incomeOf_11 {p : Program} {l : Launch} {e : Env} {s : State} {m : MethodId} {args : Array Value} {below : List Frame} {meth : Method} {c : Code} {D : va_G} {K : Nat → ClassId} {A : Nat → Prop} {ad la : Nat → Nat} {rest : va_W} (C : xC p s m args meth c D K A RX8 cX8_incomeOf 6 (some .long)) (z : Int64 × xS) : ∀ (n : Nat) (y1 : Int32) (y2 : Int32) (y3 : Int64) (y5 : Int32) (σ : xS), F_X8_incomeOf_11  n y1 y2 y3 y5 σ = some z → X p l e (xR 5 123) s m args below meth c D A 6 (xQl below D K A args s z.1 (CW K ad la rest z.2)) 0 0 11 [(0, .ref (ad 66)), (1, .int y1), (2, .int y2), (3, .long y3), (5, .int y5)] [] (CW K ad la rest σ) := by
  intro n
  induction n with
  | zero =>
    intro y1 y2 y3 y5 σ hF
    cases hF
  | succ n ih =>
    intro y1 y2 y3 y5 σ hF
    rw [F_X8_incomeOf_11] at hF
    refine x_iload C 4 5 dX8_incomeOf_11 rfl ?_
    refine x_aload_n C 0 0 dX8_incomeOf_13 rfl rfl ?_
    refine x_get C 66 dX8_incomeOf_14 fl_X8_18 (CW_66 K ad la rest σ) rfl ?_
    refine x_get C 5 dX8_incomeOf_17 fl_X8_30 (CW_5 K ad la rest σ) rfl ?_
    refine x_get C 8 dX8_incomeOf_20 fl_X8_36 (CW_8 K ad la rest σ) rfl ?_
    refine x_icmp_ge C 63 dX8_incomeOf_23 (by decide) hF (fun hF => ?_) (fun hF => ?_)
    · refine x_lload_n C 3 3 dX8_incomeOf_63 rfl rfl ?_
      exact x_lret C dX8_incomeOf_64 rfl (congrArg Prod.fst (Option.some.inj hF)) (congrArg (fun q9 : Int64 × xS => CW K ad la rest q9.2) (Option.some.inj hF))
    · refine x_lload_n C 3 3 dX8_incomeOf_26 rfl rfl ?_
      refine x_aload_n C 0 0 dX8_incomeOf_27 rfl rfl ?_
      refine x_get C 66 dX8_incomeOf_28 fl_X8_18 (CW_66 K ad la rest σ) rfl ?_
      refine x_get C 5 dX8_incomeOf_31 fl_X8_30 (CW_5 K ad la rest σ) rfl ?_
      refine x_iload C 4 5 dX8_incomeOf_34 rfl ?_
      refine x_iconst C 3 dX8_incomeOf_36 (by decide +kernel) ?_
      refine x_callVI C (wf := CW K ad la rest) (As := [.int y5, .int 3]) (rest := [.long y3]) dX8_incomeOf_37 ml_X8_47 rfl rfl (Nat.le_of_ble_eq_true rfl) 8 (CW_8 K ad la rest σ) rfl ⟨Nat.le_of_ble_eq_true rfl, Nat.le_of_ble_eq_true rfl⟩ ⟨Nat.zero_le _, Nat.zero_le _⟩ (fun q9 hq9 => c_X6_get l D K ad la rest 0 (by decide) y5 3 σ q9 hq9) hF (fun v6 σ5 hF => ?_)
      refine x_aload_n C 0 0 dX8_incomeOf_40 rfl rfl ?_
      refine x_iload C 4 5 dX8_incomeOf_41 rfl ?_
      refine x_iload_n C 1 1 dX8_incomeOf_43 rfl rfl ?_
      refine x_iload C 4 5 dX8_incomeOf_44 rfl ?_
      refine x_ishr C dX8_incomeOf_46 ?_
      refine x_iconst C 1 dX8_incomeOf_47 (by decide +kernel) ?_
      refine x_iand C dX8_incomeOf_48 ?_
      refine x_iload_n C 2 2 dX8_incomeOf_49 rfl rfl ?_
      refine x_callVI C (wf := CW K ad la rest) (As := [.int y5, .int ((y1 >>> (y5 &&& 31)) &&& 1), .int y2]) (rest := [.int v6, .long y3]) dX8_incomeOf_50 ml_X8_65 rfl rfl (Nat.le_of_ble_eq_true rfl) 66 (CW_66 K ad la rest σ5) rfl ⟨Nat.le_of_ble_eq_true rfl, Nat.le_of_ble_eq_true rfl⟩ ⟨Nat.zero_le _, Nat.zero_le _⟩ (fun q9 hq9 => c_X8_chanceWith l D K ad la rest y5 ((y1 >>> (y5 &&& 31)) &&& 1) y2 σ5 q9 hq9) hF (fun v8 σ7 hF => ?_)
      refine x_imul C dX8_incomeOf_53 ?_
      refine x_i2l C dX8_incomeOf_54 ?_
      refine x_ladd C dX8_incomeOf_55 ?_
      refine x_topL hF (fun x9 hF => ?_)
      refine x_lstore_n C [(3, .long x9), (0, .ref (ad 66)), (1, .int y1), (2, .int y2), (5, .int y5)] dX8_incomeOf_56 rfl (by decide) rfl ?_
      refine x_iincN C 1 4 (fun x10 => [(5, .int x10), (3, .long x9), (0, .ref (ad 66)), (1, .int y1), (2, .int y2)]) dX8_incomeOf_57 rfl (by decide +kernel) (by decide) (fun _ => rfl) hF (fun x10 hF => ?_)
      refine x_goto C 11 dX8_incomeOf_60 (by decide) ?_
      refine x_loc [(0, .ref (ad 66)), (1, .int y1), (2, .int y2), (3, .long x9), (5, .int x10)] [2, 3, 4, 1, 0] rfl ?_
      exact ih y1 y2 x9 x10 σ7 hF
set_option maxHeartbeats 4000000 in
set_option maxRecDepth 100000 in
theorem c_X8_incomeOf (l : Launch) (D : va_G) (K : Nat → ClassId) (ad la : Nat → Nat) (rest : va_W)  (a1 : Int32) (σ : xS) (z : Int64 × xS) (hF : F_X8_incomeOf a1 σ = some z) : CL l D K yX8_incomeOf cX8_incomeOf 6 (some .long) 5 123 [.ref (ad 66), .int a1] (CW K ad la rest σ) z.1 (CW K ad la rest z.2) := by
  refine x_enterL [(0, .ref (ad 66)), (1, .int a1)] pnX8 (Nat.le_of_ble_eq_true rfl) rfl ?_
  intro p e s m args below meth c A C
  unfold F_X8_incomeOf at hF
  refine x_aload_n C 0 0 dX8_incomeOf_0 rfl rfl ?_
  refine x_iload_n C 1 1 dX8_incomeOf_1 rfl rfl ?_
  refine x_callVI C (wf := CW K ad la rest) (As := [.int a1]) (rest := []) dX8_incomeOf_2 ml_X8_61 rfl rfl (Nat.le_of_ble_eq_true rfl) 66 (CW_66 K ad la rest σ) rfl ⟨Nat.le_of_ble_eq_true rfl, Nat.le_of_ble_eq_true rfl⟩ ⟨Nat.zero_le _, Nat.zero_le _⟩ (fun q9 hq9 => c_X8_crowdOf l D K ad la rest a1 σ q9 hq9) hF (fun v2 σ1 hF => ?_)
  refine x_istore_n C [(2, .int v2), (0, .ref (ad 66)), (1, .int a1)] dX8_incomeOf_5 rfl (by decide) rfl ?_
  refine x_lconst C 0 dX8_incomeOf_6 (by decide +kernel) ?_
  refine x_topL hF (fun x3 hF => ?_)
  refine x_lstore_n C [(3, .long x3), (2, .int v2), (0, .ref (ad 66)), (1, .int a1)] dX8_incomeOf_7 rfl (by decide) rfl ?_
  refine x_iconst C 0 dX8_incomeOf_8 (by decide +kernel) ?_
  refine x_topI hF (fun x4 hF => ?_)
  refine x_istore C [(5, .int x4), (3, .long x3), (2, .int v2), (0, .ref (ad 66)), (1, .int a1)] dX8_incomeOf_9 (by decide) rfl ?_
  refine x_loc [(0, .ref (ad 66)), (1, .int a1), (2, .int v2), (3, .long x3), (5, .int x4)] [3, 4, 2, 1, 0] rfl ?_
  exact x_X8_incomeOf_11 C z FU a1 v2 x3 x4 σ1 hF
theorem dX8_chooseBest_0 : decode cX8_chooseBest 0 = .ok (.ldc2_w 85, 3) := by decide +kernel
theorem dX8_chooseBest_3 : decode cX8_chooseBest 3 = .ok (.lstore_n 2, 1) := by decide +kernel
theorem dX8_chooseBest_4 : decode cX8_chooseBest 4 = .ok (.aload_n 0, 1) := by decide +kernel
theorem dX8_chooseBest_5 : decode cX8_chooseBest 5 = .ok (.iconst 0, 1) := by decide +kernel
theorem dX8_chooseBest_6 : decode cX8_chooseBest 6 = .ok (.putfield 87, 3) := by decide +kernel
theorem dX8_chooseBest_9 : decode cX8_chooseBest 9 = .ok (.aload_n 0, 1) := by decide +kernel
theorem dX8_chooseBest_10 : decode cX8_chooseBest 10 = .ok (.iconst 0, 1) := by decide +kernel
theorem dX8_chooseBest_11 : decode cX8_chooseBest 11 = .ok (.putfield 90, 3) := by decide +kernel
theorem dX8_chooseBest_14 : decode cX8_chooseBest 14 = .ok (.iconst 0, 1) := by decide +kernel
theorem dX8_chooseBest_15 : decode cX8_chooseBest 15 = .ok (.istore 4, 2) := by decide +kernel
theorem dX8_chooseBest_17 : decode cX8_chooseBest 17 = .ok (.iload 4, 2) := by decide +kernel
theorem dX8_chooseBest_19 : decode cX8_chooseBest 19 = .ok (.iconst 1, 1) := by decide +kernel
theorem dX8_chooseBest_20 : decode cX8_chooseBest 20 = .ok (.aload_n 0, 1) := by decide +kernel
theorem dX8_chooseBest_21 : decode cX8_chooseBest 21 = .ok (.getfield 18, 3) := by decide +kernel
theorem dX8_chooseBest_24 : decode cX8_chooseBest 24 = .ok (.getfield 30, 3) := by decide +kernel
theorem dX8_chooseBest_27 : decode cX8_chooseBest 27 = .ok (.getfield 36, 3) := by decide +kernel
theorem dX8_chooseBest_30 : decode cX8_chooseBest 30 = .ok (.ishl, 1) := by decide +kernel
theorem dX8_chooseBest_31 : decode cX8_chooseBest 31 = .ok (.if_icmp .ge 80, 3) := by decide +kernel
theorem dX8_chooseBest_34 : decode cX8_chooseBest 34 = .ok (.iload 4, 2) := by decide +kernel
theorem dX8_chooseBest_36 : decode cX8_chooseBest 36 = .ok (.aload_n 0, 1) := by decide +kernel
theorem dX8_chooseBest_37 : decode cX8_chooseBest 37 = .ok (.getfield 26, 3) := by decide +kernel
theorem dX8_chooseBest_40 : decode cX8_chooseBest 40 = .ok (.iand, 1) := by decide +kernel
theorem dX8_chooseBest_41 : decode cX8_chooseBest 41 = .ok (.ifCond .ne 64, 3) := by decide +kernel
theorem dX8_chooseBest_44 : decode cX8_chooseBest 44 = .ok (.iload 4, 2) := by decide +kernel
theorem dX8_chooseBest_46 : decode cX8_chooseBest 46 = .ok (.invokestatic 93, 3) := by decide +kernel
theorem dX8_chooseBest_49 : decode cX8_chooseBest 49 = .ok (.iload_n 1, 1) := by decide +kernel
theorem dX8_chooseBest_50 : decode cX8_chooseBest 50 = .ok (.if_icmp .le 6, 3) := by decide +kernel
theorem dX8_chooseBest_53 : decode cX8_chooseBest 53 = .ok (.goto 52, 3) := by decide +kernel
theorem dX8_chooseBest_56 : decode cX8_chooseBest 56 = .ok (.aload_n 0, 1) := by decide +kernel
theorem dX8_chooseBest_57 : decode cX8_chooseBest 57 = .ok (.iload 4, 2) := by decide +kernel
theorem dX8_chooseBest_59 : decode cX8_chooseBest 59 = .ok (.invokevirtual 98, 3) := by decide +kernel
theorem dX8_chooseBest_62 : decode cX8_chooseBest 62 = .ok (.lstore 5, 2) := by decide +kernel
theorem dX8_chooseBest_64 : decode cX8_chooseBest 64 = .ok (.lload 5, 2) := by decide +kernel
theorem dX8_chooseBest_66 : decode cX8_chooseBest 66 = .ok (.lload_n 2, 1) := by decide +kernel
theorem dX8_chooseBest_67 : decode cX8_chooseBest 67 = .ok (.lcmp, 1) := by decide +kernel
theorem dX8_chooseBest_68 : decode cX8_chooseBest 68 = .ok (.ifCond .le 20, 3) := by decide +kernel
theorem dX8_chooseBest_71 : decode cX8_chooseBest 71 = .ok (.lload 5, 2) := by decide +kernel
theorem dX8_chooseBest_73 : decode cX8_chooseBest 73 = .ok (.lstore_n 2, 1) := by decide +kernel
theorem dX8_chooseBest_74 : decode cX8_chooseBest 74 = .ok (.aload_n 0, 1) := by decide +kernel
theorem dX8_chooseBest_75 : decode cX8_chooseBest 75 = .ok (.iload 4, 2) := by decide +kernel
theorem dX8_chooseBest_77 : decode cX8_chooseBest 77 = .ok (.putfield 87, 3) := by decide +kernel
theorem dX8_chooseBest_80 : decode cX8_chooseBest 80 = .ok (.aload_n 0, 1) := by decide +kernel
theorem dX8_chooseBest_81 : decode cX8_chooseBest 81 = .ok (.iconst 1, 1) := by decide +kernel
theorem dX8_chooseBest_82 : decode cX8_chooseBest 82 = .ok (.putfield 90, 3) := by decide +kernel
theorem dX8_chooseBest_85 : decode cX8_chooseBest 85 = .ok (.goto 20, 3) := by decide +kernel
theorem dX8_chooseBest_88 : decode cX8_chooseBest 88 = .ok (.lload 5, 2) := by decide +kernel
theorem dX8_chooseBest_90 : decode cX8_chooseBest 90 = .ok (.lload_n 2, 1) := by decide +kernel
theorem dX8_chooseBest_91 : decode cX8_chooseBest 91 = .ok (.lcmp, 1) := by decide +kernel
theorem dX8_chooseBest_92 : decode cX8_chooseBest 92 = .ok (.ifCond .ne 13, 3) := by decide +kernel
theorem dX8_chooseBest_95 : decode cX8_chooseBest 95 = .ok (.aload_n 0, 1) := by decide +kernel
theorem dX8_chooseBest_96 : decode cX8_chooseBest 96 = .ok (.dup, 1) := by decide +kernel
theorem dX8_chooseBest_97 : decode cX8_chooseBest 97 = .ok (.getfield 90, 3) := by decide +kernel
theorem dX8_chooseBest_100 : decode cX8_chooseBest 100 = .ok (.iconst 1, 1) := by decide +kernel
theorem dX8_chooseBest_101 : decode cX8_chooseBest 101 = .ok (.iadd, 1) := by decide +kernel
theorem dX8_chooseBest_102 : decode cX8_chooseBest 102 = .ok (.putfield 90, 3) := by decide +kernel
theorem dX8_chooseBest_105 : decode cX8_chooseBest 105 = .ok (.iinc 4 1, 3) := by decide +kernel
theorem dX8_chooseBest_108 : decode cX8_chooseBest 108 = .ok (.goto (-91), 3) := by decide +kernel
theorem dX8_chooseBest_111 : decode cX8_chooseBest 111 = .ok (.return_, 1) := by decide +kernel
set_option maxHeartbeats 4000000 in
set_option maxRecDepth 100000 in
theorem x_X8_chooseBest_17 {p : Program} {l : Launch} {e : Env} {s : State} {m : MethodId} {args : Array Value} {below : List Frame} {meth : Method} {c : Code} {D : va_G} {K : Nat → ClassId} {A : Nat → Prop} {ad la : Nat → Nat} {rest : va_W} (C : xC p s m args meth c D K A RX8 cX8_chooseBest 7 none) (z : Unit × xS) : ∀ (n : Nat) (y1 : Int32) (y2 : Int64) (y4 : Int32) (σ : xS), F_X8_chooseBest_17  n y1 y2 y4 σ = some z → X p l e (xR 6 148) s m args below meth c D A 7 (xQv below D K A args s (CW K ad la rest z.2)) 0 0 17 [(0, .ref (ad 66)), (1, .int y1), (2, .long y2), (4, .int y4)] [] (CW K ad la rest σ) := by
  intro n
  induction n with
  | zero =>
    intro y1 y2 y4 σ hF
    cases hF
  | succ n ih =>
    intro y1 y2 y4 σ hF
    rw [F_X8_chooseBest_17] at hF
    refine x_iload C 3 4 dX8_chooseBest_17 rfl ?_
    refine x_iconst C 1 dX8_chooseBest_19 (by decide +kernel) ?_
    refine x_aload_n C 0 0 dX8_chooseBest_20 rfl rfl ?_
    refine x_get C 66 dX8_chooseBest_21 fl_X8_18 (CW_66 K ad la rest σ) rfl ?_
    refine x_get C 5 dX8_chooseBest_24 fl_X8_30 (CW_5 K ad la rest σ) rfl ?_
    refine x_get C 8 dX8_chooseBest_27 fl_X8_36 (CW_8 K ad la rest σ) rfl ?_
    refine x_ishl C dX8_chooseBest_30 ?_
    refine x_icmp_ge C 111 dX8_chooseBest_31 (by decide) hF (fun hF => ?_) (fun hF => ?_)
    · exact x_vret C dX8_chooseBest_111 rfl (congrArg (fun q9 : Unit × xS => CW K ad la rest q9.2) (Option.some.inj hF))
    · refine x_iload C 3 4 dX8_chooseBest_34 rfl ?_
      refine x_aload_n C 0 0 dX8_chooseBest_36 rfl rfl ?_
      refine x_get C 66 dX8_chooseBest_37 fl_X8_26 (CW_66 K ad la rest σ) rfl ?_
      refine x_iand C dX8_chooseBest_40 ?_
      refine x_if_ne C 105 dX8_chooseBest_41 (by decide) hF (fun hF => ?_) (fun hF => ?_)
      · refine x_iincN C 1 3 (fun x5 => [(4, .int x5), (0, .ref (ad 66)), (1, .int y1), (2, .long y2)]) dX8_chooseBest_105 rfl (by decide +kernel) (by decide) (fun _ => rfl) hF (fun x5 hF => ?_)
        refine x_goto C 17 dX8_chooseBest_108 (by decide) ?_
        refine x_loc [(0, .ref (ad 66)), (1, .int y1), (2, .long y2), (4, .int x5)] [1, 2, 3, 0] rfl ?_
        exact ih y1 y2 x5 σ hF
      · refine x_iload C 3 4 dX8_chooseBest_44 rfl ?_
        refine x_callSI C (wf := CW K ad la rest) (As := [.int y4]) (rest := []) dX8_chooseBest_46 mj_X8_93 rfl rfl (Nat.le_of_ble_eq_true rfl) ⟨Nat.le_of_ble_eq_true rfl, Nat.le_of_ble_eq_true rfl⟩ ⟨Nat.zero_le _, Nat.zero_le _⟩ (fun q9 hq9 => c_JI_bitCount l D K ad la rest y4 σ q9 hq9) hF (fun v7 σ6 hF => ?_)
        refine x_iload_n C 1 1 dX8_chooseBest_49 rfl rfl ?_
        refine x_icmp_le C 56 dX8_chooseBest_50 (by decide) hF (fun hF => ?_) (fun hF => ?_)
        · refine x_aload_n C 0 0 dX8_chooseBest_56 rfl rfl ?_
          refine x_iload C 3 4 dX8_chooseBest_57 rfl ?_
          refine x_callVL C (wf := CW K ad la rest) (As := [.int y4]) (rest := []) dX8_chooseBest_59 ml_X8_98 rfl rfl (Nat.le_of_ble_eq_true rfl) 66 (CW_66 K ad la rest σ6) rfl ⟨Nat.le_of_ble_eq_true rfl, Nat.le_of_ble_eq_true rfl⟩ ⟨Nat.zero_le _, Nat.zero_le _⟩ (fun q9 hq9 => c_X8_incomeOf l D K ad la rest y4 σ6 q9 hq9) hF (fun v9 σ8 hF => ?_)
          refine x_lstore C [(5, .long v9), (0, .ref (ad 66)), (1, .int y1), (2, .long y2), (4, .int y4)] dX8_chooseBest_62 (by decide) rfl ?_
          refine x_lload C 0 5 dX8_chooseBest_64 rfl ?_
          refine x_lload_n C 3 2 dX8_chooseBest_66 rfl rfl ?_
          refine x_lcmp C dX8_chooseBest_67 ?_
          refine x_if_le C 88 dX8_chooseBest_68 (by decide) hF (fun hF => ?_) (fun hF => ?_)
          · refine x_lload C 0 5 dX8_chooseBest_88 rfl ?_
            refine x_lload_n C 3 2 dX8_chooseBest_90 rfl rfl ?_
            refine x_lcmp C dX8_chooseBest_91 ?_
            refine x_if_ne C 105 dX8_chooseBest_92 (by decide) hF (fun hF => ?_) (fun hF => ?_)
            · refine x_iincN C 1 4 (fun x10 => [(4, .int x10), (5, .long v9), (0, .ref (ad 66)), (1, .int y1), (2, .long y2)]) dX8_chooseBest_105 rfl (by decide +kernel) (by decide) (fun _ => rfl) hF (fun x10 hF => ?_)
              refine x_goto C 17 dX8_chooseBest_108 (by decide) ?_
              refine x_loc [(0, .ref (ad 66)), (1, .int y1), (2, .long y2), (4, .int x10)] [2, 3, 4, 0] rfl ?_
              exact ih y1 y2 x10 σ8 hF
            · refine x_aload_n C 1 0 dX8_chooseBest_95 rfl rfl ?_
              refine x_dup C rfl dX8_chooseBest_96 ?_
              refine x_get C 66 dX8_chooseBest_97 fl_X8_90 (CW_66 K ad la rest σ8) rfl ?_
              refine x_iconst C 1 dX8_chooseBest_100 (by decide +kernel) ?_
              refine x_iadd C dX8_chooseBest_101 ?_
              refine x_put C 66 dX8_chooseBest_102 fl_X8_90 fm_X8_6 rfl rfl (CW_66 K ad la rest σ8) (Nat.le_of_ble_eq_true rfl) (CW_s66_6 K ad la rest σ8 _) ?_
              refine x_st (wf := CW K ad la rest) hF (fun σ11 hF => ?_)
              refine x_iincN C 1 4 (fun x12 => [(4, .int x12), (5, .long v9), (0, .ref (ad 66)), (1, .int y1), (2, .long y2)]) dX8_chooseBest_105 rfl (by decide +kernel) (by decide) (fun _ => rfl) hF (fun x12 hF => ?_)
              refine x_goto C 17 dX8_chooseBest_108 (by decide) ?_
              refine x_loc [(0, .ref (ad 66)), (1, .int y1), (2, .long y2), (4, .int x12)] [2, 3, 4, 0] rfl ?_
              exact ih y1 y2 x12 σ11 hF
          · refine x_lload C 0 5 dX8_chooseBest_71 rfl ?_
            refine x_lstore_n C [(2, .long v9), (5, .long v9), (0, .ref (ad 66)), (1, .int y1), (4, .int y4)] dX8_chooseBest_73 rfl (by decide) rfl ?_
            refine x_aload_n C 2 0 dX8_chooseBest_74 rfl rfl ?_
            refine x_iload C 4 4 dX8_chooseBest_75 rfl ?_
            refine x_put C 66 dX8_chooseBest_77 fl_X8_87 fm_X8_5 rfl rfl (CW_66 K ad la rest σ8) (Nat.le_of_ble_eq_true rfl) (CW_s66_5 K ad la rest σ8 _) ?_
            refine x_st (wf := CW K ad la rest) hF (fun σ13 hF => ?_)
            refine x_aload_n C 2 0 dX8_chooseBest_80 rfl rfl ?_
            refine x_iconst C 1 dX8_chooseBest_81 (by decide +kernel) ?_
            refine x_put C 66 dX8_chooseBest_82 fl_X8_90 fm_X8_6 rfl rfl (CW_66 K ad la rest σ13) (Nat.le_of_ble_eq_true rfl) (CW_s66_6 K ad la rest σ13 _) ?_
            refine x_st (wf := CW K ad la rest) hF (fun σ14 hF => ?_)
            refine x_goto C 105 dX8_chooseBest_85 (by decide) ?_
            refine x_iincN C 1 4 (fun x15 => [(4, .int x15), (2, .long v9), (5, .long v9), (0, .ref (ad 66)), (1, .int y1)]) dX8_chooseBest_105 rfl (by decide +kernel) (by decide) (fun _ => rfl) hF (fun x15 hF => ?_)
            refine x_goto C 17 dX8_chooseBest_108 (by decide) ?_
            refine x_loc [(0, .ref (ad 66)), (1, .int y1), (2, .long v9), (4, .int x15)] [3, 4, 1, 0] rfl ?_
            exact ih y1 v9 x15 σ14 hF
        · refine x_goto C 105 dX8_chooseBest_53 (by decide) ?_
          refine x_iincN C 1 3 (fun x16 => [(4, .int x16), (0, .ref (ad 66)), (1, .int y1), (2, .long y2)]) dX8_chooseBest_105 rfl (by decide +kernel) (by decide) (fun _ => rfl) hF (fun x16 hF => ?_)
          refine x_goto C 17 dX8_chooseBest_108 (by decide) ?_
          refine x_loc [(0, .ref (ad 66)), (1, .int y1), (2, .long y2), (4, .int x16)] [1, 2, 3, 0] rfl ?_
          exact ih y1 y2 x16 σ6 hF
set_option maxHeartbeats 4000000 in
set_option maxRecDepth 100000 in
theorem c_X8_chooseBest (l : Launch) (D : va_G) (K : Nat → ClassId) (ad la : Nat → Nat) (rest : va_W)  (a1 : Int32) (σ : xS) (z : Unit × xS) (hF : F_X8_chooseBest a1 σ = some z) : CV l D K yX8_chooseBest cX8_chooseBest 7 none 6 148 [.ref (ad 66), .int a1] (CW K ad la rest σ) (CW K ad la rest z.2) := by
  refine x_enterV [(0, .ref (ad 66)), (1, .int a1)] pnX8 (Nat.le_of_ble_eq_true rfl) rfl ?_
  intro p e s m args below meth c A C
  unfold F_X8_chooseBest at hF
  refine x_ldc2 C (-1000000000000000000) dX8_chooseBest_0 cl_X8_85 ?_
  refine x_topL hF (fun x1 hF => ?_)
  refine x_lstore_n C [(2, .long x1), (0, .ref (ad 66)), (1, .int a1)] dX8_chooseBest_3 rfl (by decide) rfl ?_
  refine x_aload_n C 1 0 dX8_chooseBest_4 rfl rfl ?_
  refine x_iconst C 0 dX8_chooseBest_5 (by decide +kernel) ?_
  refine x_put C 66 dX8_chooseBest_6 fl_X8_87 fm_X8_5 rfl rfl (CW_66 K ad la rest σ) (Nat.le_of_ble_eq_true rfl) (CW_s66_5 K ad la rest σ _) ?_
  refine x_st (wf := CW K ad la rest) hF (fun σ2 hF => ?_)
  refine x_aload_n C 1 0 dX8_chooseBest_9 rfl rfl ?_
  refine x_iconst C 0 dX8_chooseBest_10 (by decide +kernel) ?_
  refine x_put C 66 dX8_chooseBest_11 fl_X8_90 fm_X8_6 rfl rfl (CW_66 K ad la rest σ2) (Nat.le_of_ble_eq_true rfl) (CW_s66_6 K ad la rest σ2 _) ?_
  refine x_st (wf := CW K ad la rest) hF (fun σ3 hF => ?_)
  refine x_iconst C 0 dX8_chooseBest_14 (by decide +kernel) ?_
  refine x_topI hF (fun x4 hF => ?_)
  refine x_istore C [(4, .int x4), (2, .long x1), (0, .ref (ad 66)), (1, .int a1)] dX8_chooseBest_15 (by decide) rfl ?_
  refine x_loc [(0, .ref (ad 66)), (1, .int a1), (2, .long x1), (4, .int x4)] [2, 3, 1, 0] rfl ?_
  exact x_X8_chooseBest_17 C z FU a1 x1 x4 σ3 hF
theorem dX9_isLetter_0 : decode cX9_isLetter 0 = .ok (.iload_n 0, 1) := by decide +kernel
theorem dX9_isLetter_1 : decode cX9_isLetter 1 = .ok (.bipush 97, 2) := by decide +kernel
theorem dX9_isLetter_3 : decode cX9_isLetter 3 = .ok (.if_icmp .lt 13, 3) := by decide +kernel
theorem dX9_isLetter_6 : decode cX9_isLetter 6 = .ok (.iload_n 0, 1) := by decide +kernel
theorem dX9_isLetter_7 : decode cX9_isLetter 7 = .ok (.bipush 122, 2) := by decide +kernel
theorem dX9_isLetter_9 : decode cX9_isLetter 9 = .ok (.if_icmp .gt 7, 3) := by decide +kernel
theorem dX9_isLetter_12 : decode cX9_isLetter 12 = .ok (.iconst 1, 1) := by decide +kernel
theorem dX9_isLetter_13 : decode cX9_isLetter 13 = .ok (.goto 4, 3) := by decide +kernel
theorem dX9_isLetter_16 : decode cX9_isLetter 16 = .ok (.iconst 0, 1) := by decide +kernel
theorem dX9_isLetter_17 : decode cX9_isLetter 17 = .ok (.ireturn, 1) := by decide +kernel
set_option maxHeartbeats 4000000 in
set_option maxRecDepth 100000 in
theorem c_X9_isLetter (l : Launch) (D : va_G) (K : Nat → ClassId) (ad la : Nat → Nat) (rest : va_W)  (a1 : Int32) (σ : xS) (z : Int32 × xS) (hF : F_X9_isLetter a1 σ = some z) : CI l D K yX9_isLetter cX9_isLetter 1 (some .boolean) 0 0 [.int a1] (CW K ad la rest σ) z.1 (CW K ad la rest z.2) := by
  refine x_enterI [(0, .int a1)] pnX9 (Nat.le_of_ble_eq_true rfl) rfl ?_
  intro p e s m args below meth c A C
  unfold F_X9_isLetter at hF
  refine x_iload_n C 0 0 dX9_isLetter_0 rfl rfl ?_
  refine x_bipush C 97 dX9_isLetter_1 (by decide +kernel) ?_
  refine x_icmp_lt C 16 dX9_isLetter_3 (by decide) hF (fun hF => ?_) (fun hF => ?_)
  · refine x_iconst C 0 dX9_isLetter_16 (by decide +kernel) ?_
    have hz := (cz_some hF).1
    replace hF := (cz_some hF).2
    exact x_zret C dX9_isLetter_17 rfl hz (congrArg Prod.fst (Option.some.inj hF)) (congrArg (fun q9 : Int32 × xS => CW K ad la rest q9.2) (Option.some.inj hF))
  · refine x_iload_n C 0 0 dX9_isLetter_6 rfl rfl ?_
    refine x_bipush C 122 dX9_isLetter_7 (by decide +kernel) ?_
    refine x_icmp_gt C 16 dX9_isLetter_9 (by decide) hF (fun hF => ?_) (fun hF => ?_)
    · refine x_iconst C 0 dX9_isLetter_16 (by decide +kernel) ?_
      have hz := (cz_some hF).1
      replace hF := (cz_some hF).2
      exact x_zret C dX9_isLetter_17 rfl hz (congrArg Prod.fst (Option.some.inj hF)) (congrArg (fun q9 : Int32 × xS => CW K ad la rest q9.2) (Option.some.inj hF))
    · refine x_iconst C 1 dX9_isLetter_12 (by decide +kernel) ?_
      refine x_goto C 17 dX9_isLetter_13 (by decide) ?_
      have hz := (cz_some hF).1
      replace hF := (cz_some hF).2
      exact x_zret C dX9_isLetter_17 rfl hz (congrArg Prod.fst (Option.some.inj hF)) (congrArg (fun q9 : Int32 × xS => CW K ad la rest q9.2) (Option.some.inj hF))
theorem dX9_isDigit_0 : decode cX9_isDigit 0 = .ok (.iload_n 0, 1) := by decide +kernel
theorem dX9_isDigit_1 : decode cX9_isDigit 1 = .ok (.bipush 48, 2) := by decide +kernel
theorem dX9_isDigit_3 : decode cX9_isDigit 3 = .ok (.if_icmp .lt 13, 3) := by decide +kernel
theorem dX9_isDigit_6 : decode cX9_isDigit 6 = .ok (.iload_n 0, 1) := by decide +kernel
theorem dX9_isDigit_7 : decode cX9_isDigit 7 = .ok (.bipush 57, 2) := by decide +kernel
theorem dX9_isDigit_9 : decode cX9_isDigit 9 = .ok (.if_icmp .gt 7, 3) := by decide +kernel
theorem dX9_isDigit_12 : decode cX9_isDigit 12 = .ok (.iconst 1, 1) := by decide +kernel
theorem dX9_isDigit_13 : decode cX9_isDigit 13 = .ok (.goto 4, 3) := by decide +kernel
theorem dX9_isDigit_16 : decode cX9_isDigit 16 = .ok (.iconst 0, 1) := by decide +kernel
theorem dX9_isDigit_17 : decode cX9_isDigit 17 = .ok (.ireturn, 1) := by decide +kernel
set_option maxHeartbeats 4000000 in
set_option maxRecDepth 100000 in
theorem c_X9_isDigit (l : Launch) (D : va_G) (K : Nat → ClassId) (ad la : Nat → Nat) (rest : va_W)  (a1 : Int32) (σ : xS) (z : Int32 × xS) (hF : F_X9_isDigit a1 σ = some z) : CI l D K yX9_isDigit cX9_isDigit 1 (some .boolean) 0 0 [.int a1] (CW K ad la rest σ) z.1 (CW K ad la rest z.2) := by
  refine x_enterI [(0, .int a1)] pnX9 (Nat.le_of_ble_eq_true rfl) rfl ?_
  intro p e s m args below meth c A C
  unfold F_X9_isDigit at hF
  refine x_iload_n C 0 0 dX9_isDigit_0 rfl rfl ?_
  refine x_bipush C 48 dX9_isDigit_1 (by decide +kernel) ?_
  refine x_icmp_lt C 16 dX9_isDigit_3 (by decide) hF (fun hF => ?_) (fun hF => ?_)
  · refine x_iconst C 0 dX9_isDigit_16 (by decide +kernel) ?_
    have hz := (cz_some hF).1
    replace hF := (cz_some hF).2
    exact x_zret C dX9_isDigit_17 rfl hz (congrArg Prod.fst (Option.some.inj hF)) (congrArg (fun q9 : Int32 × xS => CW K ad la rest q9.2) (Option.some.inj hF))
  · refine x_iload_n C 0 0 dX9_isDigit_6 rfl rfl ?_
    refine x_bipush C 57 dX9_isDigit_7 (by decide +kernel) ?_
    refine x_icmp_gt C 16 dX9_isDigit_9 (by decide) hF (fun hF => ?_) (fun hF => ?_)
    · refine x_iconst C 0 dX9_isDigit_16 (by decide +kernel) ?_
      have hz := (cz_some hF).1
      replace hF := (cz_some hF).2
      exact x_zret C dX9_isDigit_17 rfl hz (congrArg Prod.fst (Option.some.inj hF)) (congrArg (fun q9 : Int32 × xS => CW K ad la rest q9.2) (Option.some.inj hF))
    · refine x_iconst C 1 dX9_isDigit_12 (by decide +kernel) ?_
      refine x_goto C 17 dX9_isDigit_13 (by decide) ?_
      have hz := (cz_some hF).1
      replace hF := (cz_some hF).2
      exact x_zret C dX9_isDigit_17 rfl hz (congrArg Prod.fst (Option.some.inj hF)) (congrArg (fun q9 : Int32 × xS => CW K ad la rest q9.2) (Option.some.inj hF))
theorem dX9_endOfRow_0 : decode cX9_endOfRow 0 = .ok (.aload_n 0, 1) := by decide +kernel
theorem dX9_endOfRow_1 : decode cX9_endOfRow 1 = .ok (.iload_n 1, 1) := by decide +kernel
theorem dX9_endOfRow_2 : decode cX9_endOfRow 2 = .ok (.iaload, 1) := by decide +kernel
theorem dX9_endOfRow_3 : decode cX9_endOfRow 3 = .ok (.invokestatic 49, 3) := by decide +kernel
theorem dX9_endOfRow_6 : decode cX9_endOfRow 6 = .ok (.istore_n 3, 1) := by decide +kernel
theorem dX9_endOfRow_7 : decode cX9_endOfRow 7 = .ok (.aload_n 0, 1) := by decide +kernel
theorem dX9_endOfRow_8 : decode cX9_endOfRow 8 = .ok (.iload_n 1, 1) := by decide +kernel
theorem dX9_endOfRow_9 : decode cX9_endOfRow 9 = .ok (.iaload, 1) := by decide +kernel
theorem dX9_endOfRow_10 : decode cX9_endOfRow 10 = .ok (.invokestatic 38, 3) := by decide +kernel
theorem dX9_endOfRow_13 : decode cX9_endOfRow 13 = .ok (.istore 4, 2) := by decide +kernel
theorem dX9_endOfRow_15 : decode cX9_endOfRow 15 = .ok (.iload_n 1, 1) := by decide +kernel
theorem dX9_endOfRow_16 : decode cX9_endOfRow 16 = .ok (.iconst 1, 1) := by decide +kernel
theorem dX9_endOfRow_17 : decode cX9_endOfRow 17 = .ok (.iadd, 1) := by decide +kernel
theorem dX9_endOfRow_18 : decode cX9_endOfRow 18 = .ok (.istore 5, 2) := by decide +kernel
theorem dX9_endOfRow_20 : decode cX9_endOfRow 20 = .ok (.iload 5, 2) := by decide +kernel
theorem dX9_endOfRow_22 : decode cX9_endOfRow 22 = .ok (.iload_n 2, 1) := by decide +kernel
theorem dX9_endOfRow_23 : decode cX9_endOfRow 23 = .ok (.if_icmp .ge 38, 3) := by decide +kernel
theorem dX9_endOfRow_26 : decode cX9_endOfRow 26 = .ok (.iload_n 3, 1) := by decide +kernel
theorem dX9_endOfRow_27 : decode cX9_endOfRow 27 = .ok (.ifCond .eq 13, 3) := by decide +kernel
theorem dX9_endOfRow_30 : decode cX9_endOfRow 30 = .ok (.aload_n 0, 1) := by decide +kernel
theorem dX9_endOfRow_31 : decode cX9_endOfRow 31 = .ok (.iload 5, 2) := by decide +kernel
theorem dX9_endOfRow_33 : decode cX9_endOfRow 33 = .ok (.iaload, 1) := by decide +kernel
theorem dX9_endOfRow_34 : decode cX9_endOfRow 34 = .ok (.invokestatic 49, 3) := by decide +kernel
theorem dX9_endOfRow_37 : decode cX9_endOfRow 37 = .ok (.ifCond .ne 18, 3) := by decide +kernel
theorem dX9_endOfRow_40 : decode cX9_endOfRow 40 = .ok (.iload 4, 2) := by decide +kernel
theorem dX9_endOfRow_42 : decode cX9_endOfRow 42 = .ok (.ifCond .eq 19, 3) := by decide +kernel
theorem dX9_endOfRow_45 : decode cX9_endOfRow 45 = .ok (.aload_n 0, 1) := by decide +kernel
theorem dX9_endOfRow_46 : decode cX9_endOfRow 46 = .ok (.iload 5, 2) := by decide +kernel
theorem dX9_endOfRow_48 : decode cX9_endOfRow 48 = .ok (.iaload, 1) := by decide +kernel
theorem dX9_endOfRow_49 : decode cX9_endOfRow 49 = .ok (.invokestatic 38, 3) := by decide +kernel
theorem dX9_endOfRow_52 : decode cX9_endOfRow 52 = .ok (.ifCond .eq 9, 3) := by decide +kernel
theorem dX9_endOfRow_55 : decode cX9_endOfRow 55 = .ok (.iinc 5 1, 3) := by decide +kernel
theorem dX9_endOfRow_58 : decode cX9_endOfRow 58 = .ok (.goto (-38), 3) := by decide +kernel
theorem dX9_endOfRow_61 : decode cX9_endOfRow 61 = .ok (.iload 5, 2) := by decide +kernel
theorem dX9_endOfRow_63 : decode cX9_endOfRow 63 = .ok (.ireturn, 1) := by decide +kernel
set_option maxHeartbeats 4000000 in
set_option maxRecDepth 100000 in
theorem x_X9_endOfRow_40 {p : Program} {l : Launch} {e : Env} {s : State} {m : MethodId} {args : Array Value} {below : List Frame} {meth : Method} {c : Code} {D : va_G} {K : Nat → ClassId} {A : Nat → Prop} {ad la : Nat → Nat} {rest : va_W} (C : xC p s m args meth c D K A RX9 cX9_endOfRow 6 (some .int)) (z : Int32 × xS) (k_20 : Int32 → Int32 → Int32 → Int32 → xS → Option (Int32 × xS)) (H_20 : ∀ (y2 : Int32) (y3 : Int32) (y4 : Int32) (y5 : Int32) (σ : xS), k_20 y2 y3 y4 y5 σ = some z → X p l e (xR 1 20) s m args below meth c D A 6 (xQi below D K A args s z.1 (CW K ad la rest z.2)) 0 0 20 [(0, .ref (ad 3)), (2, .int y2), (3, .int y3), (4, .int y4), (5, .int y5)] [] (CW K ad la rest σ)) : ∀ (y2 : Int32) (y3 : Int32) (y4 : Int32) (y5 : Int32) (σ : xS), F_X9_endOfRow_40 k_20 y2 y3 y4 y5 σ = some z → X p l e (xR 1 20) s m args below meth c D A 6 (xQi below D K A args s z.1 (CW K ad la rest z.2)) 0 0 40 [(0, .ref (ad 3)), (2, .int y2), (3, .int y3), (4, .int y4), (5, .int y5)] [] (CW K ad la rest σ) := by
  intro y2 y3 y4 y5 σ hF
  unfold F_X9_endOfRow_40 at hF
  refine x_iload C 3 4 dX9_endOfRow_40 rfl ?_
  refine x_if_eq C 61 dX9_endOfRow_42 (by decide) hF (fun hF => ?_) (fun hF => ?_)
  · refine x_iload C 4 5 dX9_endOfRow_61 rfl ?_
    exact x_iret C dX9_endOfRow_63 rfl (congrArg Prod.fst (Option.some.inj hF)) (congrArg (fun q9 : Int32 × xS => CW K ad la rest q9.2) (Option.some.inj hF))
  · refine x_aload_n C 0 0 dX9_endOfRow_45 rfl rfl ?_
    refine x_iload C 4 5 dX9_endOfRow_46 rfl ?_
    refine x_iald C 3 dX9_endOfRow_48 (CW_3 K ad la rest σ) hF (fun v12 hF => ?_)
    refine x_callSI C (wf := CW K ad la rest) (As := [.int v12]) (rest := []) dX9_endOfRow_49 ml_X9_38 rfl rfl (Nat.le_of_ble_eq_true rfl) ⟨Nat.le_of_ble_eq_true rfl, Nat.le_of_ble_eq_true rfl⟩ ⟨Nat.zero_le _, Nat.zero_le _⟩ (fun q9 hq9 => c_X9_isDigit l D K ad la rest v12 σ q9 hq9) hF (fun v14 σ13 hF => ?_)
    refine x_if_eq C 61 dX9_endOfRow_52 (by decide) hF (fun hF => ?_) (fun hF => ?_)
    · refine x_iload C 4 5 dX9_endOfRow_61 rfl ?_
      exact x_iret C dX9_endOfRow_63 rfl (congrArg Prod.fst (Option.some.inj hF)) (congrArg (fun q9 : Int32 × xS => CW K ad la rest q9.2) (Option.some.inj hF))
    · refine x_iincN C 1 4 (fun x15 => [(5, .int x15), (0, .ref (ad 3)), (2, .int y2), (3, .int y3), (4, .int y4)]) dX9_endOfRow_55 rfl (by decide +kernel) (by decide) (fun _ => rfl) hF (fun x15 hF => ?_)
      refine x_goto C 20 dX9_endOfRow_58 (by decide) ?_
      refine x_loc [(0, .ref (ad 3)), (2, .int y2), (3, .int y3), (4, .int y4), (5, .int x15)] [1, 2, 3, 4, 0] rfl ?_
      exact H_20 y2 y3 y4 x15 σ13 hF
set_option maxHeartbeats 4000000 in
set_option maxRecDepth 100000 in
theorem x_X9_endOfRow_20 {p : Program} {l : Launch} {e : Env} {s : State} {m : MethodId} {args : Array Value} {below : List Frame} {meth : Method} {c : Code} {D : va_G} {K : Nat → ClassId} {A : Nat → Prop} {ad la : Nat → Nat} {rest : va_W} (C : xC p s m args meth c D K A RX9 cX9_endOfRow 6 (some .int)) (z : Int32 × xS) : ∀ (n : Nat) (y2 : Int32) (y3 : Int32) (y4 : Int32) (y5 : Int32) (σ : xS), F_X9_endOfRow_20  n y2 y3 y4 y5 σ = some z → X p l e (xR 1 20) s m args below meth c D A 6 (xQi below D K A args s z.1 (CW K ad la rest z.2)) 0 0 20 [(0, .ref (ad 3)), (2, .int y2), (3, .int y3), (4, .int y4), (5, .int y5)] [] (CW K ad la rest σ) := by
  intro n
  induction n with
  | zero =>
    intro y2 y3 y4 y5 σ hF
    cases hF
  | succ n ih =>
    intro y2 y3 y4 y5 σ hF
    rw [F_X9_endOfRow_20] at hF
    refine x_iload C 4 5 dX9_endOfRow_20 rfl ?_
    refine x_iload_n C 1 2 dX9_endOfRow_22 rfl rfl ?_
    refine x_icmp_ge C 61 dX9_endOfRow_23 (by decide) hF (fun hF => ?_) (fun hF => ?_)
    · refine x_iload C 4 5 dX9_endOfRow_61 rfl ?_
      exact x_iret C dX9_endOfRow_63 rfl (congrArg Prod.fst (Option.some.inj hF)) (congrArg (fun q9 : Int32 × xS => CW K ad la rest q9.2) (Option.some.inj hF))
    · refine x_iload_n C 2 3 dX9_endOfRow_26 rfl rfl ?_
      refine x_if_eq C 40 dX9_endOfRow_27 (by decide) hF (fun hF => ?_) (fun hF => ?_)
      · exact x_X9_endOfRow_40 C z ((F_X9_endOfRow_20 n)) ih y2 y3 y4 y5 σ hF
      · refine x_aload_n C 0 0 dX9_endOfRow_30 rfl rfl ?_
        refine x_iload C 4 5 dX9_endOfRow_31 rfl ?_
        refine x_iald C 3 dX9_endOfRow_33 (CW_3 K ad la rest σ) hF (fun v8 hF => ?_)
        refine x_callSI C (wf := CW K ad la rest) (As := [.int v8]) (rest := []) dX9_endOfRow_34 ml_X9_49 rfl rfl (Nat.le_of_ble_eq_true rfl) ⟨Nat.le_of_ble_eq_true rfl, Nat.le_of_ble_eq_true rfl⟩ ⟨Nat.zero_le _, Nat.zero_le _⟩ (fun q9 hq9 => c_X9_isLetter l D K ad la rest v8 σ q9 hq9) hF (fun v10 σ9 hF => ?_)
        refine x_if_ne C 55 dX9_endOfRow_37 (by decide) hF (fun hF => ?_) (fun hF => ?_)
        · refine x_iincN C 1 4 (fun x11 => [(5, .int x11), (0, .ref (ad 3)), (2, .int y2), (3, .int y3), (4, .int y4)]) dX9_endOfRow_55 rfl (by decide +kernel) (by decide) (fun _ => rfl) hF (fun x11 hF => ?_)
          refine x_goto C 20 dX9_endOfRow_58 (by decide) ?_
          refine x_loc [(0, .ref (ad 3)), (2, .int y2), (3, .int y3), (4, .int y4), (5, .int x11)] [1, 2, 3, 4, 0] rfl ?_
          exact ih y2 y3 y4 x11 σ9 hF
        · exact x_X9_endOfRow_40 C z ((F_X9_endOfRow_20 n)) ih y2 y3 y4 y5 σ9 hF
set_option maxHeartbeats 4000000 in
set_option maxRecDepth 100000 in
theorem c_X9_endOfRow (l : Launch) (D : va_G) (K : Nat → ClassId) (ad la : Nat → Nat) (rest : va_W)  (a2 : Int32) (a3 : Int32) (σ : xS) (z : Int32 × xS) (hF : F_X9_endOfRow a2 a3 σ = some z) : CI l D K yX9_endOfRow cX9_endOfRow 6 (some .int) 1 20 [.ref (ad 3), .int a2, .int a3] (CW K ad la rest σ) z.1 (CW K ad la rest z.2) := by
  refine x_enterI [(0, .ref (ad 3)), (1, .int a2), (2, .int a3)] pnX9 (Nat.le_of_ble_eq_true rfl) rfl ?_
  intro p e s m args below meth c A C
  unfold F_X9_endOfRow at hF
  refine x_aload_n C 0 0 dX9_endOfRow_0 rfl rfl ?_
  refine x_iload_n C 1 1 dX9_endOfRow_1 rfl rfl ?_
  refine x_iald C 3 dX9_endOfRow_2 (CW_3 K ad la rest σ) hF (fun v1 hF => ?_)
  refine x_callSI C (wf := CW K ad la rest) (As := [.int v1]) (rest := []) dX9_endOfRow_3 ml_X9_49 rfl rfl (Nat.le_of_ble_eq_true rfl) ⟨Nat.le_of_ble_eq_true rfl, Nat.le_of_ble_eq_true rfl⟩ ⟨Nat.zero_le _, Nat.zero_le _⟩ (fun q9 hq9 => c_X9_isLetter l D K ad la rest v1 σ q9 hq9) hF (fun v3 σ2 hF => ?_)
  refine x_istore_n C [(3, .int v3), (0, .ref (ad 3)), (1, .int a2), (2, .int a3)] dX9_endOfRow_6 rfl (by decide) rfl ?_
  refine x_aload_n C 1 0 dX9_endOfRow_7 rfl rfl ?_
  refine x_iload_n C 2 1 dX9_endOfRow_8 rfl rfl ?_
  refine x_iald C 3 dX9_endOfRow_9 (CW_3 K ad la rest σ2) hF (fun v4 hF => ?_)
  refine x_callSI C (wf := CW K ad la rest) (As := [.int v4]) (rest := []) dX9_endOfRow_10 ml_X9_38 rfl rfl (Nat.le_of_ble_eq_true rfl) ⟨Nat.le_of_ble_eq_true rfl, Nat.le_of_ble_eq_true rfl⟩ ⟨Nat.zero_le _, Nat.zero_le _⟩ (fun q9 hq9 => c_X9_isDigit l D K ad la rest v4 σ2 q9 hq9) hF (fun v6 σ5 hF => ?_)
  refine x_istore C [(4, .int v6), (3, .int v3), (0, .ref (ad 3)), (1, .int a2), (2, .int a3)] dX9_endOfRow_13 (by decide) rfl ?_
  refine x_iload_n C 3 1 dX9_endOfRow_15 rfl rfl ?_
  refine x_iconst C 1 dX9_endOfRow_16 (by decide +kernel) ?_
  refine x_iadd C dX9_endOfRow_17 ?_
  refine x_topI hF (fun x7 hF => ?_)
  refine x_istore C [(5, .int x7), (4, .int v6), (3, .int v3), (0, .ref (ad 3)), (1, .int a2), (2, .int a3)] dX9_endOfRow_18 (by decide) rfl ?_
  refine x_loc [(0, .ref (ad 3)), (2, .int a3), (3, .int v3), (4, .int v6), (5, .int x7)] [3, 5, 2, 1, 0] rfl ?_
  exact x_X9_endOfRow_20 C z FU a3 v3 v6 x7 σ5 hF
theorem dX9_wordOf_0 : decode cX9_wordOf 0 = .ok (.iconst 0, 1) := by decide +kernel
theorem dX9_wordOf_1 : decode cX9_wordOf 1 = .ok (.istore_n 3, 1) := by decide +kernel
theorem dX9_wordOf_2 : decode cX9_wordOf 2 = .ok (.iload_n 3, 1) := by decide +kernel
theorem dX9_wordOf_3 : decode cX9_wordOf 3 = .ok (.bipush 18, 2) := by decide +kernel
theorem dX9_wordOf_5 : decode cX9_wordOf 5 = .ok (.if_icmp .ge 32, 3) := by decide +kernel
theorem dX9_wordOf_8 : decode cX9_wordOf 8 = .ok (.iload_n 2, 1) := by decide +kernel
theorem dX9_wordOf_9 : decode cX9_wordOf 9 = .ok (.iload_n 1, 1) := by decide +kernel
theorem dX9_wordOf_10 : decode cX9_wordOf 10 = .ok (.isub, 1) := by decide +kernel
theorem dX9_wordOf_11 : decode cX9_wordOf 11 = .ok (.iconst 5, 1) := by decide +kernel
theorem dX9_wordOf_12 : decode cX9_wordOf 12 = .ok (.if_icmp .gt 25, 3) := by decide +kernel
theorem dX9_wordOf_15 : decode cX9_wordOf 15 = .ok (.iload_n 3, 1) := by decide +kernel
theorem dX9_wordOf_16 : decode cX9_wordOf 16 = .ok (.aload_n 0, 1) := by decide +kernel
theorem dX9_wordOf_17 : decode cX9_wordOf 17 = .ok (.iload_n 1, 1) := by decide +kernel
theorem dX9_wordOf_18 : decode cX9_wordOf 18 = .ok (.iload_n 2, 1) := by decide +kernel
theorem dX9_wordOf_19 : decode cX9_wordOf 19 = .ok (.invokestatic 55, 3) := by decide +kernel
theorem dX9_wordOf_22 : decode cX9_wordOf 22 = .ok (.ifCond .eq 9, 3) := by decide +kernel
theorem dX9_wordOf_25 : decode cX9_wordOf 25 = .ok (.sipush 256, 3) := by decide +kernel
theorem dX9_wordOf_28 : decode cX9_wordOf 28 = .ok (.iload_n 3, 1) := by decide +kernel
theorem dX9_wordOf_29 : decode cX9_wordOf 29 = .ok (.iadd, 1) := by decide +kernel
theorem dX9_wordOf_30 : decode cX9_wordOf 30 = .ok (.ireturn, 1) := by decide +kernel
theorem dX9_wordOf_31 : decode cX9_wordOf 31 = .ok (.iinc 3 1, 3) := by decide +kernel
theorem dX9_wordOf_34 : decode cX9_wordOf 34 = .ok (.goto (-32), 3) := by decide +kernel
theorem dX9_wordOf_37 : decode cX9_wordOf 37 = .ok (.sipush 275, 3) := by decide +kernel
theorem dX9_wordOf_40 : decode cX9_wordOf 40 = .ok (.ireturn, 1) := by decide +kernel
set_option maxHeartbeats 4000000 in
set_option maxRecDepth 100000 in
theorem x_X9_wordOf_2 {p : Program} {l : Launch} {e : Env} {s : State} {m : MethodId} {args : Array Value} {below : List Frame} {meth : Method} {c : Code} {D : va_G} {K : Nat → ClassId} {A : Nat → Prop} {ad la : Nat → Nat} {rest : va_W} (C : xC p s m args meth c D K A RX9 cX9_wordOf 4 (some .int)) (z : Int32 × xS) : ∀ (n : Nat) (y1 : Int32) (y2 : Int32) (y3 : Int32) (σ : xS), F_X9_wordOf_2  n y1 y2 y3 σ = some z → X p l e (xR 7 175) s m args below meth c D A 4 (xQi below D K A args s z.1 (CW K ad la rest z.2)) 0 0 2 [(0, .ref (ad 3)), (1, .int y1), (2, .int y2), (3, .int y3)] [] (CW K ad la rest σ) := by
  intro n
  induction n with
  | zero =>
    intro y1 y2 y3 σ hF
    cases hF
  | succ n ih =>
    intro y1 y2 y3 σ hF
    rw [F_X9_wordOf_2] at hF
    refine x_iload_n C 3 3 dX9_wordOf_2 rfl rfl ?_
    refine x_bipush C 18 dX9_wordOf_3 (by decide +kernel) ?_
    refine x_icmp_ge C 37 dX9_wordOf_5 (by decide) hF (fun hF => ?_) (fun hF => ?_)
    · refine x_sipush C 275 dX9_wordOf_37 (by decide +kernel) ?_
      exact x_iret C dX9_wordOf_40 rfl (congrArg Prod.fst (Option.some.inj hF)) (congrArg (fun q9 : Int32 × xS => CW K ad la rest q9.2) (Option.some.inj hF))
    · refine x_iload_n C 2 2 dX9_wordOf_8 rfl rfl ?_
      refine x_iload_n C 1 1 dX9_wordOf_9 rfl rfl ?_
      refine x_isub C dX9_wordOf_10 ?_
      refine x_iconst C 5 dX9_wordOf_11 (by decide +kernel) ?_
      refine x_icmp_gt C 37 dX9_wordOf_12 (by decide) hF (fun hF => ?_) (fun hF => ?_)
      · refine x_sipush C 275 dX9_wordOf_37 (by decide +kernel) ?_
        exact x_iret C dX9_wordOf_40 rfl (congrArg Prod.fst (Option.some.inj hF)) (congrArg (fun q9 : Int32 × xS => CW K ad la rest q9.2) (Option.some.inj hF))
      · refine x_iload_n C 3 3 dX9_wordOf_15 rfl rfl ?_
        refine x_aload_n C 0 0 dX9_wordOf_16 rfl rfl ?_
        refine x_iload_n C 1 1 dX9_wordOf_17 rfl rfl ?_
        refine x_iload_n C 2 2 dX9_wordOf_18 rfl rfl ?_
        refine x_callSI C (wf := CW K ad la rest) (As := [.int y3, .ref (ad 3), .int y1, .int y2]) (rest := []) dX9_wordOf_19 ml_X9_55 rfl rfl (Nat.le_of_ble_eq_true rfl) ⟨Nat.le_of_ble_eq_true rfl, Nat.le_of_ble_eq_true rfl⟩ ⟨Nat.zero_le _, Nat.zero_le _⟩ (fun q9 hq9 => c_X9_isWord l D K ad la rest y3 y1 y2 σ q9 hq9) hF (fun v3 σ2 hF => ?_)
        refine x_if_eq C 31 dX9_wordOf_22 (by decide) hF (fun hF => ?_) (fun hF => ?_)
        · refine x_iincN C 1 3 (fun x4 => [(3, .int x4), (0, .ref (ad 3)), (1, .int y1), (2, .int y2)]) dX9_wordOf_31 rfl (by decide +kernel) (by decide) (fun _ => rfl) hF (fun x4 hF => ?_)
          refine x_goto C 2 dX9_wordOf_34 (by decide) ?_
          refine x_loc [(0, .ref (ad 3)), (1, .int y1), (2, .int y2), (3, .int x4)] [1, 2, 3, 0] rfl ?_
          exact ih y1 y2 x4 σ2 hF
        · refine x_sipush C 256 dX9_wordOf_25 (by decide +kernel) ?_
          refine x_iload_n C 3 3 dX9_wordOf_28 rfl rfl ?_
          refine x_iadd C dX9_wordOf_29 ?_
          exact x_iret C dX9_wordOf_30 rfl (congrArg Prod.fst (Option.some.inj hF)) (congrArg (fun q9 : Int32 × xS => CW K ad la rest q9.2) (Option.some.inj hF))
set_option maxHeartbeats 4000000 in
set_option maxRecDepth 100000 in
theorem c_X9_wordOf (l : Launch) (D : va_G) (K : Nat → ClassId) (ad la : Nat → Nat) (rest : va_W)  (a2 : Int32) (a3 : Int32) (σ : xS) (z : Int32 × xS) (hF : F_X9_wordOf a2 a3 σ = some z) : CI l D K yX9_wordOf cX9_wordOf 4 (some .int) 7 175 [.ref (ad 3), .int a2, .int a3] (CW K ad la rest σ) z.1 (CW K ad la rest z.2) := by
  refine x_enterI [(0, .ref (ad 3)), (1, .int a2), (2, .int a3)] pnX9 (Nat.le_of_ble_eq_true rfl) rfl ?_
  intro p e s m args below meth c A C
  unfold F_X9_wordOf at hF
  refine x_iconst C 0 dX9_wordOf_0 (by decide +kernel) ?_
  refine x_topI hF (fun x1 hF => ?_)
  refine x_istore_n C [(3, .int x1), (0, .ref (ad 3)), (1, .int a2), (2, .int a3)] dX9_wordOf_1 rfl (by decide) rfl ?_
  refine x_loc [(0, .ref (ad 3)), (1, .int a2), (2, .int a3), (3, .int x1)] [1, 2, 3, 0] rfl ?_
  exact x_X9_wordOf_2 C z FU a2 a3 x1 σ hF
theorem dX9_kindOf_0 : decode cX9_kindOf 0 = .ok (.aload_n 0, 1) := by decide +kernel
theorem dX9_kindOf_1 : decode cX9_kindOf 1 = .ok (.iload_n 1, 1) := by decide +kernel
theorem dX9_kindOf_2 : decode cX9_kindOf 2 = .ok (.iaload, 1) := by decide +kernel
theorem dX9_kindOf_3 : decode cX9_kindOf 3 = .ok (.invokestatic 38, 3) := by decide +kernel
theorem dX9_kindOf_6 : decode cX9_kindOf 6 = .ok (.ifCond .eq 7, 3) := by decide +kernel
theorem dX9_kindOf_9 : decode cX9_kindOf 9 = .ok (.sipush 274, 3) := by decide +kernel
theorem dX9_kindOf_12 : decode cX9_kindOf 12 = .ok (.ireturn, 1) := by decide +kernel
theorem dX9_kindOf_13 : decode cX9_kindOf 13 = .ok (.aload_n 0, 1) := by decide +kernel
theorem dX9_kindOf_14 : decode cX9_kindOf 14 = .ok (.iload_n 1, 1) := by decide +kernel
theorem dX9_kindOf_15 : decode cX9_kindOf 15 = .ok (.iaload, 1) := by decide +kernel
theorem dX9_kindOf_16 : decode cX9_kindOf 16 = .ok (.invokestatic 49, 3) := by decide +kernel
theorem dX9_kindOf_19 : decode cX9_kindOf 19 = .ok (.ifCond .eq 12, 3) := by decide +kernel
theorem dX9_kindOf_22 : decode cX9_kindOf 22 = .ok (.aload_n 0, 1) := by decide +kernel
theorem dX9_kindOf_23 : decode cX9_kindOf 23 = .ok (.iload_n 1, 1) := by decide +kernel
theorem dX9_kindOf_24 : decode cX9_kindOf 24 = .ok (.iload_n 2, 1) := by decide +kernel
theorem dX9_kindOf_25 : decode cX9_kindOf 25 = .ok (.invokestatic 52, 3) := by decide +kernel
theorem dX9_kindOf_28 : decode cX9_kindOf 28 = .ok (.goto 6, 3) := by decide +kernel
theorem dX9_kindOf_31 : decode cX9_kindOf 31 = .ok (.aload_n 0, 1) := by decide +kernel
theorem dX9_kindOf_32 : decode cX9_kindOf 32 = .ok (.iload_n 1, 1) := by decide +kernel
theorem dX9_kindOf_33 : decode cX9_kindOf 33 = .ok (.iaload, 1) := by decide +kernel
theorem dX9_kindOf_34 : decode cX9_kindOf 34 = .ok (.ireturn, 1) := by decide +kernel
set_option maxHeartbeats 4000000 in
set_option maxRecDepth 100000 in
theorem c_X9_kindOf (l : Launch) (D : va_G) (K : Nat → ClassId) (ad la : Nat → Nat) (rest : va_W)  (a2 : Int32) (a3 : Int32) (σ : xS) (z : Int32 × xS) (hF : F_X9_kindOf a2 a3 σ = some z) : CI l D K yX9_kindOf cX9_kindOf 3 (some .int) 8 198 [.ref (ad 3), .int a2, .int a3] (CW K ad la rest σ) z.1 (CW K ad la rest z.2) := by
  refine x_enterI [(0, .ref (ad 3)), (1, .int a2), (2, .int a3)] pnX9 (Nat.le_of_ble_eq_true rfl) rfl ?_
  intro p e s m args below meth c A C
  unfold F_X9_kindOf at hF
  refine x_aload_n C 0 0 dX9_kindOf_0 rfl rfl ?_
  refine x_iload_n C 1 1 dX9_kindOf_1 rfl rfl ?_
  refine x_iald C 3 dX9_kindOf_2 (CW_3 K ad la rest σ) hF (fun v1 hF => ?_)
  refine x_callSI C (wf := CW K ad la rest) (As := [.int v1]) (rest := []) dX9_kindOf_3 ml_X9_38 rfl rfl (Nat.le_of_ble_eq_true rfl) ⟨Nat.le_of_ble_eq_true rfl, Nat.le_of_ble_eq_true rfl⟩ ⟨Nat.zero_le _, Nat.zero_le _⟩ (fun q9 hq9 => c_X9_isDigit l D K ad la rest v1 σ q9 hq9) hF (fun v3 σ2 hF => ?_)
  refine x_if_eq C 13 dX9_kindOf_6 (by decide) hF (fun hF => ?_) (fun hF => ?_)
  · refine x_aload_n C 0 0 dX9_kindOf_13 rfl rfl ?_
    refine x_iload_n C 1 1 dX9_kindOf_14 rfl rfl ?_
    refine x_iald C 3 dX9_kindOf_15 (CW_3 K ad la rest σ2) hF (fun v4 hF => ?_)
    refine x_callSI C (wf := CW K ad la rest) (As := [.int v4]) (rest := []) dX9_kindOf_16 ml_X9_49 rfl rfl (Nat.le_of_ble_eq_true rfl) ⟨Nat.le_of_ble_eq_true rfl, Nat.le_of_ble_eq_true rfl⟩ ⟨Nat.zero_le _, Nat.zero_le _⟩ (fun q9 hq9 => c_X9_isLetter l D K ad la rest v4 σ2 q9 hq9) hF (fun v6 σ5 hF => ?_)
    refine x_if_eq C 31 dX9_kindOf_19 (by decide) hF (fun hF => ?_) (fun hF => ?_)
    · refine x_aload_n C 0 0 dX9_kindOf_31 rfl rfl ?_
      refine x_iload_n C 1 1 dX9_kindOf_32 rfl rfl ?_
      refine x_iald C 3 dX9_kindOf_33 (CW_3 K ad la rest σ5) hF (fun v7 hF => ?_)
      exact x_iret C dX9_kindOf_34 rfl (congrArg Prod.fst (Option.some.inj hF)) (congrArg (fun q9 : Int32 × xS => CW K ad la rest q9.2) (Option.some.inj hF))
    · refine x_aload_n C 0 0 dX9_kindOf_22 rfl rfl ?_
      refine x_iload_n C 1 1 dX9_kindOf_23 rfl rfl ?_
      refine x_iload_n C 2 2 dX9_kindOf_24 rfl rfl ?_
      refine x_callSI C (wf := CW K ad la rest) (As := [.ref (ad 3), .int a2, .int a3]) (rest := []) dX9_kindOf_25 ml_X9_52 rfl rfl (Nat.le_of_ble_eq_true rfl) ⟨Nat.le_of_ble_eq_true rfl, Nat.le_of_ble_eq_true rfl⟩ ⟨Nat.zero_le _, Nat.zero_le _⟩ (fun q9 hq9 => c_X9_wordOf l D K ad la rest a2 a3 σ5 q9 hq9) hF (fun v9 σ8 hF => ?_)
      refine x_goto C 34 dX9_kindOf_28 (by decide) ?_
      exact x_iret C dX9_kindOf_34 rfl (congrArg Prod.fst (Option.some.inj hF)) (congrArg (fun q9 : Int32 × xS => CW K ad la rest q9.2) (Option.some.inj hF))
  · refine x_sipush C 274 dX9_kindOf_9 (by decide +kernel) ?_
    exact x_iret C dX9_kindOf_12 rfl (congrArg Prod.fst (Option.some.inj hF)) (congrArg (fun q9 : Int32 × xS => CW K ad la rest q9.2) (Option.some.inj hF))
theorem dX9_numberOf_0 : decode cX9_numberOf 0 = .ok (.iconst 0, 1) := by decide +kernel
theorem dX9_numberOf_1 : decode cX9_numberOf 1 = .ok (.istore_n 3, 1) := by decide +kernel
theorem dX9_numberOf_2 : decode cX9_numberOf 2 = .ok (.iload_n 1, 1) := by decide +kernel
theorem dX9_numberOf_3 : decode cX9_numberOf 3 = .ok (.istore 4, 2) := by decide +kernel
theorem dX9_numberOf_5 : decode cX9_numberOf 5 = .ok (.iload 4, 2) := by decide +kernel
theorem dX9_numberOf_7 : decode cX9_numberOf 7 = .ok (.iload_n 2, 1) := by decide +kernel
theorem dX9_numberOf_8 : decode cX9_numberOf 8 = .ok (.if_icmp .ge 28, 3) := by decide +kernel
theorem dX9_numberOf_11 : decode cX9_numberOf 11 = .ok (.iload_n 3, 1) := by decide +kernel
theorem dX9_numberOf_12 : decode cX9_numberOf 12 = .ok (.bipush 10, 2) := by decide +kernel
theorem dX9_numberOf_14 : decode cX9_numberOf 14 = .ok (.imul, 1) := by decide +kernel
theorem dX9_numberOf_15 : decode cX9_numberOf 15 = .ok (.aload_n 0, 1) := by decide +kernel
theorem dX9_numberOf_16 : decode cX9_numberOf 16 = .ok (.iload 4, 2) := by decide +kernel
theorem dX9_numberOf_18 : decode cX9_numberOf 18 = .ok (.iaload, 1) := by decide +kernel
theorem dX9_numberOf_19 : decode cX9_numberOf 19 = .ok (.iadd, 1) := by decide +kernel
theorem dX9_numberOf_20 : decode cX9_numberOf 20 = .ok (.bipush 48, 2) := by decide +kernel
theorem dX9_numberOf_22 : decode cX9_numberOf 22 = .ok (.isub, 1) := by decide +kernel
theorem dX9_numberOf_23 : decode cX9_numberOf 23 = .ok (.sipush 1001, 3) := by decide +kernel
theorem dX9_numberOf_26 : decode cX9_numberOf 26 = .ok (.invokestatic 21, 3) := by decide +kernel
theorem dX9_numberOf_29 : decode cX9_numberOf 29 = .ok (.istore_n 3, 1) := by decide +kernel
theorem dX9_numberOf_30 : decode cX9_numberOf 30 = .ok (.iinc 4 1, 3) := by decide +kernel
theorem dX9_numberOf_33 : decode cX9_numberOf 33 = .ok (.goto (-28), 3) := by decide +kernel
theorem dX9_numberOf_36 : decode cX9_numberOf 36 = .ok (.iload_n 3, 1) := by decide +kernel
theorem dX9_numberOf_37 : decode cX9_numberOf 37 = .ok (.ireturn, 1) := by decide +kernel
set_option maxHeartbeats 4000000 in
set_option maxRecDepth 100000 in
theorem x_X9_numberOf_5 {p : Program} {l : Launch} {e : Env} {s : State} {m : MethodId} {args : Array Value} {below : List Frame} {meth : Method} {c : Code} {D : va_G} {K : Nat → ClassId} {A : Nat → Prop} {ad la : Nat → Nat} {rest : va_W} (C : xC p s m args meth c D K A RX9 cX9_numberOf 5 (some .int)) (z : Int32 × xS) : ∀ (n : Nat) (y2 : Int32) (y3 : Int32) (y4 : Int32) (σ : xS), F_X9_numberOf_5  n y2 y3 y4 σ = some z → X p l e (xR 1 24) s m args below meth c D A 5 (xQi below D K A args s z.1 (CW K ad la rest z.2)) 0 0 5 [(0, .ref (ad 3)), (2, .int y2), (3, .int y3), (4, .int y4)] [] (CW K ad la rest σ) := by
  intro n
  induction n with
  | zero =>
    intro y2 y3 y4 σ hF
    cases hF
  | succ n ih =>
    intro y2 y3 y4 σ hF
    rw [F_X9_numberOf_5] at hF
    refine x_iload C 3 4 dX9_numberOf_5 rfl ?_
    refine x_iload_n C 1 2 dX9_numberOf_7 rfl rfl ?_
    refine x_icmp_ge C 36 dX9_numberOf_8 (by decide) hF (fun hF => ?_) (fun hF => ?_)
    · refine x_iload_n C 2 3 dX9_numberOf_36 rfl rfl ?_
      exact x_iret C dX9_numberOf_37 rfl (congrArg Prod.fst (Option.some.inj hF)) (congrArg (fun q9 : Int32 × xS => CW K ad la rest q9.2) (Option.some.inj hF))
    · refine x_iload_n C 2 3 dX9_numberOf_11 rfl rfl ?_
      refine x_bipush C 10 dX9_numberOf_12 (by decide +kernel) ?_
      refine x_imul C dX9_numberOf_14 ?_
      refine x_aload_n C 0 0 dX9_numberOf_15 rfl rfl ?_
      refine x_iload C 3 4 dX9_numberOf_16 rfl ?_
      refine x_iald C 3 dX9_numberOf_18 (CW_3 K ad la rest σ) hF (fun v2 hF => ?_)
      refine x_iadd C dX9_numberOf_19 ?_
      refine x_bipush C 48 dX9_numberOf_20 (by decide +kernel) ?_
      refine x_isub C dX9_numberOf_22 ?_
      refine x_sipush C 1001 dX9_numberOf_23 (by decide +kernel) ?_
      refine x_mmin C dX9_numberOf_26 wl_X9_21 jMinI ⟨Nat.le_of_ble_eq_true rfl, Nat.le_of_ble_eq_true rfl⟩ ⟨Nat.zero_le _, Nat.zero_le _⟩ ?_
      refine x_topI hF (fun x3 hF => ?_)
      refine x_istore_n C [(3, .int x3), (0, .ref (ad 3)), (2, .int y2), (4, .int y4)] dX9_numberOf_29 rfl (by decide) rfl ?_
      refine x_iincN C 1 3 (fun x4 => [(4, .int x4), (3, .int x3), (0, .ref (ad 3)), (2, .int y2)]) dX9_numberOf_30 rfl (by decide +kernel) (by decide) (fun _ => rfl) hF (fun x4 hF => ?_)
      refine x_goto C 5 dX9_numberOf_33 (by decide) ?_
      refine x_loc [(0, .ref (ad 3)), (2, .int y2), (3, .int x3), (4, .int x4)] [2, 3, 1, 0] rfl ?_
      exact ih y2 x3 x4 σ hF
set_option maxHeartbeats 4000000 in
set_option maxRecDepth 100000 in
theorem c_X9_numberOf (l : Launch) (D : va_G) (K : Nat → ClassId) (ad la : Nat → Nat) (rest : va_W)  (a2 : Int32) (a3 : Int32) (σ : xS) (z : Int32 × xS) (hF : F_X9_numberOf a2 a3 σ = some z) : CI l D K yX9_numberOf cX9_numberOf 5 (some .int) 1 24 [.ref (ad 3), .int a2, .int a3] (CW K ad la rest σ) z.1 (CW K ad la rest z.2) := by
  refine x_enterI [(0, .ref (ad 3)), (1, .int a2), (2, .int a3)] pnX9 (Nat.le_of_ble_eq_true rfl) rfl ?_
  intro p e s m args below meth c A C
  unfold F_X9_numberOf at hF
  refine x_iconst C 0 dX9_numberOf_0 (by decide +kernel) ?_
  refine x_topI hF (fun x1 hF => ?_)
  refine x_istore_n C [(3, .int x1), (0, .ref (ad 3)), (1, .int a2), (2, .int a3)] dX9_numberOf_1 rfl (by decide) rfl ?_
  refine x_iload_n C 2 1 dX9_numberOf_2 rfl rfl ?_
  refine x_istore C [(4, .int a2), (3, .int x1), (0, .ref (ad 3)), (1, .int a2), (2, .int a3)] dX9_numberOf_3 (by decide) rfl ?_
  refine x_loc [(0, .ref (ad 3)), (2, .int a3), (3, .int x1), (4, .int a2)] [2, 4, 1, 0] rfl ?_
  exact x_X9_numberOf_5 C z FU a3 x1 a2 σ hF
theorem dX9_add_0 : decode cX9_add 0 = .ok (.aload_n 0, 1) := by decide +kernel
theorem dX9_add_1 : decode cX9_add 1 = .ok (.getfield 27, 3) := by decide +kernel
theorem dX9_add_4 : decode cX9_add 4 = .ok (.aload_n 0, 1) := by decide +kernel
theorem dX9_add_5 : decode cX9_add 5 = .ok (.getfield 11, 3) := by decide +kernel
theorem dX9_add_8 : decode cX9_add 8 = .ok (.arraylength, 1) := by decide +kernel
theorem dX9_add_9 : decode cX9_add 9 = .ok (.if_icmp .ge 43, 3) := by decide +kernel
theorem dX9_add_12 : decode cX9_add 12 = .ok (.aload_n 0, 1) := by decide +kernel
theorem dX9_add_13 : decode cX9_add 13 = .ok (.getfield 11, 3) := by decide +kernel
theorem dX9_add_16 : decode cX9_add 16 = .ok (.aload_n 0, 1) := by decide +kernel
theorem dX9_add_17 : decode cX9_add 17 = .ok (.getfield 27, 3) := by decide +kernel
theorem dX9_add_20 : decode cX9_add 20 = .ok (.iload_n 1, 1) := by decide +kernel
theorem dX9_add_21 : decode cX9_add 21 = .ok (.iastore, 1) := by decide +kernel
theorem dX9_add_22 : decode cX9_add 22 = .ok (.aload_n 0, 1) := by decide +kernel
theorem dX9_add_23 : decode cX9_add 23 = .ok (.getfield 15, 3) := by decide +kernel
theorem dX9_add_26 : decode cX9_add 26 = .ok (.aload_n 0, 1) := by decide +kernel
theorem dX9_add_27 : decode cX9_add 27 = .ok (.getfield 27, 3) := by decide +kernel
theorem dX9_add_30 : decode cX9_add 30 = .ok (.iload_n 2, 1) := by decide +kernel
theorem dX9_add_31 : decode cX9_add 31 = .ok (.iastore, 1) := by decide +kernel
theorem dX9_add_32 : decode cX9_add 32 = .ok (.aload_n 0, 1) := by decide +kernel
theorem dX9_add_33 : decode cX9_add 33 = .ok (.getfield 18, 3) := by decide +kernel
theorem dX9_add_36 : decode cX9_add 36 = .ok (.aload_n 0, 1) := by decide +kernel
theorem dX9_add_37 : decode cX9_add 37 = .ok (.getfield 27, 3) := by decide +kernel
theorem dX9_add_40 : decode cX9_add 40 = .ok (.iload_n 3, 1) := by decide +kernel
theorem dX9_add_41 : decode cX9_add 41 = .ok (.iastore, 1) := by decide +kernel
theorem dX9_add_42 : decode cX9_add 42 = .ok (.aload_n 0, 1) := by decide +kernel
theorem dX9_add_43 : decode cX9_add 43 = .ok (.dup, 1) := by decide +kernel
theorem dX9_add_44 : decode cX9_add 44 = .ok (.getfield 27, 3) := by decide +kernel
theorem dX9_add_47 : decode cX9_add 47 = .ok (.iconst 1, 1) := by decide +kernel
theorem dX9_add_48 : decode cX9_add 48 = .ok (.iadd, 1) := by decide +kernel
theorem dX9_add_49 : decode cX9_add 49 = .ok (.putfield 27, 3) := by decide +kernel
theorem dX9_add_52 : decode cX9_add 52 = .ok (.return_, 1) := by decide +kernel
set_option maxHeartbeats 4000000 in
set_option maxRecDepth 100000 in
theorem c_X9_add (l : Launch) (D : va_G) (K : Nat → ClassId) (ad la : Nat → Nat) (rest : va_W)  (a1 : Int32) (a2 : Int32) (a3 : Int32) (σ : xS) (z : Unit × xS) (hF : F_X9_add a1 a2 a3 σ = some z) : CV l D K yX9_add cX9_add 4 none 0 0 [.ref (ad 51), .int a1, .int a2, .int a3] (CW K ad la rest σ) (CW K ad la rest z.2) := by
  refine x_enterV [(0, .ref (ad 51)), (1, .int a1), (2, .int a2), (3, .int a3)] pnX9 (Nat.le_of_ble_eq_true rfl) rfl ?_
  intro p e s m args below meth c A C
  unfold F_X9_add at hF
  refine x_aload_n C 0 0 dX9_add_0 rfl rfl ?_
  refine x_get C 51 dX9_add_1 fl_X9_27 (CW_51 K ad la rest σ) rfl ?_
  refine x_aload_n C 0 0 dX9_add_4 rfl rfl ?_
  refine x_get C 51 dX9_add_5 fl_X9_11 (CW_51 K ad la rest σ) rfl ?_
  refine x_alen C (t0 := 0) 401 52 dX9_add_8 (CW_52 K ad la rest σ) rfl rfl ?_
  refine x_icmp_ge C 52 dX9_add_9 (by decide) hF (fun hF => ?_) (fun hF => ?_)
  · exact x_vret C dX9_add_52 rfl (congrArg (fun q9 : Unit × xS => CW K ad la rest q9.2) (Option.some.inj hF))
  · refine x_aload_n C 0 0 dX9_add_12 rfl rfl ?_
    refine x_get C 51 dX9_add_13 fl_X9_11 (CW_51 K ad la rest σ) rfl ?_
    refine x_aload_n C 0 0 dX9_add_16 rfl rfl ?_
    refine x_get C 51 dX9_add_17 fl_X9_27 (CW_51 K ad la rest σ) rfl ?_
    refine x_iload_n C 1 1 dX9_add_20 rfl rfl ?_
    refine x_iast C 52 dX9_add_21 (CW_52 K ad la rest σ) hF (CW_s52 K ad la rest σ _) (fun hF => ?_)
    refine x_st (wf := CW K ad la rest) hF (fun σ1 hF => ?_)
    refine x_aload_n C 0 0 dX9_add_22 rfl rfl ?_
    refine x_get C 51 dX9_add_23 fl_X9_15 (CW_51 K ad la rest σ1) rfl ?_
    refine x_aload_n C 0 0 dX9_add_26 rfl rfl ?_
    refine x_get C 51 dX9_add_27 fl_X9_27 (CW_51 K ad la rest σ1) rfl ?_
    refine x_iload_n C 2 2 dX9_add_30 rfl rfl ?_
    refine x_iast C 53 dX9_add_31 (CW_53 K ad la rest σ1) hF (CW_s53 K ad la rest σ1 _) (fun hF => ?_)
    refine x_st (wf := CW K ad la rest) hF (fun σ2 hF => ?_)
    refine x_aload_n C 0 0 dX9_add_32 rfl rfl ?_
    refine x_get C 51 dX9_add_33 fl_X9_18 (CW_51 K ad la rest σ2) rfl ?_
    refine x_aload_n C 0 0 dX9_add_36 rfl rfl ?_
    refine x_get C 51 dX9_add_37 fl_X9_27 (CW_51 K ad la rest σ2) rfl ?_
    refine x_iload_n C 3 3 dX9_add_40 rfl rfl ?_
    refine x_iast C 54 dX9_add_41 (CW_54 K ad la rest σ2) hF (CW_s54 K ad la rest σ2 _) (fun hF => ?_)
    refine x_st (wf := CW K ad la rest) hF (fun σ3 hF => ?_)
    refine x_aload_n C 0 0 dX9_add_42 rfl rfl ?_
    refine x_dup C rfl dX9_add_43 ?_
    refine x_get C 51 dX9_add_44 fl_X9_27 (CW_51 K ad la rest σ3) rfl ?_
    refine x_iconst C 1 dX9_add_47 (by decide +kernel) ?_
    refine x_iadd C dX9_add_48 ?_
    refine x_put C 51 dX9_add_49 fl_X9_27 fm_X9_3 rfl rfl (CW_51 K ad la rest σ3) (Nat.le_of_ble_eq_true rfl) (CW_s51_3 K ad la rest σ3 _) ?_
    refine x_st (wf := CW K ad la rest) hF (fun σ4 hF => ?_)
    exact x_vret C dX9_add_52 rfl (congrArg (fun q9 : Unit × xS => CW K ad la rest q9.2) (Option.some.inj hF))
theorem dX9_cut_0 : decode cX9_cut 0 = .ok (.iload_n 2, 1) := by decide +kernel
theorem dX9_cut_1 : decode cX9_cut 1 = .ok (.aload_n 1, 1) := by decide +kernel
theorem dX9_cut_2 : decode cX9_cut 2 = .ok (.arraylength, 1) := by decide +kernel
theorem dX9_cut_3 : decode cX9_cut 3 = .ok (.invokestatic 21, 3) := by decide +kernel
theorem dX9_cut_6 : decode cX9_cut 6 = .ok (.istore_n 3, 1) := by decide +kernel
theorem dX9_cut_7 : decode cX9_cut 7 = .ok (.aload_n 0, 1) := by decide +kernel
theorem dX9_cut_8 : decode cX9_cut 8 = .ok (.iconst 0, 1) := by decide +kernel
theorem dX9_cut_9 : decode cX9_cut 9 = .ok (.putfield 27, 3) := by decide +kernel
theorem dX9_cut_12 : decode cX9_cut 12 = .ok (.iconst 0, 1) := by decide +kernel
theorem dX9_cut_13 : decode cX9_cut 13 = .ok (.istore 4, 2) := by decide +kernel
theorem dX9_cut_15 : decode cX9_cut 15 = .ok (.iconst 0, 1) := by decide +kernel
theorem dX9_cut_16 : decode cX9_cut 16 = .ok (.istore 5, 2) := by decide +kernel
theorem dX9_cut_18 : decode cX9_cut 18 = .ok (.iload 5, 2) := by decide +kernel
theorem dX9_cut_20 : decode cX9_cut 20 = .ok (.sipush 400, 3) := by decide +kernel
theorem dX9_cut_23 : decode cX9_cut 23 = .ok (.if_icmp .ge 79, 3) := by decide +kernel
theorem dX9_cut_26 : decode cX9_cut 26 = .ok (.iload 4, 2) := by decide +kernel
theorem dX9_cut_28 : decode cX9_cut 28 = .ok (.iload_n 3, 1) := by decide +kernel
theorem dX9_cut_29 : decode cX9_cut 29 = .ok (.if_icmp .ge 73, 3) := by decide +kernel
theorem dX9_cut_32 : decode cX9_cut 32 = .ok (.aload_n 1, 1) := by decide +kernel
theorem dX9_cut_33 : decode cX9_cut 33 = .ok (.iload 4, 2) := by decide +kernel
theorem dX9_cut_35 : decode cX9_cut 35 = .ok (.iaload, 1) := by decide +kernel
theorem dX9_cut_36 : decode cX9_cut 36 = .ok (.bipush 32, 2) := by decide +kernel
theorem dX9_cut_38 : decode cX9_cut 38 = .ok (.if_icmp .ne 9, 3) := by decide +kernel
theorem dX9_cut_41 : decode cX9_cut 41 = .ok (.iinc 4 1, 3) := by decide +kernel
theorem dX9_cut_44 : decode cX9_cut 44 = .ok (.goto 52, 3) := by decide +kernel
theorem dX9_cut_47 : decode cX9_cut 47 = .ok (.aload_n 1, 1) := by decide +kernel
theorem dX9_cut_48 : decode cX9_cut 48 = .ok (.iload 4, 2) := by decide +kernel
theorem dX9_cut_50 : decode cX9_cut 50 = .ok (.iload_n 3, 1) := by decide +kernel
theorem dX9_cut_51 : decode cX9_cut 51 = .ok (.invokestatic 31, 3) := by decide +kernel
theorem dX9_cut_54 : decode cX9_cut 54 = .ok (.istore 6, 2) := by decide +kernel
theorem dX9_cut_56 : decode cX9_cut 56 = .ok (.aload_n 0, 1) := by decide +kernel
theorem dX9_cut_57 : decode cX9_cut 57 = .ok (.aload_n 1, 1) := by decide +kernel
theorem dX9_cut_58 : decode cX9_cut 58 = .ok (.iload 4, 2) := by decide +kernel
theorem dX9_cut_60 : decode cX9_cut 60 = .ok (.iload 6, 2) := by decide +kernel
theorem dX9_cut_62 : decode cX9_cut 62 = .ok (.invokestatic 35, 3) := by decide +kernel
theorem dX9_cut_65 : decode cX9_cut 65 = .ok (.iload 4, 2) := by decide +kernel
theorem dX9_cut_67 : decode cX9_cut 67 = .ok (.aload_n 1, 1) := by decide +kernel
theorem dX9_cut_68 : decode cX9_cut 68 = .ok (.iload 4, 2) := by decide +kernel
theorem dX9_cut_70 : decode cX9_cut 70 = .ok (.iaload, 1) := by decide +kernel
theorem dX9_cut_71 : decode cX9_cut 71 = .ok (.invokestatic 38, 3) := by decide +kernel
theorem dX9_cut_74 : decode cX9_cut 74 = .ok (.ifCond .eq 14, 3) := by decide +kernel
theorem dX9_cut_77 : decode cX9_cut 77 = .ok (.aload_n 1, 1) := by decide +kernel
theorem dX9_cut_78 : decode cX9_cut 78 = .ok (.iload 4, 2) := by decide +kernel
theorem dX9_cut_80 : decode cX9_cut 80 = .ok (.iload 6, 2) := by decide +kernel
theorem dX9_cut_82 : decode cX9_cut 82 = .ok (.invokestatic 42, 3) := by decide +kernel
theorem dX9_cut_85 : decode cX9_cut 85 = .ok (.goto 4, 3) := by decide +kernel
theorem dX9_cut_88 : decode cX9_cut 88 = .ok (.iconst 0, 1) := by decide +kernel
theorem dX9_cut_89 : decode cX9_cut 89 = .ok (.invokevirtual 45, 3) := by decide +kernel
theorem dX9_cut_92 : decode cX9_cut 92 = .ok (.iload 6, 2) := by decide +kernel
theorem dX9_cut_94 : decode cX9_cut 94 = .ok (.istore 4, 2) := by decide +kernel
theorem dX9_cut_96 : decode cX9_cut 96 = .ok (.iinc 5 1, 3) := by decide +kernel
theorem dX9_cut_99 : decode cX9_cut 99 = .ok (.goto (-81), 3) := by decide +kernel
theorem dX9_cut_102 : decode cX9_cut 102 = .ok (.aload_n 0, 1) := by decide +kernel
theorem dX9_cut_103 : decode cX9_cut 103 = .ok (.sipush 276, 3) := by decide +kernel
theorem dX9_cut_106 : decode cX9_cut 106 = .ok (.iload_n 3, 1) := by decide +kernel
theorem dX9_cut_107 : decode cX9_cut 107 = .ok (.iconst 0, 1) := by decide +kernel
theorem dX9_cut_108 : decode cX9_cut 108 = .ok (.invokevirtual 45, 3) := by decide +kernel
theorem dX9_cut_111 : decode cX9_cut 111 = .ok (.return_, 1) := by decide +kernel
set_option maxHeartbeats 4000000 in
set_option maxRecDepth 100000 in
theorem x_X9_cut_89 {p : Program} {l : Launch} {e : Env} {s : State} {m : MethodId} {args : Array Value} {below : List Frame} {meth : Method} {c : Code} {D : va_G} {K : Nat → ClassId} {A : Nat → Prop} {ad la : Nat → Nat} {rest : va_W} (C : xC p s m args meth c D K A RX9 cX9_cut 7 none) (z : Unit × xS) (k_18 : Int32 → Int32 → Int32 → xS → Option (Unit × xS)) (H_18 : ∀ (y3 : Int32) (y4 : Int32) (y5 : Int32) (σ : xS), k_18 y3 y4 y5 σ = some z → X p l e (xR 9 220) s m args below meth c D A 7 (xQv below D K A args s (CW K ad la rest z.2)) 0 0 18 [(0, .ref (ad 51)), (1, .ref (ad 3)), (3, .int y3), (4, .int y4), (5, .int y5)] [] (CW K ad la rest σ)) : ∀ (y3 : Int32) (y5 : Int32) (y6 : Int32) (t1x : Int32) (t2x : Int32) (t3x : Int32) (σ : xS), F_X9_cut_89 k_18 y3 y5 y6 t1x t2x t3x σ = some z → X p l e (xR 9 220) s m args below meth c D A 7 (xQv below D K A args s (CW K ad la rest z.2)) 0 0 89 [(0, .ref (ad 51)), (1, .ref (ad 3)), (3, .int y3), (5, .int y5), (6, .int y6)] [.int t3x, .int t2x, .int t1x, .ref (ad 51)] (CW K ad la rest σ) := by
  intro y3 y5 y6 t1x t2x t3x σ hF
  unfold F_X9_cut_89 at hF
  refine x_callVV C (wf := CW K ad la rest) (As := [.int t1x, .int t2x, .int t3x]) (rest := []) dX9_cut_89 ml_X9_45 rfl rfl (Nat.le_of_ble_eq_true rfl) 51 (CW_51 K ad la rest σ) rfl ⟨Nat.le_of_ble_eq_true rfl, Nat.le_of_ble_eq_true rfl⟩ ⟨Nat.zero_le _, Nat.zero_le _⟩ (fun q9 hq9 => c_X9_add l D K ad la rest t1x t2x t3x σ q9 hq9) hF (fun _ σ18 hF => ?_)
  refine x_iload C 4 6 dX9_cut_92 rfl ?_
  refine x_istore C [(4, .int y6), (0, .ref (ad 51)), (1, .ref (ad 3)), (3, .int y3), (5, .int y5), (6, .int y6)] dX9_cut_94 (by decide) rfl ?_
  refine x_iincN C 1 4 (fun x19 => [(5, .int x19), (4, .int y6), (0, .ref (ad 51)), (1, .ref (ad 3)), (3, .int y3), (6, .int y6)]) dX9_cut_96 rfl (by decide +kernel) (by decide) (fun _ => rfl) hF (fun x19 hF => ?_)
  refine x_goto C 18 dX9_cut_99 (by decide) ?_
  refine x_loc [(0, .ref (ad 51)), (1, .ref (ad 3)), (3, .int y3), (4, .int y6), (5, .int x19)] [2, 3, 4, 1, 0] rfl ?_
  exact H_18 y3 y6 x19 σ18 hF
set_option maxHeartbeats 4000000 in
set_option maxRecDepth 100000 in
theorem x_X9_cut_102 {p : Program} {l : Launch} {e : Env} {s : State} {m : MethodId} {args : Array Value} {below : List Frame} {meth : Method} {c : Code} {D : va_G} {K : Nat → ClassId} {A : Nat → Prop} {ad la : Nat → Nat} {rest : va_W} (C : xC p s m args meth c D K A RX9 cX9_cut 7 none) (z : Unit × xS) : ∀ (y3 : Int32) (σ : xS), F_X9_cut_102  y3 σ = some z → X p l e (xR 9 220) s m args below meth c D A 7 (xQv below D K A args s (CW K ad la rest z.2)) 0 0 102 [(0, .ref (ad 51)), (3, .int y3)] [] (CW K ad la rest σ) := by
  intro y3 σ hF
  unfold F_X9_cut_102 at hF
  refine x_aload_n C 0 0 dX9_cut_102 rfl rfl ?_
  refine x_sipush C 276 dX9_cut_103 (by decide +kernel) ?_
  refine x_iload_n C 1 3 dX9_cut_106 rfl rfl ?_
  refine x_iconst C 0 dX9_cut_107 (by decide +kernel) ?_
  refine x_callVV C (wf := CW K ad la rest) (As := [.int 276, .int y3, .int 0]) (rest := []) dX9_cut_108 ml_X9_45 rfl rfl (Nat.le_of_ble_eq_true rfl) 51 (CW_51 K ad la rest σ) rfl ⟨Nat.le_of_ble_eq_true rfl, Nat.le_of_ble_eq_true rfl⟩ ⟨Nat.zero_le _, Nat.zero_le _⟩ (fun q9 hq9 => c_X9_add l D K ad la rest 276 y3 0 σ q9 hq9) hF (fun _ σ17 hF => ?_)
  exact x_vret C dX9_cut_111 rfl (congrArg (fun q9 : Unit × xS => CW K ad la rest q9.2) (Option.some.inj hF))
set_option maxHeartbeats 4000000 in
set_option maxRecDepth 100000 in
theorem x_X9_cut_18 {p : Program} {l : Launch} {e : Env} {s : State} {m : MethodId} {args : Array Value} {below : List Frame} {meth : Method} {c : Code} {D : va_G} {K : Nat → ClassId} {A : Nat → Prop} {ad la : Nat → Nat} {rest : va_W} (C : xC p s m args meth c D K A RX9 cX9_cut 7 none) (z : Unit × xS) : ∀ (n : Nat) (y3 : Int32) (y4 : Int32) (y5 : Int32) (σ : xS), F_X9_cut_18  n y3 y4 y5 σ = some z → X p l e (xR 9 220) s m args below meth c D A 7 (xQv below D K A args s (CW K ad la rest z.2)) 0 0 18 [(0, .ref (ad 51)), (1, .ref (ad 3)), (3, .int y3), (4, .int y4), (5, .int y5)] [] (CW K ad la rest σ) := by
  intro n
  induction n with
  | zero =>
    intro y3 y4 y5 σ hF
    cases hF
  | succ n ih =>
    intro y3 y4 y5 σ hF
    rw [F_X9_cut_18] at hF
    refine x_iload C 4 5 dX9_cut_18 rfl ?_
    refine x_sipush C 400 dX9_cut_20 (by decide +kernel) ?_
    refine x_icmp_ge C 102 dX9_cut_23 (by decide) hF (fun hF => ?_) (fun hF => ?_)
    · refine x_loc [(0, .ref (ad 51)), (3, .int y3)] [0, 2] rfl ?_
      exact x_X9_cut_102 C z y3 σ hF
    · refine x_iload C 3 4 dX9_cut_26 rfl ?_
      refine x_iload_n C 2 3 dX9_cut_28 rfl rfl ?_
      refine x_icmp_ge C 102 dX9_cut_29 (by decide) hF (fun hF => ?_) (fun hF => ?_)
      · refine x_loc [(0, .ref (ad 51)), (3, .int y3)] [0, 2] rfl ?_
        exact x_X9_cut_102 C z y3 σ hF
      · refine x_aload_n C 1 1 dX9_cut_32 rfl rfl ?_
        refine x_iload C 3 4 dX9_cut_33 rfl ?_
        refine x_iald C 3 dX9_cut_35 (CW_3 K ad la rest σ) hF (fun v5 hF => ?_)
        refine x_bipush C 32 dX9_cut_36 (by decide +kernel) ?_
        refine x_icmp_ne C 47 dX9_cut_38 (by decide) hF (fun hF => ?_) (fun hF => ?_)
        · refine x_aload_n C 1 1 dX9_cut_47 rfl rfl ?_
          refine x_iload C 3 4 dX9_cut_48 rfl ?_
          refine x_iload_n C 2 3 dX9_cut_50 rfl rfl ?_
          refine x_callSI C (wf := CW K ad la rest) (As := [.ref (ad 3), .int y4, .int y3]) (rest := []) dX9_cut_51 ml_X9_31 rfl rfl (Nat.le_of_ble_eq_true rfl) ⟨Nat.le_of_ble_eq_true rfl, Nat.le_of_ble_eq_true rfl⟩ ⟨Nat.zero_le _, Nat.zero_le _⟩ (fun q9 hq9 => c_X9_endOfRow l D K ad la rest y4 y3 σ q9 hq9) hF (fun v7 σ6 hF => ?_)
          refine x_istore C [(6, .int v7), (0, .ref (ad 51)), (1, .ref (ad 3)), (3, .int y3), (4, .int y4), (5, .int y5)] dX9_cut_54 (by decide) rfl ?_
          refine x_aload_n C 1 0 dX9_cut_56 rfl rfl ?_
          refine x_aload_n C 2 1 dX9_cut_57 rfl rfl ?_
          refine x_iload C 4 4 dX9_cut_58 rfl ?_
          refine x_iload C 0 6 dX9_cut_60 rfl ?_
          refine x_callSI C (wf := CW K ad la rest) (As := [.ref (ad 3), .int y4, .int v7]) (rest := [.ref (ad 51)]) dX9_cut_62 ml_X9_35 rfl rfl (Nat.le_of_ble_eq_true rfl) ⟨Nat.le_of_ble_eq_true rfl, Nat.le_of_ble_eq_true rfl⟩ ⟨Nat.zero_le _, Nat.zero_le _⟩ (fun q9 hq9 => c_X9_kindOf l D K ad la rest y4 v7 σ6 q9 hq9) hF (fun v9 σ8 hF => ?_)
          refine x_iload C 4 4 dX9_cut_65 rfl ?_
          refine x_aload_n C 2 1 dX9_cut_67 rfl rfl ?_
          refine x_iload C 4 4 dX9_cut_68 rfl ?_
          refine x_iald C 3 dX9_cut_70 (CW_3 K ad la rest σ8) hF (fun v10 hF => ?_)
          refine x_callSI C (wf := CW K ad la rest) (As := [.int v10]) (rest := [.int y4, .int v9, .ref (ad 51)]) dX9_cut_71 ml_X9_38 rfl rfl (Nat.le_of_ble_eq_true rfl) ⟨Nat.le_of_ble_eq_true rfl, Nat.le_of_ble_eq_true rfl⟩ ⟨Nat.zero_le _, Nat.zero_le _⟩ (fun q9 hq9 => c_X9_isDigit l D K ad la rest v10 σ8 q9 hq9) hF (fun v12 σ11 hF => ?_)
          refine x_if_eq C 88 dX9_cut_74 (by decide) hF (fun hF => ?_) (fun hF => ?_)
          · refine x_iconst C 0 dX9_cut_88 (by decide +kernel) ?_
            refine x_loc [(0, .ref (ad 51)), (1, .ref (ad 3)), (3, .int y3), (5, .int y5), (6, .int v7)] [1, 2, 3, 5, 0] rfl ?_
            exact x_X9_cut_89 C z ((F_X9_cut_18 n)) ih y3 y5 v7 v9 y4 0 σ11 hF
          · refine x_aload_n C 2 1 dX9_cut_77 rfl rfl ?_
            refine x_iload C 4 4 dX9_cut_78 rfl ?_
            refine x_iload C 0 6 dX9_cut_80 rfl ?_
            refine x_callSI C (wf := CW K ad la rest) (As := [.ref (ad 3), .int y4, .int v7]) (rest := [.int y4, .int v9, .ref (ad 51)]) dX9_cut_82 ml_X9_42 rfl rfl (Nat.le_of_ble_eq_true rfl) ⟨Nat.le_of_ble_eq_true rfl, Nat.le_of_ble_eq_true rfl⟩ ⟨Nat.zero_le _, Nat.zero_le _⟩ (fun q9 hq9 => c_X9_numberOf l D K ad la rest y4 v7 σ11 q9 hq9) hF (fun v14 σ13 hF => ?_)
            refine x_goto C 89 dX9_cut_85 (by decide) ?_
            refine x_loc [(0, .ref (ad 51)), (1, .ref (ad 3)), (3, .int y3), (5, .int y5), (6, .int v7)] [1, 2, 3, 5, 0] rfl ?_
            exact x_X9_cut_89 C z ((F_X9_cut_18 n)) ih y3 y5 v7 v9 y4 v14 σ13 hF
        · refine x_iincN C 1 3 (fun x15 => [(4, .int x15), (0, .ref (ad 51)), (1, .ref (ad 3)), (3, .int y3), (5, .int y5)]) dX9_cut_41 rfl (by decide +kernel) (by decide) (fun _ => rfl) hF (fun x15 hF => ?_)
          refine x_goto C 96 dX9_cut_44 (by decide) ?_
          refine x_iincN C 1 4 (fun x16 => [(5, .int x16), (4, .int x15), (0, .ref (ad 51)), (1, .ref (ad 3)), (3, .int y3)]) dX9_cut_96 rfl (by decide +kernel) (by decide) (fun _ => rfl) hF (fun x16 hF => ?_)
          refine x_goto C 18 dX9_cut_99 (by decide) ?_
          refine x_loc [(0, .ref (ad 51)), (1, .ref (ad 3)), (3, .int y3), (4, .int x15), (5, .int x16)] [2, 3, 4, 1, 0] rfl ?_
          exact ih y3 x15 x16 σ hF
set_option maxHeartbeats 4000000 in
set_option maxRecDepth 100000 in
theorem c_X9_cut (l : Launch) (D : va_G) (K : Nat → ClassId) (ad la : Nat → Nat) (rest : va_W)  (a2 : Int32) (σ : xS) (z : Unit × xS) (hF : F_X9_cut a2 σ = some z) : CV l D K yX9_cut cX9_cut 7 none 9 220 [.ref (ad 51), .ref (ad 3), .int a2] (CW K ad la rest σ) (CW K ad la rest z.2) := by
  refine x_enterV [(0, .ref (ad 51)), (1, .ref (ad 3)), (2, .int a2)] pnX9 (Nat.le_of_ble_eq_true rfl) rfl ?_
  intro p e s m args below meth c A C
  unfold F_X9_cut at hF
  refine x_iload_n C 2 2 dX9_cut_0 rfl rfl ?_
  refine x_aload_n C 1 1 dX9_cut_1 rfl rfl ?_
  refine x_alen C (t0 := 0) 400 3 dX9_cut_2 (CW_3 K ad la rest σ) rfl rfl ?_
  refine x_mmin C dX9_cut_3 wl_X9_21 jMinI ⟨Nat.le_of_ble_eq_true rfl, Nat.le_of_ble_eq_true rfl⟩ ⟨Nat.zero_le _, Nat.zero_le _⟩ ?_
  refine x_topI hF (fun x1 hF => ?_)
  refine x_istore_n C [(3, .int x1), (0, .ref (ad 51)), (1, .ref (ad 3)), (2, .int a2)] dX9_cut_6 rfl (by decide) rfl ?_
  refine x_aload_n C 1 0 dX9_cut_7 rfl rfl ?_
  refine x_iconst C 0 dX9_cut_8 (by decide +kernel) ?_
  refine x_put C 51 dX9_cut_9 fl_X9_27 fm_X9_3 rfl rfl (CW_51 K ad la rest σ) (Nat.le_of_ble_eq_true rfl) (CW_s51_3 K ad la rest σ _) ?_
  refine x_st (wf := CW K ad la rest) hF (fun σ2 hF => ?_)
  refine x_iconst C 0 dX9_cut_12 (by decide +kernel) ?_
  refine x_topI hF (fun x3 hF => ?_)
  refine x_istore C [(4, .int x3), (3, .int x1), (0, .ref (ad 51)), (1, .ref (ad 3)), (2, .int a2)] dX9_cut_13 (by decide) rfl ?_
  refine x_iconst C 0 dX9_cut_15 (by decide +kernel) ?_
  refine x_topI hF (fun x4 hF => ?_)
  refine x_istore C [(5, .int x4), (4, .int x3), (3, .int x1), (0, .ref (ad 51)), (1, .ref (ad 3)), (2, .int a2)] dX9_cut_16 (by decide) rfl ?_
  refine x_loc [(0, .ref (ad 51)), (1, .ref (ad 3)), (3, .int x1), (4, .int x3), (5, .int x4)] [3, 4, 2, 1, 0] rfl ?_
  exact x_X9_cut_18 C z FU x1 x3 x4 σ2 hF
theorem dX10_most_0 : decode cX10_most 0 = .ok (.aload_n 0, 1) := by decide +kernel
theorem dX10_most_1 : decode cX10_most 1 = .ok (.getfield 17, 3) := by decide +kernel
theorem dX10_most_4 : decode cX10_most 4 = .ok (.iload_n 1, 1) := by decide +kernel
theorem dX10_most_5 : decode cX10_most 5 = .ok (.aaload, 1) := by decide +kernel
theorem dX10_most_6 : decode cX10_most 6 = .ok (.iload_n 2, 1) := by decide +kernel
theorem dX10_most_7 : decode cX10_most 7 = .ok (.laload, 1) := by decide +kernel
theorem dX10_most_8 : decode cX10_most 8 = .ok (.aload_n 0, 1) := by decide +kernel
theorem dX10_most_9 : decode cX10_most 9 = .ok (.getfield 20, 3) := by decide +kernel
theorem dX10_most_12 : decode cX10_most 12 = .ok (.iload_n 1, 1) := by decide +kernel
theorem dX10_most_13 : decode cX10_most 13 = .ok (.laload, 1) := by decide +kernel
theorem dX10_most_14 : decode cX10_most 14 = .ok (.invokestatic 80, 3) := by decide +kernel
theorem dX10_most_17 : decode cX10_most 17 = .ok (.lreturn, 1) := by decide +kernel
set_option maxHeartbeats 4000000 in
set_option maxRecDepth 100000 in
theorem c_X10_most (l : Launch) (D : va_G) (K : Nat → ClassId) (ad la : Nat → Nat) (rest : va_W)  (a1 : Int32) (a2 : Int32) (σ : xS) (z : Int64 × xS) (hF : F_X10_most a1 a2 σ = some z) : CL l D K yX10_most cX10_most 3 (some .long) 1 24 [.ref (ad 55), .int a1, .int a2] (CW K ad la rest σ) z.1 (CW K ad la rest z.2) := by
  refine x_enterL [(0, .ref (ad 55)), (1, .int a1), (2, .int a2)] pnX10 (Nat.le_of_ble_eq_true rfl) rfl ?_
  intro p e s m args below meth c A C
  unfold F_X10_most at hF
  refine x_aload_n C 0 0 dX10_most_0 rfl rfl ?_
  refine x_get C 55 dX10_most_1 fl_X10_17 (CW_55 K ad la rest σ) rfl ?_
  refine x_iload_n C 1 1 dX10_most_4 rfl rfl ?_
  refine x_aald C (t0 := 5) 57 dX10_most_5 (CW_57 K ad la rest σ) rfl rfl hF (fun hF hj1 => ?_)
  refine x_if_cast (st2 := [.ref (ad (58 + a1.toNatClampNeg))]) rfl ?_
  refine x_iload_n C 2 2 dX10_most_6 rfl rfl ?_
  refine x_lald C (58 + a1.toNatClampNeg) dX10_most_7 (CW_i57 K ad la rest σ (a1.toNatClampNeg) hj1) hF (fun v2 hF => ?_)
  refine x_aload_n C 0 0 dX10_most_8 rfl rfl ?_
  refine x_get C 55 dX10_most_9 fl_X10_20 (CW_55 K ad la rest σ) rfl ?_
  refine x_iload_n C 1 1 dX10_most_12 rfl rfl ?_
  refine x_lald C 64 dX10_most_13 (CW_64 K ad la rest σ) hF (fun v3 hF => ?_)
  refine x_mmaxl C dX10_most_14 wl_X10_80 jMaxL ⟨Nat.le_of_ble_eq_true rfl, Nat.le_of_ble_eq_true rfl⟩ ⟨Nat.zero_le _, Nat.zero_le _⟩ ?_
  exact x_lret C dX10_most_17 rfl (congrArg Prod.fst (Option.some.inj hF)) (congrArg (fun q9 : Int64 × xS => CW K ad la rest q9.2) (Option.some.inj hF))
theorem dX10_planWeek_0 : decode cX10_planWeek 0 = .ok (.aload_n 0, 1) := by decide +kernel
theorem dX10_planWeek_1 : decode cX10_planWeek 1 = .ok (.getfield 31, 3) := by decide +kernel
theorem dX10_planWeek_4 : decode cX10_planWeek 4 = .ok (.iload_n 1, 1) := by decide +kernel
theorem dX10_planWeek_5 : decode cX10_planWeek 5 = .ok (.iload_n 2, 1) := by decide +kernel
theorem dX10_planWeek_6 : decode cX10_planWeek 6 = .ok (.invokevirtual 61, 3) := by decide +kernel
theorem dX10_planWeek_9 : decode cX10_planWeek 9 = .ok (.iconst 0, 1) := by decide +kernel
theorem dX10_planWeek_10 : decode cX10_planWeek 10 = .ok (.istore 6, 2) := by decide +kernel
theorem dX10_planWeek_12 : decode cX10_planWeek 12 = .ok (.iconst 0, 1) := by decide +kernel
theorem dX10_planWeek_13 : decode cX10_planWeek 13 = .ok (.istore 7, 2) := by decide +kernel
theorem dX10_planWeek_15 : decode cX10_planWeek 15 = .ok (.iload 7, 2) := by decide +kernel
theorem dX10_planWeek_17 : decode cX10_planWeek 17 = .ok (.bipush 20, 2) := by decide +kernel
theorem dX10_planWeek_19 : decode cX10_planWeek 19 = .ok (.if_icmp .gt 128, 3) := by decide +kernel
theorem dX10_planWeek_22 : decode cX10_planWeek 22 = .ok (.aload_n 0, 1) := by decide +kernel
theorem dX10_planWeek_23 : decode cX10_planWeek 23 = .ok (.getfield 31, 3) := by decide +kernel
theorem dX10_planWeek_26 : decode cX10_planWeek 26 = .ok (.getfield 67, 3) := by decide +kernel
theorem dX10_planWeek_29 : decode cX10_planWeek 29 = .ok (.iconst 4, 1) := by decide +kernel
theorem dX10_planWeek_30 : decode cX10_planWeek 30 = .ok (.aload_n 0, 1) := by decide +kernel
theorem dX10_planWeek_31 : decode cX10_planWeek 31 = .ok (.getfield 9, 3) := by decide +kernel
theorem dX10_planWeek_34 : decode cX10_planWeek 34 = .ok (.iload 7, 2) := by decide +kernel
theorem dX10_planWeek_36 : decode cX10_planWeek 36 = .ok (.iaload, 1) := by decide +kernel
theorem dX10_planWeek_37 : decode cX10_planWeek 37 = .ok (.iastore, 1) := by decide +kernel
theorem dX10_planWeek_38 : decode cX10_planWeek 38 = .ok (.aload_n 0, 1) := by decide +kernel
theorem dX10_planWeek_39 : decode cX10_planWeek 39 = .ok (.getfield 31, 3) := by decide +kernel
theorem dX10_planWeek_42 : decode cX10_planWeek 42 = .ok (.invokevirtual 72, 3) := by decide +kernel
theorem dX10_planWeek_45 : decode cX10_planWeek 45 = .ok (.istore 8, 2) := by decide +kernel
theorem dX10_planWeek_47 : decode cX10_planWeek 47 = .ok (.iload_n 3, 1) := by decide +kernel
theorem dX10_planWeek_48 : decode cX10_planWeek 48 = .ok (.ifCond .eq 16, 3) := by decide +kernel
theorem dX10_planWeek_51 : decode cX10_planWeek 51 = .ok (.aload_n 0, 1) := by decide +kernel
theorem dX10_planWeek_52 : decode cX10_planWeek 52 = .ok (.getfield 27, 3) := by decide +kernel
theorem dX10_planWeek_55 : decode cX10_planWeek 55 = .ok (.getfield 35, 3) := by decide +kernel
theorem dX10_planWeek_58 : decode cX10_planWeek 58 = .ok (.iconst 3, 1) := by decide +kernel
theorem dX10_planWeek_59 : decode cX10_planWeek 59 = .ok (.iaload, 1) := by decide +kernel
theorem dX10_planWeek_60 : decode cX10_planWeek 60 = .ok (.i2l, 1) := by decide +kernel
theorem dX10_planWeek_61 : decode cX10_planWeek 61 = .ok (.goto 12, 3) := by decide +kernel
theorem dX10_planWeek_64 : decode cX10_planWeek 64 = .ok (.aload_n 0, 1) := by decide +kernel
theorem dX10_planWeek_65 : decode cX10_planWeek 65 = .ok (.iload_n 2, 1) := by decide +kernel
theorem dX10_planWeek_66 : decode cX10_planWeek 66 = .ok (.iconst 1, 1) := by decide +kernel
theorem dX10_planWeek_67 : decode cX10_planWeek 67 = .ok (.iadd, 1) := by decide +kernel
theorem dX10_planWeek_68 : decode cX10_planWeek 68 = .ok (.iload 7, 2) := by decide +kernel
theorem dX10_planWeek_70 : decode cX10_planWeek 70 = .ok (.invokevirtual 76, 3) := by decide +kernel
theorem dX10_planWeek_73 : decode cX10_planWeek 73 = .ok (.lstore 9, 2) := by decide +kernel
theorem dX10_planWeek_75 : decode cX10_planWeek 75 = .ok (.aload_n 0, 1) := by decide +kernel
theorem dX10_planWeek_76 : decode cX10_planWeek 76 = .ok (.getfield 17, 3) := by decide +kernel
theorem dX10_planWeek_79 : decode cX10_planWeek 79 = .ok (.iload_n 2, 1) := by decide +kernel
theorem dX10_planWeek_80 : decode cX10_planWeek 80 = .ok (.aaload, 1) := by decide +kernel
theorem dX10_planWeek_81 : decode cX10_planWeek 81 = .ok (.iload 7, 2) := by decide +kernel
theorem dX10_planWeek_83 : decode cX10_planWeek 83 = .ok (.iload 8, 2) := by decide +kernel
theorem dX10_planWeek_85 : decode cX10_planWeek 85 = .ok (.aload_n 0, 1) := by decide +kernel
theorem dX10_planWeek_86 : decode cX10_planWeek 86 = .ok (.getfield 9, 3) := by decide +kernel
theorem dX10_planWeek_89 : decode cX10_planWeek 89 = .ok (.iload 7, 2) := by decide +kernel
theorem dX10_planWeek_91 : decode cX10_planWeek 91 = .ok (.iaload, 1) := by decide +kernel
theorem dX10_planWeek_92 : decode cX10_planWeek 92 = .ok (.imul, 1) := by decide +kernel
theorem dX10_planWeek_93 : decode cX10_planWeek 93 = .ok (.i2l, 1) := by decide +kernel
theorem dX10_planWeek_94 : decode cX10_planWeek 94 = .ok (.lload 4, 2) := by decide +kernel
theorem dX10_planWeek_96 : decode cX10_planWeek 96 = .ok (.lmul, 1) := by decide +kernel
theorem dX10_planWeek_97 : decode cX10_planWeek 97 = .ok (.bipush 100, 2) := by decide +kernel
theorem dX10_planWeek_99 : decode cX10_planWeek 99 = .ok (.iload 8, 2) := by decide +kernel
theorem dX10_planWeek_101 : decode cX10_planWeek 101 = .ok (.isub, 1) := by decide +kernel
theorem dX10_planWeek_102 : decode cX10_planWeek 102 = .ok (.i2l, 1) := by decide +kernel
theorem dX10_planWeek_103 : decode cX10_planWeek 103 = .ok (.lload 9, 2) := by decide +kernel
theorem dX10_planWeek_105 : decode cX10_planWeek 105 = .ok (.lmul, 1) := by decide +kernel
theorem dX10_planWeek_106 : decode cX10_planWeek 106 = .ok (.ladd, 1) := by decide +kernel
theorem dX10_planWeek_107 : decode cX10_planWeek 107 = .ok (.lastore, 1) := by decide +kernel
theorem dX10_planWeek_108 : decode cX10_planWeek 108 = .ok (.iload 7, 2) := by decide +kernel
theorem dX10_planWeek_110 : decode cX10_planWeek 110 = .ok (.bipush 20, 2) := by decide +kernel
theorem dX10_planWeek_112 : decode cX10_planWeek 112 = .ok (.if_icmp .ge 29, 3) := by decide +kernel
theorem dX10_planWeek_115 : decode cX10_planWeek 115 = .ok (.aload_n 0, 1) := by decide +kernel
theorem dX10_planWeek_116 : decode cX10_planWeek 116 = .ok (.getfield 17, 3) := by decide +kernel
theorem dX10_planWeek_119 : decode cX10_planWeek 119 = .ok (.iload_n 2, 1) := by decide +kernel
theorem dX10_planWeek_120 : decode cX10_planWeek 120 = .ok (.aaload, 1) := by decide +kernel
theorem dX10_planWeek_121 : decode cX10_planWeek 121 = .ok (.iload 7, 2) := by decide +kernel
theorem dX10_planWeek_123 : decode cX10_planWeek 123 = .ok (.laload, 1) := by decide +kernel
theorem dX10_planWeek_124 : decode cX10_planWeek 124 = .ok (.aload_n 0, 1) := by decide +kernel
theorem dX10_planWeek_125 : decode cX10_planWeek 125 = .ok (.getfield 17, 3) := by decide +kernel
theorem dX10_planWeek_128 : decode cX10_planWeek 128 = .ok (.iload_n 2, 1) := by decide +kernel
theorem dX10_planWeek_129 : decode cX10_planWeek 129 = .ok (.aaload, 1) := by decide +kernel
theorem dX10_planWeek_130 : decode cX10_planWeek 130 = .ok (.iload 6, 2) := by decide +kernel
theorem dX10_planWeek_132 : decode cX10_planWeek 132 = .ok (.laload, 1) := by decide +kernel
theorem dX10_planWeek_133 : decode cX10_planWeek 133 = .ok (.lcmp, 1) := by decide +kernel
theorem dX10_planWeek_134 : decode cX10_planWeek 134 = .ok (.ifCond .le 7, 3) := by decide +kernel
theorem dX10_planWeek_137 : decode cX10_planWeek 137 = .ok (.iload 7, 2) := by decide +kernel
theorem dX10_planWeek_139 : decode cX10_planWeek 139 = .ok (.istore 6, 2) := by decide +kernel
theorem dX10_planWeek_141 : decode cX10_planWeek 141 = .ok (.iinc 7 1, 3) := by decide +kernel
theorem dX10_planWeek_144 : decode cX10_planWeek 144 = .ok (.goto (-129), 3) := by decide +kernel
theorem dX10_planWeek_147 : decode cX10_planWeek 147 = .ok (.aload_n 0, 1) := by decide +kernel
theorem dX10_planWeek_148 : decode cX10_planWeek 148 = .ok (.getfield 24, 3) := by decide +kernel
theorem dX10_planWeek_151 : decode cX10_planWeek 151 = .ok (.iload_n 2, 1) := by decide +kernel
theorem dX10_planWeek_152 : decode cX10_planWeek 152 = .ok (.iload 6, 2) := by decide +kernel
theorem dX10_planWeek_154 : decode cX10_planWeek 154 = .ok (.iastore, 1) := by decide +kernel
theorem dX10_planWeek_155 : decode cX10_planWeek 155 = .ok (.aload_n 0, 1) := by decide +kernel
theorem dX10_planWeek_156 : decode cX10_planWeek 156 = .ok (.getfield 20, 3) := by decide +kernel
theorem dX10_planWeek_159 : decode cX10_planWeek 159 = .ok (.iload_n 2, 1) := by decide +kernel
theorem dX10_planWeek_160 : decode cX10_planWeek 160 = .ok (.aload_n 0, 1) := by decide +kernel
theorem dX10_planWeek_161 : decode cX10_planWeek 161 = .ok (.getfield 17, 3) := by decide +kernel
theorem dX10_planWeek_164 : decode cX10_planWeek 164 = .ok (.iload_n 2, 1) := by decide +kernel
theorem dX10_planWeek_165 : decode cX10_planWeek 165 = .ok (.aaload, 1) := by decide +kernel
theorem dX10_planWeek_166 : decode cX10_planWeek 166 = .ok (.iload 6, 2) := by decide +kernel
theorem dX10_planWeek_168 : decode cX10_planWeek 168 = .ok (.laload, 1) := by decide +kernel
theorem dX10_planWeek_169 : decode cX10_planWeek 169 = .ok (.aload_n 0, 1) := by decide +kernel
theorem dX10_planWeek_170 : decode cX10_planWeek 170 = .ok (.getfield 27, 3) := by decide +kernel
theorem dX10_planWeek_173 : decode cX10_planWeek 173 = .ok (.getfield 35, 3) := by decide +kernel
theorem dX10_planWeek_176 : decode cX10_planWeek 176 = .ok (.iconst 2, 1) := by decide +kernel
theorem dX10_planWeek_177 : decode cX10_planWeek 177 = .ok (.iaload, 1) := by decide +kernel
theorem dX10_planWeek_178 : decode cX10_planWeek 178 = .ok (.i2l, 1) := by decide +kernel
theorem dX10_planWeek_179 : decode cX10_planWeek 179 = .ok (.lload 4, 2) := by decide +kernel
theorem dX10_planWeek_181 : decode cX10_planWeek 181 = .ok (.lmul, 1) := by decide +kernel
theorem dX10_planWeek_182 : decode cX10_planWeek 182 = .ok (.ldc2_w 59, 3) := by decide +kernel
theorem dX10_planWeek_185 : decode cX10_planWeek 185 = .ok (.lmul, 1) := by decide +kernel
theorem dX10_planWeek_186 : decode cX10_planWeek 186 = .ok (.lsub, 1) := by decide +kernel
theorem dX10_planWeek_187 : decode cX10_planWeek 187 = .ok (.lastore, 1) := by decide +kernel
theorem dX10_planWeek_188 : decode cX10_planWeek 188 = .ok (.return_, 1) := by decide +kernel
set_option maxHeartbeats 4000000 in
set_option maxRecDepth 100000 in
theorem x_X10_planWeek_73 {p : Program} {l : Launch} {e : Env} {s : State} {m : MethodId} {args : Array Value} {below : List Frame} {meth : Method} {c : Code} {D : va_G} {K : Nat → ClassId} {A : Nat → Prop} {ad la : Nat → Nat} {rest : va_W} (C : xC p s m args meth c D K A RX10 cX10_planWeek 11 none) (z : Unit × xS) (k_15 : Int32 → Int32 → Int64 → Int32 → Int32 → xS → Option (Unit × xS)) (H_15 : ∀ (y2 : Int32) (y3 : Int32) (y4 : Int64) (y6 : Int32) (y7 : Int32) (σ : xS), k_15 y2 y3 y4 y6 y7 σ = some z → X p l e (xR 4 99) s m args below meth c D A 11 (xQv below D K A args s (CW K ad la rest z.2)) 0 0 15 [(0, .ref (ad 55)), (2, .int y2), (3, .int y3), (4, .long y4), (6, .int y6), (7, .int y7)] [] (CW K ad la rest σ)) : ∀ (y2 : Int32) (y3 : Int32) (y4 : Int64) (y6 : Int32) (y7 : Int32) (y8 : Int32) (t0x : Int64) (σ : xS), F_X10_planWeek_73 k_15 y2 y3 y4 y6 y7 y8 t0x σ = some z → X p l e (xR 4 99) s m args below meth c D A 11 (xQv below D K A args s (CW K ad la rest z.2)) 0 0 73 [(0, .ref (ad 55)), (2, .int y2), (3, .int y3), (4, .long y4), (6, .int y6), (7, .int y7), (8, .int y8)] [.long t0x] (CW K ad la rest σ) := by
  intro y2 y3 y4 y6 y7 y8 t0x σ hF
  unfold F_X10_planWeek_73 at hF
  refine x_lstore C [(9, .long t0x), (0, .ref (ad 55)), (2, .int y2), (3, .int y3), (4, .long y4), (6, .int y6), (7, .int y7), (8, .int y8)] dX10_planWeek_73 (by decide) rfl ?_
  refine x_aload_n C 1 0 dX10_planWeek_75 rfl rfl ?_
  refine x_get C 55 dX10_planWeek_76 fl_X10_17 (CW_55 K ad la rest σ) rfl ?_
  refine x_iload_n C 2 2 dX10_planWeek_79 rfl rfl ?_
  refine x_aald C (t0 := 5) 57 dX10_planWeek_80 (CW_57 K ad la rest σ) rfl rfl hF (fun hF hj16 => ?_)
  refine x_if_cast (st2 := [.ref (ad (58 + y2.toNatClampNeg))]) rfl ?_
  refine x_iload C 6 7 dX10_planWeek_81 rfl ?_
  refine x_iload C 7 8 dX10_planWeek_83 rfl ?_
  refine x_aload_n C 1 0 dX10_planWeek_85 rfl rfl ?_
  refine x_get C 55 dX10_planWeek_86 fl_X10_9 (CW_55 K ad la rest σ) rfl ?_
  refine x_iload C 6 7 dX10_planWeek_89 rfl ?_
  refine x_iald C 56 dX10_planWeek_91 (CW_56 K ad la rest σ) hF (fun v17 hF => ?_)
  refine x_imul C dX10_planWeek_92 ?_
  refine x_i2l C dX10_planWeek_93 ?_
  refine x_lload C 4 4 dX10_planWeek_94 rfl ?_
  refine x_lmul C dX10_planWeek_96 ?_
  refine x_bipush C 100 dX10_planWeek_97 (by decide +kernel) ?_
  refine x_iload C 7 8 dX10_planWeek_99 rfl ?_
  refine x_isub C dX10_planWeek_101 ?_
  refine x_i2l C dX10_planWeek_102 ?_
  refine x_lload C 0 9 dX10_planWeek_103 rfl ?_
  refine x_lmul C dX10_planWeek_105 ?_
  refine x_ladd C dX10_planWeek_106 ?_
  refine x_last C (58 + y2.toNatClampNeg) dX10_planWeek_107 (CW_i57 K ad la rest σ (y2.toNatClampNeg) hj16) hF (CW_is57 K ad la rest σ _ (y2.toNatClampNeg) hj16) (fun hF => ?_)
  refine x_st (wf := CW K ad la rest) hF (fun σ18 hF => ?_)
  refine x_iload C 6 7 dX10_planWeek_108 rfl ?_
  refine x_bipush C 20 dX10_planWeek_110 (by decide +kernel) ?_
  refine x_icmp_ge C 141 dX10_planWeek_112 (by decide) hF (fun hF => ?_) (fun hF => ?_)
  · refine x_iincN C 1 6 (fun x19 => [(7, .int x19), (9, .long t0x), (0, .ref (ad 55)), (2, .int y2), (3, .int y3), (4, .long y4), (6, .int y6), (8, .int y8)]) dX10_planWeek_141 rfl (by decide +kernel) (by decide) (fun _ => rfl) hF (fun x19 hF => ?_)
    refine x_goto C 15 dX10_planWeek_144 (by decide) ?_
    refine x_loc [(0, .ref (ad 55)), (2, .int y2), (3, .int y3), (4, .long y4), (6, .int y6), (7, .int x19)] [2, 3, 4, 5, 6, 0] rfl ?_
    exact H_15 y2 y3 y4 y6 x19 σ18 hF
  · refine x_aload_n C 1 0 dX10_planWeek_115 rfl rfl ?_
    refine x_get C 55 dX10_planWeek_116 fl_X10_17 (CW_55 K ad la rest σ18) rfl ?_
    refine x_iload_n C 2 2 dX10_planWeek_119 rfl rfl ?_
    refine x_aald C (t0 := 5) 57 dX10_planWeek_120 (CW_57 K ad la rest σ18) rfl rfl hF (fun hF hj20 => ?_)
    refine x_if_cast (st2 := [.ref (ad (58 + y2.toNatClampNeg))]) rfl ?_
    refine x_iload C 6 7 dX10_planWeek_121 rfl ?_
    refine x_lald C (58 + y2.toNatClampNeg) dX10_planWeek_123 (CW_i57 K ad la rest σ18 (y2.toNatClampNeg) hj20) hF (fun v21 hF => ?_)
    refine x_aload_n C 1 0 dX10_planWeek_124 rfl rfl ?_
    refine x_get C 55 dX10_planWeek_125 fl_X10_17 (CW_55 K ad la rest σ18) rfl ?_
    refine x_iload_n C 2 2 dX10_planWeek_128 rfl rfl ?_
    refine x_aald C (t0 := 5) 57 dX10_planWeek_129 (CW_57 K ad la rest σ18) rfl rfl hF (fun hF hj22 => ?_)
    refine x_if_cast (st2 := [.ref (ad (58 + y2.toNatClampNeg)), .long v21]) rfl ?_
    refine x_iload C 5 6 dX10_planWeek_130 rfl ?_
    refine x_lald C (58 + y2.toNatClampNeg) dX10_planWeek_132 (CW_i57 K ad la rest σ18 (y2.toNatClampNeg) hj22) hF (fun v23 hF => ?_)
    refine x_lcmp C dX10_planWeek_133 ?_
    refine x_if_le C 141 dX10_planWeek_134 (by decide) hF (fun hF => ?_) (fun hF => ?_)
    · refine x_iincN C 1 6 (fun x24 => [(7, .int x24), (9, .long t0x), (0, .ref (ad 55)), (2, .int y2), (3, .int y3), (4, .long y4), (6, .int y6), (8, .int y8)]) dX10_planWeek_141 rfl (by decide +kernel) (by decide) (fun _ => rfl) hF (fun x24 hF => ?_)
      refine x_goto C 15 dX10_planWeek_144 (by decide) ?_
      refine x_loc [(0, .ref (ad 55)), (2, .int y2), (3, .int y3), (4, .long y4), (6, .int y6), (7, .int x24)] [2, 3, 4, 5, 6, 0] rfl ?_
      exact H_15 y2 y3 y4 y6 x24 σ18 hF
    · refine x_iload C 6 7 dX10_planWeek_137 rfl ?_
      refine x_istore C [(6, .int y7), (9, .long t0x), (0, .ref (ad 55)), (2, .int y2), (3, .int y3), (4, .long y4), (7, .int y7), (8, .int y8)] dX10_planWeek_139 (by decide) rfl ?_
      refine x_iincN C 1 6 (fun x25 => [(7, .int x25), (6, .int y7), (9, .long t0x), (0, .ref (ad 55)), (2, .int y2), (3, .int y3), (4, .long y4), (8, .int y8)]) dX10_planWeek_141 rfl (by decide +kernel) (by decide) (fun _ => rfl) hF (fun x25 hF => ?_)
      refine x_goto C 15 dX10_planWeek_144 (by decide) ?_
      refine x_loc [(0, .ref (ad 55)), (2, .int y2), (3, .int y3), (4, .long y4), (6, .int y7), (7, .int x25)] [3, 4, 5, 6, 1, 0] rfl ?_
      exact H_15 y2 y3 y4 y7 x25 σ18 hF
set_option maxHeartbeats 4000000 in
set_option maxRecDepth 100000 in
theorem x_X10_planWeek_15 {p : Program} {l : Launch} {e : Env} {s : State} {m : MethodId} {args : Array Value} {below : List Frame} {meth : Method} {c : Code} {D : va_G} {K : Nat → ClassId} {A : Nat → Prop} {ad la : Nat → Nat} {rest : va_W} (C : xC p s m args meth c D K A RX10 cX10_planWeek 11 none) (z : Unit × xS) : ∀ (n : Nat) (y2 : Int32) (y3 : Int32) (y4 : Int64) (y6 : Int32) (y7 : Int32) (σ : xS), F_X10_planWeek_15  n y2 y3 y4 y6 y7 σ = some z → X p l e (xR 4 99) s m args below meth c D A 11 (xQv below D K A args s (CW K ad la rest z.2)) 0 0 15 [(0, .ref (ad 55)), (2, .int y2), (3, .int y3), (4, .long y4), (6, .int y6), (7, .int y7)] [] (CW K ad la rest σ) := by
  intro n
  induction n with
  | zero =>
    intro y2 y3 y4 y6 y7 σ hF
    cases hF
  | succ n ih =>
    intro y2 y3 y4 y6 y7 σ hF
    rw [F_X10_planWeek_15] at hF
    refine x_iload C 5 7 dX10_planWeek_15 rfl ?_
    refine x_bipush C 20 dX10_planWeek_17 (by decide +kernel) ?_
    refine x_icmp_gt C 147 dX10_planWeek_19 (by decide) hF (fun hF => ?_) (fun hF => ?_)
    · refine x_aload_n C 0 0 dX10_planWeek_147 rfl rfl ?_
      refine x_get C 55 dX10_planWeek_148 fl_X10_24 (CW_55 K ad la rest σ) rfl ?_
      refine x_iload_n C 1 2 dX10_planWeek_151 rfl rfl ?_
      refine x_iload C 4 6 dX10_planWeek_152 rfl ?_
      refine x_iast C 65 dX10_planWeek_154 (CW_65 K ad la rest σ) hF (CW_s65 K ad la rest σ _) (fun hF => ?_)
      refine x_st (wf := CW K ad la rest) hF (fun σ4 hF => ?_)
      refine x_aload_n C 0 0 dX10_planWeek_155 rfl rfl ?_
      refine x_get C 55 dX10_planWeek_156 fl_X10_20 (CW_55 K ad la rest σ4) rfl ?_
      refine x_iload_n C 1 2 dX10_planWeek_159 rfl rfl ?_
      refine x_aload_n C 0 0 dX10_planWeek_160 rfl rfl ?_
      refine x_get C 55 dX10_planWeek_161 fl_X10_17 (CW_55 K ad la rest σ4) rfl ?_
      refine x_iload_n C 1 2 dX10_planWeek_164 rfl rfl ?_
      refine x_aald C (t0 := 5) 57 dX10_planWeek_165 (CW_57 K ad la rest σ4) rfl rfl hF (fun hF hj5 => ?_)
      refine x_if_cast (st2 := [.ref (ad (58 + y2.toNatClampNeg)), .int y2, .ref (ad 64)]) rfl ?_
      refine x_iload C 4 6 dX10_planWeek_166 rfl ?_
      refine x_lald C (58 + y2.toNatClampNeg) dX10_planWeek_168 (CW_i57 K ad la rest σ4 (y2.toNatClampNeg) hj5) hF (fun v6 hF => ?_)
      refine x_aload_n C 0 0 dX10_planWeek_169 rfl rfl ?_
      refine x_get C 55 dX10_planWeek_170 fl_X10_27 (CW_55 K ad la rest σ4) rfl ?_
      refine x_get C 5 dX10_planWeek_173 fl_X10_35 (CW_5 K ad la rest σ4) rfl ?_
      refine x_iconst C 2 dX10_planWeek_176 (by decide +kernel) ?_
      refine x_iald C 38 dX10_planWeek_177 (CW_38 K ad la rest σ4) hF (fun v7 hF => ?_)
      refine x_i2l C dX10_planWeek_178 ?_
      refine x_lload C 3 4 dX10_planWeek_179 rfl ?_
      refine x_lmul C dX10_planWeek_181 ?_
      refine x_ldc2 C 100 dX10_planWeek_182 cl_X10_59 ?_
      refine x_lmul C dX10_planWeek_185 ?_
      refine x_lsub C dX10_planWeek_186 ?_
      refine x_last C 64 dX10_planWeek_187 (CW_64 K ad la rest σ4) hF (CW_s64 K ad la rest σ4 _) (fun hF => ?_)
      refine x_st (wf := CW K ad la rest) hF (fun σ8 hF => ?_)
      exact x_vret C dX10_planWeek_188 rfl (congrArg (fun q9 : Unit × xS => CW K ad la rest q9.2) (Option.some.inj hF))
    · refine x_aload_n C 0 0 dX10_planWeek_22 rfl rfl ?_
      refine x_get C 55 dX10_planWeek_23 fl_X10_31 (CW_55 K ad la rest σ) rfl ?_
      refine x_get C 44 dX10_planWeek_26 fl_X10_67 (CW_44 K ad la rest σ) rfl ?_
      refine x_iconst C 4 dX10_planWeek_29 (by decide +kernel) ?_
      refine x_aload_n C 0 0 dX10_planWeek_30 rfl rfl ?_
      refine x_get C 55 dX10_planWeek_31 fl_X10_9 (CW_55 K ad la rest σ) rfl ?_
      refine x_iload C 5 7 dX10_planWeek_34 rfl ?_
      refine x_iald C 56 dX10_planWeek_36 (CW_56 K ad la rest σ) hF (fun v9 hF => ?_)
      refine x_iast C 45 dX10_planWeek_37 (CW_45 K ad la rest σ) hF (CW_s45 K ad la rest σ _) (fun hF => ?_)
      refine x_st (wf := CW K ad la rest) hF (fun σ10 hF => ?_)
      refine x_aload_n C 0 0 dX10_planWeek_38 rfl rfl ?_
      refine x_get C 55 dX10_planWeek_39 fl_X10_31 (CW_55 K ad la rest σ10) rfl ?_
      refine x_callVI C (wf := CW K ad la rest) (As := []) (rest := []) dX10_planWeek_42 ml_X10_72 rfl rfl (Nat.le_of_ble_eq_true rfl) 44 (CW_44 K ad la rest σ10) rfl ⟨Nat.le_of_ble_eq_true rfl, Nat.le_of_ble_eq_true rfl⟩ ⟨Nat.zero_le _, Nat.zero_le _⟩ (fun q9 hq9 => c_X0_sells l D K ad la rest σ10 q9 hq9) hF (fun v12 σ11 hF => ?_)
      refine x_istore C [(8, .int v12), (0, .ref (ad 55)), (2, .int y2), (3, .int y3), (4, .long y4), (6, .int y6), (7, .int y7)] dX10_planWeek_45 (by decide) rfl ?_
      refine x_iload_n C 3 3 dX10_planWeek_47 rfl rfl ?_
      refine x_if_eq C 64 dX10_planWeek_48 (by decide) hF (fun hF => ?_) (fun hF => ?_)
      · refine x_aload_n C 1 0 dX10_planWeek_64 rfl rfl ?_
        refine x_iload_n C 2 2 dX10_planWeek_65 rfl rfl ?_
        refine x_iconst C 1 dX10_planWeek_66 (by decide +kernel) ?_
        refine x_iadd C dX10_planWeek_67 ?_
        refine x_iload C 6 7 dX10_planWeek_68 rfl ?_
        refine x_callVL C (wf := CW K ad la rest) (As := [.int (y2 + 1), .int y7]) (rest := []) dX10_planWeek_70 ml_X10_76 rfl rfl (Nat.le_of_ble_eq_true rfl) 55 (CW_55 K ad la rest σ11) rfl ⟨Nat.le_of_ble_eq_true rfl, Nat.le_of_ble_eq_true rfl⟩ ⟨Nat.zero_le _, Nat.zero_le _⟩ (fun q9 hq9 => c_X10_most l D K ad la rest (y2 + 1) y7 σ11 q9 hq9) hF (fun v14 σ13 hF => ?_)
        refine x_loc [(0, .ref (ad 55)), (2, .int y2), (3, .int y3), (4, .long y4), (6, .int y6), (7, .int y7), (8, .int v12)] [1, 2, 3, 4, 5, 6, 0] rfl ?_
        exact x_X10_planWeek_73 C z ((F_X10_planWeek_15 n)) ih y2 y3 y4 y6 y7 v12 v14 σ13 hF
      · refine x_aload_n C 1 0 dX10_planWeek_51 rfl rfl ?_
        refine x_get C 55 dX10_planWeek_52 fl_X10_27 (CW_55 K ad la rest σ11) rfl ?_
        refine x_get C 5 dX10_planWeek_55 fl_X10_35 (CW_5 K ad la rest σ11) rfl ?_
        refine x_iconst C 3 dX10_planWeek_58 (by decide +kernel) ?_
        refine x_iald C 38 dX10_planWeek_59 (CW_38 K ad la rest σ11) hF (fun v15 hF => ?_)
        refine x_i2l C dX10_planWeek_60 ?_
        refine x_goto C 73 dX10_planWeek_61 (by decide) ?_
        refine x_loc [(0, .ref (ad 55)), (2, .int y2), (3, .int y3), (4, .long y4), (6, .int y6), (7, .int y7), (8, .int v12)] [1, 2, 3, 4, 5, 6, 0] rfl ?_
        exact x_X10_planWeek_73 C z ((F_X10_planWeek_15 n)) ih y2 y3 y4 y6 y7 v12 (v15.toInt64) σ11 hF
set_option maxHeartbeats 4000000 in
set_option maxRecDepth 100000 in
theorem c_X10_planWeek (l : Launch) (D : va_G) (K : Nat → ClassId) (ad la : Nat → Nat) (rest : va_W)  (a1 : Int32) (a2 : Int32) (a3 : Int32) (a4 : Int64) (σ : xS) (z : Unit × xS) (hF : F_X10_planWeek a1 a2 a3 a4 σ = some z) : CV l D K yX10_planWeek cX10_planWeek 11 none 4 99 [.ref (ad 55), .int a1, .int a2, .int a3, .long a4] (CW K ad la rest σ) (CW K ad la rest z.2) := by
  refine x_enterV [(0, .ref (ad 55)), (1, .int a1), (2, .int a2), (3, .int a3), (4, .long a4)] pnX10 (Nat.le_of_ble_eq_true rfl) rfl ?_
  intro p e s m args below meth c A C
  unfold F_X10_planWeek at hF
  refine x_aload_n C 0 0 dX10_planWeek_0 rfl rfl ?_
  refine x_get C 55 dX10_planWeek_1 fl_X10_31 (CW_55 K ad la rest σ) rfl ?_
  refine x_iload_n C 1 1 dX10_planWeek_4 rfl rfl ?_
  refine x_iload_n C 2 2 dX10_planWeek_5 rfl rfl ?_
  refine x_callVV C (wf := CW K ad la rest) (As := [.int a1, .int a2]) (rest := []) dX10_planWeek_6 ml_X10_61 rfl rfl (Nat.le_of_ble_eq_true rfl) 44 (CW_44 K ad la rest σ) rfl ⟨Nat.le_of_ble_eq_true rfl, Nat.le_of_ble_eq_true rfl⟩ ⟨Nat.zero_le _, Nat.zero_le _⟩ (fun q9 hq9 => c_X0_about l D K ad la rest a1 a2 σ q9 hq9) hF (fun _ σ1 hF => ?_)
  refine x_iconst C 0 dX10_planWeek_9 (by decide +kernel) ?_
  refine x_topI hF (fun x2 hF => ?_)
  refine x_istore C [(6, .int x2), (0, .ref (ad 55)), (1, .int a1), (2, .int a2), (3, .int a3), (4, .long a4)] dX10_planWeek_10 (by decide) rfl ?_
  refine x_iconst C 0 dX10_planWeek_12 (by decide +kernel) ?_
  refine x_topI hF (fun x3 hF => ?_)
  refine x_istore C [(7, .int x3), (6, .int x2), (0, .ref (ad 55)), (1, .int a1), (2, .int a2), (3, .int a3), (4, .long a4)] dX10_planWeek_13 (by decide) rfl ?_
  refine x_loc [(0, .ref (ad 55)), (2, .int a2), (3, .int a3), (4, .long a4), (6, .int x2), (7, .int x3)] [2, 4, 5, 6, 1, 0] rfl ?_
  exact x_X10_planWeek_15 C z FU a2 a3 a4 x2 x3 σ1 hF
theorem dX10_plan_0 : decode cX10_plan 0 = .ok (.iconst 0, 1) := by decide +kernel
theorem dX10_plan_1 : decode cX10_plan 1 = .ok (.istore_n 3, 1) := by decide +kernel
theorem dX10_plan_2 : decode cX10_plan 2 = .ok (.iload_n 3, 1) := by decide +kernel
theorem dX10_plan_3 : decode cX10_plan 3 = .ok (.bipush 20, 2) := by decide +kernel
theorem dX10_plan_5 : decode cX10_plan 5 = .ok (.if_icmp .ge 28, 3) := by decide +kernel
theorem dX10_plan_8 : decode cX10_plan 8 = .ok (.aload_n 0, 1) := by decide +kernel
theorem dX10_plan_9 : decode cX10_plan 9 = .ok (.getfield 9, 3) := by decide +kernel
theorem dX10_plan_12 : decode cX10_plan 12 = .ok (.iload_n 3, 1) := by decide +kernel
theorem dX10_plan_13 : decode cX10_plan 13 = .ok (.iload_n 3, 1) := by decide +kernel
theorem dX10_plan_14 : decode cX10_plan 14 = .ok (.iconst 1, 1) := by decide +kernel
theorem dX10_plan_15 : decode cX10_plan 15 = .ok (.iadd, 1) := by decide +kernel
theorem dX10_plan_16 : decode cX10_plan 16 = .ok (.aload_n 0, 1) := by decide +kernel
theorem dX10_plan_17 : decode cX10_plan 17 = .ok (.getfield 27, 3) := by decide +kernel
theorem dX10_plan_20 : decode cX10_plan 20 = .ok (.getfield 35, 3) := by decide +kernel
theorem dX10_plan_23 : decode cX10_plan 23 = .ok (.iconst 5, 1) := by decide +kernel
theorem dX10_plan_24 : decode cX10_plan 24 = .ok (.iaload, 1) := by decide +kernel
theorem dX10_plan_25 : decode cX10_plan 25 = .ok (.imul, 1) := by decide +kernel
theorem dX10_plan_26 : decode cX10_plan 26 = .ok (.iastore, 1) := by decide +kernel
theorem dX10_plan_27 : decode cX10_plan 27 = .ok (.iinc 3 1, 3) := by decide +kernel
theorem dX10_plan_30 : decode cX10_plan 30 = .ok (.goto (-28), 3) := by decide +kernel
theorem dX10_plan_33 : decode cX10_plan 33 = .ok (.aload_n 0, 1) := by decide +kernel
theorem dX10_plan_34 : decode cX10_plan 34 = .ok (.getfield 9, 3) := by decide +kernel
theorem dX10_plan_37 : decode cX10_plan 37 = .ok (.bipush 20, 2) := by decide +kernel
theorem dX10_plan_39 : decode cX10_plan 39 = .ok (.aload_n 0, 1) := by decide +kernel
theorem dX10_plan_40 : decode cX10_plan 40 = .ok (.getfield 27, 3) := by decide +kernel
theorem dX10_plan_43 : decode cX10_plan 43 = .ok (.getfield 40, 3) := by decide +kernel
theorem dX10_plan_46 : decode cX10_plan 46 = .ok (.iload_n 1, 1) := by decide +kernel
theorem dX10_plan_47 : decode cX10_plan 47 = .ok (.iconst 3, 1) := by decide +kernel
theorem dX10_plan_48 : decode cX10_plan 48 = .ok (.invokevirtual 44, 3) := by decide +kernel
theorem dX10_plan_51 : decode cX10_plan 51 = .ok (.iastore, 1) := by decide +kernel
theorem dX10_plan_52 : decode cX10_plan 52 = .ok (.lconst 1, 1) := by decide +kernel
theorem dX10_plan_53 : decode cX10_plan 53 = .ok (.lstore_n 3, 1) := by decide +kernel
theorem dX10_plan_54 : decode cX10_plan 54 = .ok (.iload_n 2, 1) := by decide +kernel
theorem dX10_plan_55 : decode cX10_plan 55 = .ok (.bipush 6, 2) := by decide +kernel
theorem dX10_plan_57 : decode cX10_plan 57 = .ok (.invokestatic 50, 3) := by decide +kernel
theorem dX10_plan_60 : decode cX10_plan 60 = .ok (.iconst 1, 1) := by decide +kernel
theorem dX10_plan_61 : decode cX10_plan 61 = .ok (.isub, 1) := by decide +kernel
theorem dX10_plan_62 : decode cX10_plan 62 = .ok (.istore 5, 2) := by decide +kernel
theorem dX10_plan_64 : decode cX10_plan 64 = .ok (.iload 5, 2) := by decide +kernel
theorem dX10_plan_66 : decode cX10_plan 66 = .ok (.ifCond .lt 36, 3) := by decide +kernel
theorem dX10_plan_69 : decode cX10_plan 69 = .ok (.aload_n 0, 1) := by decide +kernel
theorem dX10_plan_70 : decode cX10_plan 70 = .ok (.iload_n 1, 1) := by decide +kernel
theorem dX10_plan_71 : decode cX10_plan 71 = .ok (.iload 5, 2) := by decide +kernel
theorem dX10_plan_73 : decode cX10_plan 73 = .ok (.iload 5, 2) := by decide +kernel
theorem dX10_plan_75 : decode cX10_plan 75 = .ok (.iload_n 2, 1) := by decide +kernel
theorem dX10_plan_76 : decode cX10_plan 76 = .ok (.iconst 1, 1) := by decide +kernel
theorem dX10_plan_77 : decode cX10_plan 77 = .ok (.isub, 1) := by decide +kernel
theorem dX10_plan_78 : decode cX10_plan 78 = .ok (.if_icmp .ne 7, 3) := by decide +kernel
theorem dX10_plan_81 : decode cX10_plan 81 = .ok (.iconst 1, 1) := by decide +kernel
theorem dX10_plan_82 : decode cX10_plan 82 = .ok (.goto 4, 3) := by decide +kernel
theorem dX10_plan_85 : decode cX10_plan 85 = .ok (.iconst 0, 1) := by decide +kernel
theorem dX10_plan_86 : decode cX10_plan 86 = .ok (.lload_n 3, 1) := by decide +kernel
theorem dX10_plan_87 : decode cX10_plan 87 = .ok (.invokevirtual 55, 3) := by decide +kernel
theorem dX10_plan_90 : decode cX10_plan 90 = .ok (.lload_n 3, 1) := by decide +kernel
theorem dX10_plan_91 : decode cX10_plan 91 = .ok (.ldc2_w 59, 3) := by decide +kernel
theorem dX10_plan_94 : decode cX10_plan 94 = .ok (.lmul, 1) := by decide +kernel
theorem dX10_plan_95 : decode cX10_plan 95 = .ok (.lstore_n 3, 1) := by decide +kernel
theorem dX10_plan_96 : decode cX10_plan 96 = .ok (.iinc 5 (-1), 3) := by decide +kernel
theorem dX10_plan_99 : decode cX10_plan 99 = .ok (.goto (-35), 3) := by decide +kernel
theorem dX10_plan_102 : decode cX10_plan 102 = .ok (.return_, 1) := by decide +kernel
set_option maxHeartbeats 4000000 in
set_option maxRecDepth 100000 in
theorem x_X10_plan_86 {p : Program} {l : Launch} {e : Env} {s : State} {m : MethodId} {args : Array Value} {below : List Frame} {meth : Method} {c : Code} {D : va_G} {K : Nat → ClassId} {A : Nat → Prop} {ad la : Nat → Nat} {rest : va_W} (C : xC p s m args meth c D K A RX10 cX10_plan 6 none) (z : Unit × xS) (k_64 : Int32 → Int32 → Int64 → Int32 → xS → Option (Unit × xS)) (H_64 : ∀ (y1 : Int32) (y2 : Int32) (y3 : Int64) (y5 : Int32) (σ : xS), k_64 y1 y2 y3 y5 σ = some z → X p l e (xR 5 129) s m args below meth c D A 6 (xQv below D K A args s (CW K ad la rest z.2)) 0 0 64 [(0, .ref (ad 55)), (1, .int y1), (2, .int y2), (3, .long y3), (5, .int y5)] [] (CW K ad la rest σ)) : ∀ (y1 : Int32) (y2 : Int32) (y3 : Int64) (y5 : Int32) (t1x : Int32) (t2x : Int32) (t3x : Int32) (σ : xS), F_X10_plan_86 k_64 y1 y2 y3 y5 t1x t2x t3x σ = some z → X p l e (xR 5 129) s m args below meth c D A 6 (xQv below D K A args s (CW K ad la rest z.2)) 0 0 86 [(0, .ref (ad 55)), (1, .int y1), (2, .int y2), (3, .long y3), (5, .int y5)] [.int t3x, .int t2x, .int t1x, .ref (ad 55)] (CW K ad la rest σ) := by
  intro y1 y2 y3 y5 t1x t2x t3x σ hF
  unfold F_X10_plan_86 at hF
  refine x_lload_n C 3 3 dX10_plan_86 rfl rfl ?_
  refine x_callVV C (wf := CW K ad la rest) (As := [.int t1x, .int t2x, .int t3x, .long y3]) (rest := []) dX10_plan_87 ml_X10_55 rfl rfl (Nat.le_of_ble_eq_true rfl) 55 (CW_55 K ad la rest σ) rfl ⟨Nat.le_of_ble_eq_true rfl, Nat.le_of_ble_eq_true rfl⟩ ⟨Nat.zero_le _, Nat.zero_le _⟩ (fun q9 hq9 => c_X10_planWeek l D K ad la rest t1x t2x t3x y3 σ q9 hq9) hF (fun _ σ10 hF => ?_)
  refine x_lload_n C 3 3 dX10_plan_90 rfl rfl ?_
  refine x_ldc2 C 100 dX10_plan_91 cl_X10_59 ?_
  refine x_lmul C dX10_plan_94 ?_
  refine x_topL hF (fun x11 hF => ?_)
  refine x_lstore_n C [(3, .long x11), (0, .ref (ad 55)), (1, .int y1), (2, .int y2), (5, .int y5)] dX10_plan_95 rfl (by decide) rfl ?_
  refine x_iincN C (-1) 4 (fun x12 => [(5, .int x12), (3, .long x11), (0, .ref (ad 55)), (1, .int y1), (2, .int y2)]) dX10_plan_96 rfl (by decide +kernel) (by decide) (fun _ => rfl) hF (fun x12 hF => ?_)
  refine x_goto C 64 dX10_plan_99 (by decide) ?_
  refine x_loc [(0, .ref (ad 55)), (1, .int y1), (2, .int y2), (3, .long x11), (5, .int x12)] [2, 3, 4, 1, 0] rfl ?_
  exact H_64 y1 y2 x11 x12 σ10 hF
set_option maxHeartbeats 4000000 in
set_option maxRecDepth 100000 in
theorem x_X10_plan_64 {p : Program} {l : Launch} {e : Env} {s : State} {m : MethodId} {args : Array Value} {below : List Frame} {meth : Method} {c : Code} {D : va_G} {K : Nat → ClassId} {A : Nat → Prop} {ad la : Nat → Nat} {rest : va_W} (C : xC p s m args meth c D K A RX10 cX10_plan 6 none) (z : Unit × xS) : ∀ (n : Nat) (y1 : Int32) (y2 : Int32) (y3 : Int64) (y5 : Int32) (σ : xS), F_X10_plan_64  n y1 y2 y3 y5 σ = some z → X p l e (xR 5 129) s m args below meth c D A 6 (xQv below D K A args s (CW K ad la rest z.2)) 0 0 64 [(0, .ref (ad 55)), (1, .int y1), (2, .int y2), (3, .long y3), (5, .int y5)] [] (CW K ad la rest σ) := by
  intro n
  induction n with
  | zero =>
    intro y1 y2 y3 y5 σ hF
    cases hF
  | succ n ih =>
    intro y1 y2 y3 y5 σ hF
    rw [F_X10_plan_64] at hF
    refine x_iload C 4 5 dX10_plan_64 rfl ?_
    refine x_if_lt C 102 dX10_plan_66 (by decide) hF (fun hF => ?_) (fun hF => ?_)
    · exact x_vret C dX10_plan_102 rfl (congrArg (fun q9 : Unit × xS => CW K ad la rest q9.2) (Option.some.inj hF))
    · refine x_aload_n C 0 0 dX10_plan_69 rfl rfl ?_
      refine x_iload_n C 1 1 dX10_plan_70 rfl rfl ?_
      refine x_iload C 4 5 dX10_plan_71 rfl ?_
      refine x_iload C 4 5 dX10_plan_73 rfl ?_
      refine x_iload_n C 2 2 dX10_plan_75 rfl rfl ?_
      refine x_iconst C 1 dX10_plan_76 (by decide +kernel) ?_
      refine x_isub C dX10_plan_77 ?_
      refine x_icmp_ne C 85 dX10_plan_78 (by decide) hF (fun hF => ?_) (fun hF => ?_)
      · refine x_iconst C 0 dX10_plan_85 (by decide +kernel) ?_
        exact x_X10_plan_86 C z ((F_X10_plan_64 n)) ih y1 y2 y3 y5 y1 y5 0 σ hF
      · refine x_iconst C 1 dX10_plan_81 (by decide +kernel) ?_
        refine x_goto C 86 dX10_plan_82 (by decide) ?_
        exact x_X10_plan_86 C z ((F_X10_plan_64 n)) ih y1 y2 y3 y5 y1 y5 1 σ hF
set_option maxHeartbeats 4000000 in
set_option maxRecDepth 100000 in
theorem x_X10_plan_2 {p : Program} {l : Launch} {e : Env} {s : State} {m : MethodId} {args : Array Value} {below : List Frame} {meth : Method} {c : Code} {D : va_G} {K : Nat → ClassId} {A : Nat → Prop} {ad la : Nat → Nat} {rest : va_W} (C : xC p s m args meth c D K A RX10 cX10_plan 6 none) (z : Unit × xS) : ∀ (n : Nat) (y1 : Int32) (y2 : Int32) (y3 : Int32) (σ : xS), F_X10_plan_2  n y1 y2 y3 σ = some z → X p l e (xR 5 129) s m args below meth c D A 6 (xQv below D K A args s (CW K ad la rest z.2)) 0 0 2 [(0, .ref (ad 55)), (1, .int y1), (2, .int y2), (3, .int y3)] [] (CW K ad la rest σ) := by
  intro n
  induction n with
  | zero =>
    intro y1 y2 y3 σ hF
    cases hF
  | succ n ih =>
    intro y1 y2 y3 σ hF
    rw [F_X10_plan_2] at hF
    refine x_iload_n C 3 3 dX10_plan_2 rfl rfl ?_
    refine x_bipush C 20 dX10_plan_3 (by decide +kernel) ?_
    refine x_icmp_ge C 33 dX10_plan_5 (by decide) hF (fun hF => ?_) (fun hF => ?_)
    · refine x_aload_n C 0 0 dX10_plan_33 rfl rfl ?_
      refine x_get C 55 dX10_plan_34 fl_X10_9 (CW_55 K ad la rest σ) rfl ?_
      refine x_bipush C 20 dX10_plan_37 (by decide +kernel) ?_
      refine x_aload_n C 0 0 dX10_plan_39 rfl rfl ?_
      refine x_get C 55 dX10_plan_40 fl_X10_27 (CW_55 K ad la rest σ) rfl ?_
      refine x_get C 5 dX10_plan_43 fl_X10_40 (CW_5 K ad la rest σ) rfl ?_
      refine x_iload_n C 1 1 dX10_plan_46 rfl rfl ?_
      refine x_iconst C 3 dX10_plan_47 (by decide +kernel) ?_
      refine x_callVI C (wf := CW K ad la rest) (As := [.int y1, .int 3]) (rest := [.int 20, .ref (ad 56)]) dX10_plan_48 ml_X10_44 rfl rfl (Nat.le_of_ble_eq_true rfl) 8 (CW_8 K ad la rest σ) rfl ⟨Nat.le_of_ble_eq_true rfl, Nat.le_of_ble_eq_true rfl⟩ ⟨Nat.zero_le _, Nat.zero_le _⟩ (fun q9 hq9 => c_X6_get l D K ad la rest 0 (by decide) y1 3 σ q9 hq9) hF (fun v3 σ2 hF => ?_)
      refine x_iast C 56 dX10_plan_51 (CW_56 K ad la rest σ2) hF (CW_s56 K ad la rest σ2 _) (fun hF => ?_)
      refine x_st (wf := CW K ad la rest) hF (fun σ4 hF => ?_)
      refine x_lconst C 1 dX10_plan_52 (by decide +kernel) ?_
      refine x_topL hF (fun x5 hF => ?_)
      refine x_lstore_n C [(3, .long x5), (0, .ref (ad 55)), (1, .int y1), (2, .int y2)] dX10_plan_53 rfl (by decide) rfl ?_
      refine x_iload_n C 3 2 dX10_plan_54 rfl rfl ?_
      refine x_bipush C 6 dX10_plan_55 (by decide +kernel) ?_
      refine x_mmin C dX10_plan_57 wl_X10_50 jMinI ⟨Nat.le_of_ble_eq_true rfl, Nat.le_of_ble_eq_true rfl⟩ ⟨Nat.zero_le _, Nat.zero_le _⟩ ?_
      refine x_iconst C 1 dX10_plan_60 (by decide +kernel) ?_
      refine x_isub C dX10_plan_61 ?_
      refine x_topI hF (fun x6 hF => ?_)
      refine x_istore C [(5, .int x6), (3, .long x5), (0, .ref (ad 55)), (1, .int y1), (2, .int y2)] dX10_plan_62 (by decide) rfl ?_
      refine x_loc [(0, .ref (ad 55)), (1, .int y1), (2, .int y2), (3, .long x5), (5, .int x6)] [2, 3, 4, 1, 0] rfl ?_
      exact x_X10_plan_64 C z FU y1 y2 x5 x6 σ4 hF
    · refine x_aload_n C 0 0 dX10_plan_8 rfl rfl ?_
      refine x_get C 55 dX10_plan_9 fl_X10_9 (CW_55 K ad la rest σ) rfl ?_
      refine x_iload_n C 3 3 dX10_plan_12 rfl rfl ?_
      refine x_iload_n C 3 3 dX10_plan_13 rfl rfl ?_
      refine x_iconst C 1 dX10_plan_14 (by decide +kernel) ?_
      refine x_iadd C dX10_plan_15 ?_
      refine x_aload_n C 0 0 dX10_plan_16 rfl rfl ?_
      refine x_get C 55 dX10_plan_17 fl_X10_27 (CW_55 K ad la rest σ) rfl ?_
      refine x_get C 5 dX10_plan_20 fl_X10_35 (CW_5 K ad la rest σ) rfl ?_
      refine x_iconst C 5 dX10_plan_23 (by decide +kernel) ?_
      refine x_iald C 38 dX10_plan_24 (CW_38 K ad la rest σ) hF (fun v7 hF => ?_)
      refine x_imul C dX10_plan_25 ?_
      refine x_iast C 56 dX10_plan_26 (CW_56 K ad la rest σ) hF (CW_s56 K ad la rest σ _) (fun hF => ?_)
      refine x_st (wf := CW K ad la rest) hF (fun σ8 hF => ?_)
      refine x_iincN C 1 3 (fun x9 => [(3, .int x9), (0, .ref (ad 55)), (1, .int y1), (2, .int y2)]) dX10_plan_27 rfl (by decide +kernel) (by decide) (fun _ => rfl) hF (fun x9 hF => ?_)
      refine x_goto C 2 dX10_plan_30 (by decide) ?_
      refine x_loc [(0, .ref (ad 55)), (1, .int y1), (2, .int y2), (3, .int x9)] [1, 2, 3, 0] rfl ?_
      exact ih y1 y2 x9 σ8 hF
set_option maxHeartbeats 4000000 in
set_option maxRecDepth 100000 in
theorem c_X10_plan (l : Launch) (D : va_G) (K : Nat → ClassId) (ad la : Nat → Nat) (rest : va_W)  (a1 : Int32) (a2 : Int32) (σ : xS) (z : Unit × xS) (hF : F_X10_plan a1 a2 σ = some z) : CV l D K yX10_plan cX10_plan 6 none 5 129 [.ref (ad 55), .int a1, .int a2] (CW K ad la rest σ) (CW K ad la rest z.2) := by
  refine x_enterV [(0, .ref (ad 55)), (1, .int a1), (2, .int a2)] pnX10 (Nat.le_of_ble_eq_true rfl) rfl ?_
  intro p e s m args below meth c A C
  unfold F_X10_plan at hF
  refine x_iconst C 0 dX10_plan_0 (by decide +kernel) ?_
  refine x_topI hF (fun x1 hF => ?_)
  refine x_istore_n C [(3, .int x1), (0, .ref (ad 55)), (1, .int a1), (2, .int a2)] dX10_plan_1 rfl (by decide) rfl ?_
  refine x_loc [(0, .ref (ad 55)), (1, .int a1), (2, .int a2), (3, .int x1)] [1, 2, 3, 0] rfl ?_
  exact x_X10_plan_2 C z FU a1 a2 x1 σ hF
