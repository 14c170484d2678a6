theorem dJI_bitCount_0 : decode cJI_bitCount 0 = .ok (.iload_n 0, 1) := by decide +kernel
theorem dJI_bitCount_1 : decode cJI_bitCount 1 = .ok (.iload_n 0, 1) := by decide +kernel
theorem dJI_bitCount_2 : decode cJI_bitCount 2 = .ok (.iconst 1, 1) := by decide +kernel
theorem dJI_bitCount_3 : decode cJI_bitCount 3 = .ok (.iushr, 1) := by decide +kernel
theorem dJI_bitCount_4 : decode cJI_bitCount 4 = .ok (.ldc_w 265, 3) := by decide +kernel
theorem dJI_bitCount_7 : decode cJI_bitCount 7 = .ok (.iand, 1) := by decide +kernel
theorem dJI_bitCount_8 : decode cJI_bitCount 8 = .ok (.isub, 1) := by decide +kernel
theorem dJI_bitCount_9 : decode cJI_bitCount 9 = .ok (.istore_n 0, 1) := by decide +kernel
theorem dJI_bitCount_10 : decode cJI_bitCount 10 = .ok (.iload_n 0, 1) := by decide +kernel
theorem dJI_bitCount_11 : decode cJI_bitCount 11 = .ok (.ldc_w 266, 3) := by decide +kernel
theorem dJI_bitCount_14 : decode cJI_bitCount 14 = .ok (.iand, 1) := by decide +kernel
theorem dJI_bitCount_15 : decode cJI_bitCount 15 = .ok (.iload_n 0, 1) := by decide +kernel
theorem dJI_bitCount_16 : decode cJI_bitCount 16 = .ok (.iconst 2, 1) := by decide +kernel
theorem dJI_bitCount_17 : decode cJI_bitCount 17 = .ok (.iushr, 1) := by decide +kernel
theorem dJI_bitCount_18 : decode cJI_bitCount 18 = .ok (.ldc_w 266, 3) := by decide +kernel
theorem dJI_bitCount_21 : decode cJI_bitCount 21 = .ok (.iand, 1) := by decide +kernel
theorem dJI_bitCount_22 : decode cJI_bitCount 22 = .ok (.iadd, 1) := by decide +kernel
theorem dJI_bitCount_23 : decode cJI_bitCount 23 = .ok (.istore_n 0, 1) := by decide +kernel
theorem dJI_bitCount_24 : decode cJI_bitCount 24 = .ok (.iload_n 0, 1) := by decide +kernel
theorem dJI_bitCount_25 : decode cJI_bitCount 25 = .ok (.iload_n 0, 1) := by decide +kernel
theorem dJI_bitCount_26 : decode cJI_bitCount 26 = .ok (.iconst 4, 1) := by decide +kernel
theorem dJI_bitCount_27 : decode cJI_bitCount 27 = .ok (.iushr, 1) := by decide +kernel
theorem dJI_bitCount_28 : decode cJI_bitCount 28 = .ok (.iadd, 1) := by decide +kernel
theorem dJI_bitCount_29 : decode cJI_bitCount 29 = .ok (.ldc_w 267, 3) := by decide +kernel
theorem dJI_bitCount_32 : decode cJI_bitCount 32 = .ok (.iand, 1) := by decide +kernel
theorem dJI_bitCount_33 : decode cJI_bitCount 33 = .ok (.istore_n 0, 1) := by decide +kernel
theorem dJI_bitCount_34 : decode cJI_bitCount 34 = .ok (.iload_n 0, 1) := by decide +kernel
theorem dJI_bitCount_35 : decode cJI_bitCount 35 = .ok (.iload_n 0, 1) := by decide +kernel
theorem dJI_bitCount_36 : decode cJI_bitCount 36 = .ok (.bipush 8, 2) := by decide +kernel
theorem dJI_bitCount_38 : decode cJI_bitCount 38 = .ok (.iushr, 1) := by decide +kernel
theorem dJI_bitCount_39 : decode cJI_bitCount 39 = .ok (.iadd, 1) := by decide +kernel
theorem dJI_bitCount_40 : decode cJI_bitCount 40 = .ok (.istore_n 0, 1) := by decide +kernel
theorem dJI_bitCount_41 : decode cJI_bitCount 41 = .ok (.iload_n 0, 1) := by decide +kernel
theorem dJI_bitCount_42 : decode cJI_bitCount 42 = .ok (.iload_n 0, 1) := by decide +kernel
theorem dJI_bitCount_43 : decode cJI_bitCount 43 = .ok (.bipush 16, 2) := by decide +kernel
theorem dJI_bitCount_45 : decode cJI_bitCount 45 = .ok (.iushr, 1) := by decide +kernel
theorem dJI_bitCount_46 : decode cJI_bitCount 46 = .ok (.iadd, 1) := by decide +kernel
theorem dJI_bitCount_47 : decode cJI_bitCount 47 = .ok (.istore_n 0, 1) := by decide +kernel
theorem dJI_bitCount_48 : decode cJI_bitCount 48 = .ok (.iload_n 0, 1) := by decide +kernel
theorem dJI_bitCount_49 : decode cJI_bitCount 49 = .ok (.bipush 63, 2) := by decide +kernel
theorem dJI_bitCount_51 : decode cJI_bitCount 51 = .ok (.iand, 1) := by decide +kernel
theorem dJI_bitCount_52 : decode cJI_bitCount 52 = .ok (.ireturn, 1) := by decide +kernel
set_option maxHeartbeats 4000000 in
set_option maxRecDepth 100000 in
theorem c_JI_bitCount (l : Launch) (D : va_G) (K : Nat → ClassId) (ad la : Nat → Nat) (rest : va_W)  (a1 : Int32) (σ : xS) (z : Int32 × xS) (hF : F_JI_bitCount a1 σ = some z) : CI l D K yJI_bitCount cJI_bitCount 1 (some .int) 0 0 [.int a1] (CW K ad la rest σ) z.1 (CW K ad la rest z.2) := by
  refine x_enterI [(0, .int a1)] pnJI (Nat.le_of_ble_eq_true rfl) rfl ?_
  intro p e s m args below meth c A C
  unfold F_JI_bitCount at hF
  refine x_iload_n C 0 0 dJI_bitCount_0 rfl rfl ?_
  refine x_iload_n C 0 0 dJI_bitCount_1 rfl rfl ?_
  refine x_iconst C 1 dJI_bitCount_2 (by decide +kernel) ?_
  refine x_iushr C dJI_bitCount_3 ?_
  refine x_ldcw C 1431655765 dJI_bitCount_4 cl_JI_265 ?_
  refine x_iand C dJI_bitCount_7 ?_
  refine x_isub C dJI_bitCount_8 ?_
  refine x_topI hF (fun x1 hF => ?_)
  refine x_istore_n C [(0, .int x1)] dJI_bitCount_9 rfl (by decide) rfl ?_
  refine x_iload_n C 0 0 dJI_bitCount_10 rfl rfl ?_
  refine x_ldcw C 858993459 dJI_bitCount_11 cl_JI_266 ?_
  refine x_iand C dJI_bitCount_14 ?_
  refine x_iload_n C 0 0 dJI_bitCount_15 rfl rfl ?_
  refine x_iconst C 2 dJI_bitCount_16 (by decide +kernel) ?_
  refine x_iushr C dJI_bitCount_17 ?_
  refine x_ldcw C 858993459 dJI_bitCount_18 cl_JI_266 ?_
  refine x_iand C dJI_bitCount_21 ?_
  refine x_iadd C dJI_bitCount_22 ?_
  refine x_topI hF (fun x2 hF => ?_)
  refine x_istore_n C [(0, .int x2)] dJI_bitCount_23 rfl (by decide) rfl ?_
  refine x_iload_n C 0 0 dJI_bitCount_24 rfl rfl ?_
  refine x_iload_n C 0 0 dJI_bitCount_25 rfl rfl ?_
  refine x_iconst C 4 dJI_bitCount_26 (by decide +kernel) ?_
  refine x_iushr C dJI_bitCount_27 ?_
  refine x_iadd C dJI_bitCount_28 ?_
  refine x_ldcw C 252645135 dJI_bitCount_29 cl_JI_267 ?_
  refine x_iand C dJI_bitCount_32 ?_
  refine x_topI hF (fun x3 hF => ?_)
  refine x_istore_n C [(0, .int x3)] dJI_bitCount_33 rfl (by decide) rfl ?_
  refine x_iload_n C 0 0 dJI_bitCount_34 rfl rfl ?_
  refine x_iload_n C 0 0 dJI_bitCount_35 rfl rfl ?_
  refine x_bipush C 8 dJI_bitCount_36 (by decide +kernel) ?_
  refine x_iushr C dJI_bitCount_38 ?_
  refine x_iadd C dJI_bitCount_39 ?_
  refine x_topI hF (fun x4 hF => ?_)
  refine x_istore_n C [(0, .int x4)] dJI_bitCount_40 rfl (by decide) rfl ?_
  refine x_iload_n C 0 0 dJI_bitCount_41 rfl rfl ?_
  refine x_iload_n C 0 0 dJI_bitCount_42 rfl rfl ?_
  refine x_bipush C 16 dJI_bitCount_43 (by decide +kernel) ?_
  refine x_iushr C dJI_bitCount_45 ?_
  refine x_iadd C dJI_bitCount_46 ?_
  refine x_topI hF (fun x5 hF => ?_)
  refine x_istore_n C [(0, .int x5)] dJI_bitCount_47 rfl (by decide) rfl ?_
  refine x_iload_n C 0 0 dJI_bitCount_48 rfl rfl ?_
  refine x_bipush C 63 dJI_bitCount_49 (by decide +kernel) ?_
  refine x_iand C dJI_bitCount_51 ?_
  exact x_iret C dJI_bitCount_52 rfl (congrArg Prod.fst (Option.some.inj hF)) (congrArg (fun q9 : Int32 × xS => CW K ad la rest q9.2) (Option.some.inj hF))
theorem dX6_has_0 : decode cX6_has 0 = .ok (.iload_n 1, 1) := by decide +kernel
theorem dX6_has_1 : decode cX6_has 1 = .ok (.ifCond .lt 15, 3) := by decide +kernel
theorem dX6_has_4 : decode cX6_has 4 = .ok (.iload_n 1, 1) := by decide +kernel
theorem dX6_has_5 : decode cX6_has 5 = .ok (.aload_n 0, 1) := by decide +kernel
theorem dX6_has_6 : decode cX6_has 6 = .ok (.getfield 22, 3) := by decide +kernel
theorem dX6_has_9 : decode cX6_has 9 = .ok (.if_icmp .ge 7, 3) := by decide +kernel
theorem dX6_has_12 : decode cX6_has 12 = .ok (.iconst 1, 1) := by decide +kernel
theorem dX6_has_13 : decode cX6_has 13 = .ok (.goto 4, 3) := by decide +kernel
theorem dX6_has_16 : decode cX6_has 16 = .ok (.iconst 0, 1) := by decide +kernel
theorem dX6_has_17 : decode cX6_has 17 = .ok (.ireturn, 1) := by decide +kernel
set_option maxHeartbeats 4000000 in
set_option maxRecDepth 100000 in
theorem c_X6_has (l : Launch) (D : va_G) (K : Nat → ClassId) (ad la : Nat → Nat) (rest : va_W) (r : Nat) (hr : r < 15) (a1 : Int32) (σ : xS) (z : Int32 × xS) (hF : F_X6_has r a1 σ = some z) : CI l D K yX6_has cX6_has 2 (some .boolean) 0 0 [.ref (ad (8 + 2 * r)), .int a1] (CW K ad la rest σ) z.1 (CW K ad la rest z.2) := by
  refine x_enterI [(0, .ref (ad (8 + 2 * r))), (1, .int a1)] pnX6 (Nat.le_of_ble_eq_true rfl) rfl ?_
  intro p e s m args below meth c A C
  unfold F_X6_has at hF
  refine x_iload_n C 1 1 dX6_has_0 rfl rfl ?_
  refine x_if_lt C 16 dX6_has_1 (by decide) hF (fun hF => ?_) (fun hF => ?_)
  · refine x_iconst C 0 dX6_has_16 (by decide +kernel) ?_
    have hz := (cz_some hF).1
    replace hF := (cz_some hF).2
    exact x_zret C dX6_has_17 rfl hz (congrArg Prod.fst (Option.some.inj hF)) (congrArg (fun q9 : Int32 × xS => CW K ad la rest q9.2) (Option.some.inj hF))
  · refine x_iload_n C 1 1 dX6_has_4 rfl rfl ?_
    refine x_aload_n C 0 0 dX6_has_5 rfl rfl ?_
    refine x_get C (8 + 2 * r) dX6_has_6 fl_X6_22 (CW_r K ad la rest σ r hr) rfl ?_
    refine x_icmp_ge C 16 dX6_has_9 (by decide) hF (fun hF => ?_) (fun hF => ?_)
    · refine x_iconst C 0 dX6_has_16 (by decide +kernel) ?_
      have hz := (cz_some hF).1
      replace hF := (cz_some hF).2
      exact x_zret C dX6_has_17 rfl hz (congrArg Prod.fst (Option.some.inj hF)) (congrArg (fun q9 : Int32 × xS => CW K ad la rest q9.2) (Option.some.inj hF))
    · refine x_iconst C 1 dX6_has_12 (by decide +kernel) ?_
      refine x_goto C 17 dX6_has_13 (by decide) ?_
      have hz := (cz_some hF).1
      replace hF := (cz_some hF).2
      exact x_zret C dX6_has_17 rfl hz (congrArg Prod.fst (Option.some.inj hF)) (congrArg (fun q9 : Int32 × xS => CW K ad la rest q9.2) (Option.some.inj hF))
theorem dX6_get_0 : decode cX6_get 0 = .ok (.aload_n 0, 1) := by decide +kernel
theorem dX6_get_1 : decode cX6_get 1 = .ok (.iload_n 1, 1) := by decide +kernel
theorem dX6_get_2 : decode cX6_get 2 = .ok (.invokevirtual 25, 3) := by decide +kernel
theorem dX6_get_5 : decode cX6_get 5 = .ok (.ifCond .eq 31, 3) := by decide +kernel
theorem dX6_get_8 : decode cX6_get 8 = .ok (.iload_n 2, 1) := by decide +kernel
theorem dX6_get_9 : decode cX6_get 9 = .ok (.ifCond .lt 27, 3) := by decide +kernel
theorem dX6_get_12 : decode cX6_get 12 = .ok (.iload_n 2, 1) := by decide +kernel
theorem dX6_get_13 : decode cX6_get 13 = .ok (.aload_n 0, 1) := by decide +kernel
theorem dX6_get_14 : decode cX6_get 14 = .ok (.getfield 15, 3) := by decide +kernel
theorem dX6_get_17 : decode cX6_get 17 = .ok (.if_icmp .ge 19, 3) := by decide +kernel
theorem dX6_get_20 : decode cX6_get 20 = .ok (.aload_n 0, 1) := by decide +kernel
theorem dX6_get_21 : decode cX6_get 21 = .ok (.getfield 18, 3) := by decide +kernel
theorem dX6_get_24 : decode cX6_get 24 = .ok (.iload_n 1, 1) := by decide +kernel
theorem dX6_get_25 : decode cX6_get 25 = .ok (.aload_n 0, 1) := by decide +kernel
theorem dX6_get_26 : decode cX6_get 26 = .ok (.getfield 15, 3) := by decide +kernel
theorem dX6_get_29 : decode cX6_get 29 = .ok (.imul, 1) := by decide +kernel
theorem dX6_get_30 : decode cX6_get 30 = .ok (.iload_n 2, 1) := by decide +kernel
theorem dX6_get_31 : decode cX6_get 31 = .ok (.iadd, 1) := by decide +kernel
theorem dX6_get_32 : decode cX6_get 32 = .ok (.iaload, 1) := by decide +kernel
theorem dX6_get_33 : decode cX6_get 33 = .ok (.goto 4, 3) := by decide +kernel
theorem dX6_get_36 : decode cX6_get 36 = .ok (.iconst (-1), 1) := by decide +kernel
theorem dX6_get_37 : decode cX6_get 37 = .ok (.ireturn, 1) := by decide +kernel
set_option maxHeartbeats 4000000 in
set_option maxRecDepth 100000 in
theorem c_X6_get (l : Launch) (D : va_G) (K : Nat → ClassId) (ad la : Nat → Nat) (rest : va_W) (r : Nat) (hr : r < 15) (a1 : Int32) (a2 : Int32) (σ : xS) (z : Int32 × xS) (hF : F_X6_get r a1 a2 σ = some z) : CI l D K yX6_get cX6_get 3 (some .int) 1 21 [.ref (ad (8 + 2 * r)), .int a1, .int a2] (CW K ad la rest σ) z.1 (CW K ad la rest z.2) := by
  refine x_enterI [(0, .ref (ad (8 + 2 * r))), (1, .int a1), (2, .int a2)] pnX6 (Nat.le_of_ble_eq_true rfl) rfl ?_
  intro p e s m args below meth c A C
  unfold F_X6_get at hF
  refine x_aload_n C 0 0 dX6_get_0 rfl rfl ?_
  refine x_iload_n C 1 1 dX6_get_1 rfl rfl ?_
  refine x_callVI C (wf := CW K ad la rest) (As := [.int a1]) (rest := []) dX6_get_2 ml_X6_25 rfl rfl (Nat.le_of_ble_eq_true rfl) (8 + 2 * r) (CW_r K ad la rest σ r hr) rfl ⟨Nat.le_of_ble_eq_true rfl, Nat.le_of_ble_eq_true rfl⟩ ⟨Nat.zero_le _, Nat.zero_le _⟩ (fun q9 hq9 => c_X6_has l D K ad la rest r hr a1 σ q9 hq9) hF (fun v2 σ1 hF => ?_)
  refine x_if_eq C 36 dX6_get_5 (by decide) hF (fun hF => ?_) (fun hF => ?_)
  · refine x_iconst C (-1) dX6_get_36 (by decide +kernel) ?_
    exact x_iret C dX6_get_37 rfl (congrArg Prod.fst (Option.some.inj hF)) (congrArg (fun q9 : Int32 × xS => CW K ad la rest q9.2) (Option.some.inj hF))
  · refine x_iload_n C 2 2 dX6_get_8 rfl rfl ?_
    refine x_if_lt C 36 dX6_get_9 (by decide) hF (fun hF => ?_) (fun hF => ?_)
    · refine x_iconst C (-1) dX6_get_36 (by decide +kernel) ?_
      exact x_iret C dX6_get_37 rfl (congrArg Prod.fst (Option.some.inj hF)) (congrArg (fun q9 : Int32 × xS => CW K ad la rest q9.2) (Option.some.inj hF))
    · refine x_iload_n C 2 2 dX6_get_12 rfl rfl ?_
      refine x_aload_n C 0 0 dX6_get_13 rfl rfl ?_
      refine x_get C (8 + 2 * r) dX6_get_14 fl_X6_15 (CW_r K ad la rest σ1 r hr) rfl ?_
      refine x_icmp_ge C 36 dX6_get_17 (by decide) hF (fun hF => ?_) (fun hF => ?_)
      · refine x_iconst C (-1) dX6_get_36 (by decide +kernel) ?_
        exact x_iret C dX6_get_37 rfl (congrArg Prod.fst (Option.some.inj hF)) (congrArg (fun q9 : Int32 × xS => CW K ad la rest q9.2) (Option.some.inj hF))
      · refine x_aload_n C 0 0 dX6_get_20 rfl rfl ?_
        refine x_get C (8 + 2 * r) dX6_get_21 fl_X6_18 (CW_r K ad la rest σ1 r hr) rfl ?_
        refine x_iload_n C 1 1 dX6_get_24 rfl rfl ?_
        refine x_aload_n C 0 0 dX6_get_25 rfl rfl ?_
        refine x_get C (8 + 2 * r) dX6_get_26 fl_X6_15 (CW_r K ad la rest σ1 r hr) rfl ?_
        refine x_imul C dX6_get_29 ?_
        refine x_iload_n C 2 2 dX6_get_30 rfl rfl ?_
        refine x_iadd C dX6_get_31 ?_
        refine x_iald C (9 + 2 * r) dX6_get_32 (CW_rc K ad la rest σ1 r hr) hF (fun v3 hF => ?_)
        refine x_goto C 37 dX6_get_33 (by decide) ?_
        exact x_iret C dX6_get_37 rfl (congrArg Prod.fst (Option.some.inj hF)) (congrArg (fun q9 : Int32 × xS => CW K ad la rest q9.2) (Option.some.inj hF))
theorem dX0_about_0 : decode cX0_about 0 = .ok (.aload_n 0, 1) := by decide +kernel
theorem dX0_about_1 : decode cX0_about 1 = .ok (.getfield 11, 3) := by decide +kernel
theorem dX0_about_4 : decode cX0_about 4 = .ok (.iconst 0, 1) := by decide +kernel
theorem dX0_about_5 : decode cX0_about 5 = .ok (.iload_n 1, 1) := by decide +kernel
theorem dX0_about_6 : decode cX0_about 6 = .ok (.iastore, 1) := by decide +kernel
theorem dX0_about_7 : decode cX0_about 7 = .ok (.aload_n 0, 1) := by decide +kernel
theorem dX0_about_8 : decode cX0_about 8 = .ok (.getfield 11, 3) := by decide +kernel
theorem dX0_about_11 : decode cX0_about 11 = .ok (.iconst 1, 1) := by decide +kernel
theorem dX0_about_12 : decode cX0_about 12 = .ok (.aload_n 0, 1) := by decide +kernel
theorem dX0_about_13 : decode cX0_about 13 = .ok (.getfield 21, 3) := by decide +kernel
theorem dX0_about_16 : decode cX0_about 16 = .ok (.getfield 25, 3) := by decide +kernel
theorem dX0_about_19 : decode cX0_about 19 = .ok (.iload_n 1, 1) := by decide +kernel
theorem dX0_about_20 : decode cX0_about 20 = .ok (.iconst 0, 1) := by decide +kernel
theorem dX0_about_21 : decode cX0_about 21 = .ok (.invokevirtual 31, 3) := by decide +kernel
theorem dX0_about_24 : decode cX0_about 24 = .ok (.iastore, 1) := by decide +kernel
theorem dX0_about_25 : decode cX0_about 25 = .ok (.aload_n 0, 1) := by decide +kernel
theorem dX0_about_26 : decode cX0_about 26 = .ok (.getfield 11, 3) := by decide +kernel
theorem dX0_about_29 : decode cX0_about 29 = .ok (.iconst 2, 1) := by decide +kernel
theorem dX0_about_30 : decode cX0_about 30 = .ok (.aload_n 0, 1) := by decide +kernel
theorem dX0_about_31 : decode cX0_about 31 = .ok (.getfield 21, 3) := by decide +kernel
theorem dX0_about_34 : decode cX0_about 34 = .ok (.getfield 25, 3) := by decide +kernel
theorem dX0_about_37 : decode cX0_about 37 = .ok (.iload_n 1, 1) := by decide +kernel
theorem dX0_about_38 : decode cX0_about 38 = .ok (.iconst 1, 1) := by decide +kernel
theorem dX0_about_39 : decode cX0_about 39 = .ok (.invokevirtual 31, 3) := by decide +kernel
theorem dX0_about_42 : decode cX0_about 42 = .ok (.iastore, 1) := by decide +kernel
theorem dX0_about_43 : decode cX0_about 43 = .ok (.aload_n 0, 1) := by decide +kernel
theorem dX0_about_44 : decode cX0_about 44 = .ok (.getfield 11, 3) := by decide +kernel
theorem dX0_about_47 : decode cX0_about 47 = .ok (.iconst 3, 1) := by decide +kernel
theorem dX0_about_48 : decode cX0_about 48 = .ok (.aload_n 0, 1) := by decide +kernel
theorem dX0_about_49 : decode cX0_about 49 = .ok (.getfield 21, 3) := by decide +kernel
theorem dX0_about_52 : decode cX0_about 52 = .ok (.getfield 25, 3) := by decide +kernel
theorem dX0_about_55 : decode cX0_about 55 = .ok (.iload_n 1, 1) := by decide +kernel
theorem dX0_about_56 : decode cX0_about 56 = .ok (.iconst 2, 1) := by decide +kernel
theorem dX0_about_57 : decode cX0_about 57 = .ok (.invokevirtual 31, 3) := by decide +kernel
theorem dX0_about_60 : decode cX0_about 60 = .ok (.iload_n 2, 1) := by decide +kernel
theorem dX0_about_61 : decode cX0_about 61 = .ok (.iadd, 1) := by decide +kernel
theorem dX0_about_62 : decode cX0_about 62 = .ok (.iastore, 1) := by decide +kernel
theorem dX0_about_63 : decode cX0_about 63 = .ok (.aload_n 0, 1) := by decide +kernel
theorem dX0_about_64 : decode cX0_about 64 = .ok (.getfield 11, 3) := by decide +kernel
theorem dX0_about_67 : decode cX0_about 67 = .ok (.iconst 4, 1) := by decide +kernel
theorem dX0_about_68 : decode cX0_about 68 = .ok (.aload_n 0, 1) := by decide +kernel
theorem dX0_about_69 : decode cX0_about 69 = .ok (.getfield 21, 3) := by decide +kernel
theorem dX0_about_72 : decode cX0_about 72 = .ok (.getfield 25, 3) := by decide +kernel
theorem dX0_about_75 : decode cX0_about 75 = .ok (.iload_n 1, 1) := by decide +kernel
theorem dX0_about_76 : decode cX0_about 76 = .ok (.iconst 3, 1) := by decide +kernel
theorem dX0_about_77 : decode cX0_about 77 = .ok (.invokevirtual 31, 3) := by decide +kernel
theorem dX0_about_80 : decode cX0_about 80 = .ok (.iastore, 1) := by decide +kernel
theorem dX0_about_81 : decode cX0_about 81 = .ok (.aload_n 0, 1) := by decide +kernel
theorem dX0_about_82 : decode cX0_about 82 = .ok (.getfield 11, 3) := by decide +kernel
theorem dX0_about_85 : decode cX0_about 85 = .ok (.iconst 5, 1) := by decide +kernel
theorem dX0_about_86 : decode cX0_about 86 = .ok (.aload_n 0, 1) := by decide +kernel
theorem dX0_about_87 : decode cX0_about 87 = .ok (.getfield 21, 3) := by decide +kernel
theorem dX0_about_90 : decode cX0_about 90 = .ok (.getfield 25, 3) := by decide +kernel
theorem dX0_about_93 : decode cX0_about 93 = .ok (.iload_n 1, 1) := by decide +kernel
theorem dX0_about_94 : decode cX0_about 94 = .ok (.iconst 4, 1) := by decide +kernel
theorem dX0_about_95 : decode cX0_about 95 = .ok (.invokevirtual 31, 3) := by decide +kernel
theorem dX0_about_98 : decode cX0_about 98 = .ok (.iastore, 1) := by decide +kernel
theorem dX0_about_99 : decode cX0_about 99 = .ok (.aload_n 0, 1) := by decide +kernel
theorem dX0_about_100 : decode cX0_about 100 = .ok (.getfield 11, 3) := by decide +kernel
theorem dX0_about_103 : decode cX0_about 103 = .ok (.bipush 6, 2) := by decide +kernel
theorem dX0_about_105 : decode cX0_about 105 = .ok (.aload_n 0, 1) := by decide +kernel
theorem dX0_about_106 : decode cX0_about 106 = .ok (.getfield 21, 3) := by decide +kernel
theorem dX0_about_109 : decode cX0_about 109 = .ok (.getfield 37, 3) := by decide +kernel
theorem dX0_about_112 : decode cX0_about 112 = .ok (.iconst 0, 1) := by decide +kernel
theorem dX0_about_113 : decode cX0_about 113 = .ok (.iaload, 1) := by decide +kernel
theorem dX0_about_114 : decode cX0_about 114 = .ok (.iload_n 2, 1) := by decide +kernel
theorem dX0_about_115 : decode cX0_about 115 = .ok (.iadd, 1) := by decide +kernel
theorem dX0_about_116 : decode cX0_about 116 = .ok (.bipush 52, 2) := by decide +kernel
theorem dX0_about_118 : decode cX0_about 118 = .ok (.irem, 1) := by decide +kernel
theorem dX0_about_119 : decode cX0_about 119 = .ok (.iastore, 1) := by decide +kernel
theorem dX0_about_120 : decode cX0_about 120 = .ok (.aload_n 0, 1) := by decide +kernel
theorem dX0_about_121 : decode cX0_about 121 = .ok (.getfield 11, 3) := by decide +kernel
theorem dX0_about_124 : decode cX0_about 124 = .ok (.bipush 7, 2) := by decide +kernel
theorem dX0_about_126 : decode cX0_about 126 = .ok (.aload_n 0, 1) := by decide +kernel
theorem dX0_about_127 : decode cX0_about 127 = .ok (.getfield 21, 3) := by decide +kernel
theorem dX0_about_130 : decode cX0_about 130 = .ok (.getfield 37, 3) := by decide +kernel
theorem dX0_about_133 : decode cX0_about 133 = .ok (.iconst 1, 1) := by decide +kernel
theorem dX0_about_134 : decode cX0_about 134 = .ok (.iaload, 1) := by decide +kernel
theorem dX0_about_135 : decode cX0_about 135 = .ok (.iastore, 1) := by decide +kernel
theorem dX0_about_136 : decode cX0_about 136 = .ok (.aload_n 0, 1) := by decide +kernel
theorem dX0_about_137 : decode cX0_about 137 = .ok (.getfield 11, 3) := by decide +kernel
theorem dX0_about_140 : decode cX0_about 140 = .ok (.bipush 8, 2) := by decide +kernel
theorem dX0_about_142 : decode cX0_about 142 = .ok (.iconst 0, 1) := by decide +kernel
theorem dX0_about_143 : decode cX0_about 143 = .ok (.iastore, 1) := by decide +kernel
theorem dX0_about_144 : decode cX0_about 144 = .ok (.aload_n 0, 1) := by decide +kernel
theorem dX0_about_145 : decode cX0_about 145 = .ok (.getfield 11, 3) := by decide +kernel
theorem dX0_about_148 : decode cX0_about 148 = .ok (.bipush 9, 2) := by decide +kernel
theorem dX0_about_150 : decode cX0_about 150 = .ok (.iconst 0, 1) := by decide +kernel
theorem dX0_about_151 : decode cX0_about 151 = .ok (.iastore, 1) := by decide +kernel
theorem dX0_about_152 : decode cX0_about 152 = .ok (.return_, 1) := by decide +kernel
set_option maxHeartbeats 4000000 in
set_option maxRecDepth 100000 in
theorem c_X0_about (l : Launch) (D : va_G) (K : Nat → ClassId) (ad la : Nat → Nat) (rest : va_W)  (a1 : Int32) (a2 : Int32) (σ : xS) (z : Unit × xS) (hF : F_X0_about a1 a2 σ = some z) : CV l D K yX0_about cX0_about 3 none 2 43 [.ref (ad 44), .int a1, .int a2] (CW K ad la rest σ) (CW K ad la rest z.2) := by
  refine x_enterV [(0, .ref (ad 44)), (1, .int a1), (2, .int a2)] pnX0 (Nat.le_of_ble_eq_true rfl) rfl ?_
  intro p e s m args below meth c A C
  unfold F_X0_about at hF
  refine x_aload_n C 0 0 dX0_about_0 rfl rfl ?_
  refine x_get C 44 dX0_about_1 fl_X0_11 (CW_44 K ad la rest σ) rfl ?_
  refine x_iconst C 0 dX0_about_4 (by decide +kernel) ?_
  refine x_iload_n C 1 1 dX0_about_5 rfl rfl ?_
  refine x_iast C 45 dX0_about_6 (CW_45 K ad la rest σ) hF (CW_s45 K ad la rest σ _) (fun hF => ?_)
  refine x_st (wf := CW K ad la rest) hF (fun σ1 hF => ?_)
  refine x_aload_n C 0 0 dX0_about_7 rfl rfl ?_
  refine x_get C 44 dX0_about_8 fl_X0_11 (CW_44 K ad la rest σ1) rfl ?_
  refine x_iconst C 1 dX0_about_11 (by decide +kernel) ?_
  refine x_aload_n C 0 0 dX0_about_12 rfl rfl ?_
  refine x_get C 44 dX0_about_13 fl_X0_21 (CW_44 K ad la rest σ1) rfl ?_
  refine x_get C 5 dX0_about_16 fl_X0_25 (CW_5 K ad la rest σ1) rfl ?_
  refine x_iload_n C 1 1 dX0_about_19 rfl rfl ?_
  refine x_iconst C 0 dX0_about_20 (by decide +kernel) ?_
  refine x_callVI C (wf := CW K ad la rest) (As := [.int a1, .int 0]) (rest := [.int 1, .ref (ad 45)]) dX0_about_21 ml_X0_31 rfl rfl (Nat.le_of_ble_eq_true rfl) 8 (CW_8 K ad la rest σ1) rfl ⟨Nat.le_of_ble_eq_true rfl, Nat.le_of_ble_eq_true rfl⟩ ⟨Nat.zero_le _, Nat.zero_le _⟩ (fun q9 hq9 => c_X6_get l D K ad la rest 0 (by decide) a1 0 σ1 q9 hq9) hF (fun v3 σ2 hF => ?_)
  refine x_iast C 45 dX0_about_24 (CW_45 K ad la rest σ2) hF (CW_s45 K ad la rest σ2 _) (fun hF => ?_)
  refine x_st (wf := CW K ad la rest) hF (fun σ4 hF => ?_)
  refine x_aload_n C 0 0 dX0_about_25 rfl rfl ?_
  refine x_get C 44 dX0_about_26 fl_X0_11 (CW_44 K ad la rest σ4) rfl ?_
  refine x_iconst C 2 dX0_about_29 (by decide +kernel) ?_
  refine x_aload_n C 0 0 dX0_about_30 rfl rfl ?_
  refine x_get C 44 dX0_about_31 fl_X0_21 (CW_44 K ad la rest σ4) rfl ?_
  refine x_get C 5 dX0_about_34 fl_X0_25 (CW_5 K ad la rest σ4) rfl ?_
  refine x_iload_n C 1 1 dX0_about_37 rfl rfl ?_
  refine x_iconst C 1 dX0_about_38 (by decide +kernel) ?_
  refine x_callVI C (wf := CW K ad la rest) (As := [.int a1, .int 1]) (rest := [.int 2, .ref (ad 45)]) dX0_about_39 ml_X0_31 rfl rfl (Nat.le_of_ble_eq_true rfl) 8 (CW_8 K ad la rest σ4) rfl ⟨Nat.le_of_ble_eq_true rfl, Nat.le_of_ble_eq_true rfl⟩ ⟨Nat.zero_le _, Nat.zero_le _⟩ (fun q9 hq9 => c_X6_get l D K ad la rest 0 (by decide) a1 1 σ4 q9 hq9) hF (fun v6 σ5 hF => ?_)
  refine x_iast C 45 dX0_about_42 (CW_45 K ad la rest σ5) hF (CW_s45 K ad la rest σ5 _) (fun hF => ?_)
  refine x_st (wf := CW K ad la rest) hF (fun σ7 hF => ?_)
  refine x_aload_n C 0 0 dX0_about_43 rfl rfl ?_
  refine x_get C 44 dX0_about_44 fl_X0_11 (CW_44 K ad la rest σ7) rfl ?_
  refine x_iconst C 3 dX0_about_47 (by decide +kernel) ?_
  refine x_aload_n C 0 0 dX0_about_48 rfl rfl ?_
  refine x_get C 44 dX0_about_49 fl_X0_21 (CW_44 K ad la rest σ7) rfl ?_
  refine x_get C 5 dX0_about_52 fl_X0_25 (CW_5 K ad la rest σ7) rfl ?_
  refine x_iload_n C 1 1 dX0_about_55 rfl rfl ?_
  refine x_iconst C 2 dX0_about_56 (by decide +kernel) ?_
  refine x_callVI C (wf := CW K ad la rest) (As := [.int a1, .int 2]) (rest := [.int 3, .ref (ad 45)]) dX0_about_57 ml_X0_31 rfl rfl (Nat.le_of_ble_eq_true rfl) 8 (CW_8 K ad la rest σ7) rfl ⟨Nat.le_of_ble_eq_true rfl, Nat.le_of_ble_eq_true rfl⟩ ⟨Nat.zero_le _, Nat.zero_le _⟩ (fun q9 hq9 => c_X6_get l D K ad la rest 0 (by decide) a1 2 σ7 q9 hq9) hF (fun v9 σ8 hF => ?_)
  refine x_iload_n C 2 2 dX0_about_60 rfl rfl ?_
  refine x_iadd C dX0_about_61 ?_
  refine x_iast C 45 dX0_about_62 (CW_45 K ad la rest σ8) hF (CW_s45 K ad la rest σ8 _) (fun hF => ?_)
  refine x_st (wf := CW K ad la rest) hF (fun σ10 hF => ?_)
  refine x_aload_n C 0 0 dX0_about_63 rfl rfl ?_
  refine x_get C 44 dX0_about_64 fl_X0_11 (CW_44 K ad la rest σ10) rfl ?_
  refine x_iconst C 4 dX0_about_67 (by decide +kernel) ?_
  refine x_aload_n C 0 0 dX0_about_68 rfl rfl ?_
  refine x_get C 44 dX0_about_69 fl_X0_21 (CW_44 K ad la rest σ10) rfl ?_
  refine x_get C 5 dX0_about_72 fl_X0_25 (CW_5 K ad la rest σ10) rfl ?_
  refine x_iload_n C 1 1 dX0_about_75 rfl rfl ?_
  refine x_iconst C 3 dX0_about_76 (by decide +kernel) ?_
  refine x_callVI C (wf := CW K ad la rest) (As := [.int a1, .int 3]) (rest := [.int 4, .ref (ad 45)]) dX0_about_77 ml_X0_31 rfl rfl (Nat.le_of_ble_eq_true rfl) 8 (CW_8 K ad la rest σ10) rfl ⟨Nat.le_of_ble_eq_true rfl, Nat.le_of_ble_eq_true rfl⟩ ⟨Nat.zero_le _, Nat.zero_le _⟩ (fun q9 hq9 => c_X6_get l D K ad la rest 0 (by decide) a1 3 σ10 q9 hq9) hF (fun v12 σ11 hF => ?_)
  refine x_iast C 45 dX0_about_80 (CW_45 K ad la rest σ11) hF (CW_s45 K ad la rest σ11 _) (fun hF => ?_)
  refine x_st (wf := CW K ad la rest) hF (fun σ13 hF => ?_)
  refine x_aload_n C 0 0 dX0_about_81 rfl rfl ?_
  refine x_get C 44 dX0_about_82 fl_X0_11 (CW_44 K ad la rest σ13) rfl ?_
  refine x_iconst C 5 dX0_about_85 (by decide +kernel) ?_
  refine x_aload_n C 0 0 dX0_about_86 rfl rfl ?_
  refine x_get C 44 dX0_about_87 fl_X0_21 (CW_44 K ad la rest σ13) rfl ?_
  refine x_get C 5 dX0_about_90 fl_X0_25 (CW_5 K ad la rest σ13) rfl ?_
  refine x_iload_n C 1 1 dX0_about_93 rfl rfl ?_
  refine x_iconst C 4 dX0_about_94 (by decide +kernel) ?_
  refine x_callVI C (wf := CW K ad la rest) (As := [.int a1, .int 4]) (rest := [.int 5, .ref (ad 45)]) dX0_about_95 ml_X0_31 rfl rfl (Nat.le_of_ble_eq_true rfl) 8 (CW_8 K ad la rest σ13) rfl ⟨Nat.le_of_ble_eq_true rfl, Nat.le_of_ble_eq_true rfl⟩ ⟨Nat.zero_le _, Nat.zero_le _⟩ (fun q9 hq9 => c_X6_get l D K ad la rest 0 (by decide) a1 4 σ13 q9 hq9) hF (fun v15 σ14 hF => ?_)
  refine x_iast C 45 dX0_about_98 (CW_45 K ad la rest σ14) hF (CW_s45 K ad la rest σ14 _) (fun hF => ?_)
  refine x_st (wf := CW K ad la rest) hF (fun σ16 hF => ?_)
  refine x_aload_n C 0 0 dX0_about_99 rfl rfl ?_
  refine x_get C 44 dX0_about_100 fl_X0_11 (CW_44 K ad la rest σ16) rfl ?_
  refine x_bipush C 6 dX0_about_103 (by decide +kernel) ?_
  refine x_aload_n C 0 0 dX0_about_105 rfl rfl ?_
  refine x_get C 44 dX0_about_106 fl_X0_21 (CW_44 K ad la rest σ16) rfl ?_
  refine x_get C 5 dX0_about_109 fl_X0_37 (CW_5 K ad la rest σ16) rfl ?_
  refine x_iconst C 0 dX0_about_112 (by decide +kernel) ?_
  refine x_iald C 38 dX0_about_113 (CW_38 K ad la rest σ16) hF (fun v17 hF => ?_)
  refine x_iload_n C 2 2 dX0_about_114 rfl rfl ?_
  refine x_iadd C dX0_about_115 ?_
  refine x_bipush C 52 dX0_about_116 (by decide +kernel) ?_
  refine x_irem C dX0_about_118 hF (fun hF => ?_)
  refine x_iast C 45 dX0_about_119 (CW_45 K ad la rest σ16) hF (CW_s45 K ad la rest σ16 _) (fun hF => ?_)
  refine x_st (wf := CW K ad la rest) hF (fun σ18 hF => ?_)
  refine x_aload_n C 0 0 dX0_about_120 rfl rfl ?_
  refine x_get C 44 dX0_about_121 fl_X0_11 (CW_44 K ad la rest σ18) rfl ?_
  refine x_bipush C 7 dX0_about_124 (by decide +kernel) ?_
  refine x_aload_n C 0 0 dX0_about_126 rfl rfl ?_
  refine x_get C 44 dX0_about_127 fl_X0_21 (CW_44 K ad la rest σ18) rfl ?_
  refine x_get C 5 dX0_about_130 fl_X0_37 (CW_5 K ad la rest σ18) rfl ?_
  refine x_iconst C 1 dX0_about_133 (by decide +kernel) ?_
  refine x_iald C 38 dX0_about_134 (CW_38 K ad la rest σ18) hF (fun v19 hF => ?_)
  refine x_iast C 45 dX0_about_135 (CW_45 K ad la rest σ18) hF (CW_s45 K ad la rest σ18 _) (fun hF => ?_)
  refine x_st (wf := CW K ad la rest) hF (fun σ20 hF => ?_)
  refine x_aload_n C 0 0 dX0_about_136 rfl rfl ?_
  refine x_get C 44 dX0_about_137 fl_X0_11 (CW_44 K ad la rest σ20) rfl ?_
  refine x_bipush C 8 dX0_about_140 (by decide +kernel) ?_
  refine x_iconst C 0 dX0_about_142 (by decide +kernel) ?_
  refine x_iast C 45 dX0_about_143 (CW_45 K ad la rest σ20) hF (CW_s45 K ad la rest σ20 _) (fun hF => ?_)
  refine x_st (wf := CW K ad la rest) hF (fun σ21 hF => ?_)
  refine x_aload_n C 0 0 dX0_about_144 rfl rfl ?_
  refine x_get C 44 dX0_about_145 fl_X0_11 (CW_44 K ad la rest σ21) rfl ?_
  refine x_bipush C 9 dX0_about_148 (by decide +kernel) ?_
  refine x_iconst C 0 dX0_about_150 (by decide +kernel) ?_
  refine x_iast C 45 dX0_about_151 (CW_45 K ad la rest σ21) hF (CW_s45 K ad la rest σ21 _) (fun hF => ?_)
  refine x_st (wf := CW K ad la rest) hF (fun σ22 hF => ?_)
  exact x_vret C dX0_about_152 rfl (congrArg (fun q9 : Unit × xS => CW K ad la rest q9.2) (Option.some.inj hF))
theorem dX7_lawInForce_0 : decode cX7_lawInForce 0 = .ok (.aload_n 0, 1) := by decide +kernel
theorem dX7_lawInForce_1 : decode cX7_lawInForce 1 = .ok (.getfield 42, 3) := by decide +kernel
theorem dX7_lawInForce_4 : decode cX7_lawInForce 4 = .ok (.ifCond .lt 26, 3) := by decide +kernel
theorem dX7_lawInForce_7 : decode cX7_lawInForce 7 = .ok (.aload_n 0, 1) := by decide +kernel
theorem dX7_lawInForce_8 : decode cX7_lawInForce 8 = .ok (.getfield 42, 3) := by decide +kernel
theorem dX7_lawInForce_11 : decode cX7_lawInForce 11 = .ok (.aload_n 0, 1) := by decide +kernel
theorem dX7_lawInForce_12 : decode cX7_lawInForce 12 = .ok (.getfield 46, 3) := by decide +kernel
theorem dX7_lawInForce_15 : decode cX7_lawInForce 15 = .ok (.if_icmp .ge 15, 3) := by decide +kernel
theorem dX7_lawInForce_18 : decode cX7_lawInForce 18 = .ok (.aload_n 0, 1) := by decide +kernel
theorem dX7_lawInForce_19 : decode cX7_lawInForce 19 = .ok (.getfield 38, 3) := by decide +kernel
theorem dX7_lawInForce_22 : decode cX7_lawInForce 22 = .ok (.aload_n 0, 1) := by decide +kernel
theorem dX7_lawInForce_23 : decode cX7_lawInForce 23 = .ok (.getfield 42, 3) := by decide +kernel
theorem dX7_lawInForce_26 : decode cX7_lawInForce 26 = .ok (.aaload, 1) := by decide +kernel
theorem dX7_lawInForce_27 : decode cX7_lawInForce 27 = .ok (.goto 4, 3) := by decide +kernel
theorem dX7_lawInForce_30 : decode cX7_lawInForce 30 = .ok (.aconst_null, 1) := by decide +kernel
theorem dX7_lawInForce_31 : decode cX7_lawInForce 31 = .ok (.areturn, 1) := by decide +kernel
set_option maxHeartbeats 4000000 in
set_option maxRecDepth 100000 in
theorem c_X7_lawInForce (l : Launch) (D : va_G) (K : Nat → ClassId) (ad la : Nat → Nat) (rest : va_W) (t : Nat) (ht : t < 3)  (σ : xS) (z : Option Nat × xS) (hF : F_X7_lawInForce t σ = some z) : CQ l D K yX7_lawInForce cX7_lawInForce 1 (some (.object "PencilPrice$Law")) 0 0 [.ref (ad (5 + t))] (CW K ad la rest σ) (z.1.map (fun i => la (4 * i))) (CW K ad la rest z.2) := by
  refine x_enterQ [(0, .ref (ad (5 + t)))] pnX7 (Nat.le_of_ble_eq_true rfl) rfl ?_
  intro p e s m args below meth c A C
  unfold F_X7_lawInForce at hF
  refine x_aload_n C 0 0 dX7_lawInForce_0 rfl rfl ?_
  refine x_get C (5 + t) dX7_lawInForce_1 fl_X7_42 (CW_t K ad la rest σ t ht) rfl ?_
  refine x_if_lt C 30 dX7_lawInForce_4 (by decide) hF (fun hF => ?_) (fun hF => ?_)
  · refine x_null C dX7_lawInForce_30 ?_
    exact x_aret C (v := none) rfl dX7_lawInForce_31 rfl (congrArg (fun q9 : Option Nat × xS => q9.1.map (fun i => la (4 * i))) (Option.some.inj hF)) (congrArg (fun q9 : Option Nat × xS => CW K ad la rest q9.2) (Option.some.inj hF))
  · refine x_aload_n C 0 0 dX7_lawInForce_7 rfl rfl ?_
    refine x_get C (5 + t) dX7_lawInForce_8 fl_X7_42 (CW_t K ad la rest σ t ht) rfl ?_
    refine x_aload_n C 0 0 dX7_lawInForce_11 rfl rfl ?_
    refine x_get C (5 + t) dX7_lawInForce_12 fl_X7_46 (CW_t K ad la rest σ t ht) rfl ?_
    refine x_icmp_ge C 30 dX7_lawInForce_15 (by decide) hF (fun hF => ?_) (fun hF => ?_)
    · refine x_null C dX7_lawInForce_30 ?_
      exact x_aret C (v := none) rfl dX7_lawInForce_31 rfl (congrArg (fun q9 : Option Nat × xS => q9.1.map (fun i => la (4 * i))) (Option.some.inj hF)) (congrArg (fun q9 : Option Nat × xS => CW K ad la rest q9.2) (Option.some.inj hF))
    · refine x_aload_n C 0 0 dX7_lawInForce_18 rfl rfl ?_
      refine x_get C (5 + t) dX7_lawInForce_19 fl_X7_38 (CW_t K ad la rest σ t ht) rfl ?_
      refine x_aload_n C 0 0 dX7_lawInForce_22 rfl rfl ?_
      refine x_get C (5 + t) dX7_lawInForce_23 fl_X7_42 (CW_t K ad la rest σ t ht) rfl ?_
      refine x_aald C (t0 := 3) (41 + t) dX7_lawInForce_26 (CW_tl K ad la rest σ t ht) rfl rfl hF (fun hF hj1 => ?_)
      refine x_if_cast (st2 := va_rf ((sQ σ (41 + t) (sI σ (16 * (5 + t) + 8)).toNatClampNeg).map (fun i => la (4 * i))) :: []) rfl ?_
      generalize sQ σ (41 + t) (sI σ (16 * (5 + t) + 8)).toNatClampNeg = o2 at hF ⊢
      cases o2 with
      | none =>
        rw [mo_none] at hF
        refine x_if_cast (st2 := .null :: []) rfl ?_
        refine x_goto C 31 dX7_lawInForce_27 (by decide) ?_
        exact x_aret C (v := none) rfl dX7_lawInForce_31 rfl (congrArg (fun q9 : Option Nat × xS => q9.1.map (fun i => la (4 * i))) (Option.some.inj hF)) (congrArg (fun q9 : Option Nat × xS => CW K ad la rest q9.2) (Option.some.inj hF))
      | some i3 =>
        rw [mo_some] at hF
        refine x_if_cast (st2 := .ref (la (4 * i3)) :: []) rfl ?_
        refine x_goto C 31 dX7_lawInForce_27 (by decide) ?_
        exact x_aret C (v := some (la (4 * i3))) rfl dX7_lawInForce_31 rfl (congrArg (fun q9 : Option Nat × xS => q9.1.map (fun i => la (4 * i))) (Option.some.inj hF)) (congrArg (fun q9 : Option Nat × xS => CW K ad la rest q9.2) (Option.some.inj hF))
theorem dX0_compared_0 : decode cX0_compared 0 = .ok (.iload_n 0, 1) := by decide +kernel
theorem dX0_compared_1 : decode cX0_compared 1 = .ok (.lookupswitch 51 #[(6, 27), (7, 39)], 27) := by decide +kernel
theorem dX0_compared_28 : decode cX0_compared 28 = .ok (.lload_n 1, 1) := by decide +kernel
theorem dX0_compared_29 : decode cX0_compared 29 = .ok (.lload_n 3, 1) := by decide +kernel
theorem dX0_compared_30 : decode cX0_compared 30 = .ok (.lcmp, 1) := by decide +kernel
theorem dX0_compared_31 : decode cX0_compared 31 = .ok (.ifCond .ge 7, 3) := by decide +kernel
theorem dX0_compared_34 : decode cX0_compared 34 = .ok (.iconst 1, 1) := by decide +kernel
theorem dX0_compared_35 : decode cX0_compared 35 = .ok (.goto 4, 3) := by decide +kernel
theorem dX0_compared_38 : decode cX0_compared 38 = .ok (.iconst 0, 1) := by decide +kernel
theorem dX0_compared_39 : decode cX0_compared 39 = .ok (.ireturn, 1) := by decide +kernel
theorem dX0_compared_40 : decode cX0_compared 40 = .ok (.lload_n 1, 1) := by decide +kernel
theorem dX0_compared_41 : decode cX0_compared 41 = .ok (.lload_n 3, 1) := by decide +kernel
theorem dX0_compared_42 : decode cX0_compared 42 = .ok (.lcmp, 1) := by decide +kernel
theorem dX0_compared_43 : decode cX0_compared 43 = .ok (.ifCond .le 7, 3) := by decide +kernel
theorem dX0_compared_46 : decode cX0_compared 46 = .ok (.iconst 1, 1) := by decide +kernel
theorem dX0_compared_47 : decode cX0_compared 47 = .ok (.goto 4, 3) := by decide +kernel
theorem dX0_compared_50 : decode cX0_compared 50 = .ok (.iconst 0, 1) := by decide +kernel
theorem dX0_compared_51 : decode cX0_compared 51 = .ok (.ireturn, 1) := by decide +kernel
theorem dX0_compared_52 : decode cX0_compared 52 = .ok (.lload_n 1, 1) := by decide +kernel
theorem dX0_compared_53 : decode cX0_compared 53 = .ok (.lload_n 3, 1) := by decide +kernel
theorem dX0_compared_54 : decode cX0_compared 54 = .ok (.lcmp, 1) := by decide +kernel
theorem dX0_compared_55 : decode cX0_compared 55 = .ok (.ifCond .ne 7, 3) := by decide +kernel
theorem dX0_compared_58 : decode cX0_compared 58 = .ok (.iconst 1, 1) := by decide +kernel
theorem dX0_compared_59 : decode cX0_compared 59 = .ok (.goto 4, 3) := by decide +kernel
theorem dX0_compared_62 : decode cX0_compared 62 = .ok (.iconst 0, 1) := by decide +kernel
theorem dX0_compared_63 : decode cX0_compared 63 = .ok (.ireturn, 1) := by decide +kernel
set_option maxHeartbeats 4000000 in
set_option maxRecDepth 100000 in
theorem c_X0_compared (l : Launch) (D : va_G) (K : Nat → ClassId) (ad la : Nat → Nat) (rest : va_W)  (a1 : Int32) (a2 : Int64) (a3 : Int64) (σ : xS) (z : Int32 × xS) (hF : F_X0_compared a1 a2 a3 σ = some z) : CI l D K yX0_compared cX0_compared 5 (some .boolean) 0 0 [.int a1, .long a2, .long a3] (CW K ad la rest σ) z.1 (CW K ad la rest z.2) := by
  refine x_enterI [(0, .int a1), (1, .long a2), (3, .long a3)] pnX0 (Nat.le_of_ble_eq_true rfl) rfl ?_
  intro p e s m args below meth c A C
  unfold F_X0_compared at hF
  refine x_iload_n C 0 0 dX0_compared_0 rfl rfl ?_
  by_cases h1 : a1 = 6
  · rw [if_pos h1] at hF
    refine x_lkp C 28 dX0_compared_1 (by decide +kernel) (by rw [h1]; try rfl) (by decide) ?_
    refine x_lload_n C 1 1 dX0_compared_28 rfl rfl ?_
    refine x_lload_n C 2 3 dX0_compared_29 rfl rfl ?_
    refine x_lcmp C dX0_compared_30 ?_
    refine x_if_ge C 38 dX0_compared_31 (by decide) hF (fun hF => ?_) (fun hF => ?_)
    · refine x_iconst C 0 dX0_compared_38 (by decide +kernel) ?_
      have hz := (cz_some hF).1
      replace hF := (cz_some hF).2
      exact x_zret C dX0_compared_39 rfl hz (congrArg Prod.fst (Option.some.inj hF)) (congrArg (fun q9 : Int32 × xS => CW K ad la rest q9.2) (Option.some.inj hF))
    · refine x_iconst C 1 dX0_compared_34 (by decide +kernel) ?_
      refine x_goto C 39 dX0_compared_35 (by decide) ?_
      have hz := (cz_some hF).1
      replace hF := (cz_some hF).2
      exact x_zret C dX0_compared_39 rfl hz (congrArg Prod.fst (Option.some.inj hF)) (congrArg (fun q9 : Int32 × xS => CW K ad la rest q9.2) (Option.some.inj hF))
  · rw [if_neg h1] at hF
    by_cases h2 : a1 = 7
    · rw [if_pos h2] at hF
      refine x_lkp C 40 dX0_compared_1 (by decide +kernel) (by rw [h2]; try rfl) (by decide) ?_
      refine x_lload_n C 1 1 dX0_compared_40 rfl rfl ?_
      refine x_lload_n C 2 3 dX0_compared_41 rfl rfl ?_
      refine x_lcmp C dX0_compared_42 ?_
      refine x_if_le C 50 dX0_compared_43 (by decide) hF (fun hF => ?_) (fun hF => ?_)
      · refine x_iconst C 0 dX0_compared_50 (by decide +kernel) ?_
        have hz := (cz_some hF).1
        replace hF := (cz_some hF).2
        exact x_zret C dX0_compared_51 rfl hz (congrArg Prod.fst (Option.some.inj hF)) (congrArg (fun q9 : Int32 × xS => CW K ad la rest q9.2) (Option.some.inj hF))
      · refine x_iconst C 1 dX0_compared_46 (by decide +kernel) ?_
        refine x_goto C 51 dX0_compared_47 (by decide) ?_
        have hz := (cz_some hF).1
        replace hF := (cz_some hF).2
        exact x_zret C dX0_compared_51 rfl hz (congrArg Prod.fst (Option.some.inj hF)) (congrArg (fun q9 : Int32 × xS => CW K ad la rest q9.2) (Option.some.inj hF))
    · rw [if_neg h2] at hF
      refine x_lkp C (off := 51) 52 dX0_compared_1 (by decide +kernel) (by have e0 : a1.toInt ≠ 6 := x_neT h1; have e1 : a1.toInt ≠ 7 := x_neT h2; show Op.lookupswitch.offset _ _ _ = _; simp only [Op.lookupswitch.offset, if_neg (Ne.symm e0), if_neg (Ne.symm e1)]) (by decide) ?_
      refine x_lload_n C 1 1 dX0_compared_52 rfl rfl ?_
      refine x_lload_n C 2 3 dX0_compared_53 rfl rfl ?_
      refine x_lcmp C dX0_compared_54 ?_
      refine x_if_ne C 62 dX0_compared_55 (by decide) hF (fun hF => ?_) (fun hF => ?_)
      · refine x_iconst C 0 dX0_compared_62 (by decide +kernel) ?_
        have hz := (cz_some hF).1
        replace hF := (cz_some hF).2
        exact x_zret C dX0_compared_63 rfl hz (congrArg Prod.fst (Option.some.inj hF)) (congrArg (fun q9 : Int32 × xS => CW K ad la rest q9.2) (Option.some.inj hF))
      · refine x_iconst C 1 dX0_compared_58 (by decide +kernel) ?_
        refine x_goto C 63 dX0_compared_59 (by decide) ?_
        have hz := (cz_some hF).1
        replace hF := (cz_some hF).2
        exact x_zret C dX0_compared_63 rfl hz (congrArg Prod.fst (Option.some.inj hF)) (congrArg (fun q9 : Int32 × xS => CW K ad la rest q9.2) (Option.some.inj hF))
theorem dX0_reckons_0 : decode cX0_reckons 0 = .ok (.aload_n 0, 1) := by decide +kernel
theorem dX0_reckons_1 : decode cX0_reckons 1 = .ok (.getfield 81, 3) := by decide +kernel
theorem dX0_reckons_4 : decode cX0_reckons 4 = .ok (.iconst 2, 1) := by decide +kernel
theorem dX0_reckons_5 : decode cX0_reckons 5 = .ok (.if_icmp .lt 15, 3) := by decide +kernel
theorem dX0_reckons_8 : decode cX0_reckons 8 = .ok (.aload_n 0, 1) := by decide +kernel
theorem dX0_reckons_9 : decode cX0_reckons 9 = .ok (.getfield 81, 3) := by decide +kernel
theorem dX0_reckons_12 : decode cX0_reckons 12 = .ok (.aload_n 0, 1) := by decide +kernel
theorem dX0_reckons_13 : decode cX0_reckons 13 = .ok (.getfield 17, 3) := by decide +kernel
theorem dX0_reckons_16 : decode cX0_reckons 16 = .ok (.arraylength, 1) := by decide +kernel
theorem dX0_reckons_17 : decode cX0_reckons 17 = .ok (.if_icmp .le 5, 3) := by decide +kernel
theorem dX0_reckons_20 : decode cX0_reckons 20 = .ok (.iconst 0, 1) := by decide +kernel
theorem dX0_reckons_21 : decode cX0_reckons 21 = .ok (.ireturn, 1) := by decide +kernel
theorem dX0_reckons_22 : decode cX0_reckons 22 = .ok (.aload_n 0, 1) := by decide +kernel
theorem dX0_reckons_23 : decode cX0_reckons 23 = .ok (.getfield 17, 3) := by decide +kernel
theorem dX0_reckons_26 : decode cX0_reckons 26 = .ok (.aload_n 0, 1) := by decide +kernel
theorem dX0_reckons_27 : decode cX0_reckons 27 = .ok (.getfield 81, 3) := by decide +kernel
theorem dX0_reckons_30 : decode cX0_reckons 30 = .ok (.iconst 1, 1) := by decide +kernel
theorem dX0_reckons_31 : decode cX0_reckons 31 = .ok (.isub, 1) := by decide +kernel
theorem dX0_reckons_32 : decode cX0_reckons 32 = .ok (.laload, 1) := by decide +kernel
theorem dX0_reckons_33 : decode cX0_reckons 33 = .ok (.lstore_n 2, 1) := by decide +kernel
theorem dX0_reckons_34 : decode cX0_reckons 34 = .ok (.aload_n 0, 1) := by decide +kernel
theorem dX0_reckons_35 : decode cX0_reckons 35 = .ok (.getfield 17, 3) := by decide +kernel
theorem dX0_reckons_38 : decode cX0_reckons 38 = .ok (.aload_n 0, 1) := by decide +kernel
theorem dX0_reckons_39 : decode cX0_reckons 39 = .ok (.getfield 81, 3) := by decide +kernel
theorem dX0_reckons_42 : decode cX0_reckons 42 = .ok (.iconst 2, 1) := by decide +kernel
theorem dX0_reckons_43 : decode cX0_reckons 43 = .ok (.isub, 1) := by decide +kernel
theorem dX0_reckons_44 : decode cX0_reckons 44 = .ok (.laload, 1) := by decide +kernel
theorem dX0_reckons_45 : decode cX0_reckons 45 = .ok (.lstore 4, 2) := by decide +kernel
theorem dX0_reckons_47 : decode cX0_reckons 47 = .ok (.iload_n 1, 1) := by decide +kernel
theorem dX0_reckons_48 : decode cX0_reckons 48 = .ok (.iconst 5, 1) := by decide +kernel
theorem dX0_reckons_49 : decode cX0_reckons 49 = .ok (.if_icmp .ne 11, 3) := by decide +kernel
theorem dX0_reckons_52 : decode cX0_reckons 52 = .ok (.lload_n 2, 1) := by decide +kernel
theorem dX0_reckons_53 : decode cX0_reckons 53 = .ok (.lconst 0, 1) := by decide +kernel
theorem dX0_reckons_54 : decode cX0_reckons 54 = .ok (.lcmp, 1) := by decide +kernel
theorem dX0_reckons_55 : decode cX0_reckons 55 = .ok (.ifCond .ne 5, 3) := by decide +kernel
theorem dX0_reckons_58 : decode cX0_reckons 58 = .ok (.iconst 0, 1) := by decide +kernel
theorem dX0_reckons_59 : decode cX0_reckons 59 = .ok (.ireturn, 1) := by decide +kernel
theorem dX0_reckons_60 : decode cX0_reckons 60 = .ok (.iload_n 1, 1) := by decide +kernel
theorem dX0_reckons_61 : decode cX0_reckons 61 = .ok (.tableswitch 54 2 4 #[27, 36, 45], 27) := by decide +kernel
theorem dX0_reckons_88 : decode cX0_reckons 88 = .ok (.lload 4, 2) := by decide +kernel
theorem dX0_reckons_90 : decode cX0_reckons 90 = .ok (.lload_n 2, 1) := by decide +kernel
theorem dX0_reckons_91 : decode cX0_reckons 91 = .ok (.ladd, 1) := by decide +kernel
theorem dX0_reckons_92 : decode cX0_reckons 92 = .ok (.lstore 6, 2) := by decide +kernel
theorem dX0_reckons_94 : decode cX0_reckons 94 = .ok (.goto 27, 3) := by decide +kernel
theorem dX0_reckons_97 : decode cX0_reckons 97 = .ok (.lload 4, 2) := by decide +kernel
theorem dX0_reckons_99 : decode cX0_reckons 99 = .ok (.lload_n 2, 1) := by decide +kernel
theorem dX0_reckons_100 : decode cX0_reckons 100 = .ok (.lsub, 1) := by decide +kernel
theorem dX0_reckons_101 : decode cX0_reckons 101 = .ok (.lstore 6, 2) := by decide +kernel
theorem dX0_reckons_103 : decode cX0_reckons 103 = .ok (.goto 18, 3) := by decide +kernel
theorem dX0_reckons_106 : decode cX0_reckons 106 = .ok (.lload 4, 2) := by decide +kernel
theorem dX0_reckons_108 : decode cX0_reckons 108 = .ok (.lload_n 2, 1) := by decide +kernel
theorem dX0_reckons_109 : decode cX0_reckons 109 = .ok (.lmul, 1) := by decide +kernel
theorem dX0_reckons_110 : decode cX0_reckons 110 = .ok (.lstore 6, 2) := by decide +kernel
theorem dX0_reckons_112 : decode cX0_reckons 112 = .ok (.goto 9, 3) := by decide +kernel
theorem dX0_reckons_115 : decode cX0_reckons 115 = .ok (.lload 4, 2) := by decide +kernel
theorem dX0_reckons_117 : decode cX0_reckons 117 = .ok (.lload_n 2, 1) := by decide +kernel
theorem dX0_reckons_118 : decode cX0_reckons 118 = .ok (.ldiv, 1) := by decide +kernel
theorem dX0_reckons_119 : decode cX0_reckons 119 = .ok (.lstore 6, 2) := by decide +kernel
theorem dX0_reckons_121 : decode cX0_reckons 121 = .ok (.aload_n 0, 1) := by decide +kernel
theorem dX0_reckons_122 : decode cX0_reckons 122 = .ok (.dup, 1) := by decide +kernel
theorem dX0_reckons_123 : decode cX0_reckons 123 = .ok (.getfield 81, 3) := by decide +kernel
theorem dX0_reckons_126 : decode cX0_reckons 126 = .ok (.iconst 1, 1) := by decide +kernel
theorem dX0_reckons_127 : decode cX0_reckons 127 = .ok (.isub, 1) := by decide +kernel
theorem dX0_reckons_128 : decode cX0_reckons 128 = .ok (.putfield 81, 3) := by decide +kernel
theorem dX0_reckons_131 : decode cX0_reckons 131 = .ok (.aload_n 0, 1) := by decide +kernel
theorem dX0_reckons_132 : decode cX0_reckons 132 = .ok (.getfield 17, 3) := by decide +kernel
theorem dX0_reckons_135 : decode cX0_reckons 135 = .ok (.aload_n 0, 1) := by decide +kernel
theorem dX0_reckons_136 : decode cX0_reckons 136 = .ok (.getfield 81, 3) := by decide +kernel
theorem dX0_reckons_139 : decode cX0_reckons 139 = .ok (.iconst 1, 1) := by decide +kernel
theorem dX0_reckons_140 : decode cX0_reckons 140 = .ok (.isub, 1) := by decide +kernel
theorem dX0_reckons_141 : decode cX0_reckons 141 = .ok (.lload 6, 2) := by decide +kernel
theorem dX0_reckons_143 : decode cX0_reckons 143 = .ok (.lastore, 1) := by decide +kernel
theorem dX0_reckons_144 : decode cX0_reckons 144 = .ok (.lload 6, 2) := by decide +kernel
theorem dX0_reckons_146 : decode cX0_reckons 146 = .ok (.ldc2_w 102, 3) := by decide +kernel
theorem dX0_reckons_149 : decode cX0_reckons 149 = .ok (.lcmp, 1) := by decide +kernel
theorem dX0_reckons_150 : decode cX0_reckons 150 = .ok (.ifCond .lt 16, 3) := by decide +kernel
theorem dX0_reckons_153 : decode cX0_reckons 153 = .ok (.lload 6, 2) := by decide +kernel
theorem dX0_reckons_155 : decode cX0_reckons 155 = .ok (.ldc2_w 104, 3) := by decide +kernel
theorem dX0_reckons_158 : decode cX0_reckons 158 = .ok (.lcmp, 1) := by decide +kernel
theorem dX0_reckons_159 : decode cX0_reckons 159 = .ok (.ifCond .gt 7, 3) := by decide +kernel
theorem dX0_reckons_162 : decode cX0_reckons 162 = .ok (.iconst 1, 1) := by decide +kernel
theorem dX0_reckons_163 : decode cX0_reckons 163 = .ok (.goto 4, 3) := by decide +kernel
theorem dX0_reckons_166 : decode cX0_reckons 166 = .ok (.iconst 0, 1) := by decide +kernel
theorem dX0_reckons_167 : decode cX0_reckons 167 = .ok (.ireturn, 1) := by decide +kernel
set_option maxHeartbeats 4000000 in
set_option maxRecDepth 100000 in
theorem x_X0_reckons_121 {p : Program} {l : Launch} {e : Env} {s : State} {m : MethodId} {args : Array Value} {below : List Frame} {meth : Method} {c : Code} {D : va_G} {K : Nat → ClassId} {A : Nat → Prop} {ad la : Nat → Nat} {rest : va_W} (C : xC p s m args meth c D K A RX0 cX0_reckons 8 (some .boolean)) (z : Int32 × xS) : ∀ (y6 : Int64) (σ : xS), F_X0_reckons_121  y6 σ = some z → X p l e (xR 0 0) s m args below meth c D A 8 (xQi below D K A args s z.1 (CW K ad la rest z.2)) 0 0 121 [(0, .ref (ad 44)), (6, .long y6)] [] (CW K ad la rest σ) := by
  intro y6 σ hF
  unfold F_X0_reckons_121 at hF
  refine x_aload_n C 0 0 dX0_reckons_121 rfl rfl ?_
  refine x_dup C rfl dX0_reckons_122 ?_
  refine x_get C 44 dX0_reckons_123 fl_X0_81 (CW_44 K ad la rest σ) rfl ?_
  refine x_iconst C 1 dX0_reckons_126 (by decide +kernel) ?_
  refine x_isub C dX0_reckons_127 ?_
  refine x_put C 44 dX0_reckons_128 fl_X0_81 fm_X0_3 rfl rfl (CW_44 K ad la rest σ) (Nat.le_of_ble_eq_true rfl) (CW_s44_3 K ad la rest σ _) ?_
  refine x_st (wf := CW K ad la rest) hF (fun σ10 hF => ?_)
  refine x_aload_n C 0 0 dX0_reckons_131 rfl rfl ?_
  refine x_get C 44 dX0_reckons_132 fl_X0_17 (CW_44 K ad la rest σ10) rfl ?_
  refine x_aload_n C 0 0 dX0_reckons_135 rfl rfl ?_
  refine x_get C 44 dX0_reckons_136 fl_X0_81 (CW_44 K ad la rest σ10) rfl ?_
  refine x_iconst C 1 dX0_reckons_139 (by decide +kernel) ?_
  refine x_isub C dX0_reckons_140 ?_
  refine x_lload C 1 6 dX0_reckons_141 rfl ?_
  refine x_last C 46 dX0_reckons_143 (CW_46 K ad la rest σ10) hF (CW_s46 K ad la rest σ10 _) (fun hF => ?_)
  refine x_st (wf := CW K ad la rest) hF (fun σ11 hF => ?_)
  refine x_lload C 1 6 dX0_reckons_144 rfl ?_
  refine x_ldc2 C (-1000000000) dX0_reckons_146 cl_X0_102 ?_
  refine x_lcmp C dX0_reckons_149 ?_
  refine x_if_lt C 166 dX0_reckons_150 (by decide) hF (fun hF => ?_) (fun hF => ?_)
  · refine x_iconst C 0 dX0_reckons_166 (by decide +kernel) ?_
    have hz := (cz_some hF).1
    replace hF := (cz_some hF).2
    exact x_zret C dX0_reckons_167 rfl hz (congrArg Prod.fst (Option.some.inj hF)) (congrArg (fun q9 : Int32 × xS => CW K ad la rest q9.2) (Option.some.inj hF))
  · refine x_lload C 1 6 dX0_reckons_153 rfl ?_
    refine x_ldc2 C 1000000000 dX0_reckons_155 cl_X0_104 ?_
    refine x_lcmp C dX0_reckons_158 ?_
    refine x_if_gt C 166 dX0_reckons_159 (by decide) hF (fun hF => ?_) (fun hF => ?_)
    · refine x_iconst C 0 dX0_reckons_166 (by decide +kernel) ?_
      have hz := (cz_some hF).1
      replace hF := (cz_some hF).2
      exact x_zret C dX0_reckons_167 rfl hz (congrArg Prod.fst (Option.some.inj hF)) (congrArg (fun q9 : Int32 × xS => CW K ad la rest q9.2) (Option.some.inj hF))
    · refine x_iconst C 1 dX0_reckons_162 (by decide +kernel) ?_
      refine x_goto C 167 dX0_reckons_163 (by decide) ?_
      have hz := (cz_some hF).1
      replace hF := (cz_some hF).2
      exact x_zret C dX0_reckons_167 rfl hz (congrArg Prod.fst (Option.some.inj hF)) (congrArg (fun q9 : Int32 × xS => CW K ad la rest q9.2) (Option.some.inj hF))
set_option maxHeartbeats 4000000 in
set_option maxRecDepth 100000 in
theorem x_X0_reckons_60 {p : Program} {l : Launch} {e : Env} {s : State} {m : MethodId} {args : Array Value} {below : List Frame} {meth : Method} {c : Code} {D : va_G} {K : Nat → ClassId} {A : Nat → Prop} {ad la : Nat → Nat} {rest : va_W} (C : xC p s m args meth c D K A RX0 cX0_reckons 8 (some .boolean)) (z : Int32 × xS) : ∀ (y1 : Int32) (y2 : Int64) (y4 : Int64) (σ : xS), F_X0_reckons_60  y1 y2 y4 σ = some z → X p l e (xR 0 0) s m args below meth c D A 8 (xQi below D K A args s z.1 (CW K ad la rest z.2)) 0 0 60 [(0, .ref (ad 44)), (1, .int y1), (2, .long y2), (4, .long y4)] [] (CW K ad la rest σ) := by
  intro y1 y2 y4 σ hF
  unfold F_X0_reckons_60 at hF
  refine x_iload_n C 1 1 dX0_reckons_60 rfl rfl ?_
  by_cases h4 : y1 = 2
  · rw [if_pos h4] at hF
    refine x_tabG C 88 dX0_reckons_61 (by rw [h4]; exact Or.inl ⟨_, by decide +kernel, rfl, by decide⟩) ?_
    refine x_lload C 3 4 dX0_reckons_88 rfl ?_
    refine x_lload_n C 2 2 dX0_reckons_90 rfl rfl ?_
    refine x_ladd C dX0_reckons_91 ?_
    refine x_topL hF (fun x3 hF => ?_)
    refine x_lstore C [(6, .long x3), (0, .ref (ad 44)), (1, .int y1), (2, .long y2), (4, .long y4)] dX0_reckons_92 (by decide) rfl ?_
    refine x_goto C 121 dX0_reckons_94 (by decide) ?_
    refine x_loc [(0, .ref (ad 44)), (6, .long x3)] [1, 0] rfl ?_
    exact x_X0_reckons_121 C z x3 σ hF
  · rw [if_neg h4] at hF
    by_cases h6 : y1 = 3
    · rw [if_pos h6] at hF
      refine x_tabG C 97 dX0_reckons_61 (by rw [h6]; exact Or.inl ⟨_, by decide +kernel, rfl, by decide⟩) ?_
      refine x_lload C 3 4 dX0_reckons_97 rfl ?_
      refine x_lload_n C 2 2 dX0_reckons_99 rfl rfl ?_
      refine x_lsub C dX0_reckons_100 ?_
      refine x_topL hF (fun x5 hF => ?_)
      refine x_lstore C [(6, .long x5), (0, .ref (ad 44)), (1, .int y1), (2, .long y2), (4, .long y4)] dX0_reckons_101 (by decide) rfl ?_
      refine x_goto C 121 dX0_reckons_103 (by decide) ?_
      refine x_loc [(0, .ref (ad 44)), (6, .long x5)] [1, 0] rfl ?_
      exact x_X0_reckons_121 C z x5 σ hF
    · rw [if_neg h6] at hF
      by_cases h8 : y1 = 4
      · rw [if_pos h8] at hF
        refine x_tabG C 106 dX0_reckons_61 (by rw [h8]; exact Or.inl ⟨_, by decide +kernel, rfl, by decide⟩) ?_
        refine x_lload C 3 4 dX0_reckons_106 rfl ?_
        refine x_lload_n C 2 2 dX0_reckons_108 rfl rfl ?_
        refine x_lmul C dX0_reckons_109 ?_
        refine x_topL hF (fun x7 hF => ?_)
        refine x_lstore C [(6, .long x7), (0, .ref (ad 44)), (1, .int y1), (2, .long y2), (4, .long y4)] dX0_reckons_110 (by decide) rfl ?_
        refine x_goto C 121 dX0_reckons_112 (by decide) ?_
        refine x_loc [(0, .ref (ad 44)), (6, .long x7)] [1, 0] rfl ?_
        exact x_X0_reckons_121 C z x7 σ hF
      · rw [if_neg h8] at hF
        refine x_tabG C 115 dX0_reckons_61 (by have e0 : y1.toInt ≠ 2 := x_neT h4; have e1 : y1.toInt ≠ 3 := x_neT h6; have e2 : y1.toInt ≠ 4 := x_neT h8; exact Or.inr ⟨by omega, by decide⟩) ?_
        refine x_lload C 3 4 dX0_reckons_115 rfl ?_
        refine x_lload_n C 2 2 dX0_reckons_117 rfl rfl ?_
        refine x_ldiv C dX0_reckons_118 hF (fun hF => ?_)
        refine x_topL hF (fun x9 hF => ?_)
        refine x_lstore C [(6, .long x9), (0, .ref (ad 44)), (1, .int y1), (2, .long y2), (4, .long y4)] dX0_reckons_119 (by decide) rfl ?_
        refine x_loc [(0, .ref (ad 44)), (6, .long x9)] [1, 0] rfl ?_
        exact x_X0_reckons_121 C z x9 σ hF
set_option maxHeartbeats 4000000 in
set_option maxRecDepth 100000 in
theorem c_X0_reckons (l : Launch) (D : va_G) (K : Nat → ClassId) (ad la : Nat → Nat) (rest : va_W)  (a1 : Int32) (σ : xS) (z : Int32 × xS) (hF : F_X0_reckons a1 σ = some z) : CI l D K yX0_reckons cX0_reckons 8 (some .boolean) 0 0 [.ref (ad 44), .int a1] (CW K ad la rest σ) z.1 (CW K ad la rest z.2) := by
  refine x_enterI [(0, .ref (ad 44)), (1, .int a1)] pnX0 (Nat.le_of_ble_eq_true rfl) rfl ?_
  intro p e s m args below meth c A C
  unfold F_X0_reckons at hF
  refine x_aload_n C 0 0 dX0_reckons_0 rfl rfl ?_
  refine x_get C 44 dX0_reckons_1 fl_X0_81 (CW_44 K ad la rest σ) rfl ?_
  refine x_iconst C 2 dX0_reckons_4 (by decide +kernel) ?_
  refine x_icmp_lt C 20 dX0_reckons_5 (by decide) hF (fun hF => ?_) (fun hF => ?_)
  · refine x_iconst C 0 dX0_reckons_20 (by decide +kernel) ?_
    have hz := (cz_some hF).1
    replace hF := (cz_some hF).2
    exact x_zret C dX0_reckons_21 rfl hz (congrArg Prod.fst (Option.some.inj hF)) (congrArg (fun q9 : Int32 × xS => CW K ad la rest q9.2) (Option.some.inj hF))
  · refine x_aload_n C 0 0 dX0_reckons_8 rfl rfl ?_
    refine x_get C 44 dX0_reckons_9 fl_X0_81 (CW_44 K ad la rest σ) rfl ?_
    refine x_aload_n C 0 0 dX0_reckons_12 rfl rfl ?_
    refine x_get C 44 dX0_reckons_13 fl_X0_17 (CW_44 K ad la rest σ) rfl ?_
    refine x_alen C (t0 := 1) 64 46 dX0_reckons_16 (CW_46 K ad la rest σ) rfl rfl ?_
    refine x_icmp_le C 22 dX0_reckons_17 (by decide) hF (fun hF => ?_) (fun hF => ?_)
    · refine x_aload_n C 0 0 dX0_reckons_22 rfl rfl ?_
      refine x_get C 44 dX0_reckons_23 fl_X0_17 (CW_44 K ad la rest σ) rfl ?_
      refine x_aload_n C 0 0 dX0_reckons_26 rfl rfl ?_
      refine x_get C 44 dX0_reckons_27 fl_X0_81 (CW_44 K ad la rest σ) rfl ?_
      refine x_iconst C 1 dX0_reckons_30 (by decide +kernel) ?_
      refine x_isub C dX0_reckons_31 ?_
      refine x_lald C 46 dX0_reckons_32 (CW_46 K ad la rest σ) hF (fun v1 hF => ?_)
      refine x_lstore_n C [(2, .long v1), (0, .ref (ad 44)), (1, .int a1)] dX0_reckons_33 rfl (by decide) rfl ?_
      refine x_aload_n C 1 0 dX0_reckons_34 rfl rfl ?_
      refine x_get C 44 dX0_reckons_35 fl_X0_17 (CW_44 K ad la rest σ) rfl ?_
      refine x_aload_n C 1 0 dX0_reckons_38 rfl rfl ?_
      refine x_get C 44 dX0_reckons_39 fl_X0_81 (CW_44 K ad la rest σ) rfl ?_
      refine x_iconst C 2 dX0_reckons_42 (by decide +kernel) ?_
      refine x_isub C dX0_reckons_43 ?_
      refine x_lald C 46 dX0_reckons_44 (CW_46 K ad la rest σ) hF (fun v2 hF => ?_)
      refine x_lstore C [(4, .long v2), (2, .long v1), (0, .ref (ad 44)), (1, .int a1)] dX0_reckons_45 (by decide) rfl ?_
      refine x_iload_n C 3 1 dX0_reckons_47 rfl rfl ?_
      refine x_iconst C 5 dX0_reckons_48 (by decide +kernel) ?_
      refine x_icmp_ne C 60 dX0_reckons_49 (by decide) hF (fun hF => ?_) (fun hF => ?_)
      · refine x_loc [(0, .ref (ad 44)), (1, .int a1), (2, .long v1), (4, .long v2)] [2, 3, 1, 0] rfl ?_
        exact x_X0_reckons_60 C z a1 v1 v2 σ hF
      · refine x_lload_n C 1 2 dX0_reckons_52 rfl rfl ?_
        refine x_lconst C 0 dX0_reckons_53 (by decide +kernel) ?_
        refine x_lcmp C dX0_reckons_54 ?_
        refine x_if_ne C 60 dX0_reckons_55 (by decide) hF (fun hF => ?_) (fun hF => ?_)
        · refine x_loc [(0, .ref (ad 44)), (1, .int a1), (2, .long v1), (4, .long v2)] [2, 3, 1, 0] rfl ?_
          exact x_X0_reckons_60 C z a1 v1 v2 σ hF
        · refine x_iconst C 0 dX0_reckons_58 (by decide +kernel) ?_
          have hz := (cz_some hF).1
          replace hF := (cz_some hF).2
          exact x_zret C dX0_reckons_59 rfl hz (congrArg Prod.fst (Option.some.inj hF)) (congrArg (fun q9 : Int32 × xS => CW K ad la rest q9.2) (Option.some.inj hF))
    · refine x_iconst C 0 dX0_reckons_20 (by decide +kernel) ?_
      have hz := (cz_some hF).1
      replace hF := (cz_some hF).2
      exact x_zret C dX0_reckons_21 rfl hz (congrArg Prod.fst (Option.some.inj hF)) (congrArg (fun q9 : Int32 × xS => CW K ad la rest q9.2) (Option.some.inj hF))
theorem dX0_holds_0 : decode cX0_holds 0 = .ok (.iconst 1, 1) := by decide +kernel
theorem dX0_holds_1 : decode cX0_holds 1 = .ok (.istore_n 3, 1) := by decide +kernel
theorem dX0_holds_2 : decode cX0_holds 2 = .ok (.aload_n 0, 1) := by decide +kernel
theorem dX0_holds_3 : decode cX0_holds 3 = .ok (.iconst 2, 1) := by decide +kernel
theorem dX0_holds_4 : decode cX0_holds 4 = .ok (.putfield 81, 3) := by decide +kernel
theorem dX0_holds_7 : decode cX0_holds 7 = .ok (.aload_n 0, 1) := by decide +kernel
theorem dX0_holds_8 : decode cX0_holds 8 = .ok (.lconst 0, 1) := by decide +kernel
theorem dX0_holds_9 : decode cX0_holds 9 = .ok (.putfield 68, 3) := by decide +kernel
theorem dX0_holds_12 : decode cX0_holds 12 = .ok (.aload_n 1, 1) := by decide +kernel
theorem dX0_holds_13 : decode cX0_holds 13 = .ok (.getfield 84, 3) := by decide +kernel
theorem dX0_holds_16 : decode cX0_holds 16 = .ok (.iload_n 2, 1) := by decide +kernel
theorem dX0_holds_17 : decode cX0_holds 17 = .ok (.iconst 1, 1) := by decide +kernel
theorem dX0_holds_18 : decode cX0_holds 18 = .ok (.iadd, 1) := by decide +kernel
theorem dX0_holds_19 : decode cX0_holds 19 = .ok (.iaload, 1) := by decide +kernel
theorem dX0_holds_20 : decode cX0_holds 20 = .ok (.aload_n 1, 1) := by decide +kernel
theorem dX0_holds_21 : decode cX0_holds 21 = .ok (.getfield 87, 3) := by decide +kernel
theorem dX0_holds_24 : decode cX0_holds 24 = .ok (.arraylength, 1) := by decide +kernel
theorem dX0_holds_25 : decode cX0_holds 25 = .ok (.invokestatic 90, 3) := by decide +kernel
theorem dX0_holds_28 : decode cX0_holds 28 = .ok (.istore 4, 2) := by decide +kernel
theorem dX0_holds_30 : decode cX0_holds 30 = .ok (.aload_n 1, 1) := by decide +kernel
theorem dX0_holds_31 : decode cX0_holds 31 = .ok (.getfield 84, 3) := by decide +kernel
theorem dX0_holds_34 : decode cX0_holds 34 = .ok (.iload_n 2, 1) := by decide +kernel
theorem dX0_holds_35 : decode cX0_holds 35 = .ok (.iaload, 1) := by decide +kernel
theorem dX0_holds_36 : decode cX0_holds 36 = .ok (.istore 5, 2) := by decide +kernel
theorem dX0_holds_38 : decode cX0_holds 38 = .ok (.iload 5, 2) := by decide +kernel
theorem dX0_holds_40 : decode cX0_holds 40 = .ok (.iload 4, 2) := by decide +kernel
theorem dX0_holds_42 : decode cX0_holds 42 = .ok (.if_icmp .ge 328, 3) := by decide +kernel
theorem dX0_holds_45 : decode cX0_holds 45 = .ok (.aload_n 0, 1) := by decide +kernel
theorem dX0_holds_46 : decode cX0_holds 46 = .ok (.getfield 81, 3) := by decide +kernel
theorem dX0_holds_49 : decode cX0_holds 49 = .ok (.iconst 2, 1) := by decide +kernel
theorem dX0_holds_50 : decode cX0_holds 50 = .ok (.if_icmp .lt 15, 3) := by decide +kernel
theorem dX0_holds_53 : decode cX0_holds 53 = .ok (.aload_n 0, 1) := by decide +kernel
theorem dX0_holds_54 : decode cX0_holds 54 = .ok (.getfield 81, 3) := by decide +kernel
theorem dX0_holds_57 : decode cX0_holds 57 = .ok (.aload_n 0, 1) := by decide +kernel
theorem dX0_holds_58 : decode cX0_holds 58 = .ok (.getfield 17, 3) := by decide +kernel
theorem dX0_holds_61 : decode cX0_holds 61 = .ok (.arraylength, 1) := by decide +kernel
theorem dX0_holds_62 : decode cX0_holds 62 = .ok (.if_icmp .lt 5, 3) := by decide +kernel
theorem dX0_holds_65 : decode cX0_holds 65 = .ok (.iconst 0, 1) := by decide +kernel
theorem dX0_holds_66 : decode cX0_holds 66 = .ok (.ireturn, 1) := by decide +kernel
theorem dX0_holds_67 : decode cX0_holds 67 = .ok (.aload_n 1, 1) := by decide +kernel
theorem dX0_holds_68 : decode cX0_holds 68 = .ok (.getfield 87, 3) := by decide +kernel
theorem dX0_holds_71 : decode cX0_holds 71 = .ok (.iload 5, 2) := by decide +kernel
theorem dX0_holds_73 : decode cX0_holds 73 = .ok (.iaload, 1) := by decide +kernel
theorem dX0_holds_74 : decode cX0_holds 74 = .ok (.bipush 15, 2) := by decide +kernel
theorem dX0_holds_76 : decode cX0_holds 76 = .ok (.iand, 1) := by decide +kernel
theorem dX0_holds_77 : decode cX0_holds 77 = .ok (.istore 6, 2) := by decide +kernel
theorem dX0_holds_79 : decode cX0_holds 79 = .ok (.aload_n 1, 1) := by decide +kernel
theorem dX0_holds_80 : decode cX0_holds 80 = .ok (.getfield 87, 3) := by decide +kernel
theorem dX0_holds_83 : decode cX0_holds 83 = .ok (.iload 5, 2) := by decide +kernel
theorem dX0_holds_85 : decode cX0_holds 85 = .ok (.iaload, 1) := by decide +kernel
theorem dX0_holds_86 : decode cX0_holds 86 = .ok (.iconst 4, 1) := by decide +kernel
theorem dX0_holds_87 : decode cX0_holds 87 = .ok (.ishr, 1) := by decide +kernel
theorem dX0_holds_88 : decode cX0_holds 88 = .ok (.istore 7, 2) := by decide +kernel
theorem dX0_holds_90 : decode cX0_holds 90 = .ok (.iload 6, 2) := by decide +kernel
theorem dX0_holds_92 : decode cX0_holds 92 = .ok (.tableswitch 261 0 12 #[68, 93, 261, 261, 261, 261, 222, 222, 222, 163, 176, 199, 137], 68) := by decide +kernel
theorem dX0_holds_160 : decode cX0_holds 160 = .ok (.aload_n 0, 1) := by decide +kernel
theorem dX0_holds_161 : decode cX0_holds 161 = .ok (.getfield 17, 3) := by decide +kernel
theorem dX0_holds_164 : decode cX0_holds 164 = .ok (.aload_n 0, 1) := by decide +kernel
theorem dX0_holds_165 : decode cX0_holds 165 = .ok (.getfield 81, 3) := by decide +kernel
theorem dX0_holds_168 : decode cX0_holds 168 = .ok (.iload 7, 2) := by decide +kernel
theorem dX0_holds_170 : decode cX0_holds 170 = .ok (.i2l, 1) := by decide +kernel
theorem dX0_holds_171 : decode cX0_holds 171 = .ok (.lastore, 1) := by decide +kernel
theorem dX0_holds_172 : decode cX0_holds 172 = .ok (.aload_n 0, 1) := by decide +kernel
theorem dX0_holds_173 : decode cX0_holds 173 = .ok (.dup, 1) := by decide +kernel
theorem dX0_holds_174 : decode cX0_holds 174 = .ok (.getfield 81, 3) := by decide +kernel
theorem dX0_holds_177 : decode cX0_holds 177 = .ok (.iconst 1, 1) := by decide +kernel
theorem dX0_holds_178 : decode cX0_holds 178 = .ok (.iadd, 1) := by decide +kernel
theorem dX0_holds_179 : decode cX0_holds 179 = .ok (.putfield 81, 3) := by decide +kernel
theorem dX0_holds_182 : decode cX0_holds 182 = .ok (.goto 182, 3) := by decide +kernel
theorem dX0_holds_185 : decode cX0_holds 185 = .ok (.aload_n 0, 1) := by decide +kernel
theorem dX0_holds_186 : decode cX0_holds 186 = .ok (.getfield 17, 3) := by decide +kernel
theorem dX0_holds_189 : decode cX0_holds 189 = .ok (.aload_n 0, 1) := by decide +kernel
theorem dX0_holds_190 : decode cX0_holds 190 = .ok (.getfield 81, 3) := by decide +kernel
theorem dX0_holds_193 : decode cX0_holds 193 = .ok (.iload 7, 2) := by decide +kernel
theorem dX0_holds_195 : decode cX0_holds 195 = .ok (.aload_n 0, 1) := by decide +kernel
theorem dX0_holds_196 : decode cX0_holds 196 = .ok (.getfield 11, 3) := by decide +kernel
theorem dX0_holds_199 : decode cX0_holds 199 = .ok (.arraylength, 1) := by decide +kernel
theorem dX0_holds_200 : decode cX0_holds 200 = .ok (.if_icmp .ge 14, 3) := by decide +kernel
theorem dX0_holds_203 : decode cX0_holds 203 = .ok (.aload_n 0, 1) := by decide +kernel
theorem dX0_holds_204 : decode cX0_holds 204 = .ok (.getfield 11, 3) := by decide +kernel
theorem dX0_holds_207 : decode cX0_holds 207 = .ok (.iload 7, 2) := by decide +kernel
theorem dX0_holds_209 : decode cX0_holds 209 = .ok (.iaload, 1) := by decide +kernel
theorem dX0_holds_210 : decode cX0_holds 210 = .ok (.i2l, 1) := by decide +kernel
theorem dX0_holds_211 : decode cX0_holds 211 = .ok (.goto 4, 3) := by decide +kernel
theorem dX0_holds_214 : decode cX0_holds 214 = .ok (.lconst 0, 1) := by decide +kernel
theorem dX0_holds_215 : decode cX0_holds 215 = .ok (.lastore, 1) := by decide +kernel
theorem dX0_holds_216 : decode cX0_holds 216 = .ok (.aload_n 0, 1) := by decide +kernel
theorem dX0_holds_217 : decode cX0_holds 217 = .ok (.dup, 1) := by decide +kernel
theorem dX0_holds_218 : decode cX0_holds 218 = .ok (.getfield 81, 3) := by decide +kernel
theorem dX0_holds_221 : decode cX0_holds 221 = .ok (.iconst 1, 1) := by decide +kernel
theorem dX0_holds_222 : decode cX0_holds 222 = .ok (.iadd, 1) := by decide +kernel
theorem dX0_holds_223 : decode cX0_holds 223 = .ok (.putfield 81, 3) := by decide +kernel
theorem dX0_holds_226 : decode cX0_holds 226 = .ok (.goto 138, 3) := by decide +kernel
theorem dX0_holds_229 : decode cX0_holds 229 = .ok (.aload_n 0, 1) := by decide +kernel
theorem dX0_holds_230 : decode cX0_holds 230 = .ok (.dup, 1) := by decide +kernel
theorem dX0_holds_231 : decode cX0_holds 231 = .ok (.getfield 81, 3) := by decide +kernel
theorem dX0_holds_234 : decode cX0_holds 234 = .ok (.iconst 1, 1) := by decide +kernel
theorem dX0_holds_235 : decode cX0_holds 235 = .ok (.isub, 1) := by decide +kernel
theorem dX0_holds_236 : decode cX0_holds 236 = .ok (.putfield 81, 3) := by decide +kernel
theorem dX0_holds_239 : decode cX0_holds 239 = .ok (.aload_n 0, 1) := by decide +kernel
theorem dX0_holds_240 : decode cX0_holds 240 = .ok (.aload_n 0, 1) := by decide +kernel
theorem dX0_holds_241 : decode cX0_holds 241 = .ok (.getfield 17, 3) := by decide +kernel
theorem dX0_holds_244 : decode cX0_holds 244 = .ok (.aload_n 0, 1) := by decide +kernel
theorem dX0_holds_245 : decode cX0_holds 245 = .ok (.getfield 81, 3) := by decide +kernel
theorem dX0_holds_248 : decode cX0_holds 248 = .ok (.laload, 1) := by decide +kernel
theorem dX0_holds_249 : decode cX0_holds 249 = .ok (.putfield 68, 3) := by decide +kernel
theorem dX0_holds_252 : decode cX0_holds 252 = .ok (.goto 112, 3) := by decide +kernel
theorem dX0_holds_255 : decode cX0_holds 255 = .ok (.iload_n 3, 1) := by decide +kernel
theorem dX0_holds_256 : decode cX0_holds 256 = .ok (.ifCond .ne 7, 3) := by decide +kernel
theorem dX0_holds_259 : decode cX0_holds 259 = .ok (.iconst 1, 1) := by decide +kernel
theorem dX0_holds_260 : decode cX0_holds 260 = .ok (.goto 4, 3) := by decide +kernel
theorem dX0_holds_263 : decode cX0_holds 263 = .ok (.iconst 0, 1) := by decide +kernel
theorem dX0_holds_264 : decode cX0_holds 264 = .ok (.istore_n 3, 1) := by decide +kernel
theorem dX0_holds_265 : decode cX0_holds 265 = .ok (.goto 99, 3) := by decide +kernel
theorem dX0_holds_268 : decode cX0_holds 268 = .ok (.iload_n 3, 1) := by decide +kernel
theorem dX0_holds_269 : decode cX0_holds 269 = .ok (.ifCond .eq 15, 3) := by decide +kernel
theorem dX0_holds_272 : decode cX0_holds 272 = .ok (.iload 5, 2) := by decide +kernel
theorem dX0_holds_274 : decode cX0_holds 274 = .ok (.iload 7, 2) := by decide +kernel
theorem dX0_holds_276 : decode cX0_holds 276 = .ok (.iconst 1, 1) := by decide +kernel
theorem dX0_holds_277 : decode cX0_holds 277 = .ok (.isub, 1) := by decide +kernel
theorem dX0_holds_278 : decode cX0_holds 278 = .ok (.invokestatic 92, 3) := by decide +kernel
theorem dX0_holds_281 : decode cX0_holds 281 = .ok (.goto 5, 3) := by decide +kernel
theorem dX0_holds_284 : decode cX0_holds 284 = .ok (.iload 5, 2) := by decide +kernel
theorem dX0_holds_286 : decode cX0_holds 286 = .ok (.istore 5, 2) := by decide +kernel
theorem dX0_holds_288 : decode cX0_holds 288 = .ok (.goto 76, 3) := by decide +kernel
theorem dX0_holds_291 : decode cX0_holds 291 = .ok (.iload_n 3, 1) := by decide +kernel
theorem dX0_holds_292 : decode cX0_holds 292 = .ok (.ifCond .eq 8, 3) := by decide +kernel
theorem dX0_holds_295 : decode cX0_holds 295 = .ok (.iload 5, 2) := by decide +kernel
theorem dX0_holds_297 : decode cX0_holds 297 = .ok (.goto 12, 3) := by decide +kernel
theorem dX0_holds_300 : decode cX0_holds 300 = .ok (.iload 5, 2) := by decide +kernel
theorem dX0_holds_302 : decode cX0_holds 302 = .ok (.iload 7, 2) := by decide +kernel
theorem dX0_holds_304 : decode cX0_holds 304 = .ok (.iconst 1, 1) := by decide +kernel
theorem dX0_holds_305 : decode cX0_holds 305 = .ok (.isub, 1) := by decide +kernel
theorem dX0_holds_306 : decode cX0_holds 306 = .ok (.invokestatic 92, 3) := by decide +kernel
theorem dX0_holds_309 : decode cX0_holds 309 = .ok (.istore 5, 2) := by decide +kernel
theorem dX0_holds_311 : decode cX0_holds 311 = .ok (.goto 53, 3) := by decide +kernel
theorem dX0_holds_314 : decode cX0_holds 314 = .ok (.aload_n 0, 1) := by decide +kernel
theorem dX0_holds_315 : decode cX0_holds 315 = .ok (.dup, 1) := by decide +kernel
theorem dX0_holds_316 : decode cX0_holds 316 = .ok (.getfield 81, 3) := by decide +kernel
theorem dX0_holds_319 : decode cX0_holds 319 = .ok (.iconst 2, 1) := by decide +kernel
theorem dX0_holds_320 : decode cX0_holds 320 = .ok (.isub, 1) := by decide +kernel
theorem dX0_holds_321 : decode cX0_holds 321 = .ok (.putfield 81, 3) := by decide +kernel
theorem dX0_holds_324 : decode cX0_holds 324 = .ok (.iload 6, 2) := by decide +kernel
theorem dX0_holds_326 : decode cX0_holds 326 = .ok (.aload_n 0, 1) := by decide +kernel
theorem dX0_holds_327 : decode cX0_holds 327 = .ok (.getfield 17, 3) := by decide +kernel
theorem dX0_holds_330 : decode cX0_holds 330 = .ok (.aload_n 0, 1) := by decide +kernel
theorem dX0_holds_331 : decode cX0_holds 331 = .ok (.getfield 81, 3) := by decide +kernel
theorem dX0_holds_334 : decode cX0_holds 334 = .ok (.laload, 1) := by decide +kernel
theorem dX0_holds_335 : decode cX0_holds 335 = .ok (.aload_n 0, 1) := by decide +kernel
theorem dX0_holds_336 : decode cX0_holds 336 = .ok (.getfield 17, 3) := by decide +kernel
theorem dX0_holds_339 : decode cX0_holds 339 = .ok (.aload_n 0, 1) := by decide +kernel
theorem dX0_holds_340 : decode cX0_holds 340 = .ok (.getfield 81, 3) := by decide +kernel
theorem dX0_holds_343 : decode cX0_holds 343 = .ok (.iconst 1, 1) := by decide +kernel
theorem dX0_holds_344 : decode cX0_holds 344 = .ok (.iadd, 1) := by decide +kernel
theorem dX0_holds_345 : decode cX0_holds 345 = .ok (.laload, 1) := by decide +kernel
theorem dX0_holds_346 : decode cX0_holds 346 = .ok (.invokestatic 94, 3) := by decide +kernel
theorem dX0_holds_349 : decode cX0_holds 349 = .ok (.istore_n 3, 1) := by decide +kernel
theorem dX0_holds_350 : decode cX0_holds 350 = .ok (.goto 14, 3) := by decide +kernel
theorem dX0_holds_353 : decode cX0_holds 353 = .ok (.aload_n 0, 1) := by decide +kernel
theorem dX0_holds_354 : decode cX0_holds 354 = .ok (.iload 6, 2) := by decide +kernel
theorem dX0_holds_356 : decode cX0_holds 356 = .ok (.invokevirtual 98, 3) := by decide +kernel
theorem dX0_holds_359 : decode cX0_holds 359 = .ok (.ifCond .ne 5, 3) := by decide +kernel
theorem dX0_holds_362 : decode cX0_holds 362 = .ok (.iconst 0, 1) := by decide +kernel
theorem dX0_holds_363 : decode cX0_holds 363 = .ok (.ireturn, 1) := by decide +kernel
theorem dX0_holds_364 : decode cX0_holds 364 = .ok (.iinc 5 1, 3) := by decide +kernel
theorem dX0_holds_367 : decode cX0_holds 367 = .ok (.goto (-329), 3) := by decide +kernel
theorem dX0_holds_370 : decode cX0_holds 370 = .ok (.iload_n 3, 1) := by decide +kernel
theorem dX0_holds_371 : decode cX0_holds 371 = .ok (.ireturn, 1) := by decide +kernel
set_option maxHeartbeats 4000000 in
set_option maxRecDepth 100000 in
theorem x_X0_holds_215 {p : Program} {l : Launch} {e : Env} {s : State} {m : MethodId} {args : Array Value} {below : List Frame} {meth : Method} {c : Code} {D : va_G} {K : Nat → ClassId} {A : Nat → Prop} {ad la : Nat → Nat} {rest : va_W} (i1 : Nat) (C : xC p s m args meth c D K A RX0 cX0_holds 8 (some .boolean)) (z : Int32 × xS) (k_38 : Int32 → Int32 → Int32 → xS → Option (Int32 × xS)) (H_38 : ∀ (y3 : Int32) (y4 : Int32) (y5 : Int32) (σ : xS), k_38 y3 y4 y5 σ = some z → X p l e (xR 1 27) s m args below meth c D A 8 (xQi below D K A args s z.1 (CW K ad la rest z.2)) 0 0 38 [(0, .ref (ad 44)), (1, .ref (la (4 * i1))), (3, .int y3), (4, .int y4), (5, .int y5)] [] (CW K ad la rest σ)) : ∀ (y3 : Int32) (y4 : Int32) (y5 : Int32) (t1x : Int32) (t2x : Int64) (σ : xS), F_X0_holds_215 i1 k_38 y3 y4 y5 t1x t2x σ = some z → X p l e (xR 1 27) s m args below meth c D A 8 (xQi below D K A args s z.1 (CW K ad la rest z.2)) 0 0 215 [(0, .ref (ad 44)), (1, .ref (la (4 * i1))), (3, .int y3), (4, .int y4), (5, .int y5)] [.long t2x, .int t1x, .ref (ad 46)] (CW K ad la rest σ) := by
  intro y3 y4 y5 t1x t2x σ hF
  unfold F_X0_holds_215 at hF
  refine x_last C 46 dX0_holds_215 (CW_46 K ad la rest σ) hF (CW_s46 K ad la rest σ _) (fun hF => ?_)
  refine x_st (wf := CW K ad la rest) hF (fun σ40 hF => ?_)
  refine x_aload_n C 0 0 dX0_holds_216 rfl rfl ?_
  refine x_dup C rfl dX0_holds_217 ?_
  refine x_get C 44 dX0_holds_218 fl_X0_81 (CW_44 K ad la rest σ40) rfl ?_
  refine x_iconst C 1 dX0_holds_221 (by decide +kernel) ?_
  refine x_iadd C dX0_holds_222 ?_
  refine x_put C 44 dX0_holds_223 fl_X0_81 fm_X0_3 rfl rfl (CW_44 K ad la rest σ40) (Nat.le_of_ble_eq_true rfl) (CW_s44_3 K ad la rest σ40 _) ?_
  refine x_st (wf := CW K ad la rest) hF (fun σ41 hF => ?_)
  refine x_goto C 364 dX0_holds_226 (by decide) ?_
  refine x_iincN C 1 4 (fun x42 => [(5, .int x42), (0, .ref (ad 44)), (1, .ref (la (4 * i1))), (3, .int y3), (4, .int y4)]) dX0_holds_364 rfl (by decide +kernel) (by decide) (fun _ => rfl) hF (fun x42 hF => ?_)
  refine x_goto C 38 dX0_holds_367 (by decide) ?_
  refine x_loc [(0, .ref (ad 44)), (1, .ref (la (4 * i1))), (3, .int y3), (4, .int y4), (5, .int x42)] [1, 2, 3, 4, 0] rfl ?_
  exact H_38 y3 y4 x42 σ41 hF
set_option maxHeartbeats 4000000 in
set_option maxRecDepth 100000 in
theorem x_X0_holds_264 {p : Program} {l : Launch} {e : Env} {s : State} {m : MethodId} {args : Array Value} {below : List Frame} {meth : Method} {c : Code} {D : va_G} {K : Nat → ClassId} {A : Nat → Prop} {ad la : Nat → Nat} {rest : va_W} (i1 : Nat) (C : xC p s m args meth c D K A RX0 cX0_holds 8 (some .boolean)) (z : Int32 × xS) (k_38 : Int32 → Int32 → Int32 → xS → Option (Int32 × xS)) (H_38 : ∀ (y3 : Int32) (y4 : Int32) (y5 : Int32) (σ : xS), k_38 y3 y4 y5 σ = some z → X p l e (xR 1 27) s m args below meth c D A 8 (xQi below D K A args s z.1 (CW K ad la rest z.2)) 0 0 38 [(0, .ref (ad 44)), (1, .ref (la (4 * i1))), (3, .int y3), (4, .int y4), (5, .int y5)] [] (CW K ad la rest σ)) : ∀ (y4 : Int32) (y5 : Int32) (t0x : Int32) (σ : xS), F_X0_holds_264 i1 k_38 y4 y5 t0x σ = some z → X p l e (xR 1 27) s m args below meth c D A 8 (xQi below D K A args s z.1 (CW K ad la rest z.2)) 0 0 264 [(0, .ref (ad 44)), (1, .ref (la (4 * i1))), (4, .int y4), (5, .int y5)] [.int t0x] (CW K ad la rest σ) := by
  intro y4 y5 t0x σ hF
  unfold F_X0_holds_264 at hF
  refine x_istore_n C [(3, .int t0x), (0, .ref (ad 44)), (1, .ref (la (4 * i1))), (4, .int y4), (5, .int y5)] dX0_holds_264 rfl (by decide) rfl ?_
  refine x_goto C 364 dX0_holds_265 (by decide) ?_
  refine x_iincN C 1 4 (fun x43 => [(5, .int x43), (3, .int t0x), (0, .ref (ad 44)), (1, .ref (la (4 * i1))), (4, .int y4)]) dX0_holds_364 rfl (by decide +kernel) (by decide) (fun _ => rfl) hF (fun x43 hF => ?_)
  refine x_goto C 38 dX0_holds_367 (by decide) ?_
  refine x_loc [(0, .ref (ad 44)), (1, .ref (la (4 * i1))), (3, .int t0x), (4, .int y4), (5, .int x43)] [2, 3, 1, 4, 0] rfl ?_
  exact H_38 t0x y4 x43 σ hF
set_option maxHeartbeats 4000000 in
set_option maxRecDepth 100000 in
theorem x_X0_holds_286 {p : Program} {l : Launch} {e : Env} {s : State} {m : MethodId} {args : Array Value} {below : List Frame} {meth : Method} {c : Code} {D : va_G} {K : Nat → ClassId} {A : Nat → Prop} {ad la : Nat → Nat} {rest : va_W} (i1 : Nat) (C : xC p s m args meth c D K A RX0 cX0_holds 8 (some .boolean)) (z : Int32 × xS) (k_38 : Int32 → Int32 → Int32 → xS → Option (Int32 × xS)) (H_38 : ∀ (y3 : Int32) (y4 : Int32) (y5 : Int32) (σ : xS), k_38 y3 y4 y5 σ = some z → X p l e (xR 1 27) s m args below meth c D A 8 (xQi below D K A args s z.1 (CW K ad la rest z.2)) 0 0 38 [(0, .ref (ad 44)), (1, .ref (la (4 * i1))), (3, .int y3), (4, .int y4), (5, .int y5)] [] (CW K ad la rest σ)) : ∀ (y3 : Int32) (y4 : Int32) (t0x : Int32) (σ : xS), F_X0_holds_286 i1 k_38 y3 y4 t0x σ = some z → X p l e (xR 1 27) s m args below meth c D A 8 (xQi below D K A args s z.1 (CW K ad la rest z.2)) 0 0 286 [(0, .ref (ad 44)), (1, .ref (la (4 * i1))), (3, .int y3), (4, .int y4)] [.int t0x] (CW K ad la rest σ) := by
  intro y3 y4 t0x σ hF
  unfold F_X0_holds_286 at hF
  refine x_istore C [(5, .int t0x), (0, .ref (ad 44)), (1, .ref (la (4 * i1))), (3, .int y3), (4, .int y4)] dX0_holds_286 (by decide) rfl ?_
  refine x_goto C 364 dX0_holds_288 (by decide) ?_
  refine x_iincN C 1 0 (fun x44 => [(5, .int x44), (0, .ref (ad 44)), (1, .ref (la (4 * i1))), (3, .int y3), (4, .int y4)]) dX0_holds_364 rfl (by decide +kernel) (by decide) (fun _ => rfl) hF (fun x44 hF => ?_)
  refine x_goto C 38 dX0_holds_367 (by decide) ?_
  refine x_loc [(0, .ref (ad 44)), (1, .ref (la (4 * i1))), (3, .int y3), (4, .int y4), (5, .int x44)] [1, 2, 3, 4, 0] rfl ?_
  exact H_38 y3 y4 x44 σ hF
set_option maxHeartbeats 4000000 in
set_option maxRecDepth 100000 in
theorem x_X0_holds_309 {p : Program} {l : Launch} {e : Env} {s : State} {m : MethodId} {args : Array Value} {below : List Frame} {meth : Method} {c : Code} {D : va_G} {K : Nat → ClassId} {A : Nat → Prop} {ad la : Nat → Nat} {rest : va_W} (i1 : Nat) (C : xC p s m args meth c D K A RX0 cX0_holds 8 (some .boolean)) (z : Int32 × xS) (k_38 : Int32 → Int32 → Int32 → xS → Option (Int32 × xS)) (H_38 : ∀ (y3 : Int32) (y4 : Int32) (y5 : Int32) (σ : xS), k_38 y3 y4 y5 σ = some z → X p l e (xR 1 27) s m args below meth c D A 8 (xQi below D K A args s z.1 (CW K ad la rest z.2)) 0 0 38 [(0, .ref (ad 44)), (1, .ref (la (4 * i1))), (3, .int y3), (4, .int y4), (5, .int y5)] [] (CW K ad la rest σ)) : ∀ (y3 : Int32) (y4 : Int32) (t0x : Int32) (σ : xS), F_X0_holds_309 i1 k_38 y3 y4 t0x σ = some z → X p l e (xR 1 27) s m args below meth c D A 8 (xQi below D K A args s z.1 (CW K ad la rest z.2)) 0 0 309 [(0, .ref (ad 44)), (1, .ref (la (4 * i1))), (3, .int y3), (4, .int y4)] [.int t0x] (CW K ad la rest σ) := by
  intro y3 y4 t0x σ hF
  unfold F_X0_holds_309 at hF
  refine x_istore C [(5, .int t0x), (0, .ref (ad 44)), (1, .ref (la (4 * i1))), (3, .int y3), (4, .int y4)] dX0_holds_309 (by decide) rfl ?_
  refine x_goto C 364 dX0_holds_311 (by decide) ?_
  refine x_iincN C 1 0 (fun x45 => [(5, .int x45), (0, .ref (ad 44)), (1, .ref (la (4 * i1))), (3, .int y3), (4, .int y4)]) dX0_holds_364 rfl (by decide +kernel) (by decide) (fun _ => rfl) hF (fun x45 hF => ?_)
  refine x_goto C 38 dX0_holds_367 (by decide) ?_
  refine x_loc [(0, .ref (ad 44)), (1, .ref (la (4 * i1))), (3, .int y3), (4, .int y4), (5, .int x45)] [1, 2, 3, 4, 0] rfl ?_
  exact H_38 y3 y4 x45 σ hF
set_option maxHeartbeats 4000000 in
set_option maxRecDepth 100000 in
theorem x_X0_holds_38 {p : Program} {l : Launch} {e : Env} {s : State} {m : MethodId} {args : Array Value} {below : List Frame} {meth : Method} {c : Code} {D : va_G} {K : Nat → ClassId} {A : Nat → Prop} {ad la : Nat → Nat} {rest : va_W} (i1 : Nat) (C : xC p s m args meth c D K A RX0 cX0_holds 8 (some .boolean)) (z : Int32 × xS) : ∀ (n : Nat) (y3 : Int32) (y4 : Int32) (y5 : Int32) (σ : xS), F_X0_holds_38 i1 n y3 y4 y5 σ = some z → X p l e (xR 1 27) s m args below meth c D A 8 (xQi below D K A args s z.1 (CW K ad la rest z.2)) 0 0 38 [(0, .ref (ad 44)), (1, .ref (la (4 * i1))), (3, .int y3), (4, .int y4), (5, .int y5)] [] (CW K ad la rest σ) := by
  intro n
  induction n with
  | zero =>
    intro y3 y4 y5 σ hF
    cases hF
  | succ n ih =>
    intro y3 y4 y5 σ hF
    rw [F_X0_holds_38] at hF
    refine x_iload C 4 5 dX0_holds_38 rfl ?_
    refine x_iload C 3 4 dX0_holds_40 rfl ?_
    refine x_icmp_ge C 370 dX0_holds_42 (by decide) hF (fun hF => ?_) (fun hF => ?_)
    · refine x_iload_n C 2 3 dX0_holds_370 rfl rfl ?_
      have hz := (cz_some hF).1
      replace hF := (cz_some hF).2
      exact x_zret C dX0_holds_371 rfl hz (congrArg Prod.fst (Option.some.inj hF)) (congrArg (fun q9 : Int32 × xS => CW K ad la rest q9.2) (Option.some.inj hF))
    · refine x_aload_n C 0 0 dX0_holds_45 rfl rfl ?_
      refine x_get C 44 dX0_holds_46 fl_X0_81 (CW_44 K ad la rest σ) rfl ?_
      refine x_iconst C 2 dX0_holds_49 (by decide +kernel) ?_
      refine x_icmp_lt C 65 dX0_holds_50 (by decide) hF (fun hF => ?_) (fun hF => ?_)
      · refine x_iconst C 0 dX0_holds_65 (by decide +kernel) ?_
        have hz := (cz_some hF).1
        replace hF := (cz_some hF).2
        exact x_zret C dX0_holds_66 rfl hz (congrArg Prod.fst (Option.some.inj hF)) (congrArg (fun q9 : Int32 × xS => CW K ad la rest q9.2) (Option.some.inj hF))
      · refine x_aload_n C 0 0 dX0_holds_53 rfl rfl ?_
        refine x_get C 44 dX0_holds_54 fl_X0_81 (CW_44 K ad la rest σ) rfl ?_
        refine x_aload_n C 0 0 dX0_holds_57 rfl rfl ?_
        refine x_get C 44 dX0_holds_58 fl_X0_17 (CW_44 K ad la rest σ) rfl ?_
        refine x_alen C (t0 := 1) 64 46 dX0_holds_61 (CW_46 K ad la rest σ) rfl rfl ?_
        refine x_icmp_lt C 67 dX0_holds_62 (by decide) hF (fun hF => ?_) (fun hF => ?_)
        · refine x_aload_n C 1 1 dX0_holds_67 rfl rfl ?_
          obtain ⟨p10, hp10, hF⟩ := lw_some hF
          refine x_get C ((rest.length + (4 * i1 + 0)) + 102) dX0_holds_68 fl_X0_87 (CW_law0 K ad la rest σ hp10) rfl ?_
          refine x_iload C 4 5 dX0_holds_71 rfl ?_
          refine x_iald C ((rest.length + (4 * i1 + 3)) + 102) dX0_holds_73 (CW_law3 K ad la rest σ hp10) hF (fun v11 hF => ?_)
          refine x_bipush C 15 dX0_holds_74 (by decide +kernel) ?_
          refine x_iand C dX0_holds_76 ?_
          refine x_topI hF (fun x12 hF => ?_)
          refine x_istore C [(6, .int x12), (0, .ref (ad 44)), (1, .ref (la (4 * i1))), (3, .int y3), (4, .int y4), (5, .int y5)] dX0_holds_77 (by decide) rfl ?_
          refine x_aload_n C 2 1 dX0_holds_79 rfl rfl ?_
          obtain ⟨p13, hp13, hF⟩ := lw_some hF
          refine x_get C ((rest.length + (4 * i1 + 0)) + 102) dX0_holds_80 fl_X0_87 (CW_law0 K ad la rest σ hp13) rfl ?_
          refine x_iload C 5 5 dX0_holds_83 rfl ?_
          refine x_iald C ((rest.length + (4 * i1 + 3)) + 102) dX0_holds_85 (CW_law3 K ad la rest σ hp13) hF (fun v14 hF => ?_)
          refine x_iconst C 4 dX0_holds_86 (by decide +kernel) ?_
          refine x_ishr C dX0_holds_87 ?_
          refine x_topI hF (fun x15 hF => ?_)
          refine x_istore C [(7, .int x15), (6, .int x12), (0, .ref (ad 44)), (1, .ref (la (4 * i1))), (3, .int y3), (4, .int y4), (5, .int y5)] dX0_holds_88 (by decide) rfl ?_
          refine x_iload C 1 6 dX0_holds_90 rfl ?_
          by_cases h19 : x12 = 0
          · rw [if_pos h19] at hF
            refine x_tabG C 160 dX0_holds_92 (by rw [h19]; exact Or.inl ⟨_, by decide +kernel, rfl, by decide⟩) ?_
            refine x_aload_n C 2 0 dX0_holds_160 rfl rfl ?_
            refine x_get C 44 dX0_holds_161 fl_X0_17 (CW_44 K ad la rest σ) rfl ?_
            refine x_aload_n C 2 0 dX0_holds_164 rfl rfl ?_
            refine x_get C 44 dX0_holds_165 fl_X0_81 (CW_44 K ad la rest σ) rfl ?_
            refine x_iload C 0 7 dX0_holds_168 rfl ?_
            refine x_i2l C dX0_holds_170 ?_
            refine x_last C 46 dX0_holds_171 (CW_46 K ad la rest σ) hF (CW_s46 K ad la rest σ _) (fun hF => ?_)
            refine x_st (wf := CW K ad la rest) hF (fun σ16 hF => ?_)
            refine x_aload_n C 2 0 dX0_holds_172 rfl rfl ?_
            refine x_dup C rfl dX0_holds_173 ?_
            refine x_get C 44 dX0_holds_174 fl_X0_81 (CW_44 K ad la rest σ16) rfl ?_
            refine x_iconst C 1 dX0_holds_177 (by decide +kernel) ?_
            refine x_iadd C dX0_holds_178 ?_
            refine x_put C 44 dX0_holds_179 fl_X0_81 fm_X0_3 rfl rfl (CW_44 K ad la rest σ16) (Nat.le_of_ble_eq_true rfl) (CW_s44_3 K ad la rest σ16 _) ?_
            refine x_st (wf := CW K ad la rest) hF (fun σ17 hF => ?_)
            refine x_goto C 364 dX0_holds_182 (by decide) ?_
            refine x_iincN C 1 6 (fun x18 => [(5, .int x18), (7, .int x15), (6, .int x12), (0, .ref (ad 44)), (1, .ref (la (4 * i1))), (3, .int y3), (4, .int y4)]) dX0_holds_364 rfl (by decide +kernel) (by decide) (fun _ => rfl) hF (fun x18 hF => ?_)
            refine x_goto C 38 dX0_holds_367 (by decide) ?_
            refine x_loc [(0, .ref (ad 44)), (1, .ref (la (4 * i1))), (3, .int y3), (4, .int y4), (5, .int x18)] [3, 4, 5, 6, 0] rfl ?_
            exact ih y3 y4 x18 σ17 hF
          · rw [if_neg h19] at hF
            by_cases h21 : x12 = 1
            · rw [if_pos h21] at hF
              refine x_tabG C 185 dX0_holds_92 (by rw [h21]; exact Or.inl ⟨_, by decide +kernel, rfl, by decide⟩) ?_
              refine x_aload_n C 2 0 dX0_holds_185 rfl rfl ?_
              refine x_get C 44 dX0_holds_186 fl_X0_17 (CW_44 K ad la rest σ) rfl ?_
              refine x_aload_n C 2 0 dX0_holds_189 rfl rfl ?_
              refine x_get C 44 dX0_holds_190 fl_X0_81 (CW_44 K ad la rest σ) rfl ?_
              refine x_iload C 0 7 dX0_holds_193 rfl ?_
              refine x_aload_n C 2 0 dX0_holds_195 rfl rfl ?_
              refine x_get C 44 dX0_holds_196 fl_X0_11 (CW_44 K ad la rest σ) rfl ?_
              refine x_alen C (t0 := 0) 10 45 dX0_holds_199 (CW_45 K ad la rest σ) rfl rfl ?_
              refine x_icmp_ge C 214 dX0_holds_200 (by decide) hF (fun hF => ?_) (fun hF => ?_)
              · refine x_lconst C 0 dX0_holds_214 (by decide +kernel) ?_
                refine x_loc [(0, .ref (ad 44)), (1, .ref (la (4 * i1))), (3, .int y3), (4, .int y4), (5, .int y5)] [2, 3, 4, 5, 6] rfl ?_
                exact x_X0_holds_215 i1 C z ((F_X0_holds_38 i1 n)) ih y3 y4 y5 (sI σ 707) 0 σ hF
              · refine x_aload_n C 2 0 dX0_holds_203 rfl rfl ?_
                refine x_get C 44 dX0_holds_204 fl_X0_11 (CW_44 K ad la rest σ) rfl ?_
                refine x_iload C 0 7 dX0_holds_207 rfl ?_
                refine x_iald C 45 dX0_holds_209 (CW_45 K ad la rest σ) hF (fun v20 hF => ?_)
                refine x_i2l C dX0_holds_210 ?_
                refine x_goto C 215 dX0_holds_211 (by decide) ?_
                refine x_loc [(0, .ref (ad 44)), (1, .ref (la (4 * i1))), (3, .int y3), (4, .int y4), (5, .int y5)] [2, 3, 4, 5, 6] rfl ?_
                exact x_X0_holds_215 i1 C z ((F_X0_holds_38 i1 n)) ih y3 y4 y5 (sI σ 707) (v20.toInt64) σ hF
            · rw [if_neg h21] at hF
              by_cases h28 : x12 = 6 ∨ x12 = 7 ∨ x12 = 8
              · rw [if_pos h28] at hF
                refine x_tabG C 314 dX0_holds_92 (by rcases h28 with h9 | h9 | h9 <;> (rw [h9]; exact Or.inl ⟨_, by decide +kernel, rfl, by decide⟩)) ?_
                refine x_aload_n C 2 0 dX0_holds_314 rfl rfl ?_
                refine x_dup C rfl dX0_holds_315 ?_
                refine x_get C 44 dX0_holds_316 fl_X0_81 (CW_44 K ad la rest σ) rfl ?_
                refine x_iconst C 2 dX0_holds_319 (by decide +kernel) ?_
                refine x_isub C dX0_holds_320 ?_
                refine x_put C 44 dX0_holds_321 fl_X0_81 fm_X0_3 rfl rfl (CW_44 K ad la rest σ) (Nat.le_of_ble_eq_true rfl) (CW_s44_3 K ad la rest σ _) ?_
                refine x_st (wf := CW K ad la rest) hF (fun σ22 hF => ?_)
                refine x_iload C 1 6 dX0_holds_324 rfl ?_
                refine x_aload_n C 2 0 dX0_holds_326 rfl rfl ?_
                refine x_get C 44 dX0_holds_327 fl_X0_17 (CW_44 K ad la rest σ22) rfl ?_
                refine x_aload_n C 2 0 dX0_holds_330 rfl rfl ?_
                refine x_get C 44 dX0_holds_331 fl_X0_81 (CW_44 K ad la rest σ22) rfl ?_
                refine x_lald C 46 dX0_holds_334 (CW_46 K ad la rest σ22) hF (fun v23 hF => ?_)
                refine x_aload_n C 2 0 dX0_holds_335 rfl rfl ?_
                refine x_get C 44 dX0_holds_336 fl_X0_17 (CW_44 K ad la rest σ22) rfl ?_
                refine x_aload_n C 2 0 dX0_holds_339 rfl rfl ?_
                refine x_get C 44 dX0_holds_340 fl_X0_81 (CW_44 K ad la rest σ22) rfl ?_
                refine x_iconst C 1 dX0_holds_343 (by decide +kernel) ?_
                refine x_iadd C dX0_holds_344 ?_
                refine x_lald C 46 dX0_holds_345 (CW_46 K ad la rest σ22) hF (fun v24 hF => ?_)
                refine x_callSI C (wf := CW K ad la rest) (As := [.int x12, .long v23, .long v24]) (rest := []) dX0_holds_346 ml_X0_94 rfl rfl (Nat.le_of_ble_eq_true rfl) ⟨Nat.le_of_ble_eq_true rfl, Nat.le_of_ble_eq_true rfl⟩ ⟨Nat.zero_le _, Nat.zero_le _⟩ (fun q9 hq9 => c_X0_compared l D K ad la rest x12 v23 v24 σ22 q9 hq9) hF (fun v26 σ25 hF => ?_)
                refine x_istore_n C [(3, .int v26), (7, .int x15), (6, .int x12), (0, .ref (ad 44)), (1, .ref (la (4 * i1))), (4, .int y4), (5, .int y5)] dX0_holds_349 rfl (by decide) rfl ?_
                refine x_goto C 364 dX0_holds_350 (by decide) ?_
                refine x_iincN C 1 6 (fun x27 => [(5, .int x27), (3, .int v26), (7, .int x15), (6, .int x12), (0, .ref (ad 44)), (1, .ref (la (4 * i1))), (4, .int y4)]) dX0_holds_364 rfl (by decide +kernel) (by decide) (fun _ => rfl) hF (fun x27 hF => ?_)
                refine x_goto C 38 dX0_holds_367 (by decide) ?_
                refine x_loc [(0, .ref (ad 44)), (1, .ref (la (4 * i1))), (3, .int v26), (4, .int y4), (5, .int x27)] [4, 5, 1, 6, 0] rfl ?_
                exact ih v26 y4 x27 σ25 hF
              · rw [if_neg h28] at hF
                by_cases h29 : x12 = 9
                · rw [if_pos h29] at hF
                  refine x_tabG C 255 dX0_holds_92 (by rw [h29]; exact Or.inl ⟨_, by decide +kernel, rfl, by decide⟩) ?_
                  refine x_iload_n C 4 3 dX0_holds_255 rfl rfl ?_
                  refine x_if_ne C 263 dX0_holds_256 (by decide) hF (fun hF => ?_) (fun hF => ?_)
                  · refine x_iconst C 0 dX0_holds_263 (by decide +kernel) ?_
                    refine x_loc [(0, .ref (ad 44)), (1, .ref (la (4 * i1))), (4, .int y4), (5, .int y5)] [2, 3, 5, 6] rfl ?_
                    exact x_X0_holds_264 i1 C z ((F_X0_holds_38 i1 n)) ih y4 y5 0 σ hF
                  · refine x_iconst C 1 dX0_holds_259 (by decide +kernel) ?_
                    refine x_goto C 264 dX0_holds_260 (by decide) ?_
                    refine x_loc [(0, .ref (ad 44)), (1, .ref (la (4 * i1))), (4, .int y4), (5, .int y5)] [2, 3, 5, 6] rfl ?_
                    exact x_X0_holds_264 i1 C z ((F_X0_holds_38 i1 n)) ih y4 y5 1 σ hF
                · rw [if_neg h29] at hF
                  by_cases h30 : x12 = 10
                  · rw [if_pos h30] at hF
                    refine x_tabG C 268 dX0_holds_92 (by rw [h30]; exact Or.inl ⟨_, by decide +kernel, rfl, by decide⟩) ?_
                    refine x_iload_n C 4 3 dX0_holds_268 rfl rfl ?_
                    refine x_if_eq C 284 dX0_holds_269 (by decide) hF (fun hF => ?_) (fun hF => ?_)
                    · refine x_iload C 6 5 dX0_holds_284 rfl ?_
                      refine x_loc [(0, .ref (ad 44)), (1, .ref (la (4 * i1))), (3, .int y3), (4, .int y4)] [2, 3, 4, 5] rfl ?_
                      exact x_X0_holds_286 i1 C z ((F_X0_holds_38 i1 n)) ih y3 y4 y5 σ hF
                    · refine x_iload C 6 5 dX0_holds_272 rfl ?_
                      refine x_iload C 0 7 dX0_holds_274 rfl ?_
                      refine x_iconst C 1 dX0_holds_276 (by decide +kernel) ?_
                      refine x_isub C dX0_holds_277 ?_
                      refine x_mmax C dX0_holds_278 wl_X0_92 jMaxI ⟨Nat.le_of_ble_eq_true rfl, Nat.le_of_ble_eq_true rfl⟩ ⟨Nat.zero_le _, Nat.zero_le _⟩ ?_
                      refine x_goto C 286 dX0_holds_281 (by decide) ?_
                      refine x_loc [(0, .ref (ad 44)), (1, .ref (la (4 * i1))), (3, .int y3), (4, .int y4)] [2, 3, 4, 5] rfl ?_
                      exact x_X0_holds_286 i1 C z ((F_X0_holds_38 i1 n)) ih y3 y4 (mxI y5 (x15 - 1)) σ hF
                  · rw [if_neg h30] at hF
                    by_cases h31 : x12 = 11
                    · rw [if_pos h31] at hF
                      refine x_tabG C 291 dX0_holds_92 (by rw [h31]; exact Or.inl ⟨_, by decide +kernel, rfl, by decide⟩) ?_
                      refine x_iload_n C 4 3 dX0_holds_291 rfl rfl ?_
                      refine x_if_eq C 300 dX0_holds_292 (by decide) hF (fun hF => ?_) (fun hF => ?_)
                      · refine x_iload C 6 5 dX0_holds_300 rfl ?_
                        refine x_iload C 0 7 dX0_holds_302 rfl ?_
                        refine x_iconst C 1 dX0_holds_304 (by decide +kernel) ?_
                        refine x_isub C dX0_holds_305 ?_
                        refine x_mmax C dX0_holds_306 wl_X0_92 jMaxI ⟨Nat.le_of_ble_eq_true rfl, Nat.le_of_ble_eq_true rfl⟩ ⟨Nat.zero_le _, Nat.zero_le _⟩ ?_
                        refine x_loc [(0, .ref (ad 44)), (1, .ref (la (4 * i1))), (3, .int y3), (4, .int y4)] [2, 3, 4, 5] rfl ?_
                        exact x_X0_holds_309 i1 C z ((F_X0_holds_38 i1 n)) ih y3 y4 (mxI y5 (x15 - 1)) σ hF
                      · refine x_iload C 6 5 dX0_holds_295 rfl ?_
                        refine x_goto C 309 dX0_holds_297 (by decide) ?_
                        refine x_loc [(0, .ref (ad 44)), (1, .ref (la (4 * i1))), (3, .int y3), (4, .int y4)] [2, 3, 4, 5] rfl ?_
                        exact x_X0_holds_309 i1 C z ((F_X0_holds_38 i1 n)) ih y3 y4 y5 σ hF
                    · rw [if_neg h31] at hF
                      by_cases h36 : x12 = 12
                      · rw [if_pos h36] at hF
                        refine x_tabG C 229 dX0_holds_92 (by rw [h36]; exact Or.inl ⟨_, by decide +kernel, rfl, by decide⟩) ?_
                        refine x_aload_n C 2 0 dX0_holds_229 rfl rfl ?_
                        refine x_dup C rfl dX0_holds_230 ?_
                        refine x_get C 44 dX0_holds_231 fl_X0_81 (CW_44 K ad la rest σ) rfl ?_
                        refine x_iconst C 1 dX0_holds_234 (by decide +kernel) ?_
                        refine x_isub C dX0_holds_235 ?_
                        refine x_put C 44 dX0_holds_236 fl_X0_81 fm_X0_3 rfl rfl (CW_44 K ad la rest σ) (Nat.le_of_ble_eq_true rfl) (CW_s44_3 K ad la rest σ _) ?_
                        refine x_st (wf := CW K ad la rest) hF (fun σ32 hF => ?_)
                        refine x_aload_n C 2 0 dX0_holds_239 rfl rfl ?_
                        refine x_aload_n C 2 0 dX0_holds_240 rfl rfl ?_
                        refine x_get C 44 dX0_holds_241 fl_X0_17 (CW_44 K ad la rest σ32) rfl ?_
                        refine x_aload_n C 2 0 dX0_holds_244 rfl rfl ?_
                        refine x_get C 44 dX0_holds_245 fl_X0_81 (CW_44 K ad la rest σ32) rfl ?_
                        refine x_lald C 46 dX0_holds_248 (CW_46 K ad la rest σ32) hF (fun v33 hF => ?_)
                        refine x_put C 44 dX0_holds_249 fl_X0_68 fm_X0_4 rfl rfl (CW_44 K ad la rest σ32) (Nat.le_of_ble_eq_true rfl) (CW_s44_4 K ad la rest σ32 _) ?_
                        refine x_st (wf := CW K ad la rest) hF (fun σ34 hF => ?_)
                        refine x_goto C 364 dX0_holds_252 (by decide) ?_
                        refine x_iincN C 1 6 (fun x35 => [(5, .int x35), (7, .int x15), (6, .int x12), (0, .ref (ad 44)), (1, .ref (la (4 * i1))), (3, .int y3), (4, .int y4)]) dX0_holds_364 rfl (by decide +kernel) (by decide) (fun _ => rfl) hF (fun x35 hF => ?_)
                        refine x_goto C 38 dX0_holds_367 (by decide) ?_
                        refine x_loc [(0, .ref (ad 44)), (1, .ref (la (4 * i1))), (3, .int y3), (4, .int y4), (5, .int x35)] [3, 4, 5, 6, 0] rfl ?_
                        exact ih y3 y4 x35 σ34 hF
                      · rw [if_neg h36] at hF
                        refine x_tabG C 353 dX0_holds_92 (by have e0 : x12.toInt ≠ 0 := x_neT h19; have e1 : x12.toInt ≠ 1 := x_neT h21; have e2 : x12.toInt ≠ 6 := x_neT (fun q => h28 (Or.inl q)); have e3 : x12.toInt ≠ 7 := x_neT (fun q => h28 (Or.inr (Or.inl q))); have e4 : x12.toInt ≠ 8 := x_neT (fun q => h28 (Or.inr (Or.inr (q)))); have e5 : x12.toInt ≠ 9 := x_neT h29; have e6 : x12.toInt ≠ 10 := x_neT h30; have e7 : x12.toInt ≠ 11 := x_neT h31; have e8 : x12.toInt ≠ 12 := x_neT h36; rcases (show (x12.toInt = 2 ∨ x12.toInt = 3 ∨ x12.toInt = 4 ∨ x12.toInt = 5) ∨ (x12.toInt < 0 ∨ 12 < x12.toInt) by omega) with (h9 | h9 | h9 | h9) | h9 <;> first | (rw [h9]; exact Or.inl ⟨_, by decide +kernel, rfl, by decide⟩) | exact Or.inr ⟨h9, by decide⟩) ?_
                        refine x_aload_n C 2 0 dX0_holds_353 rfl rfl ?_
                        refine x_iload C 1 6 dX0_holds_354 rfl ?_
                        refine x_callVI C (wf := CW K ad la rest) (As := [.int x12]) (rest := []) dX0_holds_356 ml_X0_98 rfl rfl (Nat.le_of_ble_eq_true rfl) 44 (CW_44 K ad la rest σ) rfl ⟨Nat.le_of_ble_eq_true rfl, Nat.le_of_ble_eq_true rfl⟩ ⟨Nat.zero_le _, Nat.zero_le _⟩ (fun q9 hq9 => c_X0_reckons l D K ad la rest x12 σ q9 hq9) hF (fun v38 σ37 hF => ?_)
                        refine x_if_ne C 364 dX0_holds_359 (by decide) hF (fun hF => ?_) (fun hF => ?_)
                        · refine x_iincN C 1 6 (fun x39 => [(5, .int x39), (7, .int x15), (6, .int x12), (0, .ref (ad 44)), (1, .ref (la (4 * i1))), (3, .int y3), (4, .int y4)]) dX0_holds_364 rfl (by decide +kernel) (by decide) (fun _ => rfl) hF (fun x39 hF => ?_)
                          refine x_goto C 38 dX0_holds_367 (by decide) ?_
                          refine x_loc [(0, .ref (ad 44)), (1, .ref (la (4 * i1))), (3, .int y3), (4, .int y4), (5, .int x39)] [3, 4, 5, 6, 0] rfl ?_
                          exact ih y3 y4 x39 σ37 hF
                        · refine x_iconst C 0 dX0_holds_362 (by decide +kernel) ?_
                          have hz := (cz_some hF).1
                          replace hF := (cz_some hF).2
                          exact x_zret C dX0_holds_363 rfl hz (congrArg Prod.fst (Option.some.inj hF)) (congrArg (fun q9 : Int32 × xS => CW K ad la rest q9.2) (Option.some.inj hF))
        · refine x_iconst C 0 dX0_holds_65 (by decide +kernel) ?_
          have hz := (cz_some hF).1
          replace hF := (cz_some hF).2
          exact x_zret C dX0_holds_66 rfl hz (congrArg Prod.fst (Option.some.inj hF)) (congrArg (fun q9 : Int32 × xS => CW K ad la rest q9.2) (Option.some.inj hF))
set_option maxHeartbeats 4000000 in
set_option maxRecDepth 100000 in
theorem c_X0_holds (l : Launch) (D : va_G) (K : Nat → ClassId) (ad la : Nat → Nat) (rest : va_W) (i1 : Nat) (a2 : Int32) (σ : xS) (z : Int32 × xS) (hF : F_X0_holds i1 a2 σ = some z) : CI l D K yX0_holds cX0_holds 8 (some .boolean) 1 27 [.ref (ad 44), .ref (la (4 * i1)), .int a2] (CW K ad la rest σ) z.1 (CW K ad la rest z.2) := by
  refine x_enterI [(0, .ref (ad 44)), (1, .ref (la (4 * i1))), (2, .int a2)] pnX0 (Nat.le_of_ble_eq_true rfl) rfl ?_
  intro p e s m args below meth c A C
  unfold F_X0_holds at hF
  refine x_iconst C 1 dX0_holds_0 (by decide +kernel) ?_
  refine x_topI hF (fun x1 hF => ?_)
  refine x_istore_n C [(3, .int x1), (0, .ref (ad 44)), (1, .ref (la (4 * i1))), (2, .int a2)] dX0_holds_1 rfl (by decide) rfl ?_
  refine x_aload_n C 1 0 dX0_holds_2 rfl rfl ?_
  refine x_iconst C 2 dX0_holds_3 (by decide +kernel) ?_
  refine x_put C 44 dX0_holds_4 fl_X0_81 fm_X0_3 rfl rfl (CW_44 K ad la rest σ) (Nat.le_of_ble_eq_true rfl) (CW_s44_3 K ad la rest σ _) ?_
  refine x_st (wf := CW K ad la rest) hF (fun σ2 hF => ?_)
  refine x_aload_n C 1 0 dX0_holds_7 rfl rfl ?_
  refine x_lconst C 0 dX0_holds_8 (by decide +kernel) ?_
  refine x_put C 44 dX0_holds_9 fl_X0_68 fm_X0_4 rfl rfl (CW_44 K ad la rest σ2) (Nat.le_of_ble_eq_true rfl) (CW_s44_4 K ad la rest σ2 _) ?_
  refine x_st (wf := CW K ad la rest) hF (fun σ3 hF => ?_)
  refine x_aload_n C 2 1 dX0_holds_12 rfl rfl ?_
  obtain ⟨p4, hp4, hF⟩ := lw_some hF
  refine x_get C ((rest.length + (4 * i1 + 0)) + 102) dX0_holds_13 fl_X0_84 (CW_law0 K ad la rest σ3 hp4) rfl ?_
  refine x_iload_n C 3 2 dX0_holds_16 rfl rfl ?_
  refine x_iconst C 1 dX0_holds_17 (by decide +kernel) ?_
  refine x_iadd C dX0_holds_18 ?_
  refine x_iald C ((rest.length + (4 * i1 + 2)) + 102) dX0_holds_19 (CW_law2 K ad la rest σ3 hp4) hF (fun v5 hF => ?_)
  refine x_aload_n C 2 1 dX0_holds_20 rfl rfl ?_
  obtain ⟨p6, hp6, hF⟩ := lw_some hF
  refine x_get C ((rest.length + (4 * i1 + 0)) + 102) dX0_holds_21 fl_X0_87 (CW_law0 K ad la rest σ3 hp6) rfl ?_
  refine x_alen C (t0 := 0) (Int32.ofNat p6.2.2.2.1) ((rest.length + (4 * i1 + 3)) + 102) dX0_holds_24 (CW_law3 K ad la rest σ3 hp6) rfl rfl ?_
  refine x_mmin C dX0_holds_25 wl_X0_90 jMinI ⟨Nat.le_of_ble_eq_true rfl, Nat.le_of_ble_eq_true rfl⟩ ⟨Nat.zero_le _, Nat.zero_le _⟩ ?_
  refine x_topI hF (fun x7 hF => ?_)
  refine x_istore C [(4, .int x7), (3, .int x1), (0, .ref (ad 44)), (1, .ref (la (4 * i1))), (2, .int a2)] dX0_holds_28 (by decide) rfl ?_
  refine x_aload_n C 3 1 dX0_holds_30 rfl rfl ?_
  obtain ⟨p8, hp8, hF⟩ := lw_some hF
  refine x_get C ((rest.length + (4 * i1 + 0)) + 102) dX0_holds_31 fl_X0_84 (CW_law0 K ad la rest σ3 hp8) rfl ?_
  refine x_iload_n C 4 2 dX0_holds_34 rfl rfl ?_
  refine x_iald C ((rest.length + (4 * i1 + 2)) + 102) dX0_holds_35 (CW_law2 K ad la rest σ3 hp8) hF (fun v9 hF => ?_)
  refine x_istore C [(5, .int v9), (4, .int x7), (3, .int x1), (0, .ref (ad 44)), (1, .ref (la (4 * i1))), (2, .int a2)] dX0_holds_36 (by decide) rfl ?_
  refine x_loc [(0, .ref (ad 44)), (1, .ref (la (4 * i1))), (3, .int x1), (4, .int x7), (5, .int v9)] [3, 4, 2, 1, 0] rfl ?_
  exact x_X0_holds_38 i1 C z FU x1 x7 v9 σ3 hF
theorem dX0_told_0 : decode cX0_told 0 = .ok (.aload_n 0, 1) := by decide +kernel
theorem dX0_told_1 : decode cX0_told 1 = .ok (.getfield 21, 3) := by decide +kernel
theorem dX0_told_4 : decode cX0_told 4 = .ok (.invokevirtual 51, 3) := by decide +kernel
theorem dX0_told_7 : decode cX0_told 7 = .ok (.astore 4, 2) := by decide +kernel
theorem dX0_told_9 : decode cX0_told 9 = .ok (.aload 4, 2) := by decide +kernel
theorem dX0_told_11 : decode cX0_told 11 = .ok (.ifnonnull 5, 3) := by decide +kernel
theorem dX0_told_14 : decode cX0_told 14 = .ok (.iload_n 3, 1) := by decide +kernel
theorem dX0_told_15 : decode cX0_told 15 = .ok (.ireturn, 1) := by decide +kernel
theorem dX0_told_16 : decode cX0_told 16 = .ok (.aload 4, 2) := by decide +kernel
theorem dX0_told_18 : decode cX0_told 18 = .ok (.getfield 55, 3) := by decide +kernel
theorem dX0_told_21 : decode cX0_told 21 = .ok (.iconst 1, 1) := by decide +kernel
theorem dX0_told_22 : decode cX0_told 22 = .ok (.isub, 1) := by decide +kernel
theorem dX0_told_23 : decode cX0_told 23 = .ok (.istore 5, 2) := by decide +kernel
theorem dX0_told_25 : decode cX0_told 25 = .ok (.iload 5, 2) := by decide +kernel
theorem dX0_told_27 : decode cX0_told 27 = .ok (.ifCond .lt 47, 3) := by decide +kernel
theorem dX0_told_30 : decode cX0_told 30 = .ok (.aload 4, 2) := by decide +kernel
theorem dX0_told_32 : decode cX0_told 32 = .ok (.getfield 61, 3) := by decide +kernel
theorem dX0_told_35 : decode cX0_told 35 = .ok (.iload 5, 2) := by decide +kernel
theorem dX0_told_37 : decode cX0_told 37 = .ok (.iaload, 1) := by decide +kernel
theorem dX0_told_38 : decode cX0_told 38 = .ok (.iload_n 1, 1) := by decide +kernel
theorem dX0_told_39 : decode cX0_told 39 = .ok (.if_icmp .ne 29, 3) := by decide +kernel
theorem dX0_told_42 : decode cX0_told 42 = .ok (.aload_n 0, 1) := by decide +kernel
theorem dX0_told_43 : decode cX0_told 43 = .ok (.aload 4, 2) := by decide +kernel
theorem dX0_told_45 : decode cX0_told 45 = .ok (.iload 5, 2) := by decide +kernel
theorem dX0_told_47 : decode cX0_told 47 = .ok (.invokevirtual 64, 3) := by decide +kernel
theorem dX0_told_50 : decode cX0_told 50 = .ok (.ifCond .eq 18, 3) := by decide +kernel
theorem dX0_told_53 : decode cX0_told 53 = .ok (.lconst 0, 1) := by decide +kernel
theorem dX0_told_54 : decode cX0_told 54 = .ok (.aload_n 0, 1) := by decide +kernel
theorem dX0_told_55 : decode cX0_told 55 = .ok (.getfield 68, 3) := by decide +kernel
theorem dX0_told_58 : decode cX0_told 58 = .ok (.iload_n 2, 1) := by decide +kernel
theorem dX0_told_59 : decode cX0_told 59 = .ok (.i2l, 1) := by decide +kernel
theorem dX0_told_60 : decode cX0_told 60 = .ok (.invokestatic 72, 3) := by decide +kernel
theorem dX0_told_63 : decode cX0_told 63 = .ok (.invokestatic 78, 3) := by decide +kernel
theorem dX0_told_66 : decode cX0_told 66 = .ok (.l2i, 1) := by decide +kernel
theorem dX0_told_67 : decode cX0_told 67 = .ok (.ireturn, 1) := by decide +kernel
theorem dX0_told_68 : decode cX0_told 68 = .ok (.iinc 5 (-1), 3) := by decide +kernel
theorem dX0_told_71 : decode cX0_told 71 = .ok (.goto (-46), 3) := by decide +kernel
theorem dX0_told_74 : decode cX0_told 74 = .ok (.iload_n 3, 1) := by decide +kernel
theorem dX0_told_75 : decode cX0_told 75 = .ok (.ireturn, 1) := by decide +kernel
set_option maxHeartbeats 4000000 in
set_option maxRecDepth 100000 in
theorem x_X0_told_25 {p : Program} {l : Launch} {e : Env} {s : State} {m : MethodId} {args : Array Value} {below : List Frame} {meth : Method} {c : Code} {D : va_G} {K : Nat → ClassId} {A : Nat → Prop} {ad la : Nat → Nat} {rest : va_W} (C : xC p s m args meth c D K A RX0 cX0_told 6 (some .int)) (z : Int32 × xS) : ∀ (n : Nat) (y1 : Int32) (y2 : Int32) (y3 : Int32) (i_4 : Nat) (y5 : Int32) (σ : xS), F_X0_told_25  n y1 y2 y3 i_4 y5 σ = some z → X p l e (xR 2 54) s m args below meth c D A 6 (xQi below D K A args s z.1 (CW K ad la rest z.2)) 0 0 25 [(0, .ref (ad 44)), (1, .int y1), (2, .int y2), (3, .int y3), (4, .ref (la (4 * i_4))), (5, .int y5)] [] (CW K ad la rest σ) := by
  intro n
  induction n with
  | zero =>
    intro y1 y2 y3 i_4 y5 σ hF
    cases hF
  | succ n ih =>
    intro y1 y2 y3 i_4 y5 σ hF
    rw [F_X0_told_25] at hF
    refine x_iload C 5 5 dX0_told_25 rfl ?_
    refine x_if_lt C 74 dX0_told_27 (by decide) hF (fun hF => ?_) (fun hF => ?_)
    · refine x_iload_n C 3 3 dX0_told_74 rfl rfl ?_
      exact x_iret C dX0_told_75 rfl (congrArg Prod.fst (Option.some.inj hF)) (congrArg (fun q9 : Int32 × xS => CW K ad la rest q9.2) (Option.some.inj hF))
    · refine x_aload C 4 4 dX0_told_30 rfl ?_
      obtain ⟨p6, hp6, hF⟩ := lw_some hF
      refine x_get C ((rest.length + (4 * i_4 + 0)) + 102) dX0_told_32 fl_X0_61 (CW_law0 K ad la rest σ hp6) rfl ?_
      refine x_iload C 5 5 dX0_told_35 rfl ?_
      refine x_iald C ((rest.length + (4 * i_4 + 1)) + 102) dX0_told_37 (CW_law1 K ad la rest σ hp6) hF (fun v7 hF => ?_)
      refine x_iload_n C 1 1 dX0_told_38 rfl rfl ?_
      refine x_icmp_ne C 68 dX0_told_39 (by decide) hF (fun hF => ?_) (fun hF => ?_)
      · refine x_iincN C (-1) 5 (fun x8 => [(5, .int x8), (0, .ref (ad 44)), (1, .int y1), (2, .int y2), (3, .int y3), (4, .ref (la (4 * i_4)))]) dX0_told_68 rfl (by decide +kernel) (by decide) (fun _ => rfl) hF (fun x8 hF => ?_)
        refine x_goto C 25 dX0_told_71 (by decide) ?_
        refine x_loc [(0, .ref (ad 44)), (1, .int y1), (2, .int y2), (3, .int y3), (4, .ref (la (4 * i_4))), (5, .int x8)] [1, 2, 3, 4, 5, 0] rfl ?_
        exact ih y1 y2 y3 i_4 x8 σ hF
      · refine x_aload_n C 0 0 dX0_told_42 rfl rfl ?_
        refine x_aload C 4 4 dX0_told_43 rfl ?_
        refine x_iload C 5 5 dX0_told_45 rfl ?_
        refine x_callVI C (wf := CW K ad la rest) (As := [.ref (la (4 * i_4)), .int y5]) (rest := []) dX0_told_47 ml_X0_64 rfl rfl (Nat.le_of_ble_eq_true rfl) 44 (CW_44 K ad la rest σ) rfl ⟨Nat.le_of_ble_eq_true rfl, Nat.le_of_ble_eq_true rfl⟩ ⟨Nat.zero_le _, Nat.zero_le _⟩ (fun q9 hq9 => c_X0_holds l D K ad la rest i_4 y5 σ q9 hq9) hF (fun v10 σ9 hF => ?_)
        refine x_if_eq C 68 dX0_told_50 (by decide) hF (fun hF => ?_) (fun hF => ?_)
        · refine x_iincN C (-1) 5 (fun x11 => [(5, .int x11), (0, .ref (ad 44)), (1, .int y1), (2, .int y2), (3, .int y3), (4, .ref (la (4 * i_4)))]) dX0_told_68 rfl (by decide +kernel) (by decide) (fun _ => rfl) hF (fun x11 hF => ?_)
          refine x_goto C 25 dX0_told_71 (by decide) ?_
          refine x_loc [(0, .ref (ad 44)), (1, .int y1), (2, .int y2), (3, .int y3), (4, .ref (la (4 * i_4))), (5, .int x11)] [1, 2, 3, 4, 5, 0] rfl ?_
          exact ih y1 y2 y3 i_4 x11 σ9 hF
        · refine x_lconst C 0 dX0_told_53 (by decide +kernel) ?_
          refine x_aload_n C 0 0 dX0_told_54 rfl rfl ?_
          refine x_get C 44 dX0_told_55 fl_X0_68 (CW_44 K ad la rest σ9) rfl ?_
          refine x_iload_n C 2 2 dX0_told_58 rfl rfl ?_
          refine x_i2l C dX0_told_59 ?_
          refine x_mminl C dX0_told_60 wl_X0_72 jMinL ⟨Nat.le_of_ble_eq_true rfl, Nat.le_of_ble_eq_true rfl⟩ ⟨Nat.zero_le _, Nat.zero_le _⟩ ?_
          refine x_mmaxl C dX0_told_63 wl_X0_78 jMaxL ⟨Nat.le_of_ble_eq_true rfl, Nat.le_of_ble_eq_true rfl⟩ ⟨Nat.zero_le _, Nat.zero_le _⟩ ?_
          refine x_l2i C dX0_told_66 ?_
          exact x_iret C dX0_told_67 rfl (congrArg Prod.fst (Option.some.inj hF)) (congrArg (fun q9 : Int32 × xS => CW K ad la rest q9.2) (Option.some.inj hF))
set_option maxHeartbeats 4000000 in
set_option maxRecDepth 100000 in
theorem c_X0_told (l : Launch) (D : va_G) (K : Nat → ClassId) (ad la : Nat → Nat) (rest : va_W)  (a1 : Int32) (a2 : Int32) (a3 : Int32) (σ : xS) (z : Int32 × xS) (hF : F_X0_told a1 a2 a3 σ = some z) : CI l D K yX0_told cX0_told 6 (some .int) 2 54 [.ref (ad 44), .int a1, .int a2, .int a3] (CW K ad la rest σ) z.1 (CW K ad la rest z.2) := by
  refine x_enterI [(0, .ref (ad 44)), (1, .int a1), (2, .int a2), (3, .int a3)] pnX0 (Nat.le_of_ble_eq_true rfl) rfl ?_
  intro p e s m args below meth c A C
  unfold F_X0_told at hF
  refine x_aload_n C 0 0 dX0_told_0 rfl rfl ?_
  refine x_get C 44 dX0_told_1 fl_X0_21 (CW_44 K ad la rest σ) rfl ?_
  refine x_callVQ C (wf := CW K ad la rest) (gh := fun i => la (4 * i)) (As := []) (rest := []) dX0_told_4 ml_X0_51 rfl rfl (Nat.le_of_ble_eq_true rfl) 5 (CW_5 K ad la rest σ) rfl ⟨Nat.le_of_ble_eq_true rfl, Nat.le_of_ble_eq_true rfl⟩ ⟨Nat.zero_le _, Nat.zero_le _⟩ (fun q9 hq9 => c_X7_lawInForce l D K ad la rest 0 (by decide) σ q9 hq9) hF (fun v2 σ1 hF => ?_)
  cases v2 with
  | none =>
    rw [mo_none] at hF
    refine x_if_cast (st2 := .null :: []) rfl ?_
    refine x_astoreN C [(4, .null), (0, .ref (ad 44)), (1, .int a1), (2, .int a2), (3, .int a3)] dX0_told_7 (by decide) rfl ?_
    refine x_aloadN C 0 4 dX0_told_9 rfl ?_
    refine x_ifnnN C dX0_told_11 ?_
    refine x_iload_n C 4 3 dX0_told_14 rfl rfl ?_
    exact x_iret C dX0_told_15 rfl (congrArg Prod.fst (Option.some.inj hF)) (congrArg (fun q9 : Int32 × xS => CW K ad la rest q9.2) (Option.some.inj hF))
  | some i3 =>
    rw [mo_some] at hF
    refine x_if_cast (st2 := .ref (la (4 * i3)) :: []) rfl ?_
    refine x_astore C [(4, .ref (la (4 * i3))), (0, .ref (ad 44)), (1, .int a1), (2, .int a2), (3, .int a3)] dX0_told_7 (by decide) rfl ?_
    refine x_aload C 0 4 dX0_told_9 rfl ?_
    refine x_ifnnS C 16 dX0_told_11 (by decide) ?_
    refine x_aload C 0 4 dX0_told_16 rfl ?_
    obtain ⟨p4, hp4, hF⟩ := lw_some hF
    refine x_get C ((rest.length + (4 * i3 + 0)) + 102) dX0_told_18 fl_X0_55 (CW_law0 K ad la rest σ1 hp4) rfl ?_
    refine x_iconst C 1 dX0_told_21 (by decide +kernel) ?_
    refine x_isub C dX0_told_22 ?_
    refine x_topI hF (fun x5 hF => ?_)
    refine x_istore C [(5, .int x5), (4, .ref (la (4 * i3))), (0, .ref (ad 44)), (1, .int a1), (2, .int a2), (3, .int a3)] dX0_told_23 (by decide) rfl ?_
    refine x_loc [(0, .ref (ad 44)), (1, .int a1), (2, .int a2), (3, .int a3), (4, .ref (la (4 * i3))), (5, .int x5)] [2, 3, 4, 5, 1, 0] rfl ?_
    exact x_X0_told_25 C z FU a1 a2 a3 i3 x5 σ1 hF
theorem dX0_sells_0 : decode cX0_sells 0 = .ok (.aload_n 0, 1) := by decide +kernel
theorem dX0_sells_1 : decode cX0_sells 1 = .ok (.bipush 10, 2) := by decide +kernel
theorem dX0_sells_3 : decode cX0_sells 3 = .ok (.bipush 100, 2) := by decide +kernel
theorem dX0_sells_5 : decode cX0_sells 5 = .ok (.bipush 10, 2) := by decide +kernel
theorem dX0_sells_7 : decode cX0_sells 7 = .ok (.invokevirtual 40, 3) := by decide +kernel
theorem dX0_sells_10 : decode cX0_sells 10 = .ok (.ireturn, 1) := by decide +kernel
set_option maxHeartbeats 4000000 in
set_option maxRecDepth 100000 in
theorem c_X0_sells (l : Launch) (D : va_G) (K : Nat → ClassId) (ad la : Nat → Nat) (rest : va_W)   (σ : xS) (z : Int32 × xS) (hF : F_X0_sells σ = some z) : CI l D K yX0_sells cX0_sells 1 (some .int) 3 79 [.ref (ad 44)] (CW K ad la rest σ) z.1 (CW K ad la rest z.2) := by
  refine x_enterI [(0, .ref (ad 44))] pnX0 (Nat.le_of_ble_eq_true rfl) rfl ?_
  intro p e s m args below meth c A C
  unfold F_X0_sells at hF
  refine x_aload_n C 0 0 dX0_sells_0 rfl rfl ?_
  refine x_bipush C 10 dX0_sells_1 (by decide +kernel) ?_
  refine x_bipush C 100 dX0_sells_3 (by decide +kernel) ?_
  refine x_bipush C 10 dX0_sells_5 (by decide +kernel) ?_
  refine x_callVI C (wf := CW K ad la rest) (As := [.int 10, .int 100, .int 10]) (rest := []) dX0_sells_7 ml_X0_40 rfl rfl (Nat.le_of_ble_eq_true rfl) 44 (CW_44 K ad la rest σ) rfl ⟨Nat.le_of_ble_eq_true rfl, Nat.le_of_ble_eq_true rfl⟩ ⟨Nat.zero_le _, Nat.zero_le _⟩ (fun q9 hq9 => c_X0_told l D K ad la rest 10 100 10 σ q9 hq9) hF (fun v2 σ1 hF => ?_)
  exact x_iret C dX0_sells_10 rfl (congrArg Prod.fst (Option.some.inj hF)) (congrArg (fun q9 : Int32 × xS => CW K ad la rest q9.2) (Option.some.inj hF))
theorem dX0_drawsOnTable_0 : decode cX0_drawsOnTable 0 = .ok (.aload_n 0, 1) := by decide +kernel
theorem dX0_drawsOnTable_1 : decode cX0_drawsOnTable 1 = .ok (.iload_n 1, 1) := by decide +kernel
theorem dX0_drawsOnTable_2 : decode cX0_drawsOnTable 2 = .ok (.iload_n 2, 1) := by decide +kernel
theorem dX0_drawsOnTable_3 : decode cX0_drawsOnTable 3 = .ok (.invokevirtual 44, 3) := by decide +kernel
theorem dX0_drawsOnTable_6 : decode cX0_drawsOnTable 6 = .ok (.aload_n 0, 1) := by decide +kernel
theorem dX0_drawsOnTable_7 : decode cX0_drawsOnTable 7 = .ok (.getfield 11, 3) := by decide +kernel
theorem dX0_drawsOnTable_10 : decode cX0_drawsOnTable 10 = .ok (.iconst 5, 1) := by decide +kernel
theorem dX0_drawsOnTable_11 : decode cX0_drawsOnTable 11 = .ok (.iconst 1, 1) := by decide +kernel
theorem dX0_drawsOnTable_12 : decode cX0_drawsOnTable 12 = .ok (.iastore, 1) := by decide +kernel
theorem dX0_drawsOnTable_13 : decode cX0_drawsOnTable 13 = .ok (.aload_n 0, 1) := by decide +kernel
theorem dX0_drawsOnTable_14 : decode cX0_drawsOnTable 14 = .ok (.bipush 11, 2) := by decide +kernel
theorem dX0_drawsOnTable_16 : decode cX0_drawsOnTable 16 = .ok (.bipush 99, 2) := by decide +kernel
theorem dX0_drawsOnTable_18 : decode cX0_drawsOnTable 18 = .ok (.iconst 0, 1) := by decide +kernel
theorem dX0_drawsOnTable_19 : decode cX0_drawsOnTable 19 = .ok (.invokevirtual 40, 3) := by decide +kernel
theorem dX0_drawsOnTable_22 : decode cX0_drawsOnTable 22 = .ok (.ireturn, 1) := by decide +kernel
set_option maxHeartbeats 4000000 in
set_option maxRecDepth 100000 in
theorem c_X0_drawsOnTable (l : Launch) (D : va_G) (K : Nat → ClassId) (ad la : Nat → Nat) (rest : va_W)  (a1 : Int32) (a2 : Int32) (σ : xS) (z : Int32 × xS) (hF : F_X0_drawsOnTable a1 a2 σ = some z) : CI l D K yX0_drawsOnTable cX0_drawsOnTable 3 (some .int) 3 79 [.ref (ad 44), .int a1, .int a2] (CW K ad la rest σ) z.1 (CW K ad la rest z.2) := by
  refine x_enterI [(0, .ref (ad 44)), (1, .int a1), (2, .int a2)] pnX0 (Nat.le_of_ble_eq_true rfl) rfl ?_
  intro p e s m args below meth c A C
  unfold F_X0_drawsOnTable at hF
  refine x_aload_n C 0 0 dX0_drawsOnTable_0 rfl rfl ?_
  refine x_iload_n C 1 1 dX0_drawsOnTable_1 rfl rfl ?_
  refine x_iload_n C 2 2 dX0_drawsOnTable_2 rfl rfl ?_
  refine x_callVV C (wf := CW K ad la rest) (As := [.int a1, .int a2]) (rest := []) dX0_drawsOnTable_3 ml_X0_44 rfl rfl (Nat.le_of_ble_eq_true rfl) 44 (CW_44 K ad la rest σ) rfl ⟨Nat.le_of_ble_eq_true rfl, Nat.le_of_ble_eq_true rfl⟩ ⟨Nat.zero_le _, Nat.zero_le _⟩ (fun q9 hq9 => c_X0_about l D K ad la rest a1 a2 σ q9 hq9) hF (fun _ σ1 hF => ?_)
  refine x_aload_n C 0 0 dX0_drawsOnTable_6 rfl rfl ?_
  refine x_get C 44 dX0_drawsOnTable_7 fl_X0_11 (CW_44 K ad la rest σ1) rfl ?_
  refine x_iconst C 5 dX0_drawsOnTable_10 (by decide +kernel) ?_
  refine x_iconst C 1 dX0_drawsOnTable_11 (by decide +kernel) ?_
  refine x_iast C 45 dX0_drawsOnTable_12 (CW_45 K ad la rest σ1) hF (CW_s45 K ad la rest σ1 _) (fun hF => ?_)
  refine x_st (wf := CW K ad la rest) hF (fun σ2 hF => ?_)
  refine x_aload_n C 0 0 dX0_drawsOnTable_13 rfl rfl ?_
  refine x_bipush C 11 dX0_drawsOnTable_14 (by decide +kernel) ?_
  refine x_bipush C 99 dX0_drawsOnTable_16 (by decide +kernel) ?_
  refine x_iconst C 0 dX0_drawsOnTable_18 (by decide +kernel) ?_
  refine x_callVI C (wf := CW K ad la rest) (As := [.int 11, .int 99, .int 0]) (rest := []) dX0_drawsOnTable_19 ml_X0_40 rfl rfl (Nat.le_of_ble_eq_true rfl) 44 (CW_44 K ad la rest σ2) rfl ⟨Nat.le_of_ble_eq_true rfl, Nat.le_of_ble_eq_true rfl⟩ ⟨Nat.zero_le _, Nat.zero_le _⟩ (fun q9 hq9 => c_X0_told l D K ad la rest 11 99 0 σ2 q9 hq9) hF (fun v4 σ3 hF => ?_)
  exact x_iret C dX0_drawsOnTable_22 rfl (congrArg Prod.fst (Option.some.inj hF)) (congrArg (fun q9 : Int32 × xS => CW K ad la rest q9.2) (Option.some.inj hF))
theorem dX0_stillWanted_0 : decode cX0_stillWanted 0 = .ok (.aload_n 0, 1) := by decide +kernel
theorem dX0_stillWanted_1 : decode cX0_stillWanted 1 = .ok (.iload_n 2, 1) := by decide +kernel
theorem dX0_stillWanted_2 : decode cX0_stillWanted 2 = .ok (.iconst 0, 1) := by decide +kernel
theorem dX0_stillWanted_3 : decode cX0_stillWanted 3 = .ok (.invokevirtual 44, 3) := by decide +kernel
theorem dX0_stillWanted_6 : decode cX0_stillWanted 6 = .ok (.aload_n 0, 1) := by decide +kernel
theorem dX0_stillWanted_7 : decode cX0_stillWanted 7 = .ok (.getfield 11, 3) := by decide +kernel
theorem dX0_stillWanted_10 : decode cX0_stillWanted 10 = .ok (.bipush 9, 2) := by decide +kernel
theorem dX0_stillWanted_12 : decode cX0_stillWanted 12 = .ok (.aload_n 0, 1) := by decide +kernel
theorem dX0_stillWanted_13 : decode cX0_stillWanted 13 = .ok (.getfield 21, 3) := by decide +kernel
theorem dX0_stillWanted_16 : decode cX0_stillWanted 16 = .ok (.getfield 48, 3) := by decide +kernel
theorem dX0_stillWanted_19 : decode cX0_stillWanted 19 = .ok (.iload_n 1, 1) := by decide +kernel
theorem dX0_stillWanted_20 : decode cX0_stillWanted 20 = .ok (.iconst 1, 1) := by decide +kernel
theorem dX0_stillWanted_21 : decode cX0_stillWanted 21 = .ok (.invokevirtual 31, 3) := by decide +kernel
theorem dX0_stillWanted_24 : decode cX0_stillWanted 24 = .ok (.iastore, 1) := by decide +kernel
theorem dX0_stillWanted_25 : decode cX0_stillWanted 25 = .ok (.aload_n 0, 1) := by decide +kernel
theorem dX0_stillWanted_26 : decode cX0_stillWanted 26 = .ok (.bipush 12, 2) := by decide +kernel
theorem dX0_stillWanted_28 : decode cX0_stillWanted 28 = .ok (.bipush 100, 2) := by decide +kernel
theorem dX0_stillWanted_30 : decode cX0_stillWanted 30 = .ok (.bipush 50, 2) := by decide +kernel
theorem dX0_stillWanted_32 : decode cX0_stillWanted 32 = .ok (.invokevirtual 40, 3) := by decide +kernel
theorem dX0_stillWanted_35 : decode cX0_stillWanted 35 = .ok (.ireturn, 1) := by decide +kernel
set_option maxHeartbeats 4000000 in
set_option maxRecDepth 100000 in
theorem c_X0_stillWanted (l : Launch) (D : va_G) (K : Nat → ClassId) (ad la : Nat → Nat) (rest : va_W)  (a1 : Int32) (a2 : Int32) (σ : xS) (z : Int32 × xS) (hF : F_X0_stillWanted a1 a2 σ = some z) : CI l D K yX0_stillWanted cX0_stillWanted 3 (some .int) 3 79 [.ref (ad 44), .int a1, .int a2] (CW K ad la rest σ) z.1 (CW K ad la rest z.2) := by
  refine x_enterI [(0, .ref (ad 44)), (1, .int a1), (2, .int a2)] pnX0 (Nat.le_of_ble_eq_true rfl) rfl ?_
  intro p e s m args below meth c A C
  unfold F_X0_stillWanted at hF
  refine x_aload_n C 0 0 dX0_stillWanted_0 rfl rfl ?_
  refine x_iload_n C 2 2 dX0_stillWanted_1 rfl rfl ?_
  refine x_iconst C 0 dX0_stillWanted_2 (by decide +kernel) ?_
  refine x_callVV C (wf := CW K ad la rest) (As := [.int a2, .int 0]) (rest := []) dX0_stillWanted_3 ml_X0_44 rfl rfl (Nat.le_of_ble_eq_true rfl) 44 (CW_44 K ad la rest σ) rfl ⟨Nat.le_of_ble_eq_true rfl, Nat.le_of_ble_eq_true rfl⟩ ⟨Nat.zero_le _, Nat.zero_le _⟩ (fun q9 hq9 => c_X0_about l D K ad la rest a2 0 σ q9 hq9) hF (fun _ σ1 hF => ?_)
  refine x_aload_n C 0 0 dX0_stillWanted_6 rfl rfl ?_
  refine x_get C 44 dX0_stillWanted_7 fl_X0_11 (CW_44 K ad la rest σ1) rfl ?_
  refine x_bipush C 9 dX0_stillWanted_10 (by decide +kernel) ?_
  refine x_aload_n C 0 0 dX0_stillWanted_12 rfl rfl ?_
  refine x_get C 44 dX0_stillWanted_13 fl_X0_21 (CW_44 K ad la rest σ1) rfl ?_
  refine x_get C 5 dX0_stillWanted_16 fl_X0_48 (CW_5 K ad la rest σ1) rfl ?_
  refine x_iload_n C 1 1 dX0_stillWanted_19 rfl rfl ?_
  refine x_iconst C 1 dX0_stillWanted_20 (by decide +kernel) ?_
  refine x_callVI C (wf := CW K ad la rest) (As := [.int a1, .int 1]) (rest := [.int 9, .ref (ad 45)]) dX0_stillWanted_21 ml_X0_31 rfl rfl (Nat.le_of_ble_eq_true rfl) 12 (CW_12 K ad la rest σ1) rfl ⟨Nat.le_of_ble_eq_true rfl, Nat.le_of_ble_eq_true rfl⟩ ⟨Nat.zero_le _, Nat.zero_le _⟩ (fun q9 hq9 => c_X6_get l D K ad la rest 2 (by decide) a1 1 σ1 q9 hq9) hF (fun v3 σ2 hF => ?_)
  refine x_iast C 45 dX0_stillWanted_24 (CW_45 K ad la rest σ2) hF (CW_s45 K ad la rest σ2 _) (fun hF => ?_)
  refine x_st (wf := CW K ad la rest) hF (fun σ4 hF => ?_)
  refine x_aload_n C 0 0 dX0_stillWanted_25 rfl rfl ?_
  refine x_bipush C 12 dX0_stillWanted_26 (by decide +kernel) ?_
  refine x_bipush C 100 dX0_stillWanted_28 (by decide +kernel) ?_
  refine x_bipush C 50 dX0_stillWanted_30 (by decide +kernel) ?_
  refine x_callVI C (wf := CW K ad la rest) (As := [.int 12, .int 100, .int 50]) (rest := []) dX0_stillWanted_32 ml_X0_40 rfl rfl (Nat.le_of_ble_eq_true rfl) 44 (CW_44 K ad la rest σ4) rfl ⟨Nat.le_of_ble_eq_true rfl, Nat.le_of_ble_eq_true rfl⟩ ⟨Nat.zero_le _, Nat.zero_le _⟩ (fun q9 hq9 => c_X0_told l D K ad la rest 12 100 50 σ4 q9 hq9) hF (fun v6 σ5 hF => ?_)
  exact x_iret C dX0_stillWanted_35 rfl (congrArg Prod.fst (Option.some.inj hF)) (congrArg (fun q9 : Int32 × xS => CW K ad la rest q9.2) (Option.some.inj hF))
theorem dX0_dealerTakes_0 : decode cX0_dealerTakes 0 = .ok (.aload_n 0, 1) := by decide +kernel
theorem dX0_dealerTakes_1 : decode cX0_dealerTakes 1 = .ok (.bipush 13, 2) := by decide +kernel
theorem dX0_dealerTakes_3 : decode cX0_dealerTakes 3 = .ok (.iconst 0, 1) := by decide +kernel
theorem dX0_dealerTakes_4 : decode cX0_dealerTakes 4 = .ok (.iconst (-1), 1) := by decide +kernel
theorem dX0_dealerTakes_5 : decode cX0_dealerTakes 5 = .ok (.invokevirtual 40, 3) := by decide +kernel
theorem dX0_dealerTakes_8 : decode cX0_dealerTakes 8 = .ok (.iconst (-1), 1) := by decide +kernel
theorem dX0_dealerTakes_9 : decode cX0_dealerTakes 9 = .ok (.if_icmp .eq 7, 3) := by decide +kernel
theorem dX0_dealerTakes_12 : decode cX0_dealerTakes 12 = .ok (.iconst 1, 1) := by decide +kernel
theorem dX0_dealerTakes_13 : decode cX0_dealerTakes 13 = .ok (.goto 4, 3) := by decide +kernel
theorem dX0_dealerTakes_16 : decode cX0_dealerTakes 16 = .ok (.iconst 0, 1) := by decide +kernel
theorem dX0_dealerTakes_17 : decode cX0_dealerTakes 17 = .ok (.ireturn, 1) := by decide +kernel
set_option maxHeartbeats 4000000 in
set_option maxRecDepth 100000 in
theorem c_X0_dealerTakes (l : Launch) (D : va_G) (K : Nat → ClassId) (ad la : Nat → Nat) (rest : va_W)   (σ : xS) (z : Int32 × xS) (hF : F_X0_dealerTakes σ = some z) : CI l D K yX0_dealerTakes cX0_dealerTakes 1 (some .boolean) 3 79 [.ref (ad 44)] (CW K ad la rest σ) z.1 (CW K ad la rest z.2) := by
  refine x_enterI [(0, .ref (ad 44))] pnX0 (Nat.le_of_ble_eq_true rfl) rfl ?_
  intro p e s m args below meth c A C
  unfold F_X0_dealerTakes at hF
  refine x_aload_n C 0 0 dX0_dealerTakes_0 rfl rfl ?_
  refine x_bipush C 13 dX0_dealerTakes_1 (by decide +kernel) ?_
  refine x_iconst C 0 dX0_dealerTakes_3 (by decide +kernel) ?_
  refine x_iconst C (-1) dX0_dealerTakes_4 (by decide +kernel) ?_
  refine x_callVI C (wf := CW K ad la rest) (As := [.int 13, .int 0, .int ((-1))]) (rest := []) dX0_dealerTakes_5 ml_X0_40 rfl rfl (Nat.le_of_ble_eq_true rfl) 44 (CW_44 K ad la rest σ) rfl ⟨Nat.le_of_ble_eq_true rfl, Nat.le_of_ble_eq_true rfl⟩ ⟨Nat.zero_le _, Nat.zero_le _⟩ (fun q9 hq9 => c_X0_told l D K ad la rest 13 0 ((-1)) σ q9 hq9) hF (fun v2 σ1 hF => ?_)
  refine x_iconst C (-1) dX0_dealerTakes_8 (by decide +kernel) ?_
  refine x_icmp_eq C 16 dX0_dealerTakes_9 (by decide) hF (fun hF => ?_) (fun hF => ?_)
  · refine x_iconst C 0 dX0_dealerTakes_16 (by decide +kernel) ?_
    have hz := (cz_some hF).1
    replace hF := (cz_some hF).2
    exact x_zret C dX0_dealerTakes_17 rfl hz (congrArg Prod.fst (Option.some.inj hF)) (congrArg (fun q9 : Int32 × xS => CW K ad la rest q9.2) (Option.some.inj hF))
  · refine x_iconst C 1 dX0_dealerTakes_12 (by decide +kernel) ?_
    refine x_goto C 17 dX0_dealerTakes_13 (by decide) ?_
    have hz := (cz_some hF).1
    replace hF := (cz_some hF).2
    exact x_zret C dX0_dealerTakes_17 rfl hz (congrArg Prod.fst (Option.some.inj hF)) (congrArg (fun q9 : Int32 × xS => CW K ad la rest q9.2) (Option.some.inj hF))
theorem dX1_gain_0 : decode cX1_gain 0 = .ok (.aload_n 0, 1) := by decide +kernel
theorem dX1_gain_1 : decode cX1_gain 1 = .ok (.getfield 33, 3) := by decide +kernel
theorem dX1_gain_4 : decode cX1_gain 4 = .ok (.getfield 62, 3) := by decide +kernel
theorem dX1_gain_7 : decode cX1_gain 7 = .ok (.iconst 2, 1) := by decide +kernel
theorem dX1_gain_8 : decode cX1_gain 8 = .ok (.iaload, 1) := by decide +kernel
theorem dX1_gain_9 : decode cX1_gain 9 = .ok (.aload_n 0, 1) := by decide +kernel
theorem dX1_gain_10 : decode cX1_gain 10 = .ok (.getfield 33, 3) := by decide +kernel
theorem dX1_gain_13 : decode cX1_gain 13 = .ok (.getfield 62, 3) := by decide +kernel
theorem dX1_gain_16 : decode cX1_gain 16 = .ok (.iconst 4, 1) := by decide +kernel
theorem dX1_gain_17 : decode cX1_gain 17 = .ok (.iaload, 1) := by decide +kernel
theorem dX1_gain_18 : decode cX1_gain 18 = .ok (.isub, 1) := by decide +kernel
theorem dX1_gain_19 : decode cX1_gain 19 = .ok (.istore_n 1, 1) := by decide +kernel
theorem dX1_gain_20 : decode cX1_gain 20 = .ok (.iload_n 1, 1) := by decide +kernel
theorem dX1_gain_21 : decode cX1_gain 21 = .ok (.ifCond .le 17, 3) := by decide +kernel
theorem dX1_gain_24 : decode cX1_gain 24 = .ok (.aload_n 0, 1) := by decide +kernel
theorem dX1_gain_25 : decode cX1_gain 25 = .ok (.getfield 33, 3) := by decide +kernel
theorem dX1_gain_28 : decode cX1_gain 28 = .ok (.invokevirtual 67, 3) := by decide +kernel
theorem dX1_gain_31 : decode cX1_gain 31 = .ok (.ifCond .eq 7, 3) := by decide +kernel
theorem dX1_gain_34 : decode cX1_gain 34 = .ok (.iload_n 1, 1) := by decide +kernel
theorem dX1_gain_35 : decode cX1_gain 35 = .ok (.goto 4, 3) := by decide +kernel
theorem dX1_gain_38 : decode cX1_gain 38 = .ok (.iconst 0, 1) := by decide +kernel
theorem dX1_gain_39 : decode cX1_gain 39 = .ok (.ireturn, 1) := by decide +kernel
set_option maxHeartbeats 4000000 in
set_option maxRecDepth 100000 in
theorem c_X1_gain (l : Launch) (D : va_G) (K : Nat → ClassId) (ad la : Nat → Nat) (rest : va_W)   (σ : xS) (z : Int32 × xS) (hF : F_X1_gain σ = some z) : CI l D K yX1_gain cX1_gain 2 (some .int) 4 99 [.ref (ad 89)] (CW K ad la rest σ) z.1 (CW K ad la rest z.2) := by
  refine x_enterI [(0, .ref (ad 89))] pnX1 (Nat.le_of_ble_eq_true rfl) rfl ?_
  intro p e s m args below meth c A C
  unfold F_X1_gain at hF
  refine x_aload_n C 0 0 dX1_gain_0 rfl rfl ?_
  refine x_get C 89 dX1_gain_1 fl_X1_33 (CW_89 K ad la rest σ) rfl ?_
  refine x_get C 44 dX1_gain_4 fl_X1_62 (CW_44 K ad la rest σ) rfl ?_
  refine x_iconst C 2 dX1_gain_7 (by decide +kernel) ?_
  refine x_iald C 45 dX1_gain_8 (CW_45 K ad la rest σ) hF (fun v1 hF => ?_)
  refine x_aload_n C 0 0 dX1_gain_9 rfl rfl ?_
  refine x_get C 89 dX1_gain_10 fl_X1_33 (CW_89 K ad la rest σ) rfl ?_
  refine x_get C 44 dX1_gain_13 fl_X1_62 (CW_44 K ad la rest σ) rfl ?_
  refine x_iconst C 4 dX1_gain_16 (by decide +kernel) ?_
  refine x_iald C 45 dX1_gain_17 (CW_45 K ad la rest σ) hF (fun v2 hF => ?_)
  refine x_isub C dX1_gain_18 ?_
  refine x_topI hF (fun x3 hF => ?_)
  refine x_istore_n C [(1, .int x3), (0, .ref (ad 89))] dX1_gain_19 rfl (by decide) rfl ?_
  refine x_iload_n C 0 1 dX1_gain_20 rfl rfl ?_
  refine x_if_le C 38 dX1_gain_21 (by decide) hF (fun hF => ?_) (fun hF => ?_)
  · refine x_iconst C 0 dX1_gain_38 (by decide +kernel) ?_
    exact x_iret C dX1_gain_39 rfl (congrArg Prod.fst (Option.some.inj hF)) (congrArg (fun q9 : Int32 × xS => CW K ad la rest q9.2) (Option.some.inj hF))
  · refine x_aload_n C 1 0 dX1_gain_24 rfl rfl ?_
    refine x_get C 89 dX1_gain_25 fl_X1_33 (CW_89 K ad la rest σ) rfl ?_
    refine x_callVI C (wf := CW K ad la rest) (As := []) (rest := []) dX1_gain_28 ml_X1_67 rfl rfl (Nat.le_of_ble_eq_true rfl) 44 (CW_44 K ad la rest σ) rfl ⟨Nat.le_of_ble_eq_true rfl, Nat.le_of_ble_eq_true rfl⟩ ⟨Nat.zero_le _, Nat.zero_le _⟩ (fun q9 hq9 => c_X0_dealerTakes l D K ad la rest σ q9 hq9) hF (fun v5 σ4 hF => ?_)
    refine x_if_eq C 38 dX1_gain_31 (by decide) hF (fun hF => ?_) (fun hF => ?_)
    · refine x_iconst C 0 dX1_gain_38 (by decide +kernel) ?_
      exact x_iret C dX1_gain_39 rfl (congrArg Prod.fst (Option.some.inj hF)) (congrArg (fun q9 : Int32 × xS => CW K ad la rest q9.2) (Option.some.inj hF))
    · refine x_iload_n C 0 1 dX1_gain_34 rfl rfl ?_
      refine x_goto C 39 dX1_gain_35 (by decide) ?_
      exact x_iret C dX1_gain_39 rfl (congrArg Prod.fst (Option.some.inj hF)) (congrArg (fun q9 : Int32 × xS => CW K ad la rest q9.2) (Option.some.inj hF))
theorem dX1_greatestLeft_0 : decode cX1_greatestLeft 0 = .ok (.iconst (-1), 1) := by decide +kernel
theorem dX1_greatestLeft_1 : decode cX1_greatestLeft 1 = .ok (.istore_n 2, 1) := by decide +kernel
theorem dX1_greatestLeft_2 : decode cX1_greatestLeft 2 = .ok (.iconst 0, 1) := by decide +kernel
theorem dX1_greatestLeft_3 : decode cX1_greatestLeft 3 = .ok (.istore_n 3, 1) := by decide +kernel
theorem dX1_greatestLeft_4 : decode cX1_greatestLeft 4 = .ok (.iconst 0, 1) := by decide +kernel
theorem dX1_greatestLeft_5 : decode cX1_greatestLeft 5 = .ok (.istore 4, 2) := by decide +kernel
theorem dX1_greatestLeft_7 : decode cX1_greatestLeft 7 = .ok (.iload 4, 2) := by decide +kernel
theorem dX1_greatestLeft_9 : decode cX1_greatestLeft 9 = .ok (.aload_n 0, 1) := by decide +kernel
theorem dX1_greatestLeft_10 : decode cX1_greatestLeft 10 = .ok (.getfield 29, 3) := by decide +kernel
theorem dX1_greatestLeft_13 : decode cX1_greatestLeft 13 = .ok (.getfield 37, 3) := by decide +kernel
theorem dX1_greatestLeft_16 : decode cX1_greatestLeft 16 = .ok (.getfield 43, 3) := by decide +kernel
theorem dX1_greatestLeft_19 : decode cX1_greatestLeft 19 = .ok (.if_icmp .ge 40, 3) := by decide +kernel
theorem dX1_greatestLeft_22 : decode cX1_greatestLeft 22 = .ok (.aload_n 0, 1) := by decide +kernel
theorem dX1_greatestLeft_23 : decode cX1_greatestLeft 23 = .ok (.getfield 15, 3) := by decide +kernel
theorem dX1_greatestLeft_26 : decode cX1_greatestLeft 26 = .ok (.iload 4, 2) := by decide +kernel
theorem dX1_greatestLeft_28 : decode cX1_greatestLeft 28 = .ok (.iaload, 1) := by decide +kernel
theorem dX1_greatestLeft_29 : decode cX1_greatestLeft 29 = .ok (.iload_n 3, 1) := by decide +kernel
theorem dX1_greatestLeft_30 : decode cX1_greatestLeft 30 = .ok (.if_icmp .le 23, 3) := by decide +kernel
theorem dX1_greatestLeft_33 : decode cX1_greatestLeft 33 = .ok (.iload_n 1, 1) := by decide +kernel
theorem dX1_greatestLeft_34 : decode cX1_greatestLeft 34 = .ok (.iload 4, 2) := by decide +kernel
theorem dX1_greatestLeft_36 : decode cX1_greatestLeft 36 = .ok (.ishr, 1) := by decide +kernel
theorem dX1_greatestLeft_37 : decode cX1_greatestLeft 37 = .ok (.iconst 1, 1) := by decide +kernel
theorem dX1_greatestLeft_38 : decode cX1_greatestLeft 38 = .ok (.iand, 1) := by decide +kernel
theorem dX1_greatestLeft_39 : decode cX1_greatestLeft 39 = .ok (.ifCond .ne 14, 3) := by decide +kernel
theorem dX1_greatestLeft_42 : decode cX1_greatestLeft 42 = .ok (.iload 4, 2) := by decide +kernel
theorem dX1_greatestLeft_44 : decode cX1_greatestLeft 44 = .ok (.istore_n 2, 1) := by decide +kernel
theorem dX1_greatestLeft_45 : decode cX1_greatestLeft 45 = .ok (.aload_n 0, 1) := by decide +kernel
theorem dX1_greatestLeft_46 : decode cX1_greatestLeft 46 = .ok (.getfield 15, 3) := by decide +kernel
theorem dX1_greatestLeft_49 : decode cX1_greatestLeft 49 = .ok (.iload 4, 2) := by decide +kernel
theorem dX1_greatestLeft_51 : decode cX1_greatestLeft 51 = .ok (.iaload, 1) := by decide +kernel
theorem dX1_greatestLeft_52 : decode cX1_greatestLeft 52 = .ok (.istore_n 3, 1) := by decide +kernel
theorem dX1_greatestLeft_53 : decode cX1_greatestLeft 53 = .ok (.iinc 4 1, 3) := by decide +kernel
theorem dX1_greatestLeft_56 : decode cX1_greatestLeft 56 = .ok (.goto (-49), 3) := by decide +kernel
theorem dX1_greatestLeft_59 : decode cX1_greatestLeft 59 = .ok (.iload_n 2, 1) := by decide +kernel
theorem dX1_greatestLeft_60 : decode cX1_greatestLeft 60 = .ok (.ireturn, 1) := by decide +kernel
set_option maxHeartbeats 4000000 in
set_option maxRecDepth 100000 in
theorem x_X1_greatestLeft_7 {p : Program} {l : Launch} {e : Env} {s : State} {m : MethodId} {args : Array Value} {below : List Frame} {meth : Method} {c : Code} {D : va_G} {K : Nat → ClassId} {A : Nat → Prop} {ad la : Nat → Nat} {rest : va_W} (C : xC p s m args meth c D K A RX1 cX1_greatestLeft 5 (some .int)) (z : Int32 × xS) : ∀ (n : Nat) (y1 : Int32) (y2 : Int32) (y3 : Int32) (y4 : Int32) (σ : xS), F_X1_greatestLeft_7  n y1 y2 y3 y4 σ = some z → X p l e (xR 0 0) s m args below meth c D A 5 (xQi below D K A args s z.1 (CW K ad la rest z.2)) 0 0 7 [(0, .ref (ad 89)), (1, .int y1), (2, .int y2), (3, .int y3), (4, .int y4)] [] (CW K ad la rest σ) := by
  intro n
  induction n with
  | zero =>
    intro y1 y2 y3 y4 σ hF
    cases hF
  | succ n ih =>
    intro y1 y2 y3 y4 σ hF
    rw [F_X1_greatestLeft_7] at hF
    refine x_iload C 4 4 dX1_greatestLeft_7 rfl ?_
    refine x_aload_n C 0 0 dX1_greatestLeft_9 rfl rfl ?_
    refine x_get C 89 dX1_greatestLeft_10 fl_X1_29 (CW_89 K ad la rest σ) rfl ?_
    refine x_get C 5 dX1_greatestLeft_13 fl_X1_37 (CW_5 K ad la rest σ) rfl ?_
    refine x_get C 8 dX1_greatestLeft_16 fl_X1_43 (CW_8 K ad la rest σ) rfl ?_
    refine x_icmp_ge C 59 dX1_greatestLeft_19 (by decide) hF (fun hF => ?_) (fun hF => ?_)
    · refine x_iload_n C 2 2 dX1_greatestLeft_59 rfl rfl ?_
      exact x_iret C dX1_greatestLeft_60 rfl (congrArg Prod.fst (Option.some.inj hF)) (congrArg (fun q9 : Int32 × xS => CW K ad la rest q9.2) (Option.some.inj hF))
    · refine x_aload_n C 0 0 dX1_greatestLeft_22 rfl rfl ?_
      refine x_get C 89 dX1_greatestLeft_23 fl_X1_15 (CW_89 K ad la rest σ) rfl ?_
      refine x_iload C 4 4 dX1_greatestLeft_26 rfl ?_
      refine x_iald C 91 dX1_greatestLeft_28 (CW_91 K ad la rest σ) hF (fun v4 hF => ?_)
      refine x_iload_n C 3 3 dX1_greatestLeft_29 rfl rfl ?_
      refine x_icmp_le C 53 dX1_greatestLeft_30 (by decide) hF (fun hF => ?_) (fun hF => ?_)
      · refine x_iincN C 1 4 (fun x5 => [(4, .int x5), (0, .ref (ad 89)), (1, .int y1), (2, .int y2), (3, .int y3)]) dX1_greatestLeft_53 rfl (by decide +kernel) (by decide) (fun _ => rfl) hF (fun x5 hF => ?_)
        refine x_goto C 7 dX1_greatestLeft_56 (by decide) ?_
        refine x_loc [(0, .ref (ad 89)), (1, .int y1), (2, .int y2), (3, .int y3), (4, .int x5)] [1, 2, 3, 4, 0] rfl ?_
        exact ih y1 y2 y3 x5 σ hF
      · refine x_iload_n C 1 1 dX1_greatestLeft_33 rfl rfl ?_
        refine x_iload C 4 4 dX1_greatestLeft_34 rfl ?_
        refine x_ishr C dX1_greatestLeft_36 ?_
        refine x_iconst C 1 dX1_greatestLeft_37 (by decide +kernel) ?_
        refine x_iand C dX1_greatestLeft_38 ?_
        refine x_if_ne C 53 dX1_greatestLeft_39 (by decide) hF (fun hF => ?_) (fun hF => ?_)
        · refine x_iincN C 1 4 (fun x6 => [(4, .int x6), (0, .ref (ad 89)), (1, .int y1), (2, .int y2), (3, .int y3)]) dX1_greatestLeft_53 rfl (by decide +kernel) (by decide) (fun _ => rfl) hF (fun x6 hF => ?_)
          refine x_goto C 7 dX1_greatestLeft_56 (by decide) ?_
          refine x_loc [(0, .ref (ad 89)), (1, .int y1), (2, .int y2), (3, .int y3), (4, .int x6)] [1, 2, 3, 4, 0] rfl ?_
          exact ih y1 y2 y3 x6 σ hF
        · refine x_iload C 4 4 dX1_greatestLeft_42 rfl ?_
          refine x_istore_n C [(2, .int y4), (0, .ref (ad 89)), (1, .int y1), (3, .int y3), (4, .int y4)] dX1_greatestLeft_44 rfl (by decide) rfl ?_
          refine x_aload_n C 1 0 dX1_greatestLeft_45 rfl rfl ?_
          refine x_get C 89 dX1_greatestLeft_46 fl_X1_15 (CW_89 K ad la rest σ) rfl ?_
          refine x_iload C 4 4 dX1_greatestLeft_49 rfl ?_
          refine x_iald C 91 dX1_greatestLeft_51 (CW_91 K ad la rest σ) hF (fun v7 hF => ?_)
          refine x_istore_n C [(3, .int v7), (2, .int y4), (0, .ref (ad 89)), (1, .int y1), (4, .int y4)] dX1_greatestLeft_52 rfl (by decide) rfl ?_
          refine x_iincN C 1 4 (fun x8 => [(4, .int x8), (3, .int v7), (2, .int y4), (0, .ref (ad 89)), (1, .int y1)]) dX1_greatestLeft_53 rfl (by decide +kernel) (by decide) (fun _ => rfl) hF (fun x8 hF => ?_)
          refine x_goto C 7 dX1_greatestLeft_56 (by decide) ?_
          refine x_loc [(0, .ref (ad 89)), (1, .int y1), (2, .int y4), (3, .int v7), (4, .int x8)] [3, 4, 2, 1, 0] rfl ?_
          exact ih y1 y4 v7 x8 σ hF
set_option maxHeartbeats 4000000 in
set_option maxRecDepth 100000 in
theorem c_X1_greatestLeft (l : Launch) (D : va_G) (K : Nat → ClassId) (ad la : Nat → Nat) (rest : va_W)  (a1 : Int32) (σ : xS) (z : Int32 × xS) (hF : F_X1_greatestLeft a1 σ = some z) : CI l D K yX1_greatestLeft cX1_greatestLeft 5 (some .int) 0 0 [.ref (ad 89), .int a1] (CW K ad la rest σ) z.1 (CW K ad la rest z.2) := by
  refine x_enterI [(0, .ref (ad 89)), (1, .int a1)] pnX1 (Nat.le_of_ble_eq_true rfl) rfl ?_
  intro p e s m args below meth c A C
  unfold F_X1_greatestLeft at hF
  refine x_iconst C (-1) dX1_greatestLeft_0 (by decide +kernel) ?_
  refine x_topI hF (fun x1 hF => ?_)
  refine x_istore_n C [(2, .int x1), (0, .ref (ad 89)), (1, .int a1)] dX1_greatestLeft_1 rfl (by decide) rfl ?_
  refine x_iconst C 0 dX1_greatestLeft_2 (by decide +kernel) ?_
  refine x_topI hF (fun x2 hF => ?_)
  refine x_istore_n C [(3, .int x2), (2, .int x1), (0, .ref (ad 89)), (1, .int a1)] dX1_greatestLeft_3 rfl (by decide) rfl ?_
  refine x_iconst C 0 dX1_greatestLeft_4 (by decide +kernel) ?_
  refine x_topI hF (fun x3 hF => ?_)
  refine x_istore C [(4, .int x3), (3, .int x2), (2, .int x1), (0, .ref (ad 89)), (1, .int a1)] dX1_greatestLeft_5 (by decide) rfl ?_
  refine x_loc [(0, .ref (ad 89)), (1, .int a1), (2, .int x1), (3, .int x2), (4, .int x3)] [3, 4, 2, 1, 0] rfl ?_
  exact x_X1_greatestLeft_7 C z FU a1 x1 x2 x3 σ hF
theorem dX1_greatestGains_0 : decode cX1_greatestGains 0 = .ok (.iconst 0, 1) := by decide +kernel
theorem dX1_greatestGains_1 : decode cX1_greatestGains 1 = .ok (.istore_n 1, 1) := by decide +kernel
theorem dX1_greatestGains_2 : decode cX1_greatestGains 2 = .ok (.iconst 0, 1) := by decide +kernel
theorem dX1_greatestGains_3 : decode cX1_greatestGains 3 = .ok (.istore_n 2, 1) := by decide +kernel
theorem dX1_greatestGains_4 : decode cX1_greatestGains 4 = .ok (.iload_n 2, 1) := by decide +kernel
theorem dX1_greatestGains_5 : decode cX1_greatestGains 5 = .ok (.aload_n 0, 1) := by decide +kernel
theorem dX1_greatestGains_6 : decode cX1_greatestGains 6 = .ok (.getfield 29, 3) := by decide +kernel
theorem dX1_greatestGains_9 : decode cX1_greatestGains 9 = .ok (.getfield 71, 3) := by decide +kernel
theorem dX1_greatestGains_12 : decode cX1_greatestGains 12 = .ok (.iconst 4, 1) := by decide +kernel
theorem dX1_greatestGains_13 : decode cX1_greatestGains 13 = .ok (.iaload, 1) := by decide +kernel
theorem dX1_greatestGains_14 : decode cX1_greatestGains 14 = .ok (.if_icmp .ge 28, 3) := by decide +kernel
theorem dX1_greatestGains_17 : decode cX1_greatestGains 17 = .ok (.aload_n 0, 1) := by decide +kernel
theorem dX1_greatestGains_18 : decode cX1_greatestGains 18 = .ok (.iload_n 1, 1) := by decide +kernel
theorem dX1_greatestGains_19 : decode cX1_greatestGains 19 = .ok (.invokevirtual 74, 3) := by decide +kernel
theorem dX1_greatestGains_22 : decode cX1_greatestGains 22 = .ok (.istore_n 3, 1) := by decide +kernel
theorem dX1_greatestGains_23 : decode cX1_greatestGains 23 = .ok (.iload_n 3, 1) := by decide +kernel
theorem dX1_greatestGains_24 : decode cX1_greatestGains 24 = .ok (.iconst (-1), 1) := by decide +kernel
theorem dX1_greatestGains_25 : decode cX1_greatestGains 25 = .ok (.if_icmp .ne 5, 3) := by decide +kernel
theorem dX1_greatestGains_28 : decode cX1_greatestGains 28 = .ok (.iload_n 1, 1) := by decide +kernel
theorem dX1_greatestGains_29 : decode cX1_greatestGains 29 = .ok (.ireturn, 1) := by decide +kernel
theorem dX1_greatestGains_30 : decode cX1_greatestGains 30 = .ok (.iload_n 1, 1) := by decide +kernel
theorem dX1_greatestGains_31 : decode cX1_greatestGains 31 = .ok (.iconst 1, 1) := by decide +kernel
theorem dX1_greatestGains_32 : decode cX1_greatestGains 32 = .ok (.iload_n 3, 1) := by decide +kernel
theorem dX1_greatestGains_33 : decode cX1_greatestGains 33 = .ok (.ishl, 1) := by decide +kernel
theorem dX1_greatestGains_34 : decode cX1_greatestGains 34 = .ok (.ior, 1) := by decide +kernel
theorem dX1_greatestGains_35 : decode cX1_greatestGains 35 = .ok (.istore_n 1, 1) := by decide +kernel
theorem dX1_greatestGains_36 : decode cX1_greatestGains 36 = .ok (.iinc 2 1, 3) := by decide +kernel
theorem dX1_greatestGains_39 : decode cX1_greatestGains 39 = .ok (.goto (-35), 3) := by decide +kernel
theorem dX1_greatestGains_42 : decode cX1_greatestGains 42 = .ok (.iload_n 1, 1) := by decide +kernel
theorem dX1_greatestGains_43 : decode cX1_greatestGains 43 = .ok (.ireturn, 1) := by decide +kernel
set_option maxHeartbeats 4000000 in
set_option maxRecDepth 100000 in
theorem x_X1_greatestGains_4 {p : Program} {l : Launch} {e : Env} {s : State} {m : MethodId} {args : Array Value} {below : List Frame} {meth : Method} {c : Code} {D : va_G} {K : Nat → ClassId} {A : Nat → Prop} {ad la : Nat → Nat} {rest : va_W} (C : xC p s m args meth c D K A RX1 cX1_greatestGains 4 (some .int)) (z : Int32 × xS) : ∀ (n : Nat) (y1 : Int32) (y2 : Int32) (σ : xS), F_X1_greatestGains_4  n y1 y2 σ = some z → X p l e (xR 1 24) s m args below meth c D A 4 (xQi below D K A args s z.1 (CW K ad la rest z.2)) 0 0 4 [(0, .ref (ad 89)), (1, .int y1), (2, .int y2)] [] (CW K ad la rest σ) := by
  intro n
  induction n with
  | zero =>
    intro y1 y2 σ hF
    cases hF
  | succ n ih =>
    intro y1 y2 σ hF
    rw [F_X1_greatestGains_4] at hF
    refine x_iload_n C 2 2 dX1_greatestGains_4 rfl rfl ?_
    refine x_aload_n C 0 0 dX1_greatestGains_5 rfl rfl ?_
    refine x_get C 89 dX1_greatestGains_6 fl_X1_29 (CW_89 K ad la rest σ) rfl ?_
    refine x_get C 5 dX1_greatestGains_9 fl_X1_71 (CW_5 K ad la rest σ) rfl ?_
    refine x_iconst C 4 dX1_greatestGains_12 (by decide +kernel) ?_
    refine x_iald C 38 dX1_greatestGains_13 (CW_38 K ad la rest σ) hF (fun v3 hF => ?_)
    refine x_icmp_ge C 42 dX1_greatestGains_14 (by decide) hF (fun hF => ?_) (fun hF => ?_)
    · refine x_iload_n C 1 1 dX1_greatestGains_42 rfl rfl ?_
      exact x_iret C dX1_greatestGains_43 rfl (congrArg Prod.fst (Option.some.inj hF)) (congrArg (fun q9 : Int32 × xS => CW K ad la rest q9.2) (Option.some.inj hF))
    · refine x_aload_n C 0 0 dX1_greatestGains_17 rfl rfl ?_
      refine x_iload_n C 1 1 dX1_greatestGains_18 rfl rfl ?_
      refine x_callVI C (wf := CW K ad la rest) (As := [.int y1]) (rest := []) dX1_greatestGains_19 ml_X1_74 rfl rfl (Nat.le_of_ble_eq_true rfl) 89 (CW_89 K ad la rest σ) rfl ⟨Nat.le_of_ble_eq_true rfl, Nat.le_of_ble_eq_true rfl⟩ ⟨Nat.zero_le _, Nat.zero_le _⟩ (fun q9 hq9 => c_X1_greatestLeft l D K ad la rest y1 σ q9 hq9) hF (fun v5 σ4 hF => ?_)
      refine x_istore_n C [(3, .int v5), (0, .ref (ad 89)), (1, .int y1), (2, .int y2)] dX1_greatestGains_22 rfl (by decide) rfl ?_
      refine x_iload_n C 0 3 dX1_greatestGains_23 rfl rfl ?_
      refine x_iconst C (-1) dX1_greatestGains_24 (by decide +kernel) ?_
      refine x_icmp_ne C 30 dX1_greatestGains_25 (by decide) hF (fun hF => ?_) (fun hF => ?_)
      · refine x_iload_n C 2 1 dX1_greatestGains_30 rfl rfl ?_
        refine x_iconst C 1 dX1_greatestGains_31 (by decide +kernel) ?_
        refine x_iload_n C 0 3 dX1_greatestGains_32 rfl rfl ?_
        refine x_ishl C dX1_greatestGains_33 ?_
        refine x_ior C dX1_greatestGains_34 ?_
        refine x_topI hF (fun x6 hF => ?_)
        refine x_istore_n C [(1, .int x6), (3, .int v5), (0, .ref (ad 89)), (2, .int y2)] dX1_greatestGains_35 rfl (by decide) rfl ?_
        refine x_iincN C 1 3 (fun x7 => [(2, .int x7), (1, .int x6), (3, .int v5), (0, .ref (ad 89))]) dX1_greatestGains_36 rfl (by decide +kernel) (by decide) (fun _ => rfl) hF (fun x7 hF => ?_)
        refine x_goto C 4 dX1_greatestGains_39 (by decide) ?_
        refine x_loc [(0, .ref (ad 89)), (1, .int x6), (2, .int x7)] [3, 1, 0] rfl ?_
        exact ih x6 x7 σ4 hF
      · refine x_iload_n C 2 1 dX1_greatestGains_28 rfl rfl ?_
        exact x_iret C dX1_greatestGains_29 rfl (congrArg Prod.fst (Option.some.inj hF)) (congrArg (fun q9 : Int32 × xS => CW K ad la rest q9.2) (Option.some.inj hF))
set_option maxHeartbeats 4000000 in
set_option maxRecDepth 100000 in
theorem c_X1_greatestGains (l : Launch) (D : va_G) (K : Nat → ClassId) (ad la : Nat → Nat) (rest : va_W)   (σ : xS) (z : Int32 × xS) (hF : F_X1_greatestGains σ = some z) : CI l D K yX1_greatestGains cX1_greatestGains 4 (some .int) 1 24 [.ref (ad 89)] (CW K ad la rest σ) z.1 (CW K ad la rest z.2) := by
  refine x_enterI [(0, .ref (ad 89))] pnX1 (Nat.le_of_ble_eq_true rfl) rfl ?_
  intro p e s m args below meth c A C
  unfold F_X1_greatestGains at hF
  refine x_iconst C 0 dX1_greatestGains_0 (by decide +kernel) ?_
  refine x_topI hF (fun x1 hF => ?_)
  refine x_istore_n C [(1, .int x1), (0, .ref (ad 89))] dX1_greatestGains_1 rfl (by decide) rfl ?_
  refine x_iconst C 0 dX1_greatestGains_2 (by decide +kernel) ?_
  refine x_topI hF (fun x2 hF => ?_)
  refine x_istore_n C [(2, .int x2), (1, .int x1), (0, .ref (ad 89))] dX1_greatestGains_3 rfl (by decide) rfl ?_
  refine x_loc [(0, .ref (ad 89)), (1, .int x1), (2, .int x2)] [2, 1, 0] rfl ?_
  exact x_X1_greatestGains_4 C z FU x1 x2 σ hF
theorem dX1_takes_0 : decode cX1_takes 0 = .ok (.iconst 0, 1) := by decide +kernel
theorem dX1_takes_1 : decode cX1_takes 1 = .ok (.istore_n 3, 1) := by decide +kernel
theorem dX1_takes_2 : decode cX1_takes 2 = .ok (.iload_n 3, 1) := by decide +kernel
theorem dX1_takes_3 : decode cX1_takes 3 = .ok (.aload_n 0, 1) := by decide +kernel
theorem dX1_takes_4 : decode cX1_takes 4 = .ok (.getfield 29, 3) := by decide +kernel
theorem dX1_takes_7 : decode cX1_takes 7 = .ok (.getfield 37, 3) := by decide +kernel
theorem dX1_takes_10 : decode cX1_takes 10 = .ok (.getfield 43, 3) := by decide +kernel
theorem dX1_takes_13 : decode cX1_takes 13 = .ok (.if_icmp .ge 44, 3) := by decide +kernel
theorem dX1_takes_16 : decode cX1_takes 16 = .ok (.aload_n 0, 1) := by decide +kernel
theorem dX1_takes_17 : decode cX1_takes 17 = .ok (.getfield 15, 3) := by decide +kernel
theorem dX1_takes_20 : decode cX1_takes 20 = .ok (.iload_n 3, 1) := by decide +kernel
theorem dX1_takes_21 : decode cX1_takes 21 = .ok (.iconst 0, 1) := by decide +kernel
theorem dX1_takes_22 : decode cX1_takes 22 = .ok (.iastore, 1) := by decide +kernel
theorem dX1_takes_23 : decode cX1_takes 23 = .ok (.iload_n 1, 1) := by decide +kernel
theorem dX1_takes_24 : decode cX1_takes 24 = .ok (.iload_n 3, 1) := by decide +kernel
theorem dX1_takes_25 : decode cX1_takes 25 = .ok (.ishr, 1) := by decide +kernel
theorem dX1_takes_26 : decode cX1_takes 26 = .ok (.iconst 1, 1) := by decide +kernel
theorem dX1_takes_27 : decode cX1_takes 27 = .ok (.iand, 1) := by decide +kernel
theorem dX1_takes_28 : decode cX1_takes 28 = .ok (.iconst 1, 1) := by decide +kernel
theorem dX1_takes_29 : decode cX1_takes 29 = .ok (.if_icmp .ne 22, 3) := by decide +kernel
theorem dX1_takes_32 : decode cX1_takes 32 = .ok (.aload_n 0, 1) := by decide +kernel
theorem dX1_takes_33 : decode cX1_takes 33 = .ok (.getfield 33, 3) := by decide +kernel
theorem dX1_takes_36 : decode cX1_takes 36 = .ok (.iload_n 3, 1) := by decide +kernel
theorem dX1_takes_37 : decode cX1_takes 37 = .ok (.iload_n 2, 1) := by decide +kernel
theorem dX1_takes_38 : decode cX1_takes 38 = .ok (.invokevirtual 49, 3) := by decide +kernel
theorem dX1_takes_41 : decode cX1_takes 41 = .ok (.aload_n 0, 1) := by decide +kernel
theorem dX1_takes_42 : decode cX1_takes 42 = .ok (.getfield 15, 3) := by decide +kernel
theorem dX1_takes_45 : decode cX1_takes 45 = .ok (.iload_n 3, 1) := by decide +kernel
theorem dX1_takes_46 : decode cX1_takes 46 = .ok (.aload_n 0, 1) := by decide +kernel
theorem dX1_takes_47 : decode cX1_takes 47 = .ok (.invokevirtual 55, 3) := by decide +kernel
theorem dX1_takes_50 : decode cX1_takes 50 = .ok (.iastore, 1) := by decide +kernel
theorem dX1_takes_51 : decode cX1_takes 51 = .ok (.iinc 3 1, 3) := by decide +kernel
theorem dX1_takes_54 : decode cX1_takes 54 = .ok (.goto (-52), 3) := by decide +kernel
theorem dX1_takes_57 : decode cX1_takes 57 = .ok (.aload_n 0, 1) := by decide +kernel
theorem dX1_takes_58 : decode cX1_takes 58 = .ok (.invokevirtual 59, 3) := by decide +kernel
theorem dX1_takes_61 : decode cX1_takes 61 = .ok (.ireturn, 1) := by decide +kernel
set_option maxHeartbeats 4000000 in
set_option maxRecDepth 100000 in
theorem x_X1_takes_2 {p : Program} {l : Launch} {e : Env} {s : State} {m : MethodId} {args : Array Value} {below : List Frame} {meth : Method} {c : Code} {D : va_G} {K : Nat → ClassId} {A : Nat → Prop} {ad la : Nat → Nat} {rest : va_W} (C : xC p s m args meth c D K A RX1 cX1_takes 4 (some .int)) (z : Int32 × xS) : ∀ (n : Nat) (y1 : Int32) (y2 : Int32) (y3 : Int32) (σ : xS), F_X1_takes_2  n y1 y2 y3 σ = some z → X p l e (xR 5 120) s m args below meth c D A 4 (xQi below D K A args s z.1 (CW K ad la rest z.2)) 0 0 2 [(0, .ref (ad 89)), (1, .int y1), (2, .int y2), (3, .int y3)] [] (CW K ad la rest σ) := by
  intro n
  induction n with
  | zero =>
    intro y1 y2 y3 σ hF
    cases hF
  | succ n ih =>
    intro y1 y2 y3 σ hF
    rw [F_X1_takes_2] at hF
    refine x_iload_n C 3 3 dX1_takes_2 rfl rfl ?_
    refine x_aload_n C 0 0 dX1_takes_3 rfl rfl ?_
    refine x_get C 89 dX1_takes_4 fl_X1_29 (CW_89 K ad la rest σ) rfl ?_
    refine x_get C 5 dX1_takes_7 fl_X1_37 (CW_5 K ad la rest σ) rfl ?_
    refine x_get C 8 dX1_takes_10 fl_X1_43 (CW_8 K ad la rest σ) rfl ?_
    refine x_icmp_ge C 57 dX1_takes_13 (by decide) hF (fun hF => ?_) (fun hF => ?_)
    · refine x_aload_n C 0 0 dX1_takes_57 rfl rfl ?_
      refine x_callVI C (wf := CW K ad la rest) (As := []) (rest := []) dX1_takes_58 ml_X1_59 rfl rfl (Nat.le_of_ble_eq_true rfl) 89 (CW_89 K ad la rest σ) rfl ⟨Nat.le_of_ble_eq_true rfl, Nat.le_of_ble_eq_true rfl⟩ ⟨Nat.zero_le _, Nat.zero_le _⟩ (fun q9 hq9 => c_X1_greatestGains l D K ad la rest σ q9 hq9) hF (fun v3 σ2 hF => ?_)
      exact x_iret C dX1_takes_61 rfl (congrArg Prod.fst (Option.some.inj hF)) (congrArg (fun q9 : Int32 × xS => CW K ad la rest q9.2) (Option.some.inj hF))
    · refine x_aload_n C 0 0 dX1_takes_16 rfl rfl ?_
      refine x_get C 89 dX1_takes_17 fl_X1_15 (CW_89 K ad la rest σ) rfl ?_
      refine x_iload_n C 3 3 dX1_takes_20 rfl rfl ?_
      refine x_iconst C 0 dX1_takes_21 (by decide +kernel) ?_
      refine x_iast C 91 dX1_takes_22 (CW_91 K ad la rest σ) hF (CW_s91 K ad la rest σ _) (fun hF => ?_)
      refine x_st (wf := CW K ad la rest) hF (fun σ4 hF => ?_)
      refine x_iload_n C 1 1 dX1_takes_23 rfl rfl ?_
      refine x_iload_n C 3 3 dX1_takes_24 rfl rfl ?_
      refine x_ishr C dX1_takes_25 ?_
      refine x_iconst C 1 dX1_takes_26 (by decide +kernel) ?_
      refine x_iand C dX1_takes_27 ?_
      refine x_iconst C 1 dX1_takes_28 (by decide +kernel) ?_
      refine x_icmp_ne C 51 dX1_takes_29 (by decide) hF (fun hF => ?_) (fun hF => ?_)
      · refine x_iincN C 1 3 (fun x5 => [(3, .int x5), (0, .ref (ad 89)), (1, .int y1), (2, .int y2)]) dX1_takes_51 rfl (by decide +kernel) (by decide) (fun _ => rfl) hF (fun x5 hF => ?_)
        refine x_goto C 2 dX1_takes_54 (by decide) ?_
        refine x_loc [(0, .ref (ad 89)), (1, .int y1), (2, .int y2), (3, .int x5)] [1, 2, 3, 0] rfl ?_
        exact ih y1 y2 x5 σ4 hF
      · refine x_aload_n C 0 0 dX1_takes_32 rfl rfl ?_
        refine x_get C 89 dX1_takes_33 fl_X1_33 (CW_89 K ad la rest σ4) rfl ?_
        refine x_iload_n C 3 3 dX1_takes_36 rfl rfl ?_
        refine x_iload_n C 2 2 dX1_takes_37 rfl rfl ?_
        refine x_callVV C (wf := CW K ad la rest) (As := [.int y3, .int y2]) (rest := []) dX1_takes_38 ml_X1_49 rfl rfl (Nat.le_of_ble_eq_true rfl) 44 (CW_44 K ad la rest σ4) rfl ⟨Nat.le_of_ble_eq_true rfl, Nat.le_of_ble_eq_true rfl⟩ ⟨Nat.zero_le _, Nat.zero_le _⟩ (fun q9 hq9 => c_X0_about l D K ad la rest y3 y2 σ4 q9 hq9) hF (fun _ σ6 hF => ?_)
        refine x_aload_n C 0 0 dX1_takes_41 rfl rfl ?_
        refine x_get C 89 dX1_takes_42 fl_X1_15 (CW_89 K ad la rest σ6) rfl ?_
        refine x_iload_n C 3 3 dX1_takes_45 rfl rfl ?_
        refine x_aload_n C 0 0 dX1_takes_46 rfl rfl ?_
        refine x_callVI C (wf := CW K ad la rest) (As := []) (rest := [.int y3, .ref (ad 91)]) dX1_takes_47 ml_X1_55 rfl rfl (Nat.le_of_ble_eq_true rfl) 89 (CW_89 K ad la rest σ6) rfl ⟨Nat.le_of_ble_eq_true rfl, Nat.le_of_ble_eq_true rfl⟩ ⟨Nat.zero_le _, Nat.zero_le _⟩ (fun q9 hq9 => c_X1_gain l D K ad la rest σ6 q9 hq9) hF (fun v8 σ7 hF => ?_)
        refine x_iast C 91 dX1_takes_50 (CW_91 K ad la rest σ7) hF (CW_s91 K ad la rest σ7 _) (fun hF => ?_)
        refine x_st (wf := CW K ad la rest) hF (fun σ9 hF => ?_)
        refine x_iincN C 1 3 (fun x10 => [(3, .int x10), (0, .ref (ad 89)), (1, .int y1), (2, .int y2)]) dX1_takes_51 rfl (by decide +kernel) (by decide) (fun _ => rfl) hF (fun x10 hF => ?_)
        refine x_goto C 2 dX1_takes_54 (by decide) ?_
        refine x_loc [(0, .ref (ad 89)), (1, .int y1), (2, .int y2), (3, .int x10)] [1, 2, 3, 0] rfl ?_
        exact ih y1 y2 x10 σ9 hF
set_option maxHeartbeats 4000000 in
set_option maxRecDepth 100000 in
theorem c_X1_takes (l : Launch) (D : va_G) (K : Nat → ClassId) (ad la : Nat → Nat) (rest : va_W)  (a1 : Int32) (a2 : Int32) (σ : xS) (z : Int32 × xS) (hF : F_X1_takes a1 a2 σ = some z) : CI l D K yX1_takes cX1_takes 4 (some .int) 5 120 [.ref (ad 89), .int a1, .int a2] (CW K ad la rest σ) z.1 (CW K ad la rest z.2) := by
  refine x_enterI [(0, .ref (ad 89)), (1, .int a1), (2, .int a2)] pnX1 (Nat.le_of_ble_eq_true rfl) rfl ?_
  intro p e s m args below meth c A C
  unfold F_X1_takes at hF
  refine x_iconst C 0 dX1_takes_0 (by decide +kernel) ?_
  refine x_topI hF (fun x1 hF => ?_)
  refine x_istore_n C [(3, .int x1), (0, .ref (ad 89)), (1, .int a1), (2, .int a2)] dX1_takes_1 rfl (by decide) rfl ?_
  refine x_loc [(0, .ref (ad 89)), (1, .int a1), (2, .int a2), (3, .int x1)] [1, 2, 3, 0] rfl ?_
  exact x_X1_takes_2 C z FU a1 a2 x1 σ hF
