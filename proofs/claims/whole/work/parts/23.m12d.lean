theorem dX12_drawsOf_0 : decode cX12_drawsOf 0 = .ok (.aload_n 0, 1) := by decide +kernel
theorem dX12_drawsOf_1 : decode cX12_drawsOf 1 = .ok (.iconst 1, 1) := by decide +kernel
theorem dX12_drawsOf_2 : decode cX12_drawsOf 2 = .ok (.putfield 330, 3) := by decide +kernel
theorem dX12_drawsOf_5 : decode cX12_drawsOf 5 = .ok (.aload_n 0, 1) := by decide +kernel
theorem dX12_drawsOf_6 : decode cX12_drawsOf 6 = .ok (.iconst 0, 1) := by decide +kernel
theorem dX12_drawsOf_7 : decode cX12_drawsOf 7 = .ok (.putfield 336, 3) := by decide +kernel
theorem dX12_drawsOf_10 : decode cX12_drawsOf 10 = .ok (.aload_n 0, 1) := by decide +kernel
theorem dX12_drawsOf_11 : decode cX12_drawsOf 11 = .ok (.iconst 1, 1) := by decide +kernel
theorem dX12_drawsOf_12 : decode cX12_drawsOf 12 = .ok (.iload_n 1, 1) := by decide +kernel
theorem dX12_drawsOf_13 : decode cX12_drawsOf 13 = .ok (.aload_n 0, 1) := by decide +kernel
theorem dX12_drawsOf_14 : decode cX12_drawsOf 14 = .ok (.iload_n 1, 1) := by decide +kernel
theorem dX12_drawsOf_15 : decode cX12_drawsOf 15 = .ok (.iconst 3, 1) := by decide +kernel
theorem dX12_drawsOf_16 : decode cX12_drawsOf 16 = .ok (.invokevirtual 150, 3) := by decide +kernel
theorem dX12_drawsOf_19 : decode cX12_drawsOf 19 = .ok (.iconst 0, 1) := by decide +kernel
theorem dX12_drawsOf_20 : decode cX12_drawsOf 20 = .ok (.iconst 0, 1) := by decide +kernel
theorem dX12_drawsOf_21 : decode cX12_drawsOf 21 = .ok (.bipush 99, 2) := by decide +kernel
theorem dX12_drawsOf_23 : decode cX12_drawsOf 23 = .ok (.invokevirtual 342, 3) := by decide +kernel
theorem dX12_drawsOf_26 : decode cX12_drawsOf 26 = .ok (.ireturn, 1) := by decide +kernel
set_option maxHeartbeats 4000000 in
set_option maxRecDepth 100000 in
theorem c_X12_drawsOf (l : Launch) (D : va_G) (K : Nat → ClassId) (ad : Nat → Nat) (rest : va_W) (a1 : Int32) (σ : xS) (z : Int32 × xS) (hF : F_X12_drawsOf a1 σ = some z) : CI l D K yX12_drawsOf cX12_drawsOf 2 (some .int) 4 102 [.ref (ad 0), .int a1] (RW K ad rest σ) z.1 (RW K ad rest z.2) := by
  refine x_enterI [(0, .ref (ad 0)), (1, .int a1)] pnX12 (Nat.le_of_ble_eq_true rfl) rfl ?_
  intro p e s m args below meth c A C
  unfold F_X12_drawsOf at hF
  refine x_aload_n C 0 0 dX12_drawsOf_0 rfl rfl ?_
  refine x_iconst C 1 dX12_drawsOf_1 (by decide +kernel) ?_
  refine x_put C 0 dX12_drawsOf_2 fl_X12_330 fm_X12_33 rfl rfl (RW_o K ad rest σ) (Nat.le_of_ble_eq_true rfl) (RW_s33 K ad rest σ _) ?_
  refine x_st (wf := RW K ad rest) hF (fun σ1 hF => ?_)
  refine x_aload_n C 0 0 dX12_drawsOf_5 rfl rfl ?_
  refine x_iconst C 0 dX12_drawsOf_6 (by decide +kernel) ?_
  refine x_put C 0 dX12_drawsOf_7 fl_X12_336 fm_X12_35 rfl rfl (RW_o K ad rest σ1) (Nat.le_of_ble_eq_true rfl) (RW_s35 K ad rest σ1 _) ?_
  refine x_st (wf := RW K ad rest) hF (fun σ2 hF => ?_)
  refine x_aload_n C 0 0 dX12_drawsOf_10 rfl rfl ?_
  refine x_iconst C 1 dX12_drawsOf_11 (by decide +kernel) ?_
  refine x_iload_n C 1 1 dX12_drawsOf_12 rfl rfl ?_
  refine x_aload_n C 0 0 dX12_drawsOf_13 rfl rfl ?_
  refine x_iload_n C 1 1 dX12_drawsOf_14 rfl rfl ?_
  refine x_iconst C 3 dX12_drawsOf_15 (by decide +kernel) ?_
  refine x_callVI C (wf := RW K ad rest) (As := [.int a1, .int 3]) (rest := [.int a1, .int 1, .ref (ad 0)]) dX12_drawsOf_16 ml_X12_150 rfl rfl (Nat.le_of_ble_eq_true rfl) 0 (RW_o K ad rest σ2) rfl ⟨Nat.le_of_ble_eq_true rfl, Nat.le_of_ble_eq_true rfl⟩ ⟨Nat.zero_le _, Nat.zero_le _⟩ (fun q9 hq9 => c_X12_ofBook l D K ad rest a1 3 σ2 q9 hq9) hF (fun v4 σ3 hF => ?_)
  refine x_iconst C 0 dX12_drawsOf_19 (by decide +kernel) ?_
  refine x_iconst C 0 dX12_drawsOf_20 (by decide +kernel) ?_
  refine x_bipush C 99 dX12_drawsOf_21 (by decide +kernel) ?_
  refine x_callVI C (wf := RW K ad rest) (As := [.int 1, .int a1, .int v4, .int 0, .int 0, .int 99]) (rest := []) dX12_drawsOf_23 ml_X12_342 rfl rfl (Nat.le_of_ble_eq_true rfl) 0 (RW_o K ad rest σ3) rfl ⟨Nat.le_of_ble_eq_true rfl, Nat.le_of_ble_eq_true rfl⟩ ⟨Nat.zero_le _, Nat.zero_le _⟩ (fun q9 hq9 => c_X12_tells l D K ad rest 1 a1 v4 0 0 99 σ3 q9 hq9) hF (fun v6 σ5 hF => ?_)
  exact x_iret C dX12_drawsOf_26 rfl (congrArg Prod.fst (Option.some.inj hF)) (congrArg (fun q9 : Int32 × xS => RW K ad rest q9.2) (Option.some.inj hF))
theorem dX12_isTaken_0 : decode cX12_isTaken 0 = .ok (.aload_n 0, 1) := by decide +kernel
theorem dX12_isTaken_1 : decode cX12_isTaken 1 = .ok (.aload_n 0, 1) := by decide +kernel
theorem dX12_isTaken_2 : decode cX12_isTaken 2 = .ok (.iload_n 1, 1) := by decide +kernel
theorem dX12_isTaken_3 : decode cX12_isTaken 3 = .ok (.iconst 4, 1) := by decide +kernel
theorem dX12_isTaken_4 : decode cX12_isTaken 4 = .ok (.invokevirtual 150, 3) := by decide +kernel
theorem dX12_isTaken_7 : decode cX12_isTaken 7 = .ok (.putfield 330, 3) := by decide +kernel
theorem dX12_isTaken_10 : decode cX12_isTaken 10 = .ok (.aload_n 0, 1) := by decide +kernel
theorem dX12_isTaken_11 : decode cX12_isTaken 11 = .ok (.iconst 0, 1) := by decide +kernel
theorem dX12_isTaken_12 : decode cX12_isTaken 12 = .ok (.putfield 336, 3) := by decide +kernel
theorem dX12_isTaken_15 : decode cX12_isTaken 15 = .ok (.aload_n 0, 1) := by decide +kernel
theorem dX12_isTaken_16 : decode cX12_isTaken 16 = .ok (.iconst 3, 1) := by decide +kernel
theorem dX12_isTaken_17 : decode cX12_isTaken 17 = .ok (.iload_n 1, 1) := by decide +kernel
theorem dX12_isTaken_18 : decode cX12_isTaken 18 = .ok (.iload_n 2, 1) := by decide +kernel
theorem dX12_isTaken_19 : decode cX12_isTaken 19 = .ok (.iconst 0, 1) := by decide +kernel
theorem dX12_isTaken_20 : decode cX12_isTaken 20 = .ok (.iconst 0, 1) := by decide +kernel
theorem dX12_isTaken_21 : decode cX12_isTaken 21 = .ok (.iconst 1, 1) := by decide +kernel
theorem dX12_isTaken_22 : decode cX12_isTaken 22 = .ok (.invokevirtual 342, 3) := by decide +kernel
theorem dX12_isTaken_25 : decode cX12_isTaken 25 = .ok (.iconst 1, 1) := by decide +kernel
theorem dX12_isTaken_26 : decode cX12_isTaken 26 = .ok (.if_icmp .ne 7, 3) := by decide +kernel
theorem dX12_isTaken_29 : decode cX12_isTaken 29 = .ok (.iconst 1, 1) := by decide +kernel
theorem dX12_isTaken_30 : decode cX12_isTaken 30 = .ok (.goto 4, 3) := by decide +kernel
theorem dX12_isTaken_33 : decode cX12_isTaken 33 = .ok (.iconst 0, 1) := by decide +kernel
theorem dX12_isTaken_34 : decode cX12_isTaken 34 = .ok (.ireturn, 1) := by decide +kernel
set_option maxHeartbeats 4000000 in
set_option maxRecDepth 100000 in
theorem c_X12_isTaken (l : Launch) (D : va_G) (K : Nat → ClassId) (ad : Nat → Nat) (rest : va_W) (a1 : Int32) (a2 : Int32) (σ : xS) (z : Int32 × xS) (hF : F_X12_isTaken a1 a2 σ = some z) : CI l D K yX12_isTaken cX12_isTaken 3 (some .boolean) 4 102 [.ref (ad 0), .int a1, .int a2] (RW K ad rest σ) z.1 (RW K ad rest z.2) := by
  refine x_enterI [(0, .ref (ad 0)), (1, .int a1), (2, .int a2)] pnX12 (Nat.le_of_ble_eq_true rfl) rfl ?_
  intro p e s m args below meth c A C
  unfold F_X12_isTaken at hF
  refine x_aload_n C 0 0 dX12_isTaken_0 rfl rfl ?_
  refine x_aload_n C 0 0 dX12_isTaken_1 rfl rfl ?_
  refine x_iload_n C 1 1 dX12_isTaken_2 rfl rfl ?_
  refine x_iconst C 4 dX12_isTaken_3 (by decide +kernel) ?_
  refine x_callVI C (wf := RW K ad rest) (As := [.int a1, .int 4]) (rest := [.ref (ad 0)]) dX12_isTaken_4 ml_X12_150 rfl rfl (Nat.le_of_ble_eq_true rfl) 0 (RW_o K ad rest σ) rfl ⟨Nat.le_of_ble_eq_true rfl, Nat.le_of_ble_eq_true rfl⟩ ⟨Nat.zero_le _, Nat.zero_le _⟩ (fun q9 hq9 => c_X12_ofBook l D K ad rest a1 4 σ q9 hq9) hF (fun v2 σ1 hF => ?_)
  refine x_put C 0 dX12_isTaken_7 fl_X12_330 fm_X12_33 rfl rfl (RW_o K ad rest σ1) (Nat.le_of_ble_eq_true rfl) (RW_s33 K ad rest σ1 _) ?_
  refine x_st (wf := RW K ad rest) hF (fun σ3 hF => ?_)
  refine x_aload_n C 0 0 dX12_isTaken_10 rfl rfl ?_
  refine x_iconst C 0 dX12_isTaken_11 (by decide +kernel) ?_
  refine x_put C 0 dX12_isTaken_12 fl_X12_336 fm_X12_35 rfl rfl (RW_o K ad rest σ3) (Nat.le_of_ble_eq_true rfl) (RW_s35 K ad rest σ3 _) ?_
  refine x_st (wf := RW K ad rest) hF (fun σ4 hF => ?_)
  refine x_aload_n C 0 0 dX12_isTaken_15 rfl rfl ?_
  refine x_iconst C 3 dX12_isTaken_16 (by decide +kernel) ?_
  refine x_iload_n C 1 1 dX12_isTaken_17 rfl rfl ?_
  refine x_iload_n C 2 2 dX12_isTaken_18 rfl rfl ?_
  refine x_iconst C 0 dX12_isTaken_19 (by decide +kernel) ?_
  refine x_iconst C 0 dX12_isTaken_20 (by decide +kernel) ?_
  refine x_iconst C 1 dX12_isTaken_21 (by decide +kernel) ?_
  refine x_callVI C (wf := RW K ad rest) (As := [.int 3, .int a1, .int a2, .int 0, .int 0, .int 1]) (rest := []) dX12_isTaken_22 ml_X12_342 rfl rfl (Nat.le_of_ble_eq_true rfl) 0 (RW_o K ad rest σ4) rfl ⟨Nat.le_of_ble_eq_true rfl, Nat.le_of_ble_eq_true rfl⟩ ⟨Nat.zero_le _, Nat.zero_le _⟩ (fun q9 hq9 => c_X12_tells l D K ad rest 3 a1 a2 0 0 1 σ4 q9 hq9) hF (fun v6 σ5 hF => ?_)
  refine x_iconst C 1 dX12_isTaken_25 (by decide +kernel) ?_
  refine x_icmp_ne C 33 dX12_isTaken_26 (by decide) hF (fun hF => ?_) (fun hF => ?_)
  · refine x_iconst C 0 dX12_isTaken_33 (by decide +kernel) ?_
    have hz := (cz_some hF).1
    replace hF := (cz_some hF).2
    exact x_zret C dX12_isTaken_34 rfl hz (congrArg Prod.fst (Option.some.inj hF)) (congrArg (fun q9 : Int32 × xS => RW K ad rest q9.2) (Option.some.inj hF))
  · refine x_iconst C 1 dX12_isTaken_29 (by decide +kernel) ?_
    refine x_goto C 34 dX12_isTaken_30 (by decide) ?_
    have hz := (cz_some hF).1
    replace hF := (cz_some hF).2
    exact x_zret C dX12_isTaken_34 rfl hz (congrArg Prod.fst (Option.some.inj hF)) (congrArg (fun q9 : Int32 × xS => RW K ad rest q9.2) (Option.some.inj hF))
theorem dX12_asks_0 : decode cX12_asks 0 = .ok (.aload_n 0, 1) := by decide +kernel
theorem dX12_asks_1 : decode cX12_asks 1 = .ok (.iconst 0, 1) := by decide +kernel
theorem dX12_asks_2 : decode cX12_asks 2 = .ok (.putfield 107, 3) := by decide +kernel
theorem dX12_asks_5 : decode cX12_asks 5 = .ok (.aload_n 0, 1) := by decide +kernel
theorem dX12_asks_6 : decode cX12_asks 6 = .ok (.iload_n 1, 1) := by decide +kernel
theorem dX12_asks_7 : decode cX12_asks 7 = .ok (.invokevirtual 140, 3) := by decide +kernel
theorem dX12_asks_10 : decode cX12_asks 10 = .ok (.ifCond .eq 13, 3) := by decide +kernel
theorem dX12_asks_13 : decode cX12_asks 13 = .ok (.iload_n 2, 1) := by decide +kernel
theorem dX12_asks_14 : decode cX12_asks 14 = .ok (.i2l, 1) := by decide +kernel
theorem dX12_asks_15 : decode cX12_asks 15 = .ok (.lconst 0, 1) := by decide +kernel
theorem dX12_asks_16 : decode cX12_asks 16 = .ok (.lconst 1, 1) := by decide +kernel
theorem dX12_asks_17 : decode cX12_asks 17 = .ok (.invokestatic 117, 3) := by decide +kernel
theorem dX12_asks_20 : decode cX12_asks 20 = .ok (.ifCond .ne 5, 3) := by decide +kernel
theorem dX12_asks_23 : decode cX12_asks 23 = .ok (.iconst (-1), 1) := by decide +kernel
theorem dX12_asks_24 : decode cX12_asks 24 = .ok (.ireturn, 1) := by decide +kernel
theorem dX12_asks_25 : decode cX12_asks 25 = .ok (.aload_n 0, 1) := by decide +kernel
theorem dX12_asks_26 : decode cX12_asks 26 = .ok (.iconst 0, 1) := by decide +kernel
theorem dX12_asks_27 : decode cX12_asks 27 = .ok (.putfield 333, 3) := by decide +kernel
theorem dX12_asks_30 : decode cX12_asks 30 = .ok (.iload_n 2, 1) := by decide +kernel
theorem dX12_asks_31 : decode cX12_asks 31 = .ok (.ifCond .ne 11, 3) := by decide +kernel
theorem dX12_asks_34 : decode cX12_asks 34 = .ok (.aload_n 0, 1) := by decide +kernel
theorem dX12_asks_35 : decode cX12_asks 35 = .ok (.iload_n 1, 1) := by decide +kernel
theorem dX12_asks_36 : decode cX12_asks 36 = .ok (.invokevirtual 354, 3) := by decide +kernel
theorem dX12_asks_39 : decode cX12_asks 39 = .ok (.goto 22, 3) := by decide +kernel
theorem dX12_asks_42 : decode cX12_asks 42 = .ok (.aload_n 0, 1) := by decide +kernel
theorem dX12_asks_43 : decode cX12_asks 43 = .ok (.iload_n 1, 1) := by decide +kernel
theorem dX12_asks_44 : decode cX12_asks 44 = .ok (.aload_n 0, 1) := by decide +kernel
theorem dX12_asks_45 : decode cX12_asks 45 = .ok (.iload_n 1, 1) := by decide +kernel
theorem dX12_asks_46 : decode cX12_asks 46 = .ok (.iconst 3, 1) := by decide +kernel
theorem dX12_asks_47 : decode cX12_asks 47 = .ok (.invokevirtual 150, 3) := by decide +kernel
theorem dX12_asks_50 : decode cX12_asks 50 = .ok (.invokevirtual 357, 3) := by decide +kernel
theorem dX12_asks_53 : decode cX12_asks 53 = .ok (.ifCond .eq 7, 3) := by decide +kernel
theorem dX12_asks_56 : decode cX12_asks 56 = .ok (.iconst 1, 1) := by decide +kernel
theorem dX12_asks_57 : decode cX12_asks 57 = .ok (.goto 4, 3) := by decide +kernel
theorem dX12_asks_60 : decode cX12_asks 60 = .ok (.iconst 0, 1) := by decide +kernel
theorem dX12_asks_61 : decode cX12_asks 61 = .ok (.ireturn, 1) := by decide +kernel
set_option maxHeartbeats 4000000 in
set_option maxRecDepth 100000 in
theorem c_X12_asks (l : Launch) (D : va_G) (K : Nat → ClassId) (ad : Nat → Nat) (rest : va_W) (a1 : Int32) (a2 : Int32) (σ : xS) (z : Int32 × xS) (hF : F_X12_asks a1 a2 σ = some z) : CI l D K yX12_asks cX12_asks 3 (some .int) 5 124 [.ref (ad 0), .int a1, .int a2] (RW K ad rest σ) z.1 (RW K ad rest z.2) := by
  refine x_enterI [(0, .ref (ad 0)), (1, .int a1), (2, .int a2)] pnX12 (Nat.le_of_ble_eq_true rfl) rfl ?_
  intro p e s m args below meth c A C
  unfold F_X12_asks at hF
  refine x_aload_n C 0 0 dX12_asks_0 rfl rfl ?_
  refine x_iconst C 0 dX12_asks_1 (by decide +kernel) ?_
  refine x_put C 0 dX12_asks_2 fl_X12_107 fm_X12_0 rfl rfl (RW_o K ad rest σ) (Nat.le_of_ble_eq_true rfl) (RW_s0 K ad rest σ _) ?_
  refine x_st (wf := RW K ad rest) hF (fun σ1 hF => ?_)
  refine x_aload_n C 0 0 dX12_asks_5 rfl rfl ?_
  refine x_iload_n C 1 1 dX12_asks_6 rfl rfl ?_
  refine x_callVI C (wf := RW K ad rest) (As := [.int a1]) (rest := []) dX12_asks_7 ml_X12_140 rfl rfl (Nat.le_of_ble_eq_true rfl) 0 (RW_o K ad rest σ1) rfl ⟨Nat.le_of_ble_eq_true rfl, Nat.le_of_ble_eq_true rfl⟩ ⟨Nat.zero_le _, Nat.zero_le _⟩ (fun q9 hq9 => c_X12_isBook l D K ad rest a1 σ1 q9 hq9) hF (fun v3 σ2 hF => ?_)
  refine x_if_eq C 23 dX12_asks_10 (by decide) hF (fun hF => ?_) (fun hF => ?_)
  · refine x_iconst C (-1) dX12_asks_23 (by decide +kernel) ?_
    exact x_iret C dX12_asks_24 rfl (congrArg Prod.fst (Option.some.inj hF)) (congrArg (fun q9 : Int32 × xS => RW K ad rest q9.2) (Option.some.inj hF))
  · refine x_iload_n C 2 2 dX12_asks_13 rfl rfl ?_
    refine x_i2l C dX12_asks_14 ?_
    refine x_lconst C 0 dX12_asks_15 (by decide +kernel) ?_
    refine x_lconst C 1 dX12_asks_16 (by decide +kernel) ?_
    refine x_callSI C (wf := RW K ad rest) (As := [.long (a2.toInt64), .long 0, .long 1]) (rest := []) dX12_asks_17 ml_X12_117 rfl rfl (Nat.le_of_ble_eq_true rfl) ⟨Nat.le_of_ble_eq_true rfl, Nat.le_of_ble_eq_true rfl⟩ ⟨Nat.zero_le _, Nat.zero_le _⟩ (fun q9 hq9 => c_X12_in l D K ad rest (a2.toInt64) 0 1 σ2 q9 hq9) hF (fun v5 σ4 hF => ?_)
    refine x_if_ne C 25 dX12_asks_20 (by decide) hF (fun hF => ?_) (fun hF => ?_)
    · refine x_aload_n C 0 0 dX12_asks_25 rfl rfl ?_
      refine x_iconst C 0 dX12_asks_26 (by decide +kernel) ?_
      refine x_put C 0 dX12_asks_27 fl_X12_333 fm_X12_34 rfl rfl (RW_o K ad rest σ4) (Nat.le_of_ble_eq_true rfl) (RW_s34 K ad rest σ4 _) ?_
      refine x_st (wf := RW K ad rest) hF (fun σ6 hF => ?_)
      refine x_iload_n C 2 2 dX12_asks_30 rfl rfl ?_
      refine x_if_ne C 42 dX12_asks_31 (by decide) hF (fun hF => ?_) (fun hF => ?_)
      · refine x_aload_n C 0 0 dX12_asks_42 rfl rfl ?_
        refine x_iload_n C 1 1 dX12_asks_43 rfl rfl ?_
        refine x_aload_n C 0 0 dX12_asks_44 rfl rfl ?_
        refine x_iload_n C 1 1 dX12_asks_45 rfl rfl ?_
        refine x_iconst C 3 dX12_asks_46 (by decide +kernel) ?_
        refine x_callVI C (wf := RW K ad rest) (As := [.int a1, .int 3]) (rest := [.int a1, .ref (ad 0)]) dX12_asks_47 ml_X12_150 rfl rfl (Nat.le_of_ble_eq_true rfl) 0 (RW_o K ad rest σ6) rfl ⟨Nat.le_of_ble_eq_true rfl, Nat.le_of_ble_eq_true rfl⟩ ⟨Nat.zero_le _, Nat.zero_le _⟩ (fun q9 hq9 => c_X12_ofBook l D K ad rest a1 3 σ6 q9 hq9) hF (fun v8 σ7 hF => ?_)
        refine x_callVI C (wf := RW K ad rest) (As := [.int a1, .int v8]) (rest := []) dX12_asks_50 ml_X12_357 rfl rfl (Nat.le_of_ble_eq_true rfl) 0 (RW_o K ad rest σ7) rfl ⟨Nat.le_of_ble_eq_true rfl, Nat.le_of_ble_eq_true rfl⟩ ⟨Nat.zero_le _, Nat.zero_le _⟩ (fun q9 hq9 => c_X12_isTaken l D K ad rest a1 v8 σ7 q9 hq9) hF (fun v10 σ9 hF => ?_)
        refine x_if_eq C 60 dX12_asks_53 (by decide) hF (fun hF => ?_) (fun hF => ?_)
        · refine x_iconst C 0 dX12_asks_60 (by decide +kernel) ?_
          exact x_iret C dX12_asks_61 rfl (congrArg Prod.fst (Option.some.inj hF)) (congrArg (fun q9 : Int32 × xS => RW K ad rest q9.2) (Option.some.inj hF))
        · refine x_iconst C 1 dX12_asks_56 (by decide +kernel) ?_
          refine x_goto C 61 dX12_asks_57 (by decide) ?_
          exact x_iret C dX12_asks_61 rfl (congrArg Prod.fst (Option.some.inj hF)) (congrArg (fun q9 : Int32 × xS => RW K ad rest q9.2) (Option.some.inj hF))
      · refine x_aload_n C 0 0 dX12_asks_34 rfl rfl ?_
        refine x_iload_n C 1 1 dX12_asks_35 rfl rfl ?_
        refine x_callVI C (wf := RW K ad rest) (As := [.int a1]) (rest := []) dX12_asks_36 ml_X12_354 rfl rfl (Nat.le_of_ble_eq_true rfl) 0 (RW_o K ad rest σ6) rfl ⟨Nat.le_of_ble_eq_true rfl, Nat.le_of_ble_eq_true rfl⟩ ⟨Nat.zero_le _, Nat.zero_le _⟩ (fun q9 hq9 => c_X12_drawsOf l D K ad rest a1 σ6 q9 hq9) hF (fun v12 σ11 hF => ?_)
        refine x_goto C 61 dX12_asks_39 (by decide) ?_
        exact x_iret C dX12_asks_61 rfl (congrArg Prod.fst (Option.some.inj hF)) (congrArg (fun q9 : Int32 × xS => RW K ad rest q9.2) (Option.some.inj hF))
    · refine x_iconst C (-1) dX12_asks_23 (by decide +kernel) ?_
      exact x_iret C dX12_asks_24 rfl (congrArg Prod.fst (Option.some.inj hF)) (congrArg (fun q9 : Int32 × xS => RW K ad rest q9.2) (Option.some.inj hF))
theorem dX12_priceAt_0 : decode cX12_priceAt 0 = .ok (.iload_n 2, 1) := by decide +kernel
theorem dX12_priceAt_1 : decode cX12_priceAt 1 = .ok (.bipush 20, 2) := by decide +kernel
theorem dX12_priceAt_3 : decode cX12_priceAt 3 = .ok (.if_icmp .ne 12, 3) := by decide +kernel
theorem dX12_priceAt_6 : decode cX12_priceAt 6 = .ok (.aload_n 0, 1) := by decide +kernel
theorem dX12_priceAt_7 : decode cX12_priceAt 7 = .ok (.iload_n 1, 1) := by decide +kernel
theorem dX12_priceAt_8 : decode cX12_priceAt 8 = .ok (.iconst 3, 1) := by decide +kernel
theorem dX12_priceAt_9 : decode cX12_priceAt 9 = .ok (.invokevirtual 150, 3) := by decide +kernel
theorem dX12_priceAt_12 : decode cX12_priceAt 12 = .ok (.goto 14, 3) := by decide +kernel
theorem dX12_priceAt_15 : decode cX12_priceAt 15 = .ok (.iload_n 2, 1) := by decide +kernel
theorem dX12_priceAt_16 : decode cX12_priceAt 16 = .ok (.iconst 1, 1) := by decide +kernel
theorem dX12_priceAt_17 : decode cX12_priceAt 17 = .ok (.iadd, 1) := by decide +kernel
theorem dX12_priceAt_18 : decode cX12_priceAt 18 = .ok (.aload_n 0, 1) := by decide +kernel
theorem dX12_priceAt_19 : decode cX12_priceAt 19 = .ok (.getfield 13, 3) := by decide +kernel
theorem dX12_priceAt_22 : decode cX12_priceAt 22 = .ok (.bipush 12, 2) := by decide +kernel
theorem dX12_priceAt_24 : decode cX12_priceAt 24 = .ok (.iaload, 1) := by decide +kernel
theorem dX12_priceAt_25 : decode cX12_priceAt 25 = .ok (.imul, 1) := by decide +kernel
theorem dX12_priceAt_26 : decode cX12_priceAt 26 = .ok (.ireturn, 1) := by decide +kernel
set_option maxHeartbeats 4000000 in
set_option maxRecDepth 100000 in
theorem c_X12_priceAt (l : Launch) (D : va_G) (K : Nat → ClassId) (ad : Nat → Nat) (rest : va_W) (a1 : Int32) (a2 : Int32) (σ : xS) (z : Int32 × xS) (hF : F_X12_priceAt a1 a2 σ = some z) : CI l D K yX12_priceAt cX12_priceAt 3 (some .int) 1 22 [.ref (ad 0), .int a1, .int a2] (RW K ad rest σ) z.1 (RW K ad rest z.2) := by
  refine x_enterI [(0, .ref (ad 0)), (1, .int a1), (2, .int a2)] pnX12 (Nat.le_of_ble_eq_true rfl) rfl ?_
  intro p e s m args below meth c A C
  unfold F_X12_priceAt at hF
  refine x_iload_n C 2 2 dX12_priceAt_0 rfl rfl ?_
  refine x_bipush C 20 dX12_priceAt_1 (by decide +kernel) ?_
  refine x_icmp_ne C 15 dX12_priceAt_3 (by decide) hF (fun hF => ?_) (fun hF => ?_)
  · refine x_iload_n C 2 2 dX12_priceAt_15 rfl rfl ?_
    refine x_iconst C 1 dX12_priceAt_16 (by decide +kernel) ?_
    refine x_iadd C dX12_priceAt_17 ?_
    refine x_aload_n C 0 0 dX12_priceAt_18 rfl rfl ?_
    refine x_get C 0 dX12_priceAt_19 fl_X12_13 (RW_o K ad rest σ) rfl ?_
    refine x_bipush C 12 dX12_priceAt_22 (by decide +kernel) ?_
    refine x_iald C 2 dX12_priceAt_24 (RW_a3 K ad rest σ) hF (fun v1 hF => ?_)
    refine x_imul C dX12_priceAt_25 ?_
    exact x_iret C dX12_priceAt_26 rfl (congrArg Prod.fst (Option.some.inj hF)) (congrArg (fun q9 : Int32 × xS => RW K ad rest q9.2) (Option.some.inj hF))
  · refine x_aload_n C 0 0 dX12_priceAt_6 rfl rfl ?_
    refine x_iload_n C 1 1 dX12_priceAt_7 rfl rfl ?_
    refine x_iconst C 3 dX12_priceAt_8 (by decide +kernel) ?_
    refine x_callVI C (wf := RW K ad rest) (As := [.int a1, .int 3]) (rest := []) dX12_priceAt_9 ml_X12_150 rfl rfl (Nat.le_of_ble_eq_true rfl) 0 (RW_o K ad rest σ) rfl ⟨Nat.le_of_ble_eq_true rfl, Nat.le_of_ble_eq_true rfl⟩ ⟨Nat.zero_le _, Nat.zero_le _⟩ (fun q9 hq9 => c_X12_ofBook l D K ad rest a1 3 σ q9 hq9) hF (fun v3 σ2 hF => ?_)
    refine x_goto C 26 dX12_priceAt_12 (by decide) ?_
    exact x_iret C dX12_priceAt_26 rfl (congrArg Prod.fst (Option.some.inj hF)) (congrArg (fun q9 : Int32 × xS => RW K ad rest q9.2) (Option.some.inj hF))
theorem dX12_power_0 : decode cX12_power 0 = .ok (.lconst 1, 1) := by decide +kernel
theorem dX12_power_1 : decode cX12_power 1 = .ok (.lstore_n 1, 1) := by decide +kernel
theorem dX12_power_2 : decode cX12_power 2 = .ok (.iconst 0, 1) := by decide +kernel
theorem dX12_power_3 : decode cX12_power 3 = .ok (.istore_n 3, 1) := by decide +kernel
theorem dX12_power_4 : decode cX12_power 4 = .ok (.iload_n 3, 1) := by decide +kernel
theorem dX12_power_5 : decode cX12_power 5 = .ok (.iload_n 0, 1) := by decide +kernel
theorem dX12_power_6 : decode cX12_power 6 = .ok (.if_icmp .ge 15, 3) := by decide +kernel
theorem dX12_power_9 : decode cX12_power 9 = .ok (.lload_n 1, 1) := by decide +kernel
theorem dX12_power_10 : decode cX12_power 10 = .ok (.ldc2_w 360, 3) := by decide +kernel
theorem dX12_power_13 : decode cX12_power 13 = .ok (.lmul, 1) := by decide +kernel
theorem dX12_power_14 : decode cX12_power 14 = .ok (.lstore_n 1, 1) := by decide +kernel
theorem dX12_power_15 : decode cX12_power 15 = .ok (.iinc 3 1, 3) := by decide +kernel
theorem dX12_power_18 : decode cX12_power 18 = .ok (.goto (-14), 3) := by decide +kernel
theorem dX12_power_21 : decode cX12_power 21 = .ok (.lload_n 1, 1) := by decide +kernel
theorem dX12_power_22 : decode cX12_power 22 = .ok (.lreturn, 1) := by decide +kernel
set_option maxHeartbeats 4000000 in
set_option maxRecDepth 100000 in
theorem x_X12_power_4 {p : Program} {l : Launch} {e : Env} {s : State} {m : MethodId} {args : Array Value} {below : List Frame} {meth : Method} {c : Code} {D : va_G} {K : Nat → ClassId} {A : Nat → Prop} {ad : Nat → Nat} {rest : va_W} (C : xC p s m args meth c D K A RX12 cX12_power 4 (some .long)) (z : Int64 × xS) : ∀ (n : Nat) (y0 : Int32) (y1 : Int64) (y3 : Int32) (σ : xS), F_X12_power_4  n y0 y1 y3 σ = some z → X p l e (xR 0 0) s m args below meth c D A 4 (xQl below D K A args s z.1 (RW K ad rest z.2)) 0 0 4 [(0, .int y0), (1, .long y1), (3, .int y3)] [] (RW K ad rest σ) := by
  intro n
  induction n with
  | zero =>
    intro y0 y1 y3 σ hF
    cases hF
  | succ n ih =>
    intro y0 y1 y3 σ hF
    rw [F_X12_power_4] at hF
    refine x_iload_n C 2 3 dX12_power_4 rfl rfl ?_
    refine x_iload_n C 0 0 dX12_power_5 rfl rfl ?_
    refine x_icmp_ge C 21 dX12_power_6 (by decide) hF (fun hF => ?_) (fun hF => ?_)
    · refine x_lload_n C 1 1 dX12_power_21 rfl rfl ?_
      exact x_lret C dX12_power_22 rfl (congrArg Prod.fst (Option.some.inj hF)) (congrArg (fun q9 : Int64 × xS => RW K ad rest q9.2) (Option.some.inj hF))
    · refine x_lload_n C 1 1 dX12_power_9 rfl rfl ?_
      refine x_ldc2 C 100 dX12_power_10 cl_X12_360 ?_
      refine x_lmul C dX12_power_13 ?_
      refine x_topL hF (fun x3 hF => ?_)
      refine x_lstore_n C [(1, .long x3), (0, .int y0), (3, .int y3)] dX12_power_14 rfl (by decide) rfl ?_
      refine x_iincN C 1 2 (fun x4 => [(3, .int x4), (1, .long x3), (0, .int y0)]) dX12_power_15 rfl (by decide +kernel) (by decide) (fun _ => rfl) hF (fun x4 hF => ?_)
      refine x_goto C 4 dX12_power_18 (by decide) ?_
      refine x_loc [(0, .int y0), (1, .long x3), (3, .int x4)] [2, 1, 0] rfl ?_
      exact ih y0 x3 x4 σ hF
set_option maxHeartbeats 4000000 in
set_option maxRecDepth 100000 in
theorem c_X12_power (l : Launch) (D : va_G) (K : Nat → ClassId) (ad : Nat → Nat) (rest : va_W) (a1 : Int32) (σ : xS) (z : Int64 × xS) (hF : F_X12_power a1 σ = some z) : CL l D K yX12_power cX12_power 4 (some .long) 0 0 [.int a1] (RW K ad rest σ) z.1 (RW K ad rest z.2) := by
  refine x_enterL [(0, .int a1)] pnX12 (Nat.le_of_ble_eq_true rfl) rfl ?_
  intro p e s m args below meth c A C
  unfold F_X12_power at hF
  refine x_lconst C 1 dX12_power_0 (by decide +kernel) ?_
  refine x_topL hF (fun x1 hF => ?_)
  refine x_lstore_n C [(1, .long x1), (0, .int a1)] dX12_power_1 rfl (by decide) rfl ?_
  refine x_iconst C 0 dX12_power_2 (by decide +kernel) ?_
  refine x_topI hF (fun x2 hF => ?_)
  refine x_istore_n C [(3, .int x2), (1, .long x1), (0, .int a1)] dX12_power_3 rfl (by decide) rfl ?_
  refine x_loc [(0, .int a1), (1, .long x1), (3, .int x2)] [2, 1, 0] rfl ?_
  exact x_X12_power_4 C z FU a1 x1 x2 σ hF
theorem dX12_worthOf_0 : decode cX12_worthOf 0 = .ok (.aload_n 0, 1) := by decide +kernel
theorem dX12_worthOf_1 : decode cX12_worthOf 1 = .ok (.iload_n 1, 1) := by decide +kernel
theorem dX12_worthOf_2 : decode cX12_worthOf 2 = .ok (.aload_n 0, 1) := by decide +kernel
theorem dX12_worthOf_3 : decode cX12_worthOf 3 = .ok (.iload_n 1, 1) := by decide +kernel
theorem dX12_worthOf_4 : decode cX12_worthOf 4 = .ok (.iload 4, 2) := by decide +kernel
theorem dX12_worthOf_6 : decode cX12_worthOf 6 = .ok (.invokevirtual 366, 3) := by decide +kernel
theorem dX12_worthOf_9 : decode cX12_worthOf 9 = .ok (.invokevirtual 351, 3) := by decide +kernel
theorem dX12_worthOf_12 : decode cX12_worthOf 12 = .ok (.i2l, 1) := by decide +kernel
theorem dX12_worthOf_13 : decode cX12_worthOf 13 = .ok (.lstore 5, 2) := by decide +kernel
theorem dX12_worthOf_15 : decode cX12_worthOf 15 = .ok (.lload 5, 2) := by decide +kernel
theorem dX12_worthOf_17 : decode cX12_worthOf 17 = .ok (.aload_n 0, 1) := by decide +kernel
theorem dX12_worthOf_18 : decode cX12_worthOf 18 = .ok (.iload_n 1, 1) := by decide +kernel
theorem dX12_worthOf_19 : decode cX12_worthOf 19 = .ok (.iload 4, 2) := by decide +kernel
theorem dX12_worthOf_21 : decode cX12_worthOf 21 = .ok (.invokevirtual 366, 3) := by decide +kernel
theorem dX12_worthOf_24 : decode cX12_worthOf 24 = .ok (.i2l, 1) := by decide +kernel
theorem dX12_worthOf_25 : decode cX12_worthOf 25 = .ok (.lmul, 1) := by decide +kernel
theorem dX12_worthOf_26 : decode cX12_worthOf 26 = .ok (.iload_n 2, 1) := by decide +kernel
theorem dX12_worthOf_27 : decode cX12_worthOf 27 = .ok (.iload_n 3, 1) := by decide +kernel
theorem dX12_worthOf_28 : decode cX12_worthOf 28 = .ok (.isub, 1) := by decide +kernel
theorem dX12_worthOf_29 : decode cX12_worthOf 29 = .ok (.iconst 1, 1) := by decide +kernel
theorem dX12_worthOf_30 : decode cX12_worthOf 30 = .ok (.isub, 1) := by decide +kernel
theorem dX12_worthOf_31 : decode cX12_worthOf 31 = .ok (.invokestatic 369, 3) := by decide +kernel
theorem dX12_worthOf_34 : decode cX12_worthOf 34 = .ok (.lmul, 1) := by decide +kernel
theorem dX12_worthOf_35 : decode cX12_worthOf 35 = .ok (.ldc2_w 360, 3) := by decide +kernel
theorem dX12_worthOf_38 : decode cX12_worthOf 38 = .ok (.lload 5, 2) := by decide +kernel
theorem dX12_worthOf_40 : decode cX12_worthOf 40 = .ok (.lsub, 1) := by decide +kernel
theorem dX12_worthOf_41 : decode cX12_worthOf 41 = .ok (.aload_n 0, 1) := by decide +kernel
theorem dX12_worthOf_42 : decode cX12_worthOf 42 = .ok (.getfield 86, 3) := by decide +kernel
theorem dX12_worthOf_45 : decode cX12_worthOf 45 = .ok (.bipush 21, 2) := by decide +kernel
theorem dX12_worthOf_47 : decode cX12_worthOf 47 = .ok (.iload_n 3, 1) := by decide +kernel
theorem dX12_worthOf_48 : decode cX12_worthOf 48 = .ok (.iconst 1, 1) := by decide +kernel
theorem dX12_worthOf_49 : decode cX12_worthOf 49 = .ok (.iadd, 1) := by decide +kernel
theorem dX12_worthOf_50 : decode cX12_worthOf 50 = .ok (.imul, 1) := by decide +kernel
theorem dX12_worthOf_51 : decode cX12_worthOf 51 = .ok (.iload 4, 2) := by decide +kernel
theorem dX12_worthOf_53 : decode cX12_worthOf 53 = .ok (.iadd, 1) := by decide +kernel
theorem dX12_worthOf_54 : decode cX12_worthOf 54 = .ok (.laload, 1) := by decide +kernel
theorem dX12_worthOf_55 : decode cX12_worthOf 55 = .ok (.lmul, 1) := by decide +kernel
theorem dX12_worthOf_56 : decode cX12_worthOf 56 = .ok (.ladd, 1) := by decide +kernel
theorem dX12_worthOf_57 : decode cX12_worthOf 57 = .ok (.lreturn, 1) := by decide +kernel
set_option maxHeartbeats 4000000 in
set_option maxRecDepth 100000 in
theorem c_X12_worthOf (l : Launch) (D : va_G) (K : Nat → ClassId) (ad : Nat → Nat) (rest : va_W) (a1 : Int32) (a2 : Int32) (a3 : Int32) (a4 : Int32) (σ : xS) (z : Int64 × xS) (hF : F_X12_worthOf a1 a2 a3 a4 σ = some z) : CL l D K yX12_worthOf cX12_worthOf 7 (some .long) 5 124 [.ref (ad 0), .int a1, .int a2, .int a3, .int a4] (RW K ad rest σ) z.1 (RW K ad rest z.2) := by
  refine x_enterL [(0, .ref (ad 0)), (1, .int a1), (2, .int a2), (3, .int a3), (4, .int a4)] pnX12 (Nat.le_of_ble_eq_true rfl) rfl ?_
  intro p e s m args below meth c A C
  unfold F_X12_worthOf at hF
  refine x_aload_n C 0 0 dX12_worthOf_0 rfl rfl ?_
  refine x_iload_n C 1 1 dX12_worthOf_1 rfl rfl ?_
  refine x_aload_n C 0 0 dX12_worthOf_2 rfl rfl ?_
  refine x_iload_n C 1 1 dX12_worthOf_3 rfl rfl ?_
  refine x_iload C 4 4 dX12_worthOf_4 rfl ?_
  refine x_callVI C (wf := RW K ad rest) (As := [.int a1, .int a4]) (rest := [.int a1, .ref (ad 0)]) dX12_worthOf_6 ml_X12_366 rfl rfl (Nat.le_of_ble_eq_true rfl) 0 (RW_o K ad rest σ) rfl ⟨Nat.le_of_ble_eq_true rfl, Nat.le_of_ble_eq_true rfl⟩ ⟨Nat.zero_le _, Nat.zero_le _⟩ (fun q9 hq9 => c_X12_priceAt l D K ad rest a1 a4 σ q9 hq9) hF (fun v2 σ1 hF => ?_)
  refine x_callVI C (wf := RW K ad rest) (As := [.int a1, .int v2]) (rest := []) dX12_worthOf_9 ml_X12_351 rfl rfl (Nat.le_of_ble_eq_true rfl) 0 (RW_o K ad rest σ1) rfl ⟨Nat.le_of_ble_eq_true rfl, Nat.le_of_ble_eq_true rfl⟩ ⟨Nat.zero_le _, Nat.zero_le _⟩ (fun q9 hq9 => c_X12_sells l D K ad rest a1 v2 σ1 q9 hq9) hF (fun v4 σ3 hF => ?_)
  refine x_i2l C dX12_worthOf_12 ?_
  refine x_topL hF (fun x5 hF => ?_)
  refine x_lstore C [(5, .long x5), (0, .ref (ad 0)), (1, .int a1), (2, .int a2), (3, .int a3), (4, .int a4)] dX12_worthOf_13 (by decide) rfl ?_
  refine x_lload C 0 5 dX12_worthOf_15 rfl ?_
  refine x_aload_n C 1 0 dX12_worthOf_17 rfl rfl ?_
  refine x_iload_n C 2 1 dX12_worthOf_18 rfl rfl ?_
  refine x_iload C 5 4 dX12_worthOf_19 rfl ?_
  refine x_callVI C (wf := RW K ad rest) (As := [.int a1, .int a4]) (rest := [.long x5]) dX12_worthOf_21 ml_X12_366 rfl rfl (Nat.le_of_ble_eq_true rfl) 0 (RW_o K ad rest σ3) rfl ⟨Nat.le_of_ble_eq_true rfl, Nat.le_of_ble_eq_true rfl⟩ ⟨Nat.zero_le _, Nat.zero_le _⟩ (fun q9 hq9 => c_X12_priceAt l D K ad rest a1 a4 σ3 q9 hq9) hF (fun v7 σ6 hF => ?_)
  refine x_i2l C dX12_worthOf_24 ?_
  refine x_lmul C dX12_worthOf_25 ?_
  refine x_iload_n C 3 2 dX12_worthOf_26 rfl rfl ?_
  refine x_iload_n C 4 3 dX12_worthOf_27 rfl rfl ?_
  refine x_isub C dX12_worthOf_28 ?_
  refine x_iconst C 1 dX12_worthOf_29 (by decide +kernel) ?_
  refine x_isub C dX12_worthOf_30 ?_
  refine x_callSL C (wf := RW K ad rest) (As := [.int ((a2 - a3) - 1)]) (rest := [.long (x5 * (v7.toInt64))]) dX12_worthOf_31 ml_X12_369 rfl rfl (Nat.le_of_ble_eq_true rfl) ⟨Nat.le_of_ble_eq_true rfl, Nat.le_of_ble_eq_true rfl⟩ ⟨Nat.zero_le _, Nat.zero_le _⟩ (fun q9 hq9 => c_X12_power l D K ad rest ((a2 - a3) - 1) σ6 q9 hq9) hF (fun v9 σ8 hF => ?_)
  refine x_lmul C dX12_worthOf_34 ?_
  refine x_ldc2 C 100 dX12_worthOf_35 cl_X12_360 ?_
  refine x_lload C 0 5 dX12_worthOf_38 rfl ?_
  refine x_lsub C dX12_worthOf_40 ?_
  refine x_aload_n C 1 0 dX12_worthOf_41 rfl rfl ?_
  refine x_get C 0 dX12_worthOf_42 fl_X12_86 (RW_o K ad rest σ8) rfl ?_
  refine x_bipush C 21 dX12_worthOf_45 (by decide +kernel) ?_
  refine x_iload_n C 4 3 dX12_worthOf_47 rfl rfl ?_
  refine x_iconst C 1 dX12_worthOf_48 (by decide +kernel) ?_
  refine x_iadd C dX12_worthOf_49 ?_
  refine x_imul C dX12_worthOf_50 ?_
  refine x_iload C 5 4 dX12_worthOf_51 rfl ?_
  refine x_iadd C dX12_worthOf_53 ?_
  refine x_lald C 15 dX12_worthOf_54 (RW_a36 K ad rest σ8) hF (fun v10 hF => ?_)
  refine x_lmul C dX12_worthOf_55 ?_
  refine x_ladd C dX12_worthOf_56 ?_
  exact x_lret C dX12_worthOf_57 rfl (congrArg Prod.fst (Option.some.inj hF)) (congrArg (fun q9 : Int64 × xS => RW K ad rest q9.2) (Option.some.inj hF))
theorem dX12_findWrites_0 : decode cX12_findWrites 0 = .ok (.aload_n 0, 1) := by decide +kernel
theorem dX12_findWrites_1 : decode cX12_findWrites 1 = .ok (.iload_n 1, 1) := by decide +kernel
theorem dX12_findWrites_2 : decode cX12_findWrites 2 = .ok (.invokevirtual 348, 3) := by decide +kernel
theorem dX12_findWrites_5 : decode cX12_findWrites 5 = .ok (.iconst 0, 1) := by decide +kernel
theorem dX12_findWrites_6 : decode cX12_findWrites 6 = .ok (.istore_n 3, 1) := by decide +kernel
theorem dX12_findWrites_7 : decode cX12_findWrites 7 = .ok (.iload_n 3, 1) := by decide +kernel
theorem dX12_findWrites_8 : decode cX12_findWrites 8 = .ok (.bipush 21, 2) := by decide +kernel
theorem dX12_findWrites_10 : decode cX12_findWrites 10 = .ok (.if_icmp .ge 28, 3) := by decide +kernel
theorem dX12_findWrites_13 : decode cX12_findWrites 13 = .ok (.aload_n 0, 1) := by decide +kernel
theorem dX12_findWrites_14 : decode cX12_findWrites 14 = .ok (.getfield 86, 3) := by decide +kernel
theorem dX12_findWrites_17 : decode cX12_findWrites 17 = .ok (.bipush 21, 2) := by decide +kernel
theorem dX12_findWrites_19 : decode cX12_findWrites 19 = .ok (.iload_n 2, 1) := by decide +kernel
theorem dX12_findWrites_20 : decode cX12_findWrites 20 = .ok (.imul, 1) := by decide +kernel
theorem dX12_findWrites_21 : decode cX12_findWrites 21 = .ok (.iload_n 3, 1) := by decide +kernel
theorem dX12_findWrites_22 : decode cX12_findWrites 22 = .ok (.iadd, 1) := by decide +kernel
theorem dX12_findWrites_23 : decode cX12_findWrites 23 = .ok (.aload_n 0, 1) := by decide +kernel
theorem dX12_findWrites_24 : decode cX12_findWrites 24 = .ok (.getfield 13, 3) := by decide +kernel
theorem dX12_findWrites_27 : decode cX12_findWrites 27 = .ok (.bipush 10, 2) := by decide +kernel
theorem dX12_findWrites_29 : decode cX12_findWrites 29 = .ok (.iaload, 1) := by decide +kernel
theorem dX12_findWrites_30 : decode cX12_findWrites 30 = .ok (.i2l, 1) := by decide +kernel
theorem dX12_findWrites_31 : decode cX12_findWrites 31 = .ok (.lastore, 1) := by decide +kernel
theorem dX12_findWrites_32 : decode cX12_findWrites 32 = .ok (.iinc 3 1, 3) := by decide +kernel
theorem dX12_findWrites_35 : decode cX12_findWrites 35 = .ok (.goto (-28), 3) := by decide +kernel
theorem dX12_findWrites_38 : decode cX12_findWrites 38 = .ok (.iload_n 2, 1) := by decide +kernel
theorem dX12_findWrites_39 : decode cX12_findWrites 39 = .ok (.iconst 1, 1) := by decide +kernel
theorem dX12_findWrites_40 : decode cX12_findWrites 40 = .ok (.isub, 1) := by decide +kernel
theorem dX12_findWrites_41 : decode cX12_findWrites 41 = .ok (.istore_n 3, 1) := by decide +kernel
theorem dX12_findWrites_42 : decode cX12_findWrites 42 = .ok (.iload_n 3, 1) := by decide +kernel
theorem dX12_findWrites_43 : decode cX12_findWrites 43 = .ok (.ifCond .lt 172, 3) := by decide +kernel
theorem dX12_findWrites_46 : decode cX12_findWrites 46 = .ok (.aload_n 0, 1) := by decide +kernel
theorem dX12_findWrites_47 : decode cX12_findWrites 47 = .ok (.iload_n 3, 1) := by decide +kernel
theorem dX12_findWrites_48 : decode cX12_findWrites 48 = .ok (.putfield 333, 3) := by decide +kernel
theorem dX12_findWrites_51 : decode cX12_findWrites 51 = .ok (.iconst 0, 1) := by decide +kernel
theorem dX12_findWrites_52 : decode cX12_findWrites 52 = .ok (.istore 4, 2) := by decide +kernel
theorem dX12_findWrites_54 : decode cX12_findWrites 54 = .ok (.iload 4, 2) := by decide +kernel
theorem dX12_findWrites_56 : decode cX12_findWrites 56 = .ok (.bipush 21, 2) := by decide +kernel
theorem dX12_findWrites_58 : decode cX12_findWrites 58 = .ok (.if_icmp .ge 151, 3) := by decide +kernel
theorem dX12_findWrites_61 : decode cX12_findWrites 61 = .ok (.aload_n 0, 1) := by decide +kernel
theorem dX12_findWrites_62 : decode cX12_findWrites 62 = .ok (.iload_n 1, 1) := by decide +kernel
theorem dX12_findWrites_63 : decode cX12_findWrites 63 = .ok (.iload_n 2, 1) := by decide +kernel
theorem dX12_findWrites_64 : decode cX12_findWrites 64 = .ok (.iload_n 3, 1) := by decide +kernel
theorem dX12_findWrites_65 : decode cX12_findWrites 65 = .ok (.iload 4, 2) := by decide +kernel
theorem dX12_findWrites_67 : decode cX12_findWrites 67 = .ok (.invokevirtual 362, 3) := by decide +kernel
theorem dX12_findWrites_70 : decode cX12_findWrites 70 = .ok (.lstore 5, 2) := by decide +kernel
theorem dX12_findWrites_72 : decode cX12_findWrites 72 = .ok (.iload 4, 2) := by decide +kernel
theorem dX12_findWrites_74 : decode cX12_findWrites 74 = .ok (.istore 7, 2) := by decide +kernel
theorem dX12_findWrites_76 : decode cX12_findWrites 76 = .ok (.iconst 0, 1) := by decide +kernel
theorem dX12_findWrites_77 : decode cX12_findWrites 77 = .ok (.istore 8, 2) := by decide +kernel
theorem dX12_findWrites_79 : decode cX12_findWrites 79 = .ok (.iload 8, 2) := by decide +kernel
theorem dX12_findWrites_81 : decode cX12_findWrites 81 = .ok (.bipush 20, 2) := by decide +kernel
theorem dX12_findWrites_83 : decode cX12_findWrites 83 = .ok (.if_icmp .ge 92, 3) := by decide +kernel
theorem dX12_findWrites_86 : decode cX12_findWrites 86 = .ok (.aload_n 0, 1) := by decide +kernel
theorem dX12_findWrites_87 : decode cX12_findWrites 87 = .ok (.iload_n 1, 1) := by decide +kernel
theorem dX12_findWrites_88 : decode cX12_findWrites 88 = .ok (.iload 8, 2) := by decide +kernel
theorem dX12_findWrites_90 : decode cX12_findWrites 90 = .ok (.invokevirtual 366, 3) := by decide +kernel
theorem dX12_findWrites_93 : decode cX12_findWrites 93 = .ok (.aload_n 0, 1) := by decide +kernel
theorem dX12_findWrites_94 : decode cX12_findWrites 94 = .ok (.iload_n 1, 1) := by decide +kernel
theorem dX12_findWrites_95 : decode cX12_findWrites 95 = .ok (.iload 4, 2) := by decide +kernel
theorem dX12_findWrites_97 : decode cX12_findWrites 97 = .ok (.invokevirtual 366, 3) := by decide +kernel
theorem dX12_findWrites_100 : decode cX12_findWrites 100 = .ok (.if_icmp .ne 8, 3) := by decide +kernel
theorem dX12_findWrites_103 : decode cX12_findWrites 103 = .ok (.lload 5, 2) := by decide +kernel
theorem dX12_findWrites_105 : decode cX12_findWrites 105 = .ok (.goto 28, 3) := by decide +kernel
theorem dX12_findWrites_108 : decode cX12_findWrites 108 = .ok (.aload_n 0, 1) := by decide +kernel
theorem dX12_findWrites_109 : decode cX12_findWrites 109 = .ok (.iload_n 1, 1) := by decide +kernel
theorem dX12_findWrites_110 : decode cX12_findWrites 110 = .ok (.iload_n 2, 1) := by decide +kernel
theorem dX12_findWrites_111 : decode cX12_findWrites 111 = .ok (.iload_n 3, 1) := by decide +kernel
theorem dX12_findWrites_112 : decode cX12_findWrites 112 = .ok (.iload 8, 2) := by decide +kernel
theorem dX12_findWrites_114 : decode cX12_findWrites 114 = .ok (.invokevirtual 362, 3) := by decide +kernel
theorem dX12_findWrites_117 : decode cX12_findWrites 117 = .ok (.aload_n 0, 1) := by decide +kernel
theorem dX12_findWrites_118 : decode cX12_findWrites 118 = .ok (.getfield 13, 3) := by decide +kernel
theorem dX12_findWrites_121 : decode cX12_findWrites 121 = .ok (.bipush 9, 2) := by decide +kernel
theorem dX12_findWrites_123 : decode cX12_findWrites 123 = .ok (.iaload, 1) := by decide +kernel
theorem dX12_findWrites_124 : decode cX12_findWrites 124 = .ok (.i2l, 1) := by decide +kernel
theorem dX12_findWrites_125 : decode cX12_findWrites 125 = .ok (.iload_n 2, 1) := by decide +kernel
theorem dX12_findWrites_126 : decode cX12_findWrites 126 = .ok (.iload_n 3, 1) := by decide +kernel
theorem dX12_findWrites_127 : decode cX12_findWrites 127 = .ok (.isub, 1) := by decide +kernel
theorem dX12_findWrites_128 : decode cX12_findWrites 128 = .ok (.invokestatic 369, 3) := by decide +kernel
theorem dX12_findWrites_131 : decode cX12_findWrites 131 = .ok (.lmul, 1) := by decide +kernel
theorem dX12_findWrites_132 : decode cX12_findWrites 132 = .ok (.lsub, 1) := by decide +kernel
theorem dX12_findWrites_133 : decode cX12_findWrites 133 = .ok (.lstore 9, 2) := by decide +kernel
theorem dX12_findWrites_135 : decode cX12_findWrites 135 = .ok (.lload 9, 2) := by decide +kernel
theorem dX12_findWrites_137 : decode cX12_findWrites 137 = .ok (.lload 5, 2) := by decide +kernel
theorem dX12_findWrites_139 : decode cX12_findWrites 139 = .ok (.lcmp, 1) := by decide +kernel
theorem dX12_findWrites_140 : decode cX12_findWrites 140 = .ok (.ifCond .le 8, 3) := by decide +kernel
theorem dX12_findWrites_143 : decode cX12_findWrites 143 = .ok (.iload 8, 2) := by decide +kernel
theorem dX12_findWrites_145 : decode cX12_findWrites 145 = .ok (.goto 5, 3) := by decide +kernel
theorem dX12_findWrites_148 : decode cX12_findWrites 148 = .ok (.iload 7, 2) := by decide +kernel
theorem dX12_findWrites_150 : decode cX12_findWrites 150 = .ok (.istore 7, 2) := by decide +kernel
theorem dX12_findWrites_152 : decode cX12_findWrites 152 = .ok (.lload 9, 2) := by decide +kernel
theorem dX12_findWrites_154 : decode cX12_findWrites 154 = .ok (.lload 5, 2) := by decide +kernel
theorem dX12_findWrites_156 : decode cX12_findWrites 156 = .ok (.lcmp, 1) := by decide +kernel
theorem dX12_findWrites_157 : decode cX12_findWrites 157 = .ok (.ifCond .le 8, 3) := by decide +kernel
theorem dX12_findWrites_160 : decode cX12_findWrites 160 = .ok (.lload 9, 2) := by decide +kernel
theorem dX12_findWrites_162 : decode cX12_findWrites 162 = .ok (.goto 5, 3) := by decide +kernel
theorem dX12_findWrites_165 : decode cX12_findWrites 165 = .ok (.lload 5, 2) := by decide +kernel
theorem dX12_findWrites_167 : decode cX12_findWrites 167 = .ok (.lstore 5, 2) := by decide +kernel
theorem dX12_findWrites_169 : decode cX12_findWrites 169 = .ok (.iinc 8 1, 3) := by decide +kernel
theorem dX12_findWrites_172 : decode cX12_findWrites 172 = .ok (.goto (-93), 3) := by decide +kernel
theorem dX12_findWrites_175 : decode cX12_findWrites 175 = .ok (.aload_n 0, 1) := by decide +kernel
theorem dX12_findWrites_176 : decode cX12_findWrites 176 = .ok (.getfield 86, 3) := by decide +kernel
theorem dX12_findWrites_179 : decode cX12_findWrites 179 = .ok (.bipush 21, 2) := by decide +kernel
theorem dX12_findWrites_181 : decode cX12_findWrites 181 = .ok (.iload_n 3, 1) := by decide +kernel
theorem dX12_findWrites_182 : decode cX12_findWrites 182 = .ok (.imul, 1) := by decide +kernel
theorem dX12_findWrites_183 : decode cX12_findWrites 183 = .ok (.iload 4, 2) := by decide +kernel
theorem dX12_findWrites_185 : decode cX12_findWrites 185 = .ok (.iadd, 1) := by decide +kernel
theorem dX12_findWrites_186 : decode cX12_findWrites 186 = .ok (.lload 5, 2) := by decide +kernel
theorem dX12_findWrites_188 : decode cX12_findWrites 188 = .ok (.lastore, 1) := by decide +kernel
theorem dX12_findWrites_189 : decode cX12_findWrites 189 = .ok (.aload_n 0, 1) := by decide +kernel
theorem dX12_findWrites_190 : decode cX12_findWrites 190 = .ok (.getfield 89, 3) := by decide +kernel
theorem dX12_findWrites_193 : decode cX12_findWrites 193 = .ok (.bipush 21, 2) := by decide +kernel
theorem dX12_findWrites_195 : decode cX12_findWrites 195 = .ok (.iload_n 3, 1) := by decide +kernel
theorem dX12_findWrites_196 : decode cX12_findWrites 196 = .ok (.imul, 1) := by decide +kernel
theorem dX12_findWrites_197 : decode cX12_findWrites 197 = .ok (.iload 4, 2) := by decide +kernel
theorem dX12_findWrites_199 : decode cX12_findWrites 199 = .ok (.iadd, 1) := by decide +kernel
theorem dX12_findWrites_200 : decode cX12_findWrites 200 = .ok (.iload 7, 2) := by decide +kernel
theorem dX12_findWrites_202 : decode cX12_findWrites 202 = .ok (.iastore, 1) := by decide +kernel
theorem dX12_findWrites_203 : decode cX12_findWrites 203 = .ok (.iinc 4 1, 3) := by decide +kernel
theorem dX12_findWrites_206 : decode cX12_findWrites 206 = .ok (.goto (-152), 3) := by decide +kernel
theorem dX12_findWrites_209 : decode cX12_findWrites 209 = .ok (.iinc 3 (-1), 3) := by decide +kernel
theorem dX12_findWrites_212 : decode cX12_findWrites 212 = .ok (.goto (-170), 3) := by decide +kernel
theorem dX12_findWrites_215 : decode cX12_findWrites 215 = .ok (.return_, 1) := by decide +kernel
set_option maxHeartbeats 4000000 in
set_option maxRecDepth 100000 in
theorem x_X12_findWrites_150 {p : Program} {l : Launch} {e : Env} {s : State} {m : MethodId} {args : Array Value} {below : List Frame} {meth : Method} {c : Code} {D : va_G} {K : Nat → ClassId} {A : Nat → Prop} {ad : Nat → Nat} {rest : va_W} (C : xC p s m args meth c D K A RX12 cX12_findWrites 11 none) (z : Unit × xS) (k_42 : Int32 → Int32 → Int32 → xS → Option (Unit × xS)) (H_42 : ∀ (y1 : Int32) (y2 : Int32) (y3 : Int32) (σ : xS), k_42 y1 y2 y3 σ = some z → X p l e (xR 6 150) s m args below meth c D A 11 (xQv below D K A args s (RW K ad rest z.2)) 0 0 42 [(0, .ref (ad 0)), (1, .int y1), (2, .int y2), (3, .int y3)] [] (RW K ad rest σ)) (k_54 : Int32 → Int32 → Int32 → Int32 → xS → Option (Unit × xS)) (H_54 : ∀ (y1 : Int32) (y2 : Int32) (y3 : Int32) (y4 : Int32) (σ : xS), k_54 y1 y2 y3 y4 σ = some z → X p l e (xR 6 150) s m args below meth c D A 11 (xQv below D K A args s (RW K ad rest z.2)) 0 0 54 [(0, .ref (ad 0)), (1, .int y1), (2, .int y2), (3, .int y3), (4, .int y4)] [] (RW K ad rest σ)) (k_79 : Int32 → Int32 → Int32 → Int32 → Int64 → Int32 → Int32 → xS → Option (Unit × xS)) (H_79 : ∀ (y1 : Int32) (y2 : Int32) (y3 : Int32) (y4 : Int32) (y5 : Int64) (y7 : Int32) (y8 : Int32) (σ : xS), k_79 y1 y2 y3 y4 y5 y7 y8 σ = some z → X p l e (xR 6 150) s m args below meth c D A 11 (xQv below D K A args s (RW K ad rest z.2)) 0 0 79 [(0, .ref (ad 0)), (1, .int y1), (2, .int y2), (3, .int y3), (4, .int y4), (5, .long y5), (7, .int y7), (8, .int y8)] [] (RW K ad rest σ)) : ∀ (y1 : Int32) (y2 : Int32) (y3 : Int32) (y4 : Int32) (y5 : Int64) (y8 : Int32) (y9 : Int64) (t0 : Int32) (σ : xS), F_X12_findWrites_150 k_42 k_54 k_79 y1 y2 y3 y4 y5 y8 y9 t0 σ = some z → X p l e (xR 6 150) s m args below meth c D A 11 (xQv below D K A args s (RW K ad rest z.2)) 0 0 150 [(0, .ref (ad 0)), (1, .int y1), (2, .int y2), (3, .int y3), (4, .int y4), (5, .long y5), (8, .int y8), (9, .long y9)] [.int t0] (RW K ad rest σ) := by
  intro y1 y2 y3 y4 y5 y8 y9 t0 σ hF
  unfold F_X12_findWrites_150 at hF
  refine x_istore C [(7, .int t0), (0, .ref (ad 0)), (1, .int y1), (2, .int y2), (3, .int y3), (4, .int y4), (5, .long y5), (8, .int y8), (9, .long y9)] dX12_findWrites_150 (by decide) rfl ?_
  refine x_lload C 8 9 dX12_findWrites_152 rfl ?_
  refine x_lload C 6 5 dX12_findWrites_154 rfl ?_
  refine x_lcmp C dX12_findWrites_156 ?_
  refine x_if_le C 165 dX12_findWrites_157 (by decide) hF (fun hF => ?_) (fun hF => ?_)
  · refine x_lload C 6 5 dX12_findWrites_165 rfl ?_
    refine x_lstore C [(5, .long y5), (7, .int t0), (0, .ref (ad 0)), (1, .int y1), (2, .int y2), (3, .int y3), (4, .int y4), (8, .int y8), (9, .long y9)] dX12_findWrites_167 (by decide) rfl ?_
    refine x_iincN C 1 7 (fun x25 => [(8, .int x25), (5, .long y5), (7, .int t0), (0, .ref (ad 0)), (1, .int y1), (2, .int y2), (3, .int y3), (4, .int y4), (9, .long y9)]) dX12_findWrites_169 rfl (by decide +kernel) (by decide) (fun _ => rfl) hF (fun x25 hF => ?_)
    refine x_goto C 79 dX12_findWrites_172 (by decide) ?_
    refine x_loc [(0, .ref (ad 0)), (1, .int y1), (2, .int y2), (3, .int y3), (4, .int y4), (5, .long y5), (7, .int t0), (8, .int x25)] [3, 4, 5, 6, 7, 1, 2, 0] rfl ?_
    exact H_79 y1 y2 y3 y4 y5 t0 x25 σ hF
  · refine x_lload C 8 9 dX12_findWrites_160 rfl ?_
    refine x_goto C 167 dX12_findWrites_162 (by decide) ?_
    refine x_lstore C [(5, .long y9), (7, .int t0), (0, .ref (ad 0)), (1, .int y1), (2, .int y2), (3, .int y3), (4, .int y4), (8, .int y8), (9, .long y9)] dX12_findWrites_167 (by decide) rfl ?_
    refine x_iincN C 1 7 (fun x26 => [(8, .int x26), (5, .long y9), (7, .int t0), (0, .ref (ad 0)), (1, .int y1), (2, .int y2), (3, .int y3), (4, .int y4), (9, .long y9)]) dX12_findWrites_169 rfl (by decide +kernel) (by decide) (fun _ => rfl) hF (fun x26 hF => ?_)
    refine x_goto C 79 dX12_findWrites_172 (by decide) ?_
    refine x_loc [(0, .ref (ad 0)), (1, .int y1), (2, .int y2), (3, .int y3), (4, .int y4), (5, .long y9), (7, .int t0), (8, .int x26)] [3, 4, 5, 6, 7, 1, 2, 0] rfl ?_
    exact H_79 y1 y2 y3 y4 y9 t0 x26 σ hF
set_option maxHeartbeats 4000000 in
set_option maxRecDepth 100000 in
theorem x_X12_findWrites_133 {p : Program} {l : Launch} {e : Env} {s : State} {m : MethodId} {args : Array Value} {below : List Frame} {meth : Method} {c : Code} {D : va_G} {K : Nat → ClassId} {A : Nat → Prop} {ad : Nat → Nat} {rest : va_W} (C : xC p s m args meth c D K A RX12 cX12_findWrites 11 none) (z : Unit × xS) (k_42 : Int32 → Int32 → Int32 → xS → Option (Unit × xS)) (H_42 : ∀ (y1 : Int32) (y2 : Int32) (y3 : Int32) (σ : xS), k_42 y1 y2 y3 σ = some z → X p l e (xR 6 150) s m args below meth c D A 11 (xQv below D K A args s (RW K ad rest z.2)) 0 0 42 [(0, .ref (ad 0)), (1, .int y1), (2, .int y2), (3, .int y3)] [] (RW K ad rest σ)) (k_54 : Int32 → Int32 → Int32 → Int32 → xS → Option (Unit × xS)) (H_54 : ∀ (y1 : Int32) (y2 : Int32) (y3 : Int32) (y4 : Int32) (σ : xS), k_54 y1 y2 y3 y4 σ = some z → X p l e (xR 6 150) s m args below meth c D A 11 (xQv below D K A args s (RW K ad rest z.2)) 0 0 54 [(0, .ref (ad 0)), (1, .int y1), (2, .int y2), (3, .int y3), (4, .int y4)] [] (RW K ad rest σ)) (k_79 : Int32 → Int32 → Int32 → Int32 → Int64 → Int32 → Int32 → xS → Option (Unit × xS)) (H_79 : ∀ (y1 : Int32) (y2 : Int32) (y3 : Int32) (y4 : Int32) (y5 : Int64) (y7 : Int32) (y8 : Int32) (σ : xS), k_79 y1 y2 y3 y4 y5 y7 y8 σ = some z → X p l e (xR 6 150) s m args below meth c D A 11 (xQv below D K A args s (RW K ad rest z.2)) 0 0 79 [(0, .ref (ad 0)), (1, .int y1), (2, .int y2), (3, .int y3), (4, .int y4), (5, .long y5), (7, .int y7), (8, .int y8)] [] (RW K ad rest σ)) : ∀ (y1 : Int32) (y2 : Int32) (y3 : Int32) (y4 : Int32) (y5 : Int64) (y7 : Int32) (y8 : Int32) (t0 : Int64) (σ : xS), F_X12_findWrites_133 k_42 k_54 k_79 y1 y2 y3 y4 y5 y7 y8 t0 σ = some z → X p l e (xR 6 150) s m args below meth c D A 11 (xQv below D K A args s (RW K ad rest z.2)) 0 0 133 [(0, .ref (ad 0)), (1, .int y1), (2, .int y2), (3, .int y3), (4, .int y4), (5, .long y5), (7, .int y7), (8, .int y8)] [.long t0] (RW K ad rest σ) := by
  intro y1 y2 y3 y4 y5 y7 y8 t0 σ hF
  unfold F_X12_findWrites_133 at hF
  refine x_lstore C [(9, .long t0), (0, .ref (ad 0)), (1, .int y1), (2, .int y2), (3, .int y3), (4, .int y4), (5, .long y5), (7, .int y7), (8, .int y8)] dX12_findWrites_133 (by decide) rfl ?_
  refine x_lload C 0 9 dX12_findWrites_135 rfl ?_
  refine x_lload C 6 5 dX12_findWrites_137 rfl ?_
  refine x_lcmp C dX12_findWrites_139 ?_
  refine x_if_le C 148 dX12_findWrites_140 (by decide) hF (fun hF => ?_) (fun hF => ?_)
  · refine x_iload C 7 7 dX12_findWrites_148 rfl ?_
    refine x_loc [(0, .ref (ad 0)), (1, .int y1), (2, .int y2), (3, .int y3), (4, .int y4), (5, .long y5), (8, .int y8), (9, .long t0)] [1, 2, 3, 4, 5, 6, 8, 0] rfl ?_
    exact x_X12_findWrites_150 C z k_42 H_42 k_54 H_54 k_79 H_79 y1 y2 y3 y4 y5 y8 t0 y7 σ hF
  · refine x_iload C 8 8 dX12_findWrites_143 rfl ?_
    refine x_goto C 150 dX12_findWrites_145 (by decide) ?_
    refine x_loc [(0, .ref (ad 0)), (1, .int y1), (2, .int y2), (3, .int y3), (4, .int y4), (5, .long y5), (8, .int y8), (9, .long t0)] [1, 2, 3, 4, 5, 6, 8, 0] rfl ?_
    exact x_X12_findWrites_150 C z k_42 H_42 k_54 H_54 k_79 H_79 y1 y2 y3 y4 y5 y8 t0 y8 σ hF
set_option maxHeartbeats 4000000 in
set_option maxRecDepth 100000 in
theorem x_X12_findWrites_79 {p : Program} {l : Launch} {e : Env} {s : State} {m : MethodId} {args : Array Value} {below : List Frame} {meth : Method} {c : Code} {D : va_G} {K : Nat → ClassId} {A : Nat → Prop} {ad : Nat → Nat} {rest : va_W} (C : xC p s m args meth c D K A RX12 cX12_findWrites 11 none) (z : Unit × xS) (k_42 : Int32 → Int32 → Int32 → xS → Option (Unit × xS)) (H_42 : ∀ (y1 : Int32) (y2 : Int32) (y3 : Int32) (σ : xS), k_42 y1 y2 y3 σ = some z → X p l e (xR 6 150) s m args below meth c D A 11 (xQv below D K A args s (RW K ad rest z.2)) 0 0 42 [(0, .ref (ad 0)), (1, .int y1), (2, .int y2), (3, .int y3)] [] (RW K ad rest σ)) (k_54 : Int32 → Int32 → Int32 → Int32 → xS → Option (Unit × xS)) (H_54 : ∀ (y1 : Int32) (y2 : Int32) (y3 : Int32) (y4 : Int32) (σ : xS), k_54 y1 y2 y3 y4 σ = some z → X p l e (xR 6 150) s m args below meth c D A 11 (xQv below D K A args s (RW K ad rest z.2)) 0 0 54 [(0, .ref (ad 0)), (1, .int y1), (2, .int y2), (3, .int y3), (4, .int y4)] [] (RW K ad rest σ)) : ∀ (n : Nat) (y1 : Int32) (y2 : Int32) (y3 : Int32) (y4 : Int32) (y5 : Int64) (y7 : Int32) (y8 : Int32) (σ : xS), F_X12_findWrites_79 k_42 k_54 n y1 y2 y3 y4 y5 y7 y8 σ = some z → X p l e (xR 6 150) s m args below meth c D A 11 (xQv below D K A args s (RW K ad rest z.2)) 0 0 79 [(0, .ref (ad 0)), (1, .int y1), (2, .int y2), (3, .int y3), (4, .int y4), (5, .long y5), (7, .int y7), (8, .int y8)] [] (RW K ad rest σ) := by
  intro n
  induction n with
  | zero =>
    intro y1 y2 y3 y4 y5 y7 y8 σ hF
    cases hF
  | succ n ih =>
    intro y1 y2 y3 y4 y5 y7 y8 σ hF
    rw [F_X12_findWrites_79] at hF
    refine x_iload C 7 8 dX12_findWrites_79 rfl ?_
    refine x_bipush C 20 dX12_findWrites_81 (by decide +kernel) ?_
    refine x_icmp_ge C 175 dX12_findWrites_83 (by decide) hF (fun hF => ?_) (fun hF => ?_)
    · refine x_aload_n C 0 0 dX12_findWrites_175 rfl rfl ?_
      refine x_get C 0 dX12_findWrites_176 fl_X12_86 (RW_o K ad rest σ) rfl ?_
      refine x_bipush C 21 dX12_findWrites_179 (by decide +kernel) ?_
      refine x_iload_n C 3 3 dX12_findWrites_181 rfl rfl ?_
      refine x_imul C dX12_findWrites_182 ?_
      refine x_iload C 4 4 dX12_findWrites_183 rfl ?_
      refine x_iadd C dX12_findWrites_185 ?_
      refine x_lload C 5 5 dX12_findWrites_186 rfl ?_
      refine x_last C 15 dX12_findWrites_188 (RW_a36 K ad rest σ) hF (RW_s36 K ad rest σ _) (fun hF => ?_)
      refine x_st (wf := RW K ad rest) hF (fun σ13 hF => ?_)
      refine x_aload_n C 0 0 dX12_findWrites_189 rfl rfl ?_
      refine x_get C 0 dX12_findWrites_190 fl_X12_89 (RW_o K ad rest σ13) rfl ?_
      refine x_bipush C 21 dX12_findWrites_193 (by decide +kernel) ?_
      refine x_iload_n C 3 3 dX12_findWrites_195 rfl rfl ?_
      refine x_imul C dX12_findWrites_196 ?_
      refine x_iload C 4 4 dX12_findWrites_197 rfl ?_
      refine x_iadd C dX12_findWrites_199 ?_
      refine x_iload C 6 7 dX12_findWrites_200 rfl ?_
      refine x_iast C 16 dX12_findWrites_202 (RW_a37 K ad rest σ13) hF (RW_s37 K ad rest σ13 _) (fun hF => ?_)
      refine x_st (wf := RW K ad rest) hF (fun σ14 hF => ?_)
      refine x_iincN C 1 4 (fun x15 => [(4, .int x15), (0, .ref (ad 0)), (1, .int y1), (2, .int y2), (3, .int y3), (5, .long y5), (7, .int y7), (8, .int y8)]) dX12_findWrites_203 rfl (by decide +kernel) (by decide) (fun _ => rfl) hF (fun x15 hF => ?_)
      refine x_goto C 54 dX12_findWrites_206 (by decide) ?_
      refine x_loc [(0, .ref (ad 0)), (1, .int y1), (2, .int y2), (3, .int y3), (4, .int x15)] [1, 2, 3, 4, 0] rfl ?_
      exact H_54 y1 y2 y3 x15 σ14 hF
    · refine x_aload_n C 0 0 dX12_findWrites_86 rfl rfl ?_
      refine x_iload_n C 1 1 dX12_findWrites_87 rfl rfl ?_
      refine x_iload C 7 8 dX12_findWrites_88 rfl ?_
      refine x_callVI C (wf := RW K ad rest) (As := [.int y1, .int y8]) (rest := []) dX12_findWrites_90 ml_X12_366 rfl rfl (Nat.le_of_ble_eq_true rfl) 0 (RW_o K ad rest σ) rfl ⟨Nat.le_of_ble_eq_true rfl, Nat.le_of_ble_eq_true rfl⟩ ⟨Nat.zero_le _, Nat.zero_le _⟩ (fun q9 hq9 => c_X12_priceAt l D K ad rest y1 y8 σ q9 hq9) hF (fun v17 σ16 hF => ?_)
      refine x_aload_n C 0 0 dX12_findWrites_93 rfl rfl ?_
      refine x_iload_n C 1 1 dX12_findWrites_94 rfl rfl ?_
      refine x_iload C 4 4 dX12_findWrites_95 rfl ?_
      refine x_callVI C (wf := RW K ad rest) (As := [.int y1, .int y4]) (rest := [.int v17]) dX12_findWrites_97 ml_X12_366 rfl rfl (Nat.le_of_ble_eq_true rfl) 0 (RW_o K ad rest σ16) rfl ⟨Nat.le_of_ble_eq_true rfl, Nat.le_of_ble_eq_true rfl⟩ ⟨Nat.zero_le _, Nat.zero_le _⟩ (fun q9 hq9 => c_X12_priceAt l D K ad rest y1 y4 σ16 q9 hq9) hF (fun v19 σ18 hF => ?_)
      refine x_icmp_ne C 108 dX12_findWrites_100 (by decide) hF (fun hF => ?_) (fun hF => ?_)
      · refine x_aload_n C 0 0 dX12_findWrites_108 rfl rfl ?_
        refine x_iload_n C 1 1 dX12_findWrites_109 rfl rfl ?_
        refine x_iload_n C 2 2 dX12_findWrites_110 rfl rfl ?_
        refine x_iload_n C 3 3 dX12_findWrites_111 rfl rfl ?_
        refine x_iload C 7 8 dX12_findWrites_112 rfl ?_
        refine x_callVL C (wf := RW K ad rest) (As := [.int y1, .int y2, .int y3, .int y8]) (rest := []) dX12_findWrites_114 ml_X12_362 rfl rfl (Nat.le_of_ble_eq_true rfl) 0 (RW_o K ad rest σ18) rfl ⟨Nat.le_of_ble_eq_true rfl, Nat.le_of_ble_eq_true rfl⟩ ⟨Nat.zero_le _, Nat.zero_le _⟩ (fun q9 hq9 => c_X12_worthOf l D K ad rest y1 y2 y3 y8 σ18 q9 hq9) hF (fun v21 σ20 hF => ?_)
        refine x_aload_n C 0 0 dX12_findWrites_117 rfl rfl ?_
        refine x_get C 0 dX12_findWrites_118 fl_X12_13 (RW_o K ad rest σ20) rfl ?_
        refine x_bipush C 9 dX12_findWrites_121 (by decide +kernel) ?_
        refine x_iald C 2 dX12_findWrites_123 (RW_a3 K ad rest σ20) hF (fun v22 hF => ?_)
        refine x_i2l C dX12_findWrites_124 ?_
        refine x_iload_n C 2 2 dX12_findWrites_125 rfl rfl ?_
        refine x_iload_n C 3 3 dX12_findWrites_126 rfl rfl ?_
        refine x_isub C dX12_findWrites_127 ?_
        refine x_callSL C (wf := RW K ad rest) (As := [.int (y2 - y3)]) (rest := [.long (v22.toInt64), .long v21]) dX12_findWrites_128 ml_X12_369 rfl rfl (Nat.le_of_ble_eq_true rfl) ⟨Nat.le_of_ble_eq_true rfl, Nat.le_of_ble_eq_true rfl⟩ ⟨Nat.zero_le _, Nat.zero_le _⟩ (fun q9 hq9 => c_X12_power l D K ad rest (y2 - y3) σ20 q9 hq9) hF (fun v24 σ23 hF => ?_)
        refine x_lmul C dX12_findWrites_131 ?_
        refine x_lsub C dX12_findWrites_132 ?_
        exact x_X12_findWrites_133 C z k_42 H_42 k_54 H_54 ((F_X12_findWrites_79 k_42 k_54 n)) ih y1 y2 y3 y4 y5 y7 y8 (v21 - ((v22.toInt64) * v24)) σ23 hF
      · refine x_lload C 5 5 dX12_findWrites_103 rfl ?_
        refine x_goto C 133 dX12_findWrites_105 (by decide) ?_
        exact x_X12_findWrites_133 C z k_42 H_42 k_54 H_54 ((F_X12_findWrites_79 k_42 k_54 n)) ih y1 y2 y3 y4 y5 y7 y8 y5 σ18 hF
set_option maxHeartbeats 4000000 in
set_option maxRecDepth 100000 in
theorem x_X12_findWrites_54 {p : Program} {l : Launch} {e : Env} {s : State} {m : MethodId} {args : Array Value} {below : List Frame} {meth : Method} {c : Code} {D : va_G} {K : Nat → ClassId} {A : Nat → Prop} {ad : Nat → Nat} {rest : va_W} (C : xC p s m args meth c D K A RX12 cX12_findWrites 11 none) (z : Unit × xS) (k_42 : Int32 → Int32 → Int32 → xS → Option (Unit × xS)) (H_42 : ∀ (y1 : Int32) (y2 : Int32) (y3 : Int32) (σ : xS), k_42 y1 y2 y3 σ = some z → X p l e (xR 6 150) s m args below meth c D A 11 (xQv below D K A args s (RW K ad rest z.2)) 0 0 42 [(0, .ref (ad 0)), (1, .int y1), (2, .int y2), (3, .int y3)] [] (RW K ad rest σ)) : ∀ (n : Nat) (y1 : Int32) (y2 : Int32) (y3 : Int32) (y4 : Int32) (σ : xS), F_X12_findWrites_54 k_42 n y1 y2 y3 y4 σ = some z → X p l e (xR 6 150) s m args below meth c D A 11 (xQv below D K A args s (RW K ad rest z.2)) 0 0 54 [(0, .ref (ad 0)), (1, .int y1), (2, .int y2), (3, .int y3), (4, .int y4)] [] (RW K ad rest σ) := by
  intro n
  induction n with
  | zero =>
    intro y1 y2 y3 y4 σ hF
    cases hF
  | succ n ih =>
    intro y1 y2 y3 y4 σ hF
    rw [F_X12_findWrites_54] at hF
    refine x_iload C 4 4 dX12_findWrites_54 rfl ?_
    refine x_bipush C 21 dX12_findWrites_56 (by decide +kernel) ?_
    refine x_icmp_ge C 209 dX12_findWrites_58 (by decide) hF (fun hF => ?_) (fun hF => ?_)
    · refine x_iincN C (-1) 3 (fun x9 => [(3, .int x9), (0, .ref (ad 0)), (1, .int y1), (2, .int y2), (4, .int y4)]) dX12_findWrites_209 rfl (by decide +kernel) (by decide) (fun _ => rfl) hF (fun x9 hF => ?_)
      refine x_goto C 42 dX12_findWrites_212 (by decide) ?_
      refine x_loc [(0, .ref (ad 0)), (1, .int y1), (2, .int y2), (3, .int x9)] [1, 2, 3, 0] rfl ?_
      exact H_42 y1 y2 x9 σ hF
    · refine x_aload_n C 0 0 dX12_findWrites_61 rfl rfl ?_
      refine x_iload_n C 1 1 dX12_findWrites_62 rfl rfl ?_
      refine x_iload_n C 2 2 dX12_findWrites_63 rfl rfl ?_
      refine x_iload_n C 3 3 dX12_findWrites_64 rfl rfl ?_
      refine x_iload C 4 4 dX12_findWrites_65 rfl ?_
      refine x_callVL C (wf := RW K ad rest) (As := [.int y1, .int y2, .int y3, .int y4]) (rest := []) dX12_findWrites_67 ml_X12_362 rfl rfl (Nat.le_of_ble_eq_true rfl) 0 (RW_o K ad rest σ) rfl ⟨Nat.le_of_ble_eq_true rfl, Nat.le_of_ble_eq_true rfl⟩ ⟨Nat.zero_le _, Nat.zero_le _⟩ (fun q9 hq9 => c_X12_worthOf l D K ad rest y1 y2 y3 y4 σ q9 hq9) hF (fun v11 σ10 hF => ?_)
      refine x_lstore C [(5, .long v11), (0, .ref (ad 0)), (1, .int y1), (2, .int y2), (3, .int y3), (4, .int y4)] dX12_findWrites_70 (by decide) rfl ?_
      refine x_iload C 5 4 dX12_findWrites_72 rfl ?_
      refine x_istore C [(7, .int y4), (5, .long v11), (0, .ref (ad 0)), (1, .int y1), (2, .int y2), (3, .int y3), (4, .int y4)] dX12_findWrites_74 (by decide) rfl ?_
      refine x_iconst C 0 dX12_findWrites_76 (by decide +kernel) ?_
      refine x_topI hF (fun x12 hF => ?_)
      refine x_istore C [(8, .int x12), (7, .int y4), (5, .long v11), (0, .ref (ad 0)), (1, .int y1), (2, .int y2), (3, .int y3), (4, .int y4)] dX12_findWrites_77 (by decide) rfl ?_
      refine x_loc [(0, .ref (ad 0)), (1, .int y1), (2, .int y2), (3, .int y3), (4, .int y4), (5, .long v11), (7, .int y4), (8, .int x12)] [3, 4, 5, 6, 7, 2, 1, 0] rfl ?_
      exact x_X12_findWrites_79 C z k_42 H_42 ((F_X12_findWrites_54 k_42 n)) ih FU y1 y2 y3 y4 v11 y4 x12 σ10 hF
set_option maxHeartbeats 4000000 in
set_option maxRecDepth 100000 in
theorem x_X12_findWrites_42 {p : Program} {l : Launch} {e : Env} {s : State} {m : MethodId} {args : Array Value} {below : List Frame} {meth : Method} {c : Code} {D : va_G} {K : Nat → ClassId} {A : Nat → Prop} {ad : Nat → Nat} {rest : va_W} (C : xC p s m args meth c D K A RX12 cX12_findWrites 11 none) (z : Unit × xS) : ∀ (n : Nat) (y1 : Int32) (y2 : Int32) (y3 : Int32) (σ : xS), F_X12_findWrites_42  n y1 y2 y3 σ = some z → X p l e (xR 6 150) s m args below meth c D A 11 (xQv below D K A args s (RW K ad rest z.2)) 0 0 42 [(0, .ref (ad 0)), (1, .int y1), (2, .int y2), (3, .int y3)] [] (RW K ad rest σ) := by
  intro n
  induction n with
  | zero =>
    intro y1 y2 y3 σ hF
    cases hF
  | succ n ih =>
    intro y1 y2 y3 σ hF
    rw [F_X12_findWrites_42] at hF
    refine x_iload_n C 3 3 dX12_findWrites_42 rfl rfl ?_
    refine x_if_lt C 215 dX12_findWrites_43 (by decide) hF (fun hF => ?_) (fun hF => ?_)
    · exact x_vret C dX12_findWrites_215 rfl (congrArg (fun q9 : Unit × xS => RW K ad rest q9.2) (Option.some.inj hF))
    · refine x_aload_n C 0 0 dX12_findWrites_46 rfl rfl ?_
      refine x_iload_n C 3 3 dX12_findWrites_47 rfl rfl ?_
      refine x_put C 0 dX12_findWrites_48 fl_X12_333 fm_X12_34 rfl rfl (RW_o K ad rest σ) (Nat.le_of_ble_eq_true rfl) (RW_s34 K ad rest σ _) ?_
      refine x_st (wf := RW K ad rest) hF (fun σ7 hF => ?_)
      refine x_iconst C 0 dX12_findWrites_51 (by decide +kernel) ?_
      refine x_topI hF (fun x8 hF => ?_)
      refine x_istore C [(4, .int x8), (0, .ref (ad 0)), (1, .int y1), (2, .int y2), (3, .int y3)] dX12_findWrites_52 (by decide) rfl ?_
      refine x_loc [(0, .ref (ad 0)), (1, .int y1), (2, .int y2), (3, .int y3), (4, .int x8)] [1, 2, 3, 4, 0] rfl ?_
      exact x_X12_findWrites_54 C z ((F_X12_findWrites_42 n)) ih FU y1 y2 y3 x8 σ7 hF
set_option maxHeartbeats 4000000 in
set_option maxRecDepth 100000 in
theorem x_X12_findWrites_7 {p : Program} {l : Launch} {e : Env} {s : State} {m : MethodId} {args : Array Value} {below : List Frame} {meth : Method} {c : Code} {D : va_G} {K : Nat → ClassId} {A : Nat → Prop} {ad : Nat → Nat} {rest : va_W} (C : xC p s m args meth c D K A RX12 cX12_findWrites 11 none) (z : Unit × xS) : ∀ (n : Nat) (y1 : Int32) (y2 : Int32) (y3 : Int32) (σ : xS), F_X12_findWrites_7  n y1 y2 y3 σ = some z → X p l e (xR 6 150) s m args below meth c D A 11 (xQv below D K A args s (RW K ad rest z.2)) 0 0 7 [(0, .ref (ad 0)), (1, .int y1), (2, .int y2), (3, .int y3)] [] (RW K ad rest σ) := by
  intro n
  induction n with
  | zero =>
    intro y1 y2 y3 σ hF
    cases hF
  | succ n ih =>
    intro y1 y2 y3 σ hF
    rw [F_X12_findWrites_7] at hF
    refine x_iload_n C 3 3 dX12_findWrites_7 rfl rfl ?_
    refine x_bipush C 21 dX12_findWrites_8 (by decide +kernel) ?_
    refine x_icmp_ge C 38 dX12_findWrites_10 (by decide) hF (fun hF => ?_) (fun hF => ?_)
    · refine x_iload_n C 2 2 dX12_findWrites_38 rfl rfl ?_
      refine x_iconst C 1 dX12_findWrites_39 (by decide +kernel) ?_
      refine x_isub C dX12_findWrites_40 ?_
      refine x_topI hF (fun x3 hF => ?_)
      refine x_istore_n C [(3, .int x3), (0, .ref (ad 0)), (1, .int y1), (2, .int y2)] dX12_findWrites_41 rfl (by decide) rfl ?_
      refine x_loc [(0, .ref (ad 0)), (1, .int y1), (2, .int y2), (3, .int x3)] [1, 2, 3, 0] rfl ?_
      exact x_X12_findWrites_42 C z FU y1 y2 x3 σ hF
    · refine x_aload_n C 0 0 dX12_findWrites_13 rfl rfl ?_
      refine x_get C 0 dX12_findWrites_14 fl_X12_86 (RW_o K ad rest σ) rfl ?_
      refine x_bipush C 21 dX12_findWrites_17 (by decide +kernel) ?_
      refine x_iload_n C 2 2 dX12_findWrites_19 rfl rfl ?_
      refine x_imul C dX12_findWrites_20 ?_
      refine x_iload_n C 3 3 dX12_findWrites_21 rfl rfl ?_
      refine x_iadd C dX12_findWrites_22 ?_
      refine x_aload_n C 0 0 dX12_findWrites_23 rfl rfl ?_
      refine x_get C 0 dX12_findWrites_24 fl_X12_13 (RW_o K ad rest σ) rfl ?_
      refine x_bipush C 10 dX12_findWrites_27 (by decide +kernel) ?_
      refine x_iald C 2 dX12_findWrites_29 (RW_a3 K ad rest σ) hF (fun v4 hF => ?_)
      refine x_i2l C dX12_findWrites_30 ?_
      refine x_last C 15 dX12_findWrites_31 (RW_a36 K ad rest σ) hF (RW_s36 K ad rest σ _) (fun hF => ?_)
      refine x_st (wf := RW K ad rest) hF (fun σ5 hF => ?_)
      refine x_iincN C 1 3 (fun x6 => [(3, .int x6), (0, .ref (ad 0)), (1, .int y1), (2, .int y2)]) dX12_findWrites_32 rfl (by decide +kernel) (by decide) (fun _ => rfl) hF (fun x6 hF => ?_)
      refine x_goto C 7 dX12_findWrites_35 (by decide) ?_
      refine x_loc [(0, .ref (ad 0)), (1, .int y1), (2, .int y2), (3, .int x6)] [1, 2, 3, 0] rfl ?_
      exact ih y1 y2 x6 σ5 hF
set_option maxHeartbeats 4000000 in
set_option maxRecDepth 100000 in
theorem c_X12_findWrites (l : Launch) (D : va_G) (K : Nat → ClassId) (ad : Nat → Nat) (rest : va_W) (a1 : Int32) (a2 : Int32) (σ : xS) (z : Unit × xS) (hF : F_X12_findWrites a1 a2 σ = some z) : CV l D K yX12_findWrites cX12_findWrites 11 none 6 150 [.ref (ad 0), .int a1, .int a2] (RW K ad rest σ) (RW K ad rest z.2) := by
  refine x_enterV [(0, .ref (ad 0)), (1, .int a1), (2, .int a2)] pnX12 (Nat.le_of_ble_eq_true rfl) rfl ?_
  intro p e s m args below meth c A C
  unfold F_X12_findWrites at hF
  refine x_aload_n C 0 0 dX12_findWrites_0 rfl rfl ?_
  refine x_iload_n C 1 1 dX12_findWrites_1 rfl rfl ?_
  refine x_callVV C (wf := RW K ad rest) (As := [.int a1]) (rest := []) dX12_findWrites_2 ml_X12_348 rfl rfl (Nat.le_of_ble_eq_true rfl) 0 (RW_o K ad rest σ) rfl ⟨Nat.le_of_ble_eq_true rfl, Nat.le_of_ble_eq_true rfl⟩ ⟨Nat.zero_le _, Nat.zero_le _⟩ (fun q9 hq9 => c_X12_asTold l D K ad rest a1 σ q9 hq9) hF (fun _ σ1 hF => ?_)
  refine x_iconst C 0 dX12_findWrites_5 (by decide +kernel) ?_
  refine x_topI hF (fun x2 hF => ?_)
  refine x_istore_n C [(3, .int x2), (0, .ref (ad 0)), (1, .int a1), (2, .int a2)] dX12_findWrites_6 rfl (by decide) rfl ?_
  refine x_loc [(0, .ref (ad 0)), (1, .int a1), (2, .int a2), (3, .int x2)] [1, 2, 3, 0] rfl ?_
  exact x_X12_findWrites_7 C z FU a1 a2 x2 σ1 hF
theorem dX12_write_0 : decode cX12_write 0 = .ok (.aload_n 0, 1) := by decide +kernel
theorem dX12_write_1 : decode cX12_write 1 = .ok (.iconst 0, 1) := by decide +kernel
theorem dX12_write_2 : decode cX12_write 2 = .ok (.putfield 107, 3) := by decide +kernel
theorem dX12_write_5 : decode cX12_write 5 = .ok (.aload_n 0, 1) := by decide +kernel
theorem dX12_write_6 : decode cX12_write 6 = .ok (.iload_n 1, 1) := by decide +kernel
theorem dX12_write_7 : decode cX12_write 7 = .ok (.invokevirtual 140, 3) := by decide +kernel
theorem dX12_write_10 : decode cX12_write 10 = .ok (.ifCond .eq 15, 3) := by decide +kernel
theorem dX12_write_13 : decode cX12_write 13 = .ok (.iload_n 2, 1) := by decide +kernel
theorem dX12_write_14 : decode cX12_write 14 = .ok (.i2l, 1) := by decide +kernel
theorem dX12_write_15 : decode cX12_write 15 = .ok (.lconst 1, 1) := by decide +kernel
theorem dX12_write_16 : decode cX12_write 16 = .ok (.ldc2_w 373, 3) := by decide +kernel
theorem dX12_write_19 : decode cX12_write 19 = .ok (.invokestatic 117, 3) := by decide +kernel
theorem dX12_write_22 : decode cX12_write 22 = .ok (.ifCond .ne 7, 3) := by decide +kernel
theorem dX12_write_25 : decode cX12_write 25 = .ok (.ldc2_w 375, 3) := by decide +kernel
theorem dX12_write_28 : decode cX12_write 28 = .ok (.lreturn, 1) := by decide +kernel
theorem dX12_write_29 : decode cX12_write 29 = .ok (.aload_n 0, 1) := by decide +kernel
theorem dX12_write_30 : decode cX12_write 30 = .ok (.iload_n 1, 1) := by decide +kernel
theorem dX12_write_31 : decode cX12_write 31 = .ok (.iload_n 2, 1) := by decide +kernel
theorem dX12_write_32 : decode cX12_write 32 = .ok (.invokevirtual 377, 3) := by decide +kernel
theorem dX12_write_35 : decode cX12_write 35 = .ok (.aload_n 0, 1) := by decide +kernel
theorem dX12_write_36 : decode cX12_write 36 = .ok (.getfield 86, 3) := by decide +kernel
theorem dX12_write_39 : decode cX12_write 39 = .ok (.bipush 20, 2) := by decide +kernel
theorem dX12_write_41 : decode cX12_write 41 = .ok (.laload, 1) := by decide +kernel
theorem dX12_write_42 : decode cX12_write 42 = .ok (.lreturn, 1) := by decide +kernel
set_option maxHeartbeats 4000000 in
set_option maxRecDepth 100000 in
theorem c_X12_write (l : Launch) (D : va_G) (K : Nat → ClassId) (ad : Nat → Nat) (rest : va_W) (a1 : Int32) (a2 : Int32) (σ : xS) (z : Int64 × xS) (hF : F_X12_write a1 a2 σ = some z) : CL l D K yX12_write cX12_write 3 (some .long) 7 180 [.ref (ad 0), .int a1, .int a2] (RW K ad rest σ) z.1 (RW K ad rest z.2) := by
  refine x_enterL [(0, .ref (ad 0)), (1, .int a1), (2, .int a2)] pnX12 (Nat.le_of_ble_eq_true rfl) rfl ?_
  intro p e s m args below meth c A C
  unfold F_X12_write at hF
  refine x_aload_n C 0 0 dX12_write_0 rfl rfl ?_
  refine x_iconst C 0 dX12_write_1 (by decide +kernel) ?_
  refine x_put C 0 dX12_write_2 fl_X12_107 fm_X12_0 rfl rfl (RW_o K ad rest σ) (Nat.le_of_ble_eq_true rfl) (RW_s0 K ad rest σ _) ?_
  refine x_st (wf := RW K ad rest) hF (fun σ1 hF => ?_)
  refine x_aload_n C 0 0 dX12_write_5 rfl rfl ?_
  refine x_iload_n C 1 1 dX12_write_6 rfl rfl ?_
  refine x_callVI C (wf := RW K ad rest) (As := [.int a1]) (rest := []) dX12_write_7 ml_X12_140 rfl rfl (Nat.le_of_ble_eq_true rfl) 0 (RW_o K ad rest σ1) rfl ⟨Nat.le_of_ble_eq_true rfl, Nat.le_of_ble_eq_true rfl⟩ ⟨Nat.zero_le _, Nat.zero_le _⟩ (fun q9 hq9 => c_X12_isBook l D K ad rest a1 σ1 q9 hq9) hF (fun v3 σ2 hF => ?_)
  refine x_if_eq C 25 dX12_write_10 (by decide) hF (fun hF => ?_) (fun hF => ?_)
  · refine x_ldc2 C (-1000000000000000000) dX12_write_25 cl_X12_375 ?_
    exact x_lret C dX12_write_28 rfl (congrArg Prod.fst (Option.some.inj hF)) (congrArg (fun q9 : Int64 × xS => RW K ad rest q9.2) (Option.some.inj hF))
  · refine x_iload_n C 2 2 dX12_write_13 rfl rfl ?_
    refine x_i2l C dX12_write_14 ?_
    refine x_lconst C 1 dX12_write_15 (by decide +kernel) ?_
    refine x_ldc2 C 6 dX12_write_16 cl_X12_373 ?_
    refine x_callSI C (wf := RW K ad rest) (As := [.long (a2.toInt64), .long 1, .long 6]) (rest := []) dX12_write_19 ml_X12_117 rfl rfl (Nat.le_of_ble_eq_true rfl) ⟨Nat.le_of_ble_eq_true rfl, Nat.le_of_ble_eq_true rfl⟩ ⟨Nat.zero_le _, Nat.zero_le _⟩ (fun q9 hq9 => c_X12_in l D K ad rest (a2.toInt64) 1 6 σ2 q9 hq9) hF (fun v5 σ4 hF => ?_)
    refine x_if_ne C 29 dX12_write_22 (by decide) hF (fun hF => ?_) (fun hF => ?_)
    · refine x_aload_n C 0 0 dX12_write_29 rfl rfl ?_
      refine x_iload_n C 1 1 dX12_write_30 rfl rfl ?_
      refine x_iload_n C 2 2 dX12_write_31 rfl rfl ?_
      refine x_callVV C (wf := RW K ad rest) (As := [.int a1, .int a2]) (rest := []) dX12_write_32 ml_X12_377 rfl rfl (Nat.le_of_ble_eq_true rfl) 0 (RW_o K ad rest σ4) rfl ⟨Nat.le_of_ble_eq_true rfl, Nat.le_of_ble_eq_true rfl⟩ ⟨Nat.zero_le _, Nat.zero_le _⟩ (fun q9 hq9 => c_X12_findWrites l D K ad rest a1 a2 σ4 q9 hq9) hF (fun _ σ6 hF => ?_)
      refine x_aload_n C 0 0 dX12_write_35 rfl rfl ?_
      refine x_get C 0 dX12_write_36 fl_X12_86 (RW_o K ad rest σ6) rfl ?_
      refine x_bipush C 20 dX12_write_39 (by decide +kernel) ?_
      refine x_lald C 15 dX12_write_41 (RW_a36 K ad rest σ6) hF (fun v7 hF => ?_)
      exact x_lret C dX12_write_42 rfl (congrArg Prod.fst (Option.some.inj hF)) (congrArg (fun q9 : Int64 × xS => RW K ad rest q9.2) (Option.some.inj hF))
    · refine x_ldc2 C (-1000000000000000000) dX12_write_25 cl_X12_375 ?_
      exact x_lret C dX12_write_28 rfl (congrArg Prod.fst (Option.some.inj hF)) (congrArg (fun q9 : Int64 × xS => RW K ad rest q9.2) (Option.some.inj hF))
theorem dX12_pencil_0 : decode cX12_pencil 0 = .ok (.aload_n 0, 1) := by decide +kernel
theorem dX12_pencil_1 : decode cX12_pencil 1 = .ok (.iconst 0, 1) := by decide +kernel
theorem dX12_pencil_2 : decode cX12_pencil 2 = .ok (.putfield 107, 3) := by decide +kernel
theorem dX12_pencil_5 : decode cX12_pencil 5 = .ok (.aload_n 0, 1) := by decide +kernel
theorem dX12_pencil_6 : decode cX12_pencil 6 = .ok (.iload_n 1, 1) := by decide +kernel
theorem dX12_pencil_7 : decode cX12_pencil 7 = .ok (.invokevirtual 140, 3) := by decide +kernel
theorem dX12_pencil_10 : decode cX12_pencil 10 = .ok (.ifCond .eq 28, 3) := by decide +kernel
theorem dX12_pencil_13 : decode cX12_pencil 13 = .ok (.iload_n 2, 1) := by decide +kernel
theorem dX12_pencil_14 : decode cX12_pencil 14 = .ok (.i2l, 1) := by decide +kernel
theorem dX12_pencil_15 : decode cX12_pencil 15 = .ok (.lconst 1, 1) := by decide +kernel
theorem dX12_pencil_16 : decode cX12_pencil 16 = .ok (.ldc2_w 373, 3) := by decide +kernel
theorem dX12_pencil_19 : decode cX12_pencil 19 = .ok (.invokestatic 117, 3) := by decide +kernel
theorem dX12_pencil_22 : decode cX12_pencil 22 = .ok (.ifCond .eq 16, 3) := by decide +kernel
theorem dX12_pencil_25 : decode cX12_pencil 25 = .ok (.iload_n 3, 1) := by decide +kernel
theorem dX12_pencil_26 : decode cX12_pencil 26 = .ok (.i2l, 1) := by decide +kernel
theorem dX12_pencil_27 : decode cX12_pencil 27 = .ok (.lconst 0, 1) := by decide +kernel
theorem dX12_pencil_28 : decode cX12_pencil 28 = .ok (.iload_n 2, 1) := by decide +kernel
theorem dX12_pencil_29 : decode cX12_pencil 29 = .ok (.i2l, 1) := by decide +kernel
theorem dX12_pencil_30 : decode cX12_pencil 30 = .ok (.lconst 1, 1) := by decide +kernel
theorem dX12_pencil_31 : decode cX12_pencil 31 = .ok (.lsub, 1) := by decide +kernel
theorem dX12_pencil_32 : decode cX12_pencil 32 = .ok (.invokestatic 117, 3) := by decide +kernel
theorem dX12_pencil_35 : decode cX12_pencil 35 = .ok (.ifCond .ne 5, 3) := by decide +kernel
theorem dX12_pencil_38 : decode cX12_pencil 38 = .ok (.iconst (-1), 1) := by decide +kernel
theorem dX12_pencil_39 : decode cX12_pencil 39 = .ok (.ireturn, 1) := by decide +kernel
theorem dX12_pencil_40 : decode cX12_pencil 40 = .ok (.aload_n 0, 1) := by decide +kernel
theorem dX12_pencil_41 : decode cX12_pencil 41 = .ok (.iload_n 1, 1) := by decide +kernel
theorem dX12_pencil_42 : decode cX12_pencil 42 = .ok (.iload_n 2, 1) := by decide +kernel
theorem dX12_pencil_43 : decode cX12_pencil 43 = .ok (.invokevirtual 377, 3) := by decide +kernel
theorem dX12_pencil_46 : decode cX12_pencil 46 = .ok (.bipush 20, 2) := by decide +kernel
theorem dX12_pencil_48 : decode cX12_pencil 48 = .ok (.istore 4, 2) := by decide +kernel
theorem dX12_pencil_50 : decode cX12_pencil 50 = .ok (.iconst 0, 1) := by decide +kernel
theorem dX12_pencil_51 : decode cX12_pencil 51 = .ok (.istore 5, 2) := by decide +kernel
theorem dX12_pencil_53 : decode cX12_pencil 53 = .ok (.iload 5, 2) := by decide +kernel
theorem dX12_pencil_55 : decode cX12_pencil 55 = .ok (.iload_n 3, 1) := by decide +kernel
theorem dX12_pencil_56 : decode cX12_pencil 56 = .ok (.if_icmp .gt 24, 3) := by decide +kernel
theorem dX12_pencil_59 : decode cX12_pencil 59 = .ok (.aload_n 0, 1) := by decide +kernel
theorem dX12_pencil_60 : decode cX12_pencil 60 = .ok (.getfield 89, 3) := by decide +kernel
theorem dX12_pencil_63 : decode cX12_pencil 63 = .ok (.bipush 21, 2) := by decide +kernel
theorem dX12_pencil_65 : decode cX12_pencil 65 = .ok (.iload 5, 2) := by decide +kernel
theorem dX12_pencil_67 : decode cX12_pencil 67 = .ok (.imul, 1) := by decide +kernel
theorem dX12_pencil_68 : decode cX12_pencil 68 = .ok (.iload 4, 2) := by decide +kernel
theorem dX12_pencil_70 : decode cX12_pencil 70 = .ok (.iadd, 1) := by decide +kernel
theorem dX12_pencil_71 : decode cX12_pencil 71 = .ok (.iaload, 1) := by decide +kernel
theorem dX12_pencil_72 : decode cX12_pencil 72 = .ok (.istore 4, 2) := by decide +kernel
theorem dX12_pencil_74 : decode cX12_pencil 74 = .ok (.iinc 5 1, 3) := by decide +kernel
theorem dX12_pencil_77 : decode cX12_pencil 77 = .ok (.goto (-24), 3) := by decide +kernel
theorem dX12_pencil_80 : decode cX12_pencil 80 = .ok (.aload_n 0, 1) := by decide +kernel
theorem dX12_pencil_81 : decode cX12_pencil 81 = .ok (.iload_n 1, 1) := by decide +kernel
theorem dX12_pencil_82 : decode cX12_pencil 82 = .ok (.iload 4, 2) := by decide +kernel
theorem dX12_pencil_84 : decode cX12_pencil 84 = .ok (.invokevirtual 366, 3) := by decide +kernel
theorem dX12_pencil_87 : decode cX12_pencil 87 = .ok (.ireturn, 1) := by decide +kernel
set_option maxHeartbeats 4000000 in
set_option maxRecDepth 100000 in
theorem x_X12_pencil_53 {p : Program} {l : Launch} {e : Env} {s : State} {m : MethodId} {args : Array Value} {below : List Frame} {meth : Method} {c : Code} {D : va_G} {K : Nat → ClassId} {A : Nat → Prop} {ad : Nat → Nat} {rest : va_W} (C : xC p s m args meth c D K A RX12 cX12_pencil 6 (some .int)) (z : Int32 × xS) : ∀ (n : Nat) (y1 : Int32) (y3 : Int32) (y4 : Int32) (y5 : Int32) (σ : xS), F_X12_pencil_53  n y1 y3 y4 y5 σ = some z → X p l e (xR 7 180) s m args below meth c D A 6 (xQi below D K A args s z.1 (RW K ad rest z.2)) 0 0 53 [(0, .ref (ad 0)), (1, .int y1), (3, .int y3), (4, .int y4), (5, .int y5)] [] (RW K ad rest σ) := by
  intro n
  induction n with
  | zero =>
    intro y1 y3 y4 y5 σ hF
    cases hF
  | succ n ih =>
    intro y1 y3 y4 y5 σ hF
    rw [F_X12_pencil_53] at hF
    refine x_iload C 4 5 dX12_pencil_53 rfl ?_
    refine x_iload_n C 2 3 dX12_pencil_55 rfl rfl ?_
    refine x_icmp_gt C 80 dX12_pencil_56 (by decide) hF (fun hF => ?_) (fun hF => ?_)
    · refine x_aload_n C 0 0 dX12_pencil_80 rfl rfl ?_
      refine x_iload_n C 1 1 dX12_pencil_81 rfl rfl ?_
      refine x_iload C 3 4 dX12_pencil_82 rfl ?_
      refine x_callVI C (wf := RW K ad rest) (As := [.int y1, .int y4]) (rest := []) dX12_pencil_84 ml_X12_366 rfl rfl (Nat.le_of_ble_eq_true rfl) 0 (RW_o K ad rest σ) rfl ⟨Nat.le_of_ble_eq_true rfl, Nat.le_of_ble_eq_true rfl⟩ ⟨Nat.zero_le _, Nat.zero_le _⟩ (fun q9 hq9 => c_X12_priceAt l D K ad rest y1 y4 σ q9 hq9) hF (fun v12 σ11 hF => ?_)
      exact x_iret C dX12_pencil_87 rfl (congrArg Prod.fst (Option.some.inj hF)) (congrArg (fun q9 : Int32 × xS => RW K ad rest q9.2) (Option.some.inj hF))
    · refine x_aload_n C 0 0 dX12_pencil_59 rfl rfl ?_
      refine x_get C 0 dX12_pencil_60 fl_X12_89 (RW_o K ad rest σ) rfl ?_
      refine x_bipush C 21 dX12_pencil_63 (by decide +kernel) ?_
      refine x_iload C 4 5 dX12_pencil_65 rfl ?_
      refine x_imul C dX12_pencil_67 ?_
      refine x_iload C 3 4 dX12_pencil_68 rfl ?_
      refine x_iadd C dX12_pencil_70 ?_
      refine x_iald C 16 dX12_pencil_71 (RW_a37 K ad rest σ) hF (fun v13 hF => ?_)
      refine x_istore C [(4, .int v13), (0, .ref (ad 0)), (1, .int y1), (3, .int y3), (5, .int y5)] dX12_pencil_72 (by decide) rfl ?_
      refine x_iincN C 1 4 (fun x14 => [(5, .int x14), (4, .int v13), (0, .ref (ad 0)), (1, .int y1), (3, .int y3)]) dX12_pencil_74 rfl (by decide +kernel) (by decide) (fun _ => rfl) hF (fun x14 hF => ?_)
      refine x_goto C 53 dX12_pencil_77 (by decide) ?_
      refine x_loc [(0, .ref (ad 0)), (1, .int y1), (3, .int y3), (4, .int v13), (5, .int x14)] [2, 3, 4, 1, 0] rfl ?_
      exact ih y1 y3 v13 x14 σ hF
set_option maxHeartbeats 4000000 in
set_option maxRecDepth 100000 in
theorem c_X12_pencil (l : Launch) (D : va_G) (K : Nat → ClassId) (ad : Nat → Nat) (rest : va_W) (a1 : Int32) (a2 : Int32) (a3 : Int32) (σ : xS) (z : Int32 × xS) (hF : F_X12_pencil a1 a2 a3 σ = some z) : CI l D K yX12_pencil cX12_pencil 6 (some .int) 7 180 [.ref (ad 0), .int a1, .int a2, .int a3] (RW K ad rest σ) z.1 (RW K ad rest z.2) := by
  refine x_enterI [(0, .ref (ad 0)), (1, .int a1), (2, .int a2), (3, .int a3)] pnX12 (Nat.le_of_ble_eq_true rfl) rfl ?_
  intro p e s m args below meth c A C
  unfold F_X12_pencil at hF
  refine x_aload_n C 0 0 dX12_pencil_0 rfl rfl ?_
  refine x_iconst C 0 dX12_pencil_1 (by decide +kernel) ?_
  refine x_put C 0 dX12_pencil_2 fl_X12_107 fm_X12_0 rfl rfl (RW_o K ad rest σ) (Nat.le_of_ble_eq_true rfl) (RW_s0 K ad rest σ _) ?_
  refine x_st (wf := RW K ad rest) hF (fun σ1 hF => ?_)
  refine x_aload_n C 0 0 dX12_pencil_5 rfl rfl ?_
  refine x_iload_n C 1 1 dX12_pencil_6 rfl rfl ?_
  refine x_callVI C (wf := RW K ad rest) (As := [.int a1]) (rest := []) dX12_pencil_7 ml_X12_140 rfl rfl (Nat.le_of_ble_eq_true rfl) 0 (RW_o K ad rest σ1) rfl ⟨Nat.le_of_ble_eq_true rfl, Nat.le_of_ble_eq_true rfl⟩ ⟨Nat.zero_le _, Nat.zero_le _⟩ (fun q9 hq9 => c_X12_isBook l D K ad rest a1 σ1 q9 hq9) hF (fun v3 σ2 hF => ?_)
  refine x_if_eq C 38 dX12_pencil_10 (by decide) hF (fun hF => ?_) (fun hF => ?_)
  · refine x_iconst C (-1) dX12_pencil_38 (by decide +kernel) ?_
    exact x_iret C dX12_pencil_39 rfl (congrArg Prod.fst (Option.some.inj hF)) (congrArg (fun q9 : Int32 × xS => RW K ad rest q9.2) (Option.some.inj hF))
  · refine x_iload_n C 2 2 dX12_pencil_13 rfl rfl ?_
    refine x_i2l C dX12_pencil_14 ?_
    refine x_lconst C 1 dX12_pencil_15 (by decide +kernel) ?_
    refine x_ldc2 C 6 dX12_pencil_16 cl_X12_373 ?_
    refine x_callSI C (wf := RW K ad rest) (As := [.long (a2.toInt64), .long 1, .long 6]) (rest := []) dX12_pencil_19 ml_X12_117 rfl rfl (Nat.le_of_ble_eq_true rfl) ⟨Nat.le_of_ble_eq_true rfl, Nat.le_of_ble_eq_true rfl⟩ ⟨Nat.zero_le _, Nat.zero_le _⟩ (fun q9 hq9 => c_X12_in l D K ad rest (a2.toInt64) 1 6 σ2 q9 hq9) hF (fun v5 σ4 hF => ?_)
    refine x_if_eq C 38 dX12_pencil_22 (by decide) hF (fun hF => ?_) (fun hF => ?_)
    · refine x_iconst C (-1) dX12_pencil_38 (by decide +kernel) ?_
      exact x_iret C dX12_pencil_39 rfl (congrArg Prod.fst (Option.some.inj hF)) (congrArg (fun q9 : Int32 × xS => RW K ad rest q9.2) (Option.some.inj hF))
    · refine x_iload_n C 3 3 dX12_pencil_25 rfl rfl ?_
      refine x_i2l C dX12_pencil_26 ?_
      refine x_lconst C 0 dX12_pencil_27 (by decide +kernel) ?_
      refine x_iload_n C 2 2 dX12_pencil_28 rfl rfl ?_
      refine x_i2l C dX12_pencil_29 ?_
      refine x_lconst C 1 dX12_pencil_30 (by decide +kernel) ?_
      refine x_lsub C dX12_pencil_31 ?_
      refine x_callSI C (wf := RW K ad rest) (As := [.long (a3.toInt64), .long 0, .long ((a2.toInt64) - 1)]) (rest := []) dX12_pencil_32 ml_X12_117 rfl rfl (Nat.le_of_ble_eq_true rfl) ⟨Nat.le_of_ble_eq_true rfl, Nat.le_of_ble_eq_true rfl⟩ ⟨Nat.zero_le _, Nat.zero_le _⟩ (fun q9 hq9 => c_X12_in l D K ad rest (a3.toInt64) 0 ((a2.toInt64) - 1) σ4 q9 hq9) hF (fun v7 σ6 hF => ?_)
      refine x_if_ne C 40 dX12_pencil_35 (by decide) hF (fun hF => ?_) (fun hF => ?_)
      · refine x_aload_n C 0 0 dX12_pencil_40 rfl rfl ?_
        refine x_iload_n C 1 1 dX12_pencil_41 rfl rfl ?_
        refine x_iload_n C 2 2 dX12_pencil_42 rfl rfl ?_
        refine x_callVV C (wf := RW K ad rest) (As := [.int a1, .int a2]) (rest := []) dX12_pencil_43 ml_X12_377 rfl rfl (Nat.le_of_ble_eq_true rfl) 0 (RW_o K ad rest σ6) rfl ⟨Nat.le_of_ble_eq_true rfl, Nat.le_of_ble_eq_true rfl⟩ ⟨Nat.zero_le _, Nat.zero_le _⟩ (fun q9 hq9 => c_X12_findWrites l D K ad rest a1 a2 σ6 q9 hq9) hF (fun _ σ8 hF => ?_)
        refine x_bipush C 20 dX12_pencil_46 (by decide +kernel) ?_
        refine x_topI hF (fun x9 hF => ?_)
        refine x_istore C [(4, .int x9), (0, .ref (ad 0)), (1, .int a1), (2, .int a2), (3, .int a3)] dX12_pencil_48 (by decide) rfl ?_
        refine x_iconst C 0 dX12_pencil_50 (by decide +kernel) ?_
        refine x_topI hF (fun x10 hF => ?_)
        refine x_istore C [(5, .int x10), (4, .int x9), (0, .ref (ad 0)), (1, .int a1), (2, .int a2), (3, .int a3)] dX12_pencil_51 (by decide) rfl ?_
        refine x_loc [(0, .ref (ad 0)), (1, .int a1), (3, .int a3), (4, .int x9), (5, .int x10)] [2, 3, 5, 1, 0] rfl ?_
        exact x_X12_pencil_53 C z FU a1 a3 x9 x10 σ8 hF
      · refine x_iconst C (-1) dX12_pencil_38 (by decide +kernel) ?_
        exact x_iret C dX12_pencil_39 rfl (congrArg Prod.fst (Option.some.inj hF)) (congrArg (fun q9 : Int32 × xS => RW K ad rest q9.2) (Option.some.inj hF))
theorem dX12_stands_0 : decode cX12_stands 0 = .ok (.aload_n 0, 1) := by decide +kernel
theorem dX12_stands_1 : decode cX12_stands 1 = .ok (.iconst 0, 1) := by decide +kernel
theorem dX12_stands_2 : decode cX12_stands 2 = .ok (.putfield 107, 3) := by decide +kernel
theorem dX12_stands_5 : decode cX12_stands 5 = .ok (.aload_n 0, 1) := by decide +kernel
theorem dX12_stands_6 : decode cX12_stands 6 = .ok (.iload_n 1, 1) := by decide +kernel
theorem dX12_stands_7 : decode cX12_stands 7 = .ok (.invokevirtual 140, 3) := by decide +kernel
theorem dX12_stands_10 : decode cX12_stands 10 = .ok (.ifCond .eq 15, 3) := by decide +kernel
theorem dX12_stands_13 : decode cX12_stands 13 = .ok (.iload_n 2, 1) := by decide +kernel
theorem dX12_stands_14 : decode cX12_stands 14 = .ok (.i2l, 1) := by decide +kernel
theorem dX12_stands_15 : decode cX12_stands 15 = .ok (.lconst 0, 1) := by decide +kernel
theorem dX12_stands_16 : decode cX12_stands 16 = .ok (.ldc2_w 373, 3) := by decide +kernel
theorem dX12_stands_19 : decode cX12_stands 19 = .ok (.invokestatic 117, 3) := by decide +kernel
theorem dX12_stands_22 : decode cX12_stands 22 = .ok (.ifCond .ne 7, 3) := by decide +kernel
theorem dX12_stands_25 : decode cX12_stands 25 = .ok (.ldc2_w 375, 3) := by decide +kernel
theorem dX12_stands_28 : decode cX12_stands 28 = .ok (.lreturn, 1) := by decide +kernel
theorem dX12_stands_29 : decode cX12_stands 29 = .ok (.aload_n 0, 1) := by decide +kernel
theorem dX12_stands_30 : decode cX12_stands 30 = .ok (.iload_n 1, 1) := by decide +kernel
theorem dX12_stands_31 : decode cX12_stands 31 = .ok (.invokevirtual 348, 3) := by decide +kernel
theorem dX12_stands_34 : decode cX12_stands 34 = .ok (.lconst 1, 1) := by decide +kernel
theorem dX12_stands_35 : decode cX12_stands 35 = .ok (.lstore_n 3, 1) := by decide +kernel
theorem dX12_stands_36 : decode cX12_stands 36 = .ok (.iconst 0, 1) := by decide +kernel
theorem dX12_stands_37 : decode cX12_stands 37 = .ok (.istore 5, 2) := by decide +kernel
theorem dX12_stands_39 : decode cX12_stands 39 = .ok (.iload 5, 2) := by decide +kernel
theorem dX12_stands_41 : decode cX12_stands 41 = .ok (.iload_n 2, 1) := by decide +kernel
theorem dX12_stands_42 : decode cX12_stands 42 = .ok (.if_icmp .ge 34, 3) := by decide +kernel
theorem dX12_stands_45 : decode cX12_stands 45 = .ok (.aload_n 0, 1) := by decide +kernel
theorem dX12_stands_46 : decode cX12_stands 46 = .ok (.iload 5, 2) := by decide +kernel
theorem dX12_stands_48 : decode cX12_stands 48 = .ok (.putfield 333, 3) := by decide +kernel
theorem dX12_stands_51 : decode cX12_stands 51 = .ok (.lload_n 3, 1) := by decide +kernel
theorem dX12_stands_52 : decode cX12_stands 52 = .ok (.ldc2_w 360, 3) := by decide +kernel
theorem dX12_stands_55 : decode cX12_stands 55 = .ok (.aload_n 0, 1) := by decide +kernel
theorem dX12_stands_56 : decode cX12_stands 56 = .ok (.iload_n 1, 1) := by decide +kernel
theorem dX12_stands_57 : decode cX12_stands 57 = .ok (.aload_n 0, 1) := by decide +kernel
theorem dX12_stands_58 : decode cX12_stands 58 = .ok (.iload_n 1, 1) := by decide +kernel
theorem dX12_stands_59 : decode cX12_stands 59 = .ok (.iconst 3, 1) := by decide +kernel
theorem dX12_stands_60 : decode cX12_stands 60 = .ok (.invokevirtual 150, 3) := by decide +kernel
theorem dX12_stands_63 : decode cX12_stands 63 = .ok (.invokevirtual 351, 3) := by decide +kernel
theorem dX12_stands_66 : decode cX12_stands 66 = .ok (.i2l, 1) := by decide +kernel
theorem dX12_stands_67 : decode cX12_stands 67 = .ok (.lsub, 1) := by decide +kernel
theorem dX12_stands_68 : decode cX12_stands 68 = .ok (.lmul, 1) := by decide +kernel
theorem dX12_stands_69 : decode cX12_stands 69 = .ok (.lstore_n 3, 1) := by decide +kernel
theorem dX12_stands_70 : decode cX12_stands 70 = .ok (.iinc 5 1, 3) := by decide +kernel
theorem dX12_stands_73 : decode cX12_stands 73 = .ok (.goto (-34), 3) := by decide +kernel
theorem dX12_stands_76 : decode cX12_stands 76 = .ok (.lload_n 3, 1) := by decide +kernel
theorem dX12_stands_77 : decode cX12_stands 77 = .ok (.lreturn, 1) := by decide +kernel
set_option maxHeartbeats 4000000 in
set_option maxRecDepth 100000 in
theorem x_X12_stands_39 {p : Program} {l : Launch} {e : Env} {s : State} {m : MethodId} {args : Array Value} {below : List Frame} {meth : Method} {c : Code} {D : va_G} {K : Nat → ClassId} {A : Nat → Prop} {ad : Nat → Nat} {rest : va_W} (C : xC p s m args meth c D K A RX12 cX12_stands 6 (some .long)) (z : Int64 × xS) : ∀ (n : Nat) (y1 : Int32) (y2 : Int32) (y3 : Int64) (y5 : Int32) (σ : xS), F_X12_stands_39  n y1 y2 y3 y5 σ = some z → X p l e (xR 5 124) s m args below meth c D A 6 (xQl below D K A args s z.1 (RW K ad rest z.2)) 0 0 39 [(0, .ref (ad 0)), (1, .int y1), (2, .int y2), (3, .long y3), (5, .int y5)] [] (RW K ad rest σ) := by
  intro n
  induction n with
  | zero =>
    intro y1 y2 y3 y5 σ hF
    cases hF
  | succ n ih =>
    intro y1 y2 y3 y5 σ hF
    rw [F_X12_stands_39] at hF
    refine x_iload C 4 5 dX12_stands_39 rfl ?_
    refine x_iload_n C 2 2 dX12_stands_41 rfl rfl ?_
    refine x_icmp_ge C 76 dX12_stands_42 (by decide) hF (fun hF => ?_) (fun hF => ?_)
    · refine x_lload_n C 3 3 dX12_stands_76 rfl rfl ?_
      exact x_lret C dX12_stands_77 rfl (congrArg Prod.fst (Option.some.inj hF)) (congrArg (fun q9 : Int64 × xS => RW K ad rest q9.2) (Option.some.inj hF))
    · refine x_aload_n C 0 0 dX12_stands_45 rfl rfl ?_
      refine x_iload C 4 5 dX12_stands_46 rfl ?_
      refine x_put C 0 dX12_stands_48 fl_X12_333 fm_X12_34 rfl rfl (RW_o K ad rest σ) (Nat.le_of_ble_eq_true rfl) (RW_s34 K ad rest σ _) ?_
      refine x_st (wf := RW K ad rest) hF (fun σ9 hF => ?_)
      refine x_lload_n C 3 3 dX12_stands_51 rfl rfl ?_
      refine x_ldc2 C 100 dX12_stands_52 cl_X12_360 ?_
      refine x_aload_n C 0 0 dX12_stands_55 rfl rfl ?_
      refine x_iload_n C 1 1 dX12_stands_56 rfl rfl ?_
      refine x_aload_n C 0 0 dX12_stands_57 rfl rfl ?_
      refine x_iload_n C 1 1 dX12_stands_58 rfl rfl ?_
      refine x_iconst C 3 dX12_stands_59 (by decide +kernel) ?_
      refine x_callVI C (wf := RW K ad rest) (As := [.int y1, .int 3]) (rest := [.int y1, .ref (ad 0), .long 100, .long y3]) dX12_stands_60 ml_X12_150 rfl rfl (Nat.le_of_ble_eq_true rfl) 0 (RW_o K ad rest σ9) rfl ⟨Nat.le_of_ble_eq_true rfl, Nat.le_of_ble_eq_true rfl⟩ ⟨Nat.zero_le _, Nat.zero_le _⟩ (fun q9 hq9 => c_X12_ofBook l D K ad rest y1 3 σ9 q9 hq9) hF (fun v11 σ10 hF => ?_)
      refine x_callVI C (wf := RW K ad rest) (As := [.int y1, .int v11]) (rest := [.long 100, .long y3]) dX12_stands_63 ml_X12_351 rfl rfl (Nat.le_of_ble_eq_true rfl) 0 (RW_o K ad rest σ10) rfl ⟨Nat.le_of_ble_eq_true rfl, Nat.le_of_ble_eq_true rfl⟩ ⟨Nat.zero_le _, Nat.zero_le _⟩ (fun q9 hq9 => c_X12_sells l D K ad rest y1 v11 σ10 q9 hq9) hF (fun v13 σ12 hF => ?_)
      refine x_i2l C dX12_stands_66 ?_
      refine x_lsub C dX12_stands_67 ?_
      refine x_lmul C dX12_stands_68 ?_
      refine x_topL hF (fun x14 hF => ?_)
      refine x_lstore_n C [(3, .long x14), (0, .ref (ad 0)), (1, .int y1), (2, .int y2), (5, .int y5)] dX12_stands_69 rfl (by decide) rfl ?_
      refine x_iincN C 1 4 (fun x15 => [(5, .int x15), (3, .long x14), (0, .ref (ad 0)), (1, .int y1), (2, .int y2)]) dX12_stands_70 rfl (by decide +kernel) (by decide) (fun _ => rfl) hF (fun x15 hF => ?_)
      refine x_goto C 39 dX12_stands_73 (by decide) ?_
      refine x_loc [(0, .ref (ad 0)), (1, .int y1), (2, .int y2), (3, .long x14), (5, .int x15)] [2, 3, 4, 1, 0] rfl ?_
      exact ih y1 y2 x14 x15 σ12 hF
set_option maxHeartbeats 4000000 in
set_option maxRecDepth 100000 in
theorem c_X12_stands (l : Launch) (D : va_G) (K : Nat → ClassId) (ad : Nat → Nat) (rest : va_W) (a1 : Int32) (a2 : Int32) (σ : xS) (z : Int64 × xS) (hF : F_X12_stands a1 a2 σ = some z) : CL l D K yX12_stands cX12_stands 6 (some .long) 5 124 [.ref (ad 0), .int a1, .int a2] (RW K ad rest σ) z.1 (RW K ad rest z.2) := by
  refine x_enterL [(0, .ref (ad 0)), (1, .int a1), (2, .int a2)] pnX12 (Nat.le_of_ble_eq_true rfl) rfl ?_
  intro p e s m args below meth c A C
  unfold F_X12_stands at hF
  refine x_aload_n C 0 0 dX12_stands_0 rfl rfl ?_
  refine x_iconst C 0 dX12_stands_1 (by decide +kernel) ?_
  refine x_put C 0 dX12_stands_2 fl_X12_107 fm_X12_0 rfl rfl (RW_o K ad rest σ) (Nat.le_of_ble_eq_true rfl) (RW_s0 K ad rest σ _) ?_
  refine x_st (wf := RW K ad rest) hF (fun σ1 hF => ?_)
  refine x_aload_n C 0 0 dX12_stands_5 rfl rfl ?_
  refine x_iload_n C 1 1 dX12_stands_6 rfl rfl ?_
  refine x_callVI C (wf := RW K ad rest) (As := [.int a1]) (rest := []) dX12_stands_7 ml_X12_140 rfl rfl (Nat.le_of_ble_eq_true rfl) 0 (RW_o K ad rest σ1) rfl ⟨Nat.le_of_ble_eq_true rfl, Nat.le_of_ble_eq_true rfl⟩ ⟨Nat.zero_le _, Nat.zero_le _⟩ (fun q9 hq9 => c_X12_isBook l D K ad rest a1 σ1 q9 hq9) hF (fun v3 σ2 hF => ?_)
  refine x_if_eq C 25 dX12_stands_10 (by decide) hF (fun hF => ?_) (fun hF => ?_)
  · refine x_ldc2 C (-1000000000000000000) dX12_stands_25 cl_X12_375 ?_
    exact x_lret C dX12_stands_28 rfl (congrArg Prod.fst (Option.some.inj hF)) (congrArg (fun q9 : Int64 × xS => RW K ad rest q9.2) (Option.some.inj hF))
  · refine x_iload_n C 2 2 dX12_stands_13 rfl rfl ?_
    refine x_i2l C dX12_stands_14 ?_
    refine x_lconst C 0 dX12_stands_15 (by decide +kernel) ?_
    refine x_ldc2 C 6 dX12_stands_16 cl_X12_373 ?_
    refine x_callSI C (wf := RW K ad rest) (As := [.long (a2.toInt64), .long 0, .long 6]) (rest := []) dX12_stands_19 ml_X12_117 rfl rfl (Nat.le_of_ble_eq_true rfl) ⟨Nat.le_of_ble_eq_true rfl, Nat.le_of_ble_eq_true rfl⟩ ⟨Nat.zero_le _, Nat.zero_le _⟩ (fun q9 hq9 => c_X12_in l D K ad rest (a2.toInt64) 0 6 σ2 q9 hq9) hF (fun v5 σ4 hF => ?_)
    refine x_if_ne C 29 dX12_stands_22 (by decide) hF (fun hF => ?_) (fun hF => ?_)
    · refine x_aload_n C 0 0 dX12_stands_29 rfl rfl ?_
      refine x_iload_n C 1 1 dX12_stands_30 rfl rfl ?_
      refine x_callVV C (wf := RW K ad rest) (As := [.int a1]) (rest := []) dX12_stands_31 ml_X12_348 rfl rfl (Nat.le_of_ble_eq_true rfl) 0 (RW_o K ad rest σ4) rfl ⟨Nat.le_of_ble_eq_true rfl, Nat.le_of_ble_eq_true rfl⟩ ⟨Nat.zero_le _, Nat.zero_le _⟩ (fun q9 hq9 => c_X12_asTold l D K ad rest a1 σ4 q9 hq9) hF (fun _ σ6 hF => ?_)
      refine x_lconst C 1 dX12_stands_34 (by decide +kernel) ?_
      refine x_topL hF (fun x7 hF => ?_)
      refine x_lstore_n C [(3, .long x7), (0, .ref (ad 0)), (1, .int a1), (2, .int a2)] dX12_stands_35 rfl (by decide) rfl ?_
      refine x_iconst C 0 dX12_stands_36 (by decide +kernel) ?_
      refine x_topI hF (fun x8 hF => ?_)
      refine x_istore C [(5, .int x8), (3, .long x7), (0, .ref (ad 0)), (1, .int a1), (2, .int a2)] dX12_stands_37 (by decide) rfl ?_
      refine x_loc [(0, .ref (ad 0)), (1, .int a1), (2, .int a2), (3, .long x7), (5, .int x8)] [2, 3, 4, 1, 0] rfl ?_
      exact x_X12_stands_39 C z FU a1 a2 x7 x8 σ6 hF
    · refine x_ldc2 C (-1000000000000000000) dX12_stands_25 cl_X12_375 ?_
      exact x_lret C dX12_stands_28 rfl (congrArg Prod.fst (Option.some.inj hF)) (congrArg (fun q9 : Int64 × xS => RW K ad rest q9.2) (Option.some.inj hF))
theorem dX12_box_0 : decode cX12_box 0 = .ok (.aload_n 0, 1) := by decide +kernel
theorem dX12_box_1 : decode cX12_box 1 = .ok (.iconst 0, 1) := by decide +kernel
theorem dX12_box_2 : decode cX12_box 2 = .ok (.putfield 107, 3) := by decide +kernel
theorem dX12_box_5 : decode cX12_box 5 = .ok (.iload_n 1, 1) := by decide +kernel
theorem dX12_box_6 : decode cX12_box 6 = .ok (.i2l, 1) := by decide +kernel
theorem dX12_box_7 : decode cX12_box 7 = .ok (.lconst 1, 1) := by decide +kernel
theorem dX12_box_8 : decode cX12_box 8 = .ok (.ldc2_w 227, 3) := by decide +kernel
theorem dX12_box_11 : decode cX12_box 11 = .ok (.invokestatic 117, 3) := by decide +kernel
theorem dX12_box_14 : decode cX12_box 14 = .ok (.ifCond .eq 26, 3) := by decide +kernel
theorem dX12_box_17 : decode cX12_box 17 = .ok (.iload_n 2, 1) := by decide +kernel
theorem dX12_box_18 : decode cX12_box 18 = .ok (.i2l, 1) := by decide +kernel
theorem dX12_box_19 : decode cX12_box 19 = .ok (.lconst 0, 1) := by decide +kernel
theorem dX12_box_20 : decode cX12_box 20 = .ok (.iload_n 1, 1) := by decide +kernel
theorem dX12_box_21 : decode cX12_box 21 = .ok (.i2l, 1) := by decide +kernel
theorem dX12_box_22 : decode cX12_box 22 = .ok (.invokestatic 117, 3) := by decide +kernel
theorem dX12_box_25 : decode cX12_box 25 = .ok (.ifCond .eq 15, 3) := by decide +kernel
theorem dX12_box_28 : decode cX12_box 28 = .ok (.iload_n 3, 1) := by decide +kernel
theorem dX12_box_29 : decode cX12_box 29 = .ok (.i2l, 1) := by decide +kernel
theorem dX12_box_30 : decode cX12_box 30 = .ok (.lconst 0, 1) := by decide +kernel
theorem dX12_box_31 : decode cX12_box 31 = .ok (.ldc2_w 380, 3) := by decide +kernel
theorem dX12_box_34 : decode cX12_box 34 = .ok (.invokestatic 117, 3) := by decide +kernel
theorem dX12_box_37 : decode cX12_box 37 = .ok (.ifCond .ne 9, 3) := by decide +kernel
theorem dX12_box_40 : decode cX12_box 40 = .ok (.aload_n 0, 1) := by decide +kernel
theorem dX12_box_41 : decode cX12_box 41 = .ok (.iconst (-1), 1) := by decide +kernel
theorem dX12_box_42 : decode cX12_box 42 = .ok (.invokevirtual 121, 3) := by decide +kernel
theorem dX12_box_45 : decode cX12_box 45 = .ok (.ireturn, 1) := by decide +kernel
theorem dX12_box_46 : decode cX12_box 46 = .ok (.aload_n 0, 1) := by decide +kernel
theorem dX12_box_47 : decode cX12_box 47 = .ok (.getfield 13, 3) := by decide +kernel
theorem dX12_box_50 : decode cX12_box 50 = .ok (.iconst 3, 1) := by decide +kernel
theorem dX12_box_51 : decode cX12_box 51 = .ok (.iaload, 1) := by decide +kernel
theorem dX12_box_52 : decode cX12_box 52 = .ok (.istore 4, 2) := by decide +kernel
theorem dX12_box_54 : decode cX12_box 54 = .ok (.iload 4, 2) := by decide +kernel
theorem dX12_box_56 : decode cX12_box 56 = .ok (.bipush 12, 2) := by decide +kernel
theorem dX12_box_58 : decode cX12_box 58 = .ok (.if_icmp .ne 10, 3) := by decide +kernel
theorem dX12_box_61 : decode cX12_box 61 = .ok (.aload_n 0, 1) := by decide +kernel
theorem dX12_box_62 : decode cX12_box 62 = .ok (.bipush (-5), 2) := by decide +kernel
theorem dX12_box_64 : decode cX12_box 64 = .ok (.invokevirtual 121, 3) := by decide +kernel
theorem dX12_box_67 : decode cX12_box 67 = .ok (.ireturn, 1) := by decide +kernel
theorem dX12_box_68 : decode cX12_box 68 = .ok (.aload_n 0, 1) := by decide +kernel
theorem dX12_box_69 : decode cX12_box 69 = .ok (.getfield 13, 3) := by decide +kernel
theorem dX12_box_72 : decode cX12_box 72 = .ok (.bipush 63, 2) := by decide +kernel
theorem dX12_box_74 : decode cX12_box 74 = .ok (.iconst 3, 1) := by decide +kernel
theorem dX12_box_75 : decode cX12_box 75 = .ok (.iload 4, 2) := by decide +kernel
theorem dX12_box_77 : decode cX12_box 77 = .ok (.imul, 1) := by decide +kernel
theorem dX12_box_78 : decode cX12_box 78 = .ok (.iadd, 1) := by decide +kernel
theorem dX12_box_79 : decode cX12_box 79 = .ok (.iload_n 1, 1) := by decide +kernel
theorem dX12_box_80 : decode cX12_box 80 = .ok (.iastore, 1) := by decide +kernel
theorem dX12_box_81 : decode cX12_box 81 = .ok (.aload_n 0, 1) := by decide +kernel
theorem dX12_box_82 : decode cX12_box 82 = .ok (.getfield 13, 3) := by decide +kernel
theorem dX12_box_85 : decode cX12_box 85 = .ok (.bipush 63, 2) := by decide +kernel
theorem dX12_box_87 : decode cX12_box 87 = .ok (.iconst 3, 1) := by decide +kernel
theorem dX12_box_88 : decode cX12_box 88 = .ok (.iload 4, 2) := by decide +kernel
theorem dX12_box_90 : decode cX12_box 90 = .ok (.imul, 1) := by decide +kernel
theorem dX12_box_91 : decode cX12_box 91 = .ok (.iadd, 1) := by decide +kernel
theorem dX12_box_92 : decode cX12_box 92 = .ok (.iconst 1, 1) := by decide +kernel
theorem dX12_box_93 : decode cX12_box 93 = .ok (.iadd, 1) := by decide +kernel
theorem dX12_box_94 : decode cX12_box 94 = .ok (.iload_n 2, 1) := by decide +kernel
theorem dX12_box_95 : decode cX12_box 95 = .ok (.iastore, 1) := by decide +kernel
theorem dX12_box_96 : decode cX12_box 96 = .ok (.aload_n 0, 1) := by decide +kernel
theorem dX12_box_97 : decode cX12_box 97 = .ok (.getfield 13, 3) := by decide +kernel
theorem dX12_box_100 : decode cX12_box 100 = .ok (.bipush 63, 2) := by decide +kernel
theorem dX12_box_102 : decode cX12_box 102 = .ok (.iconst 3, 1) := by decide +kernel
theorem dX12_box_103 : decode cX12_box 103 = .ok (.iload 4, 2) := by decide +kernel
theorem dX12_box_105 : decode cX12_box 105 = .ok (.imul, 1) := by decide +kernel
theorem dX12_box_106 : decode cX12_box 106 = .ok (.iadd, 1) := by decide +kernel
theorem dX12_box_107 : decode cX12_box 107 = .ok (.iconst 2, 1) := by decide +kernel
theorem dX12_box_108 : decode cX12_box 108 = .ok (.iadd, 1) := by decide +kernel
theorem dX12_box_109 : decode cX12_box 109 = .ok (.iload_n 3, 1) := by decide +kernel
theorem dX12_box_110 : decode cX12_box 110 = .ok (.iastore, 1) := by decide +kernel
theorem dX12_box_111 : decode cX12_box 111 = .ok (.aload_n 0, 1) := by decide +kernel
theorem dX12_box_112 : decode cX12_box 112 = .ok (.getfield 13, 3) := by decide +kernel
theorem dX12_box_115 : decode cX12_box 115 = .ok (.iconst 3, 1) := by decide +kernel
theorem dX12_box_116 : decode cX12_box 116 = .ok (.dup2, 1) := by decide +kernel
theorem dX12_box_117 : decode cX12_box 117 = .ok (.iaload, 1) := by decide +kernel
theorem dX12_box_118 : decode cX12_box 118 = .ok (.iconst 1, 1) := by decide +kernel
theorem dX12_box_119 : decode cX12_box 119 = .ok (.iadd, 1) := by decide +kernel
theorem dX12_box_120 : decode cX12_box 120 = .ok (.iastore, 1) := by decide +kernel
theorem dX12_box_121 : decode cX12_box 121 = .ok (.aload_n 0, 1) := by decide +kernel
theorem dX12_box_122 : decode cX12_box 122 = .ok (.iload 4, 2) := by decide +kernel
theorem dX12_box_124 : decode cX12_box 124 = .ok (.iconst 1, 1) := by decide +kernel
theorem dX12_box_125 : decode cX12_box 125 = .ok (.iadd, 1) := by decide +kernel
theorem dX12_box_126 : decode cX12_box 126 = .ok (.invokevirtual 121, 3) := by decide +kernel
theorem dX12_box_129 : decode cX12_box 129 = .ok (.ireturn, 1) := by decide +kernel
set_option maxHeartbeats 4000000 in
set_option maxRecDepth 100000 in
theorem x_X12_box_40 {p : Program} {l : Launch} {e : Env} {s : State} {m : MethodId} {args : Array Value} {below : List Frame} {meth : Method} {c : Code} {D : va_G} {K : Nat → ClassId} {A : Nat → Prop} {ad : Nat → Nat} {rest : va_W} (C : xC p s m args meth c D K A RX12 cX12_box 5 (some .int)) (z : Int32 × xS) : ∀  (σ : xS), F_X12_box_40  σ = some z → X p l e (xR 1 25) s m args below meth c D A 5 (xQi below D K A args s z.1 (RW K ad rest z.2)) 0 0 40 [(0, .ref (ad 0))] [] (RW K ad rest σ) := by
  intro σ hF
  unfold F_X12_box_40 at hF
  refine x_aload_n C 0 0 dX12_box_40 rfl rfl ?_
  refine x_iconst C (-1) dX12_box_41 (by decide +kernel) ?_
  refine x_callVI C (wf := RW K ad rest) (As := [.int ((-1))]) (rest := []) dX12_box_42 ml_X12_121 rfl rfl (Nat.le_of_ble_eq_true rfl) 0 (RW_o K ad rest σ) rfl ⟨Nat.le_of_ble_eq_true rfl, Nat.le_of_ble_eq_true rfl⟩ ⟨Nat.zero_le _, Nat.zero_le _⟩ (fun q9 hq9 => c_X12_tell l D K ad rest ((-1)) σ q9 hq9) hF (fun v19 σ18 hF => ?_)
  exact x_iret C dX12_box_45 rfl (congrArg Prod.fst (Option.some.inj hF)) (congrArg (fun q9 : Int32 × xS => RW K ad rest q9.2) (Option.some.inj hF))
set_option maxHeartbeats 4000000 in
set_option maxRecDepth 100000 in
theorem c_X12_box (l : Launch) (D : va_G) (K : Nat → ClassId) (ad : Nat → Nat) (rest : va_W) (a1 : Int32) (a2 : Int32) (a3 : Int32) (σ : xS) (z : Int32 × xS) (hF : F_X12_box a1 a2 a3 σ = some z) : CI l D K yX12_box cX12_box 5 (some .int) 1 25 [.ref (ad 0), .int a1, .int a2, .int a3] (RW K ad rest σ) z.1 (RW K ad rest z.2) := by
  refine x_enterI [(0, .ref (ad 0)), (1, .int a1), (2, .int a2), (3, .int a3)] pnX12 (Nat.le_of_ble_eq_true rfl) rfl ?_
  intro p e s m args below meth c A C
  unfold F_X12_box at hF
  refine x_aload_n C 0 0 dX12_box_0 rfl rfl ?_
  refine x_iconst C 0 dX12_box_1 (by decide +kernel) ?_
  refine x_put C 0 dX12_box_2 fl_X12_107 fm_X12_0 rfl rfl (RW_o K ad rest σ) (Nat.le_of_ble_eq_true rfl) (RW_s0 K ad rest σ _) ?_
  refine x_st (wf := RW K ad rest) hF (fun σ1 hF => ?_)
  refine x_iload_n C 1 1 dX12_box_5 rfl rfl ?_
  refine x_i2l C dX12_box_6 ?_
  refine x_lconst C 1 dX12_box_7 (by decide +kernel) ?_
  refine x_ldc2 C 20 dX12_box_8 cl_X12_227 ?_
  refine x_callSI C (wf := RW K ad rest) (As := [.long (a1.toInt64), .long 1, .long 20]) (rest := []) dX12_box_11 ml_X12_117 rfl rfl (Nat.le_of_ble_eq_true rfl) ⟨Nat.le_of_ble_eq_true rfl, Nat.le_of_ble_eq_true rfl⟩ ⟨Nat.zero_le _, Nat.zero_le _⟩ (fun q9 hq9 => c_X12_in l D K ad rest (a1.toInt64) 1 20 σ1 q9 hq9) hF (fun v3 σ2 hF => ?_)
  refine x_if_eq C 40 dX12_box_14 (by decide) hF (fun hF => ?_) (fun hF => ?_)
  · refine x_loc [(0, .ref (ad 0))] [0] rfl ?_
    exact x_X12_box_40 C z σ2 hF
  · refine x_iload_n C 2 2 dX12_box_17 rfl rfl ?_
    refine x_i2l C dX12_box_18 ?_
    refine x_lconst C 0 dX12_box_19 (by decide +kernel) ?_
    refine x_iload_n C 1 1 dX12_box_20 rfl rfl ?_
    refine x_i2l C dX12_box_21 ?_
    refine x_callSI C (wf := RW K ad rest) (As := [.long (a2.toInt64), .long 0, .long (a1.toInt64)]) (rest := []) dX12_box_22 ml_X12_117 rfl rfl (Nat.le_of_ble_eq_true rfl) ⟨Nat.le_of_ble_eq_true rfl, Nat.le_of_ble_eq_true rfl⟩ ⟨Nat.zero_le _, Nat.zero_le _⟩ (fun q9 hq9 => c_X12_in l D K ad rest (a2.toInt64) 0 (a1.toInt64) σ2 q9 hq9) hF (fun v5 σ4 hF => ?_)
    refine x_if_eq C 40 dX12_box_25 (by decide) hF (fun hF => ?_) (fun hF => ?_)
    · refine x_loc [(0, .ref (ad 0))] [0] rfl ?_
      exact x_X12_box_40 C z σ4 hF
    · refine x_iload_n C 3 3 dX12_box_28 rfl rfl ?_
      refine x_i2l C dX12_box_29 ?_
      refine x_lconst C 0 dX12_box_30 (by decide +kernel) ?_
      refine x_ldc2 C 9999 dX12_box_31 cl_X12_380 ?_
      refine x_callSI C (wf := RW K ad rest) (As := [.long (a3.toInt64), .long 0, .long 9999]) (rest := []) dX12_box_34 ml_X12_117 rfl rfl (Nat.le_of_ble_eq_true rfl) ⟨Nat.le_of_ble_eq_true rfl, Nat.le_of_ble_eq_true rfl⟩ ⟨Nat.zero_le _, Nat.zero_le _⟩ (fun q9 hq9 => c_X12_in l D K ad rest (a3.toInt64) 0 9999 σ4 q9 hq9) hF (fun v7 σ6 hF => ?_)
      refine x_if_ne C 46 dX12_box_37 (by decide) hF (fun hF => ?_) (fun hF => ?_)
      · refine x_aload_n C 0 0 dX12_box_46 rfl rfl ?_
        refine x_get C 0 dX12_box_47 fl_X12_13 (RW_o K ad rest σ6) rfl ?_
        refine x_iconst C 3 dX12_box_50 (by decide +kernel) ?_
        refine x_iald C 2 dX12_box_51 (RW_a3 K ad rest σ6) hF (fun v8 hF => ?_)
        refine x_istore C [(4, .int v8), (0, .ref (ad 0)), (1, .int a1), (2, .int a2), (3, .int a3)] dX12_box_52 (by decide) rfl ?_
        refine x_iload C 0 4 dX12_box_54 rfl ?_
        refine x_bipush C 12 dX12_box_56 (by decide +kernel) ?_
        refine x_icmp_ne C 68 dX12_box_58 (by decide) hF (fun hF => ?_) (fun hF => ?_)
        · refine x_aload_n C 1 0 dX12_box_68 rfl rfl ?_
          refine x_get C 0 dX12_box_69 fl_X12_13 (RW_o K ad rest σ6) rfl ?_
          refine x_bipush C 63 dX12_box_72 (by decide +kernel) ?_
          refine x_iconst C 3 dX12_box_74 (by decide +kernel) ?_
          refine x_iload C 0 4 dX12_box_75 rfl ?_
          refine x_imul C dX12_box_77 ?_
          refine x_iadd C dX12_box_78 ?_
          refine x_iload_n C 2 1 dX12_box_79 rfl rfl ?_
          refine x_iast C 2 dX12_box_80 (RW_a3 K ad rest σ6) hF (RW_s3 K ad rest σ6 _) (fun hF => ?_)
          refine x_st (wf := RW K ad rest) hF (fun σ9 hF => ?_)
          refine x_aload_n C 1 0 dX12_box_81 rfl rfl ?_
          refine x_get C 0 dX12_box_82 fl_X12_13 (RW_o K ad rest σ9) rfl ?_
          refine x_bipush C 63 dX12_box_85 (by decide +kernel) ?_
          refine x_iconst C 3 dX12_box_87 (by decide +kernel) ?_
          refine x_iload C 0 4 dX12_box_88 rfl ?_
          refine x_imul C dX12_box_90 ?_
          refine x_iadd C dX12_box_91 ?_
          refine x_iconst C 1 dX12_box_92 (by decide +kernel) ?_
          refine x_iadd C dX12_box_93 ?_
          refine x_iload_n C 3 2 dX12_box_94 rfl rfl ?_
          refine x_iast C 2 dX12_box_95 (RW_a3 K ad rest σ9) hF (RW_s3 K ad rest σ9 _) (fun hF => ?_)
          refine x_st (wf := RW K ad rest) hF (fun σ10 hF => ?_)
          refine x_aload_n C 1 0 dX12_box_96 rfl rfl ?_
          refine x_get C 0 dX12_box_97 fl_X12_13 (RW_o K ad rest σ10) rfl ?_
          refine x_bipush C 63 dX12_box_100 (by decide +kernel) ?_
          refine x_iconst C 3 dX12_box_102 (by decide +kernel) ?_
          refine x_iload C 0 4 dX12_box_103 rfl ?_
          refine x_imul C dX12_box_105 ?_
          refine x_iadd C dX12_box_106 ?_
          refine x_iconst C 2 dX12_box_107 (by decide +kernel) ?_
          refine x_iadd C dX12_box_108 ?_
          refine x_iload_n C 4 3 dX12_box_109 rfl rfl ?_
          refine x_iast C 2 dX12_box_110 (RW_a3 K ad rest σ10) hF (RW_s3 K ad rest σ10 _) (fun hF => ?_)
          refine x_st (wf := RW K ad rest) hF (fun σ11 hF => ?_)
          refine x_aload_n C 1 0 dX12_box_111 rfl rfl ?_
          refine x_get C 0 dX12_box_112 fl_X12_13 (RW_o K ad rest σ11) rfl ?_
          refine x_iconst C 3 dX12_box_115 (by decide +kernel) ?_
          refine x_dup2 C rfl rfl dX12_box_116 ?_
          refine x_iald C 2 dX12_box_117 (RW_a3 K ad rest σ11) hF (fun v12 hF => ?_)
          refine x_iconst C 1 dX12_box_118 (by decide +kernel) ?_
          refine x_iadd C dX12_box_119 ?_
          refine x_iast C 2 dX12_box_120 (RW_a3 K ad rest σ11) hF (RW_s3 K ad rest σ11 _) (fun hF => ?_)
          refine x_st (wf := RW K ad rest) hF (fun σ13 hF => ?_)
          refine x_aload_n C 1 0 dX12_box_121 rfl rfl ?_
          refine x_iload C 0 4 dX12_box_122 rfl ?_
          refine x_iconst C 1 dX12_box_124 (by decide +kernel) ?_
          refine x_iadd C dX12_box_125 ?_
          refine x_callVI C (wf := RW K ad rest) (As := [.int (v8 + 1)]) (rest := []) dX12_box_126 ml_X12_121 rfl rfl (Nat.le_of_ble_eq_true rfl) 0 (RW_o K ad rest σ13) rfl ⟨Nat.le_of_ble_eq_true rfl, Nat.le_of_ble_eq_true rfl⟩ ⟨Nat.zero_le _, Nat.zero_le _⟩ (fun q9 hq9 => c_X12_tell l D K ad rest (v8 + 1) σ13 q9 hq9) hF (fun v15 σ14 hF => ?_)
          exact x_iret C dX12_box_129 rfl (congrArg Prod.fst (Option.some.inj hF)) (congrArg (fun q9 : Int32 × xS => RW K ad rest q9.2) (Option.some.inj hF))
        · refine x_aload_n C 1 0 dX12_box_61 rfl rfl ?_
          refine x_bipush C (-5) dX12_box_62 (by decide +kernel) ?_
          refine x_callVI C (wf := RW K ad rest) (As := [.int ((-5))]) (rest := []) dX12_box_64 ml_X12_121 rfl rfl (Nat.le_of_ble_eq_true rfl) 0 (RW_o K ad rest σ6) rfl ⟨Nat.le_of_ble_eq_true rfl, Nat.le_of_ble_eq_true rfl⟩ ⟨Nat.zero_le _, Nat.zero_le _⟩ (fun q9 hq9 => c_X12_tell l D K ad rest ((-5)) σ6 q9 hq9) hF (fun v17 σ16 hF => ?_)
          exact x_iret C dX12_box_67 rfl (congrArg Prod.fst (Option.some.inj hF)) (congrArg (fun q9 : Int32 × xS => RW K ad rest q9.2) (Option.some.inj hF))
      · refine x_loc [(0, .ref (ad 0))] [0] rfl ?_
        exact x_X12_box_40 C z σ6 hF
theorem dX12_unbox_0 : decode cX12_unbox 0 = .ok (.aload_n 0, 1) := by decide +kernel
theorem dX12_unbox_1 : decode cX12_unbox 1 = .ok (.iconst 0, 1) := by decide +kernel
theorem dX12_unbox_2 : decode cX12_unbox 2 = .ok (.putfield 107, 3) := by decide +kernel
theorem dX12_unbox_5 : decode cX12_unbox 5 = .ok (.iload_n 1, 1) := by decide +kernel
theorem dX12_unbox_6 : decode cX12_unbox 6 = .ok (.i2l, 1) := by decide +kernel
theorem dX12_unbox_7 : decode cX12_unbox 7 = .ok (.lconst 0, 1) := by decide +kernel
theorem dX12_unbox_8 : decode cX12_unbox 8 = .ok (.aload_n 0, 1) := by decide +kernel
theorem dX12_unbox_9 : decode cX12_unbox 9 = .ok (.getfield 13, 3) := by decide +kernel
theorem dX12_unbox_12 : decode cX12_unbox 12 = .ok (.iconst 3, 1) := by decide +kernel
theorem dX12_unbox_13 : decode cX12_unbox 13 = .ok (.iaload, 1) := by decide +kernel
theorem dX12_unbox_14 : decode cX12_unbox 14 = .ok (.i2l, 1) := by decide +kernel
theorem dX12_unbox_15 : decode cX12_unbox 15 = .ok (.lconst 1, 1) := by decide +kernel
theorem dX12_unbox_16 : decode cX12_unbox 16 = .ok (.lsub, 1) := by decide +kernel
theorem dX12_unbox_17 : decode cX12_unbox 17 = .ok (.invokestatic 117, 3) := by decide +kernel
theorem dX12_unbox_20 : decode cX12_unbox 20 = .ok (.ifCond .ne 10, 3) := by decide +kernel
theorem dX12_unbox_23 : decode cX12_unbox 23 = .ok (.aload_n 0, 1) := by decide +kernel
theorem dX12_unbox_24 : decode cX12_unbox 24 = .ok (.bipush (-2), 2) := by decide +kernel
theorem dX12_unbox_26 : decode cX12_unbox 26 = .ok (.invokevirtual 121, 3) := by decide +kernel
theorem dX12_unbox_29 : decode cX12_unbox 29 = .ok (.ireturn, 1) := by decide +kernel
theorem dX12_unbox_30 : decode cX12_unbox 30 = .ok (.aload_n 0, 1) := by decide +kernel
theorem dX12_unbox_31 : decode cX12_unbox 31 = .ok (.bipush 63, 2) := by decide +kernel
theorem dX12_unbox_33 : decode cX12_unbox 33 = .ok (.iconst 3, 1) := by decide +kernel
theorem dX12_unbox_34 : decode cX12_unbox 34 = .ok (.iload_n 1, 1) := by decide +kernel
theorem dX12_unbox_35 : decode cX12_unbox 35 = .ok (.aload_n 0, 1) := by decide +kernel
theorem dX12_unbox_36 : decode cX12_unbox 36 = .ok (.getfield 13, 3) := by decide +kernel
theorem dX12_unbox_39 : decode cX12_unbox 39 = .ok (.iconst 3, 1) := by decide +kernel
theorem dX12_unbox_40 : decode cX12_unbox 40 = .ok (.iaload, 1) := by decide +kernel
theorem dX12_unbox_41 : decode cX12_unbox 41 = .ok (.invokevirtual 153, 3) := by decide +kernel
theorem dX12_unbox_44 : decode cX12_unbox 44 = .ok (.aload_n 0, 1) := by decide +kernel
theorem dX12_unbox_45 : decode cX12_unbox 45 = .ok (.getfield 13, 3) := by decide +kernel
theorem dX12_unbox_48 : decode cX12_unbox 48 = .ok (.iconst 3, 1) := by decide +kernel
theorem dX12_unbox_49 : decode cX12_unbox 49 = .ok (.dup2, 1) := by decide +kernel
theorem dX12_unbox_50 : decode cX12_unbox 50 = .ok (.iaload, 1) := by decide +kernel
theorem dX12_unbox_51 : decode cX12_unbox 51 = .ok (.iconst 1, 1) := by decide +kernel
theorem dX12_unbox_52 : decode cX12_unbox 52 = .ok (.isub, 1) := by decide +kernel
theorem dX12_unbox_53 : decode cX12_unbox 53 = .ok (.iastore, 1) := by decide +kernel
theorem dX12_unbox_54 : decode cX12_unbox 54 = .ok (.aload_n 0, 1) := by decide +kernel
theorem dX12_unbox_55 : decode cX12_unbox 55 = .ok (.aload_n 0, 1) := by decide +kernel
theorem dX12_unbox_56 : decode cX12_unbox 56 = .ok (.getfield 13, 3) := by decide +kernel
theorem dX12_unbox_59 : decode cX12_unbox 59 = .ok (.iconst 3, 1) := by decide +kernel
theorem dX12_unbox_60 : decode cX12_unbox 60 = .ok (.iaload, 1) := by decide +kernel
theorem dX12_unbox_61 : decode cX12_unbox 61 = .ok (.invokevirtual 121, 3) := by decide +kernel
theorem dX12_unbox_64 : decode cX12_unbox 64 = .ok (.ireturn, 1) := by decide +kernel
set_option maxHeartbeats 4000000 in
set_option maxRecDepth 100000 in
theorem c_X12_unbox (l : Launch) (D : va_G) (K : Nat → ClassId) (ad : Nat → Nat) (rest : va_W) (a1 : Int32) (σ : xS) (z : Int32 × xS) (hF : F_X12_unbox a1 σ = some z) : CI l D K yX12_unbox cX12_unbox 2 (some .int) 1 25 [.ref (ad 0), .int a1] (RW K ad rest σ) z.1 (RW K ad rest z.2) := by
  refine x_enterI [(0, .ref (ad 0)), (1, .int a1)] pnX12 (Nat.le_of_ble_eq_true rfl) rfl ?_
  intro p e s m args below meth c A C
  unfold F_X12_unbox at hF
  refine x_aload_n C 0 0 dX12_unbox_0 rfl rfl ?_
  refine x_iconst C 0 dX12_unbox_1 (by decide +kernel) ?_
  refine x_put C 0 dX12_unbox_2 fl_X12_107 fm_X12_0 rfl rfl (RW_o K ad rest σ) (Nat.le_of_ble_eq_true rfl) (RW_s0 K ad rest σ _) ?_
  refine x_st (wf := RW K ad rest) hF (fun σ1 hF => ?_)
  refine x_iload_n C 1 1 dX12_unbox_5 rfl rfl ?_
  refine x_i2l C dX12_unbox_6 ?_
  refine x_lconst C 0 dX12_unbox_7 (by decide +kernel) ?_
  refine x_aload_n C 0 0 dX12_unbox_8 rfl rfl ?_
  refine x_get C 0 dX12_unbox_9 fl_X12_13 (RW_o K ad rest σ1) rfl ?_
  refine x_iconst C 3 dX12_unbox_12 (by decide +kernel) ?_
  refine x_iald C 2 dX12_unbox_13 (RW_a3 K ad rest σ1) hF (fun v2 hF => ?_)
  refine x_i2l C dX12_unbox_14 ?_
  refine x_lconst C 1 dX12_unbox_15 (by decide +kernel) ?_
  refine x_lsub C dX12_unbox_16 ?_
  refine x_callSI C (wf := RW K ad rest) (As := [.long (a1.toInt64), .long 0, .long ((v2.toInt64) - 1)]) (rest := []) dX12_unbox_17 ml_X12_117 rfl rfl (Nat.le_of_ble_eq_true rfl) ⟨Nat.le_of_ble_eq_true rfl, Nat.le_of_ble_eq_true rfl⟩ ⟨Nat.zero_le _, Nat.zero_le _⟩ (fun q9 hq9 => c_X12_in l D K ad rest (a1.toInt64) 0 ((v2.toInt64) - 1) σ1 q9 hq9) hF (fun v4 σ3 hF => ?_)
  refine x_if_ne C 30 dX12_unbox_20 (by decide) hF (fun hF => ?_) (fun hF => ?_)
  · refine x_aload_n C 0 0 dX12_unbox_30 rfl rfl ?_
    refine x_bipush C 63 dX12_unbox_31 (by decide +kernel) ?_
    refine x_iconst C 3 dX12_unbox_33 (by decide +kernel) ?_
    refine x_iload_n C 1 1 dX12_unbox_34 rfl rfl ?_
    refine x_aload_n C 0 0 dX12_unbox_35 rfl rfl ?_
    refine x_get C 0 dX12_unbox_36 fl_X12_13 (RW_o K ad rest σ3) rfl ?_
    refine x_iconst C 3 dX12_unbox_39 (by decide +kernel) ?_
    refine x_iald C 2 dX12_unbox_40 (RW_a3 K ad rest σ3) hF (fun v5 hF => ?_)
    refine x_callVV C (wf := RW K ad rest) (As := [.int 63, .int 3, .int a1, .int v5]) (rest := []) dX12_unbox_41 ml_X12_153 rfl rfl (Nat.le_of_ble_eq_true rfl) 0 (RW_o K ad rest σ3) rfl ⟨Nat.le_of_ble_eq_true rfl, Nat.le_of_ble_eq_true rfl⟩ ⟨Nat.zero_le _, Nat.zero_le _⟩ (fun q9 hq9 => c_X12_out l D K ad rest 63 3 a1 v5 σ3 q9 hq9) hF (fun _ σ6 hF => ?_)
    refine x_aload_n C 0 0 dX12_unbox_44 rfl rfl ?_
    refine x_get C 0 dX12_unbox_45 fl_X12_13 (RW_o K ad rest σ6) rfl ?_
    refine x_iconst C 3 dX12_unbox_48 (by decide +kernel) ?_
    refine x_dup2 C rfl rfl dX12_unbox_49 ?_
    refine x_iald C 2 dX12_unbox_50 (RW_a3 K ad rest σ6) hF (fun v7 hF => ?_)
    refine x_iconst C 1 dX12_unbox_51 (by decide +kernel) ?_
    refine x_isub C dX12_unbox_52 ?_
    refine x_iast C 2 dX12_unbox_53 (RW_a3 K ad rest σ6) hF (RW_s3 K ad rest σ6 _) (fun hF => ?_)
    refine x_st (wf := RW K ad rest) hF (fun σ8 hF => ?_)
    refine x_aload_n C 0 0 dX12_unbox_54 rfl rfl ?_
    refine x_aload_n C 0 0 dX12_unbox_55 rfl rfl ?_
    refine x_get C 0 dX12_unbox_56 fl_X12_13 (RW_o K ad rest σ8) rfl ?_
    refine x_iconst C 3 dX12_unbox_59 (by decide +kernel) ?_
    refine x_iald C 2 dX12_unbox_60 (RW_a3 K ad rest σ8) hF (fun v9 hF => ?_)
    refine x_callVI C (wf := RW K ad rest) (As := [.int v9]) (rest := []) dX12_unbox_61 ml_X12_121 rfl rfl (Nat.le_of_ble_eq_true rfl) 0 (RW_o K ad rest σ8) rfl ⟨Nat.le_of_ble_eq_true rfl, Nat.le_of_ble_eq_true rfl⟩ ⟨Nat.zero_le _, Nat.zero_le _⟩ (fun q9 hq9 => c_X12_tell l D K ad rest v9 σ8 q9 hq9) hF (fun v11 σ10 hF => ?_)
    exact x_iret C dX12_unbox_64 rfl (congrArg Prod.fst (Option.some.inj hF)) (congrArg (fun q9 : Int32 × xS => RW K ad rest q9.2) (Option.some.inj hF))
  · refine x_aload_n C 0 0 dX12_unbox_23 rfl rfl ?_
    refine x_bipush C (-2) dX12_unbox_24 (by decide +kernel) ?_
    refine x_callVI C (wf := RW K ad rest) (As := [.int ((-2))]) (rest := []) dX12_unbox_26 ml_X12_121 rfl rfl (Nat.le_of_ble_eq_true rfl) 0 (RW_o K ad rest σ3) rfl ⟨Nat.le_of_ble_eq_true rfl, Nat.le_of_ble_eq_true rfl⟩ ⟨Nat.zero_le _, Nat.zero_le _⟩ (fun q9 hq9 => c_X12_tell l D K ad rest ((-2)) σ3 q9 hq9) hF (fun v13 σ12 hF => ?_)
    exact x_iret C dX12_unbox_29 rfl (congrArg Prod.fst (Option.some.inj hF)) (congrArg (fun q9 : Int32 × xS => RW K ad rest q9.2) (Option.some.inj hF))
theorem dX12_choose_0 : decode cX12_choose 0 = .ok (.iload_n 1, 1) := by decide +kernel
theorem dX12_choose_1 : decode cX12_choose 1 = .ok (.ifCond .lt 8, 3) := by decide +kernel
theorem dX12_choose_4 : decode cX12_choose 4 = .ok (.iload_n 1, 1) := by decide +kernel
theorem dX12_choose_5 : decode cX12_choose 5 = .ok (.iload_n 0, 1) := by decide +kernel
theorem dX12_choose_6 : decode cX12_choose 6 = .ok (.if_icmp .le 5, 3) := by decide +kernel
theorem dX12_choose_9 : decode cX12_choose 9 = .ok (.lconst 0, 1) := by decide +kernel
theorem dX12_choose_10 : decode cX12_choose 10 = .ok (.lreturn, 1) := by decide +kernel
theorem dX12_choose_11 : decode cX12_choose 11 = .ok (.lconst 1, 1) := by decide +kernel
theorem dX12_choose_12 : decode cX12_choose 12 = .ok (.lstore_n 2, 1) := by decide +kernel
theorem dX12_choose_13 : decode cX12_choose 13 = .ok (.iconst 1, 1) := by decide +kernel
theorem dX12_choose_14 : decode cX12_choose 14 = .ok (.istore 4, 2) := by decide +kernel
theorem dX12_choose_16 : decode cX12_choose 16 = .ok (.iload 4, 2) := by decide +kernel
theorem dX12_choose_18 : decode cX12_choose 18 = .ok (.iload_n 1, 1) := by decide +kernel
theorem dX12_choose_19 : decode cX12_choose 19 = .ok (.if_icmp .gt 23, 3) := by decide +kernel
theorem dX12_choose_22 : decode cX12_choose 22 = .ok (.lload_n 2, 1) := by decide +kernel
theorem dX12_choose_23 : decode cX12_choose 23 = .ok (.iload_n 0, 1) := by decide +kernel
theorem dX12_choose_24 : decode cX12_choose 24 = .ok (.iload_n 1, 1) := by decide +kernel
theorem dX12_choose_25 : decode cX12_choose 25 = .ok (.isub, 1) := by decide +kernel
theorem dX12_choose_26 : decode cX12_choose 26 = .ok (.iload 4, 2) := by decide +kernel
theorem dX12_choose_28 : decode cX12_choose 28 = .ok (.iadd, 1) := by decide +kernel
theorem dX12_choose_29 : decode cX12_choose 29 = .ok (.i2l, 1) := by decide +kernel
theorem dX12_choose_30 : decode cX12_choose 30 = .ok (.lmul, 1) := by decide +kernel
theorem dX12_choose_31 : decode cX12_choose 31 = .ok (.iload 4, 2) := by decide +kernel
theorem dX12_choose_33 : decode cX12_choose 33 = .ok (.i2l, 1) := by decide +kernel
theorem dX12_choose_34 : decode cX12_choose 34 = .ok (.ldiv, 1) := by decide +kernel
theorem dX12_choose_35 : decode cX12_choose 35 = .ok (.lstore_n 2, 1) := by decide +kernel
theorem dX12_choose_36 : decode cX12_choose 36 = .ok (.iinc 4 1, 3) := by decide +kernel
theorem dX12_choose_39 : decode cX12_choose 39 = .ok (.goto (-23), 3) := by decide +kernel
theorem dX12_choose_42 : decode cX12_choose 42 = .ok (.lload_n 2, 1) := by decide +kernel
theorem dX12_choose_43 : decode cX12_choose 43 = .ok (.lreturn, 1) := by decide +kernel
set_option maxHeartbeats 4000000 in
set_option maxRecDepth 100000 in
theorem x_X12_choose_16 {p : Program} {l : Launch} {e : Env} {s : State} {m : MethodId} {args : Array Value} {below : List Frame} {meth : Method} {c : Code} {D : va_G} {K : Nat → ClassId} {A : Nat → Prop} {ad : Nat → Nat} {rest : va_W} (C : xC p s m args meth c D K A RX12 cX12_choose 5 (some .long)) (z : Int64 × xS) : ∀ (n : Nat) (y0 : Int32) (y1 : Int32) (y2 : Int64) (y4 : Int32) (σ : xS), F_X12_choose_16  n y0 y1 y2 y4 σ = some z → X p l e (xR 0 0) s m args below meth c D A 5 (xQl below D K A args s z.1 (RW K ad rest z.2)) 0 0 16 [(0, .int y0), (1, .int y1), (2, .long y2), (4, .int y4)] [] (RW K ad rest σ) := by
  intro n
  induction n with
  | zero =>
    intro y0 y1 y2 y4 σ hF
    cases hF
  | succ n ih =>
    intro y0 y1 y2 y4 σ hF
    rw [F_X12_choose_16] at hF
    refine x_iload C 3 4 dX12_choose_16 rfl ?_
    refine x_iload_n C 1 1 dX12_choose_18 rfl rfl ?_
    refine x_icmp_gt C 42 dX12_choose_19 (by decide) hF (fun hF => ?_) (fun hF => ?_)
    · refine x_lload_n C 2 2 dX12_choose_42 rfl rfl ?_
      exact x_lret C dX12_choose_43 rfl (congrArg Prod.fst (Option.some.inj hF)) (congrArg (fun q9 : Int64 × xS => RW K ad rest q9.2) (Option.some.inj hF))
    · refine x_lload_n C 2 2 dX12_choose_22 rfl rfl ?_
      refine x_iload_n C 0 0 dX12_choose_23 rfl rfl ?_
      refine x_iload_n C 1 1 dX12_choose_24 rfl rfl ?_
      refine x_isub C dX12_choose_25 ?_
      refine x_iload C 3 4 dX12_choose_26 rfl ?_
      refine x_iadd C dX12_choose_28 ?_
      refine x_i2l C dX12_choose_29 ?_
      refine x_lmul C dX12_choose_30 ?_
      refine x_iload C 3 4 dX12_choose_31 rfl ?_
      refine x_i2l C dX12_choose_33 ?_
      refine x_ldiv C dX12_choose_34 hF (fun hF => ?_)
      refine x_topL hF (fun x3 hF => ?_)
      refine x_lstore_n C [(2, .long x3), (0, .int y0), (1, .int y1), (4, .int y4)] dX12_choose_35 rfl (by decide) rfl ?_
      refine x_iincN C 1 3 (fun x4 => [(4, .int x4), (2, .long x3), (0, .int y0), (1, .int y1)]) dX12_choose_36 rfl (by decide +kernel) (by decide) (fun _ => rfl) hF (fun x4 hF => ?_)
      refine x_goto C 16 dX12_choose_39 (by decide) ?_
      refine x_loc [(0, .int y0), (1, .int y1), (2, .long x3), (4, .int x4)] [2, 3, 1, 0] rfl ?_
      exact ih y0 y1 x3 x4 σ hF
set_option maxHeartbeats 4000000 in
set_option maxRecDepth 100000 in
theorem c_X12_choose (l : Launch) (D : va_G) (K : Nat → ClassId) (ad : Nat → Nat) (rest : va_W) (a1 : Int32) (a2 : Int32) (σ : xS) (z : Int64 × xS) (hF : F_X12_choose a1 a2 σ = some z) : CL l D K yX12_choose cX12_choose 5 (some .long) 0 0 [.int a1, .int a2] (RW K ad rest σ) z.1 (RW K ad rest z.2) := by
  refine x_enterL [(0, .int a1), (1, .int a2)] pnX12 (Nat.le_of_ble_eq_true rfl) rfl ?_
  intro p e s m args below meth c A C
  unfold F_X12_choose at hF
  refine x_iload_n C 1 1 dX12_choose_0 rfl rfl ?_
  refine x_if_lt C 9 dX12_choose_1 (by decide) hF (fun hF => ?_) (fun hF => ?_)
  · refine x_lconst C 0 dX12_choose_9 (by decide +kernel) ?_
    exact x_lret C dX12_choose_10 rfl (congrArg Prod.fst (Option.some.inj hF)) (congrArg (fun q9 : Int64 × xS => RW K ad rest q9.2) (Option.some.inj hF))
  · refine x_iload_n C 1 1 dX12_choose_4 rfl rfl ?_
    refine x_iload_n C 0 0 dX12_choose_5 rfl rfl ?_
    refine x_icmp_le C 11 dX12_choose_6 (by decide) hF (fun hF => ?_) (fun hF => ?_)
    · refine x_lconst C 1 dX12_choose_11 (by decide +kernel) ?_
      refine x_topL hF (fun x1 hF => ?_)
      refine x_lstore_n C [(2, .long x1), (0, .int a1), (1, .int a2)] dX12_choose_12 rfl (by decide) rfl ?_
      refine x_iconst C 1 dX12_choose_13 (by decide +kernel) ?_
      refine x_topI hF (fun x2 hF => ?_)
      refine x_istore C [(4, .int x2), (2, .long x1), (0, .int a1), (1, .int a2)] dX12_choose_14 (by decide) rfl ?_
      refine x_loc [(0, .int a1), (1, .int a2), (2, .long x1), (4, .int x2)] [2, 3, 1, 0] rfl ?_
      exact x_X12_choose_16 C z FU a1 a2 x1 x2 σ hF
    · refine x_lconst C 0 dX12_choose_9 (by decide +kernel) ?_
      exact x_lret C dX12_choose_10 rfl (congrArg Prod.fst (Option.some.inj hF)) (congrArg (fun q9 : Int64 × xS => RW K ad rest q9.2) (Option.some.inj hF))
theorem dX12_common_0 : decode cX12_common 0 = .ok (.lload_n 0, 1) := by decide +kernel
theorem dX12_common_1 : decode cX12_common 1 = .ok (.lconst 0, 1) := by decide +kernel
theorem dX12_common_2 : decode cX12_common 2 = .ok (.lcmp, 1) := by decide +kernel
theorem dX12_common_3 : decode cX12_common 3 = .ok (.ifCond .ge 8, 3) := by decide +kernel
theorem dX12_common_6 : decode cX12_common 6 = .ok (.lload_n 0, 1) := by decide +kernel
theorem dX12_common_7 : decode cX12_common 7 = .ok (.lneg, 1) := by decide +kernel
theorem dX12_common_8 : decode cX12_common 8 = .ok (.goto 4, 3) := by decide +kernel
theorem dX12_common_11 : decode cX12_common 11 = .ok (.lload_n 0, 1) := by decide +kernel
theorem dX12_common_12 : decode cX12_common 12 = .ok (.lstore 4, 2) := by decide +kernel
theorem dX12_common_14 : decode cX12_common 14 = .ok (.lload_n 2, 1) := by decide +kernel
theorem dX12_common_15 : decode cX12_common 15 = .ok (.lstore 6, 2) := by decide +kernel
theorem dX12_common_17 : decode cX12_common 17 = .ok (.lload 6, 2) := by decide +kernel
theorem dX12_common_19 : decode cX12_common 19 = .ok (.lconst 0, 1) := by decide +kernel
theorem dX12_common_20 : decode cX12_common 20 = .ok (.lcmp, 1) := by decide +kernel
theorem dX12_common_21 : decode cX12_common 21 = .ok (.ifCond .eq 21, 3) := by decide +kernel
theorem dX12_common_24 : decode cX12_common 24 = .ok (.lload 4, 2) := by decide +kernel
theorem dX12_common_26 : decode cX12_common 26 = .ok (.lload 6, 2) := by decide +kernel
theorem dX12_common_28 : decode cX12_common 28 = .ok (.lrem, 1) := by decide +kernel
theorem dX12_common_29 : decode cX12_common 29 = .ok (.lstore 8, 2) := by decide +kernel
theorem dX12_common_31 : decode cX12_common 31 = .ok (.lload 6, 2) := by decide +kernel
theorem dX12_common_33 : decode cX12_common 33 = .ok (.lstore 4, 2) := by decide +kernel
theorem dX12_common_35 : decode cX12_common 35 = .ok (.lload 8, 2) := by decide +kernel
theorem dX12_common_37 : decode cX12_common 37 = .ok (.lstore 6, 2) := by decide +kernel
theorem dX12_common_39 : decode cX12_common 39 = .ok (.goto (-22), 3) := by decide +kernel
theorem dX12_common_42 : decode cX12_common 42 = .ok (.lload 4, 2) := by decide +kernel
theorem dX12_common_44 : decode cX12_common 44 = .ok (.lreturn, 1) := by decide +kernel
set_option maxHeartbeats 4000000 in
set_option maxRecDepth 100000 in
theorem x_X12_common_17 {p : Program} {l : Launch} {e : Env} {s : State} {m : MethodId} {args : Array Value} {below : List Frame} {meth : Method} {c : Code} {D : va_G} {K : Nat → ClassId} {A : Nat → Prop} {ad : Nat → Nat} {rest : va_W} (C : xC p s m args meth c D K A RX12 cX12_common 10 (some .long)) (z : Int64 × xS) : ∀ (n : Nat) (y4 : Int64) (y6 : Int64) (σ : xS), F_X12_common_17  n y4 y6 σ = some z → X p l e (xR 0 0) s m args below meth c D A 10 (xQl below D K A args s z.1 (RW K ad rest z.2)) 0 0 17 [(4, .long y4), (6, .long y6)] [] (RW K ad rest σ) := by
  intro n
  induction n with
  | zero =>
    intro y4 y6 σ hF
    cases hF
  | succ n ih =>
    intro y4 y6 σ hF
    rw [F_X12_common_17] at hF
    refine x_lload C 1 6 dX12_common_17 rfl ?_
    refine x_lconst C 0 dX12_common_19 (by decide +kernel) ?_
    refine x_lcmp C dX12_common_20 ?_
    refine x_if_eq C 42 dX12_common_21 (by decide) hF (fun hF => ?_) (fun hF => ?_)
    · refine x_lload C 0 4 dX12_common_42 rfl ?_
      exact x_lret C dX12_common_44 rfl (congrArg Prod.fst (Option.some.inj hF)) (congrArg (fun q9 : Int64 × xS => RW K ad rest q9.2) (Option.some.inj hF))
    · refine x_lload C 0 4 dX12_common_24 rfl ?_
      refine x_lload C 1 6 dX12_common_26 rfl ?_
      refine x_lrem C dX12_common_28 hF (fun hF => ?_)
      refine x_topL hF (fun x2 hF => ?_)
      refine x_lstore C [(8, .long x2), (4, .long y4), (6, .long y6)] dX12_common_29 (by decide) rfl ?_
      refine x_lload C 2 6 dX12_common_31 rfl ?_
      refine x_lstore C [(4, .long y6), (8, .long x2), (6, .long y6)] dX12_common_33 (by decide) rfl ?_
      refine x_lload C 1 8 dX12_common_35 rfl ?_
      refine x_lstore C [(6, .long x2), (4, .long y6), (8, .long x2)] dX12_common_37 (by decide) rfl ?_
      refine x_goto C 17 dX12_common_39 (by decide) ?_
      refine x_loc [(4, .long y6), (6, .long x2)] [1, 0] rfl ?_
      exact ih y6 x2 σ hF
set_option maxHeartbeats 4000000 in
set_option maxRecDepth 100000 in
theorem c_X12_common (l : Launch) (D : va_G) (K : Nat → ClassId) (ad : Nat → Nat) (rest : va_W) (a1 : Int64) (a2 : Int64) (σ : xS) (z : Int64 × xS) (hF : F_X12_common a1 a2 σ = some z) : CL l D K yX12_common cX12_common 10 (some .long) 0 0 [.long a1, .long a2] (RW K ad rest σ) z.1 (RW K ad rest z.2) := by
  refine x_enterL [(0, .long a1), (2, .long a2)] pnX12 (Nat.le_of_ble_eq_true rfl) rfl ?_
  intro p e s m args below meth c A C
  unfold F_X12_common at hF
  refine x_lload_n C 0 0 dX12_common_0 rfl rfl ?_
  refine x_lconst C 0 dX12_common_1 (by decide +kernel) ?_
  refine x_lcmp C dX12_common_2 ?_
  refine x_if_ge C 11 dX12_common_3 (by decide) hF (fun hF => ?_) (fun hF => ?_)
  · refine x_lload_n C 0 0 dX12_common_11 rfl rfl ?_
    refine x_lstore C [(4, .long a1), (0, .long a1), (2, .long a2)] dX12_common_12 (by decide) rfl ?_
    refine x_lload_n C 2 2 dX12_common_14 rfl rfl ?_
    refine x_lstore C [(6, .long a2), (4, .long a1), (0, .long a1), (2, .long a2)] dX12_common_15 (by decide) rfl ?_
    refine x_loc [(4, .long a1), (6, .long a2)] [1, 0] rfl ?_
    exact x_X12_common_17 C z FU a1 a2 σ hF
  · refine x_lload_n C 0 0 dX12_common_6 rfl rfl ?_
    refine x_lneg C dX12_common_7 ?_
    refine x_goto C 12 dX12_common_8 (by decide) ?_
    refine x_topL hF (fun x1 hF => ?_)
    refine x_lstore C [(4, .long x1), (0, .long a1), (2, .long a2)] dX12_common_12 (by decide) rfl ?_
    refine x_lload_n C 2 2 dX12_common_14 rfl rfl ?_
    refine x_lstore C [(6, .long a2), (4, .long x1), (0, .long a1), (2, .long a2)] dX12_common_15 (by decide) rfl ?_
    refine x_loc [(4, .long x1), (6, .long a2)] [1, 0] rfl ?_
    exact x_X12_common_17 C z FU x1 a2 σ hF
theorem dX12_showing_0 : decode cX12_showing 0 = .ok (.aload_n 0, 1) := by decide +kernel
theorem dX12_showing_1 : decode cX12_showing 1 = .ok (.getfield 13, 3) := by decide +kernel
theorem dX12_showing_4 : decode cX12_showing 4 = .ok (.bipush 63, 2) := by decide +kernel
theorem dX12_showing_6 : decode cX12_showing 6 = .ok (.iconst 3, 1) := by decide +kernel
theorem dX12_showing_7 : decode cX12_showing 7 = .ok (.iload_n 1, 1) := by decide +kernel
theorem dX12_showing_8 : decode cX12_showing 8 = .ok (.imul, 1) := by decide +kernel
theorem dX12_showing_9 : decode cX12_showing 9 = .ok (.iadd, 1) := by decide +kernel
theorem dX12_showing_10 : decode cX12_showing 10 = .ok (.iconst 1, 1) := by decide +kernel
theorem dX12_showing_11 : decode cX12_showing 11 = .ok (.iadd, 1) := by decide +kernel
theorem dX12_showing_12 : decode cX12_showing 12 = .ok (.iaload, 1) := by decide +kernel
theorem dX12_showing_13 : decode cX12_showing 13 = .ok (.istore 5, 2) := by decide +kernel
theorem dX12_showing_15 : decode cX12_showing 15 = .ok (.aload_n 0, 1) := by decide +kernel
theorem dX12_showing_16 : decode cX12_showing 16 = .ok (.getfield 13, 3) := by decide +kernel
theorem dX12_showing_19 : decode cX12_showing 19 = .ok (.bipush 63, 2) := by decide +kernel
theorem dX12_showing_21 : decode cX12_showing 21 = .ok (.iconst 3, 1) := by decide +kernel
theorem dX12_showing_22 : decode cX12_showing 22 = .ok (.iload_n 1, 1) := by decide +kernel
theorem dX12_showing_23 : decode cX12_showing 23 = .ok (.imul, 1) := by decide +kernel
theorem dX12_showing_24 : decode cX12_showing 24 = .ok (.iadd, 1) := by decide +kernel
theorem dX12_showing_25 : decode cX12_showing 25 = .ok (.iaload, 1) := by decide +kernel
theorem dX12_showing_26 : decode cX12_showing 26 = .ok (.iload_n 2, 1) := by decide +kernel
theorem dX12_showing_27 : decode cX12_showing 27 = .ok (.if_icmp .eq 7, 3) := by decide +kernel
theorem dX12_showing_30 : decode cX12_showing 30 = .ok (.lconst 0, 1) := by decide +kernel
theorem dX12_showing_31 : decode cX12_showing 31 = .ok (.goto 22, 3) := by decide +kernel
theorem dX12_showing_34 : decode cX12_showing 34 = .ok (.iload 5, 2) := by decide +kernel
theorem dX12_showing_36 : decode cX12_showing 36 = .ok (.iload 4, 2) := by decide +kernel
theorem dX12_showing_38 : decode cX12_showing 38 = .ok (.invokestatic 382, 3) := by decide +kernel
theorem dX12_showing_41 : decode cX12_showing 41 = .ok (.iload_n 2, 1) := by decide +kernel
theorem dX12_showing_42 : decode cX12_showing 42 = .ok (.iload 5, 2) := by decide +kernel
theorem dX12_showing_44 : decode cX12_showing 44 = .ok (.isub, 1) := by decide +kernel
theorem dX12_showing_45 : decode cX12_showing 45 = .ok (.iload_n 3, 1) := by decide +kernel
theorem dX12_showing_46 : decode cX12_showing 46 = .ok (.iload 4, 2) := by decide +kernel
theorem dX12_showing_48 : decode cX12_showing 48 = .ok (.isub, 1) := by decide +kernel
theorem dX12_showing_49 : decode cX12_showing 49 = .ok (.invokestatic 382, 3) := by decide +kernel
theorem dX12_showing_52 : decode cX12_showing 52 = .ok (.lmul, 1) := by decide +kernel
theorem dX12_showing_53 : decode cX12_showing 53 = .ok (.lreturn, 1) := by decide +kernel
set_option maxHeartbeats 4000000 in
set_option maxRecDepth 100000 in
theorem c_X12_showing (l : Launch) (D : va_G) (K : Nat → ClassId) (ad : Nat → Nat) (rest : va_W) (a1 : Int32) (a2 : Int32) (a3 : Int32) (a4 : Int32) (σ : xS) (z : Int64 × xS) (hF : F_X12_showing a1 a2 a3 a4 σ = some z) : CL l D K yX12_showing cX12_showing 6 (some .long) 1 24 [.ref (ad 0), .int a1, .int a2, .int a3, .int a4] (RW K ad rest σ) z.1 (RW K ad rest z.2) := by
  refine x_enterL [(0, .ref (ad 0)), (1, .int a1), (2, .int a2), (3, .int a3), (4, .int a4)] pnX12 (Nat.le_of_ble_eq_true rfl) rfl ?_
  intro p e s m args below meth c A C
  unfold F_X12_showing at hF
  refine x_aload_n C 0 0 dX12_showing_0 rfl rfl ?_
  refine x_get C 0 dX12_showing_1 fl_X12_13 (RW_o K ad rest σ) rfl ?_
  refine x_bipush C 63 dX12_showing_4 (by decide +kernel) ?_
  refine x_iconst C 3 dX12_showing_6 (by decide +kernel) ?_
  refine x_iload_n C 1 1 dX12_showing_7 rfl rfl ?_
  refine x_imul C dX12_showing_8 ?_
  refine x_iadd C dX12_showing_9 ?_
  refine x_iconst C 1 dX12_showing_10 (by decide +kernel) ?_
  refine x_iadd C dX12_showing_11 ?_
  refine x_iald C 2 dX12_showing_12 (RW_a3 K ad rest σ) hF (fun v1 hF => ?_)
  refine x_istore C [(5, .int v1), (0, .ref (ad 0)), (1, .int a1), (2, .int a2), (3, .int a3), (4, .int a4)] dX12_showing_13 (by decide) rfl ?_
  refine x_aload_n C 1 0 dX12_showing_15 rfl rfl ?_
  refine x_get C 0 dX12_showing_16 fl_X12_13 (RW_o K ad rest σ) rfl ?_
  refine x_bipush C 63 dX12_showing_19 (by decide +kernel) ?_
  refine x_iconst C 3 dX12_showing_21 (by decide +kernel) ?_
  refine x_iload_n C 2 1 dX12_showing_22 rfl rfl ?_
  refine x_imul C dX12_showing_23 ?_
  refine x_iadd C dX12_showing_24 ?_
  refine x_iald C 2 dX12_showing_25 (RW_a3 K ad rest σ) hF (fun v2 hF => ?_)
  refine x_iload_n C 3 2 dX12_showing_26 rfl rfl ?_
  refine x_icmp_eq C 34 dX12_showing_27 (by decide) hF (fun hF => ?_) (fun hF => ?_)
  · refine x_iload C 0 5 dX12_showing_34 rfl ?_
    refine x_iload C 5 4 dX12_showing_36 rfl ?_
    refine x_callSL C (wf := RW K ad rest) (As := [.int v1, .int a4]) (rest := []) dX12_showing_38 ml_X12_382 rfl rfl (Nat.le_of_ble_eq_true rfl) ⟨Nat.le_of_ble_eq_true rfl, Nat.le_of_ble_eq_true rfl⟩ ⟨Nat.zero_le _, Nat.zero_le _⟩ (fun q9 hq9 => c_X12_choose l D K ad rest v1 a4 σ q9 hq9) hF (fun v4 σ3 hF => ?_)
    refine x_iload_n C 3 2 dX12_showing_41 rfl rfl ?_
    refine x_iload C 0 5 dX12_showing_42 rfl ?_
    refine x_isub C dX12_showing_44 ?_
    refine x_iload_n C 4 3 dX12_showing_45 rfl rfl ?_
    refine x_iload C 5 4 dX12_showing_46 rfl ?_
    refine x_isub C dX12_showing_48 ?_
    refine x_callSL C (wf := RW K ad rest) (As := [.int (a2 - v1), .int (a3 - a4)]) (rest := [.long v4]) dX12_showing_49 ml_X12_382 rfl rfl (Nat.le_of_ble_eq_true rfl) ⟨Nat.le_of_ble_eq_true rfl, Nat.le_of_ble_eq_true rfl⟩ ⟨Nat.zero_le _, Nat.zero_le _⟩ (fun q9 hq9 => c_X12_choose l D K ad rest (a2 - v1) (a3 - a4) σ3 q9 hq9) hF (fun v6 σ5 hF => ?_)
    refine x_lmul C dX12_showing_52 ?_
    exact x_lret C dX12_showing_53 rfl (congrArg Prod.fst (Option.some.inj hF)) (congrArg (fun q9 : Int64 × xS => RW K ad rest q9.2) (Option.some.inj hF))
  · refine x_lconst C 0 dX12_showing_30 (by decide +kernel) ?_
    refine x_goto C 53 dX12_showing_31 (by decide) ?_
    exact x_lret C dX12_showing_53 rfl (congrArg Prod.fst (Option.some.inj hF)) (congrArg (fun q9 : Int64 × xS => RW K ad rest q9.2) (Option.some.inj hF))
theorem dX12_isGlance_0 : decode cX12_isGlance 0 = .ok (.iload_n 0, 1) := by decide +kernel
theorem dX12_isGlance_1 : decode cX12_isGlance 1 = .ok (.i2l, 1) := by decide +kernel
theorem dX12_isGlance_2 : decode cX12_isGlance 2 = .ok (.lconst 1, 1) := by decide +kernel
theorem dX12_isGlance_3 : decode cX12_isGlance 3 = .ok (.ldc2_w 227, 3) := by decide +kernel
theorem dX12_isGlance_6 : decode cX12_isGlance 6 = .ok (.invokestatic 117, 3) := by decide +kernel
theorem dX12_isGlance_9 : decode cX12_isGlance 9 = .ok (.ifCond .eq 39, 3) := by decide +kernel
theorem dX12_isGlance_12 : decode cX12_isGlance 12 = .ok (.iload_n 1, 1) := by decide +kernel
theorem dX12_isGlance_13 : decode cX12_isGlance 13 = .ok (.i2l, 1) := by decide +kernel
theorem dX12_isGlance_14 : decode cX12_isGlance 14 = .ok (.lconst 0, 1) := by decide +kernel
theorem dX12_isGlance_15 : decode cX12_isGlance 15 = .ok (.iload_n 0, 1) := by decide +kernel
theorem dX12_isGlance_16 : decode cX12_isGlance 16 = .ok (.i2l, 1) := by decide +kernel
theorem dX12_isGlance_17 : decode cX12_isGlance 17 = .ok (.invokestatic 117, 3) := by decide +kernel
theorem dX12_isGlance_20 : decode cX12_isGlance 20 = .ok (.ifCond .eq 28, 3) := by decide +kernel
theorem dX12_isGlance_23 : decode cX12_isGlance 23 = .ok (.iload_n 2, 1) := by decide +kernel
theorem dX12_isGlance_24 : decode cX12_isGlance 24 = .ok (.i2l, 1) := by decide +kernel
theorem dX12_isGlance_25 : decode cX12_isGlance 25 = .ok (.lconst 0, 1) := by decide +kernel
theorem dX12_isGlance_26 : decode cX12_isGlance 26 = .ok (.iload_n 1, 1) := by decide +kernel
theorem dX12_isGlance_27 : decode cX12_isGlance 27 = .ok (.i2l, 1) := by decide +kernel
theorem dX12_isGlance_28 : decode cX12_isGlance 28 = .ok (.invokestatic 117, 3) := by decide +kernel
theorem dX12_isGlance_31 : decode cX12_isGlance 31 = .ok (.ifCond .eq 17, 3) := by decide +kernel
theorem dX12_isGlance_34 : decode cX12_isGlance 34 = .ok (.iload_n 3, 1) := by decide +kernel
theorem dX12_isGlance_35 : decode cX12_isGlance 35 = .ok (.i2l, 1) := by decide +kernel
theorem dX12_isGlance_36 : decode cX12_isGlance 36 = .ok (.lconst 0, 1) := by decide +kernel
theorem dX12_isGlance_37 : decode cX12_isGlance 37 = .ok (.lconst 1, 1) := by decide +kernel
theorem dX12_isGlance_38 : decode cX12_isGlance 38 = .ok (.invokestatic 117, 3) := by decide +kernel
theorem dX12_isGlance_41 : decode cX12_isGlance 41 = .ok (.ifCond .eq 7, 3) := by decide +kernel
theorem dX12_isGlance_44 : decode cX12_isGlance 44 = .ok (.iconst 1, 1) := by decide +kernel
theorem dX12_isGlance_45 : decode cX12_isGlance 45 = .ok (.goto 4, 3) := by decide +kernel
theorem dX12_isGlance_48 : decode cX12_isGlance 48 = .ok (.iconst 0, 1) := by decide +kernel
theorem dX12_isGlance_49 : decode cX12_isGlance 49 = .ok (.ireturn, 1) := by decide +kernel
set_option maxHeartbeats 4000000 in
set_option maxRecDepth 100000 in
theorem c_X12_isGlance (l : Launch) (D : va_G) (K : Nat → ClassId) (ad : Nat → Nat) (rest : va_W) (a1 : Int32) (a2 : Int32) (a3 : Int32) (a4 : Int32) (σ : xS) (z : Int32 × xS) (hF : F_X12_isGlance a1 a2 a3 a4 σ = some z) : CI l D K yX12_isGlance cX12_isGlance 4 (some .boolean) 1 25 [.int a1, .int a2, .int a3, .int a4] (RW K ad rest σ) z.1 (RW K ad rest z.2) := by
  refine x_enterI [(0, .int a1), (1, .int a2), (2, .int a3), (3, .int a4)] pnX12 (Nat.le_of_ble_eq_true rfl) rfl ?_
  intro p e s m args below meth c A C
  unfold F_X12_isGlance at hF
  refine x_iload_n C 0 0 dX12_isGlance_0 rfl rfl ?_
  refine x_i2l C dX12_isGlance_1 ?_
  refine x_lconst C 1 dX12_isGlance_2 (by decide +kernel) ?_
  refine x_ldc2 C 20 dX12_isGlance_3 cl_X12_227 ?_
  refine x_callSI C (wf := RW K ad rest) (As := [.long (a1.toInt64), .long 1, .long 20]) (rest := []) dX12_isGlance_6 ml_X12_117 rfl rfl (Nat.le_of_ble_eq_true rfl) ⟨Nat.le_of_ble_eq_true rfl, Nat.le_of_ble_eq_true rfl⟩ ⟨Nat.zero_le _, Nat.zero_le _⟩ (fun q9 hq9 => c_X12_in l D K ad rest (a1.toInt64) 1 20 σ q9 hq9) hF (fun v2 σ1 hF => ?_)
  refine x_if_eq C 48 dX12_isGlance_9 (by decide) hF (fun hF => ?_) (fun hF => ?_)
  · refine x_iconst C 0 dX12_isGlance_48 (by decide +kernel) ?_
    have hz := (cz_some hF).1
    replace hF := (cz_some hF).2
    exact x_zret C dX12_isGlance_49 rfl hz (congrArg Prod.fst (Option.some.inj hF)) (congrArg (fun q9 : Int32 × xS => RW K ad rest q9.2) (Option.some.inj hF))
  · refine x_iload_n C 1 1 dX12_isGlance_12 rfl rfl ?_
    refine x_i2l C dX12_isGlance_13 ?_
    refine x_lconst C 0 dX12_isGlance_14 (by decide +kernel) ?_
    refine x_iload_n C 0 0 dX12_isGlance_15 rfl rfl ?_
    refine x_i2l C dX12_isGlance_16 ?_
    refine x_callSI C (wf := RW K ad rest) (As := [.long (a2.toInt64), .long 0, .long (a1.toInt64)]) (rest := []) dX12_isGlance_17 ml_X12_117 rfl rfl (Nat.le_of_ble_eq_true rfl) ⟨Nat.le_of_ble_eq_true rfl, Nat.le_of_ble_eq_true rfl⟩ ⟨Nat.zero_le _, Nat.zero_le _⟩ (fun q9 hq9 => c_X12_in l D K ad rest (a2.toInt64) 0 (a1.toInt64) σ1 q9 hq9) hF (fun v4 σ3 hF => ?_)
    refine x_if_eq C 48 dX12_isGlance_20 (by decide) hF (fun hF => ?_) (fun hF => ?_)
    · refine x_iconst C 0 dX12_isGlance_48 (by decide +kernel) ?_
      have hz := (cz_some hF).1
      replace hF := (cz_some hF).2
      exact x_zret C dX12_isGlance_49 rfl hz (congrArg Prod.fst (Option.some.inj hF)) (congrArg (fun q9 : Int32 × xS => RW K ad rest q9.2) (Option.some.inj hF))
    · refine x_iload_n C 2 2 dX12_isGlance_23 rfl rfl ?_
      refine x_i2l C dX12_isGlance_24 ?_
      refine x_lconst C 0 dX12_isGlance_25 (by decide +kernel) ?_
      refine x_iload_n C 1 1 dX12_isGlance_26 rfl rfl ?_
      refine x_i2l C dX12_isGlance_27 ?_
      refine x_callSI C (wf := RW K ad rest) (As := [.long (a3.toInt64), .long 0, .long (a2.toInt64)]) (rest := []) dX12_isGlance_28 ml_X12_117 rfl rfl (Nat.le_of_ble_eq_true rfl) ⟨Nat.le_of_ble_eq_true rfl, Nat.le_of_ble_eq_true rfl⟩ ⟨Nat.zero_le _, Nat.zero_le _⟩ (fun q9 hq9 => c_X12_in l D K ad rest (a3.toInt64) 0 (a2.toInt64) σ3 q9 hq9) hF (fun v6 σ5 hF => ?_)
      refine x_if_eq C 48 dX12_isGlance_31 (by decide) hF (fun hF => ?_) (fun hF => ?_)
      · refine x_iconst C 0 dX12_isGlance_48 (by decide +kernel) ?_
        have hz := (cz_some hF).1
        replace hF := (cz_some hF).2
        exact x_zret C dX12_isGlance_49 rfl hz (congrArg Prod.fst (Option.some.inj hF)) (congrArg (fun q9 : Int32 × xS => RW K ad rest q9.2) (Option.some.inj hF))
      · refine x_iload_n C 3 3 dX12_isGlance_34 rfl rfl ?_
        refine x_i2l C dX12_isGlance_35 ?_
        refine x_lconst C 0 dX12_isGlance_36 (by decide +kernel) ?_
        refine x_lconst C 1 dX12_isGlance_37 (by decide +kernel) ?_
        refine x_callSI C (wf := RW K ad rest) (As := [.long (a4.toInt64), .long 0, .long 1]) (rest := []) dX12_isGlance_38 ml_X12_117 rfl rfl (Nat.le_of_ble_eq_true rfl) ⟨Nat.le_of_ble_eq_true rfl, Nat.le_of_ble_eq_true rfl⟩ ⟨Nat.zero_le _, Nat.zero_le _⟩ (fun q9 hq9 => c_X12_in l D K ad rest (a4.toInt64) 0 1 σ5 q9 hq9) hF (fun v8 σ7 hF => ?_)
        refine x_if_eq C 48 dX12_isGlance_41 (by decide) hF (fun hF => ?_) (fun hF => ?_)
        · refine x_iconst C 0 dX12_isGlance_48 (by decide +kernel) ?_
          have hz := (cz_some hF).1
          replace hF := (cz_some hF).2
          exact x_zret C dX12_isGlance_49 rfl hz (congrArg Prod.fst (Option.some.inj hF)) (congrArg (fun q9 : Int32 × xS => RW K ad rest q9.2) (Option.some.inj hF))
        · refine x_iconst C 1 dX12_isGlance_44 (by decide +kernel) ?_
          refine x_goto C 49 dX12_isGlance_45 (by decide) ?_
          have hz := (cz_some hF).1
          replace hF := (cz_some hF).2
          exact x_zret C dX12_isGlance_49 rfl hz (congrArg Prod.fst (Option.some.inj hF)) (congrArg (fun q9 : Int32 × xS => RW K ad rest q9.2) (Option.some.inj hF))
theorem dX12_worth_0 : decode cX12_worth 0 = .ok (.aload_n 0, 1) := by decide +kernel
theorem dX12_worth_1 : decode cX12_worth 1 = .ok (.iconst 0, 1) := by decide +kernel
theorem dX12_worth_2 : decode cX12_worth 2 = .ok (.putfield 107, 3) := by decide +kernel
theorem dX12_worth_5 : decode cX12_worth 5 = .ok (.iload_n 1, 1) := by decide +kernel
theorem dX12_worth_6 : decode cX12_worth 6 = .ok (.iload_n 2, 1) := by decide +kernel
theorem dX12_worth_7 : decode cX12_worth 7 = .ok (.iload_n 3, 1) := by decide +kernel
theorem dX12_worth_8 : decode cX12_worth 8 = .ok (.iload 4, 2) := by decide +kernel
theorem dX12_worth_10 : decode cX12_worth 10 = .ok (.invokestatic 386, 3) := by decide +kernel
theorem dX12_worth_13 : decode cX12_worth 13 = .ok (.ifCond .ne 7, 3) := by decide +kernel
theorem dX12_worth_16 : decode cX12_worth 16 = .ok (.ldc2_w 375, 3) := by decide +kernel
theorem dX12_worth_19 : decode cX12_worth 19 = .ok (.lreturn, 1) := by decide +kernel
theorem dX12_worth_20 : decode cX12_worth 20 = .ok (.lconst 0, 1) := by decide +kernel
theorem dX12_worth_21 : decode cX12_worth 21 = .ok (.lstore 5, 2) := by decide +kernel
theorem dX12_worth_23 : decode cX12_worth 23 = .ok (.lconst 0, 1) := by decide +kernel
theorem dX12_worth_24 : decode cX12_worth 24 = .ok (.lstore 7, 2) := by decide +kernel
theorem dX12_worth_26 : decode cX12_worth 26 = .ok (.iconst 0, 1) := by decide +kernel
theorem dX12_worth_27 : decode cX12_worth 27 = .ok (.istore 9, 2) := by decide +kernel
theorem dX12_worth_29 : decode cX12_worth 29 = .ok (.iload 9, 2) := by decide +kernel
theorem dX12_worth_31 : decode cX12_worth 31 = .ok (.aload_n 0, 1) := by decide +kernel
theorem dX12_worth_32 : decode cX12_worth 32 = .ok (.getfield 13, 3) := by decide +kernel
theorem dX12_worth_35 : decode cX12_worth 35 = .ok (.iconst 3, 1) := by decide +kernel
theorem dX12_worth_36 : decode cX12_worth 36 = .ok (.iaload, 1) := by decide +kernel
theorem dX12_worth_37 : decode cX12_worth 37 = .ok (.if_icmp .ge 53, 3) := by decide +kernel
theorem dX12_worth_40 : decode cX12_worth 40 = .ok (.lload 5, 2) := by decide +kernel
theorem dX12_worth_42 : decode cX12_worth 42 = .ok (.aload_n 0, 1) := by decide +kernel
theorem dX12_worth_43 : decode cX12_worth 43 = .ok (.iload 9, 2) := by decide +kernel
theorem dX12_worth_45 : decode cX12_worth 45 = .ok (.iload_n 1, 1) := by decide +kernel
theorem dX12_worth_46 : decode cX12_worth 46 = .ok (.iload_n 2, 1) := by decide +kernel
theorem dX12_worth_47 : decode cX12_worth 47 = .ok (.iload_n 3, 1) := by decide +kernel
theorem dX12_worth_48 : decode cX12_worth 48 = .ok (.invokevirtual 390, 3) := by decide +kernel
theorem dX12_worth_51 : decode cX12_worth 51 = .ok (.ladd, 1) := by decide +kernel
theorem dX12_worth_52 : decode cX12_worth 52 = .ok (.lstore 5, 2) := by decide +kernel
theorem dX12_worth_54 : decode cX12_worth 54 = .ok (.lload 7, 2) := by decide +kernel
theorem dX12_worth_56 : decode cX12_worth 56 = .ok (.aload_n 0, 1) := by decide +kernel
theorem dX12_worth_57 : decode cX12_worth 57 = .ok (.iload 9, 2) := by decide +kernel
theorem dX12_worth_59 : decode cX12_worth 59 = .ok (.iload_n 1, 1) := by decide +kernel
theorem dX12_worth_60 : decode cX12_worth 60 = .ok (.iload_n 2, 1) := by decide +kernel
theorem dX12_worth_61 : decode cX12_worth 61 = .ok (.iload_n 3, 1) := by decide +kernel
theorem dX12_worth_62 : decode cX12_worth 62 = .ok (.invokevirtual 390, 3) := by decide +kernel
theorem dX12_worth_65 : decode cX12_worth 65 = .ok (.aload_n 0, 1) := by decide +kernel
theorem dX12_worth_66 : decode cX12_worth 66 = .ok (.getfield 13, 3) := by decide +kernel
theorem dX12_worth_69 : decode cX12_worth 69 = .ok (.bipush 63, 2) := by decide +kernel
theorem dX12_worth_71 : decode cX12_worth 71 = .ok (.iconst 3, 1) := by decide +kernel
theorem dX12_worth_72 : decode cX12_worth 72 = .ok (.iload 9, 2) := by decide +kernel
theorem dX12_worth_74 : decode cX12_worth 74 = .ok (.imul, 1) := by decide +kernel
theorem dX12_worth_75 : decode cX12_worth 75 = .ok (.iadd, 1) := by decide +kernel
theorem dX12_worth_76 : decode cX12_worth 76 = .ok (.iconst 2, 1) := by decide +kernel
theorem dX12_worth_77 : decode cX12_worth 77 = .ok (.iadd, 1) := by decide +kernel
theorem dX12_worth_78 : decode cX12_worth 78 = .ok (.iaload, 1) := by decide +kernel
theorem dX12_worth_79 : decode cX12_worth 79 = .ok (.i2l, 1) := by decide +kernel
theorem dX12_worth_80 : decode cX12_worth 80 = .ok (.lmul, 1) := by decide +kernel
theorem dX12_worth_81 : decode cX12_worth 81 = .ok (.ladd, 1) := by decide +kernel
theorem dX12_worth_82 : decode cX12_worth 82 = .ok (.lstore 7, 2) := by decide +kernel
theorem dX12_worth_84 : decode cX12_worth 84 = .ok (.iinc 9 1, 3) := by decide +kernel
theorem dX12_worth_87 : decode cX12_worth 87 = .ok (.goto (-58), 3) := by decide +kernel
theorem dX12_worth_90 : decode cX12_worth 90 = .ok (.lload 5, 2) := by decide +kernel
theorem dX12_worth_92 : decode cX12_worth 92 = .ok (.lconst 0, 1) := by decide +kernel
theorem dX12_worth_93 : decode cX12_worth 93 = .ok (.lcmp, 1) := by decide +kernel
theorem dX12_worth_94 : decode cX12_worth 94 = .ok (.ifCond .ne 7, 3) := by decide +kernel
theorem dX12_worth_97 : decode cX12_worth 97 = .ok (.ldc2_w 375, 3) := by decide +kernel
theorem dX12_worth_100 : decode cX12_worth 100 = .ok (.lreturn, 1) := by decide +kernel
theorem dX12_worth_101 : decode cX12_worth 101 = .ok (.lload 7, 2) := by decide +kernel
theorem dX12_worth_103 : decode cX12_worth 103 = .ok (.lload 5, 2) := by decide +kernel
theorem dX12_worth_105 : decode cX12_worth 105 = .ok (.invokestatic 393, 3) := by decide +kernel
theorem dX12_worth_108 : decode cX12_worth 108 = .ok (.lstore 9, 2) := by decide +kernel
theorem dX12_worth_110 : decode cX12_worth 110 = .ok (.iload 4, 2) := by decide +kernel
theorem dX12_worth_112 : decode cX12_worth 112 = .ok (.ifCond .ne 11, 3) := by decide +kernel
theorem dX12_worth_115 : decode cX12_worth 115 = .ok (.lload 7, 2) := by decide +kernel
theorem dX12_worth_117 : decode cX12_worth 117 = .ok (.lload 9, 2) := by decide +kernel
theorem dX12_worth_119 : decode cX12_worth 119 = .ok (.ldiv, 1) := by decide +kernel
theorem dX12_worth_120 : decode cX12_worth 120 = .ok (.goto 8, 3) := by decide +kernel
theorem dX12_worth_123 : decode cX12_worth 123 = .ok (.lload 5, 2) := by decide +kernel
theorem dX12_worth_125 : decode cX12_worth 125 = .ok (.lload 9, 2) := by decide +kernel
theorem dX12_worth_127 : decode cX12_worth 127 = .ok (.ldiv, 1) := by decide +kernel
theorem dX12_worth_128 : decode cX12_worth 128 = .ok (.lreturn, 1) := by decide +kernel
set_option maxHeartbeats 4000000 in
set_option maxRecDepth 100000 in
theorem x_X12_worth_29 {p : Program} {l : Launch} {e : Env} {s : State} {m : MethodId} {args : Array Value} {below : List Frame} {meth : Method} {c : Code} {D : va_G} {K : Nat → ClassId} {A : Nat → Prop} {ad : Nat → Nat} {rest : va_W} (C : xC p s m args meth c D K A RX12 cX12_worth 11 (some .long)) (z : Int64 × xS) : ∀ (n : Nat) (y1 : Int32) (y2 : Int32) (y3 : Int32) (y4 : Int32) (y5 : Int64) (y7 : Int64) (y9 : Int32) (σ : xS), F_X12_worth_29  n y1 y2 y3 y4 y5 y7 y9 σ = some z → X p l e (xR 2 49) s m args below meth c D A 11 (xQl below D K A args s z.1 (RW K ad rest z.2)) 0 0 29 [(0, .ref (ad 0)), (1, .int y1), (2, .int y2), (3, .int y3), (4, .int y4), (5, .long y5), (7, .long y7), (9, .int y9)] [] (RW K ad rest σ) := by
  intro n
  induction n with
  | zero =>
    intro y1 y2 y3 y4 y5 y7 y9 σ hF
    cases hF
  | succ n ih =>
    intro y1 y2 y3 y4 y5 y7 y9 σ hF
    rw [F_X12_worth_29] at hF
    refine x_iload C 7 9 dX12_worth_29 rfl ?_
    refine x_aload_n C 0 0 dX12_worth_31 rfl rfl ?_
    refine x_get C 0 dX12_worth_32 fl_X12_13 (RW_o K ad rest σ) rfl ?_
    refine x_iconst C 3 dX12_worth_35 (by decide +kernel) ?_
    refine x_iald C 2 dX12_worth_36 (RW_a3 K ad rest σ) hF (fun v7 hF => ?_)
    refine x_icmp_ge C 90 dX12_worth_37 (by decide) hF (fun hF => ?_) (fun hF => ?_)
    · refine x_lload C 5 5 dX12_worth_90 rfl ?_
      refine x_lconst C 0 dX12_worth_92 (by decide +kernel) ?_
      refine x_lcmp C dX12_worth_93 ?_
      refine x_if_ne C 101 dX12_worth_94 (by decide) hF (fun hF => ?_) (fun hF => ?_)
      · refine x_lload C 6 7 dX12_worth_101 rfl ?_
        refine x_lload C 5 5 dX12_worth_103 rfl ?_
        refine x_callSL C (wf := RW K ad rest) (As := [.long y7, .long y5]) (rest := []) dX12_worth_105 ml_X12_393 rfl rfl (Nat.le_of_ble_eq_true rfl) ⟨Nat.le_of_ble_eq_true rfl, Nat.le_of_ble_eq_true rfl⟩ ⟨Nat.zero_le _, Nat.zero_le _⟩ (fun q9 hq9 => c_X12_common l D K ad rest y7 y5 σ q9 hq9) hF (fun v9 σ8 hF => ?_)
        refine x_lstore C [(9, .long v9), (0, .ref (ad 0)), (1, .int y1), (2, .int y2), (3, .int y3), (4, .int y4), (5, .long y5), (7, .long y7)] dX12_worth_108 (by decide) rfl ?_
        refine x_iload C 5 4 dX12_worth_110 rfl ?_
        refine x_if_ne C 123 dX12_worth_112 (by decide) hF (fun hF => ?_) (fun hF => ?_)
        · refine x_lload C 6 5 dX12_worth_123 rfl ?_
          refine x_lload C 0 9 dX12_worth_125 rfl ?_
          refine x_ldiv C dX12_worth_127 hF (fun hF => ?_)
          exact x_lret C dX12_worth_128 rfl (congrArg Prod.fst (Option.some.inj hF)) (congrArg (fun q9 : Int64 × xS => RW K ad rest q9.2) (Option.some.inj hF))
        · refine x_lload C 7 7 dX12_worth_115 rfl ?_
          refine x_lload C 0 9 dX12_worth_117 rfl ?_
          refine x_ldiv C dX12_worth_119 hF (fun hF => ?_)
          refine x_goto C 128 dX12_worth_120 (by decide) ?_
          exact x_lret C dX12_worth_128 rfl (congrArg Prod.fst (Option.some.inj hF)) (congrArg (fun q9 : Int64 × xS => RW K ad rest q9.2) (Option.some.inj hF))
      · refine x_ldc2 C (-1000000000000000000) dX12_worth_97 cl_X12_375 ?_
        exact x_lret C dX12_worth_100 rfl (congrArg Prod.fst (Option.some.inj hF)) (congrArg (fun q9 : Int64 × xS => RW K ad rest q9.2) (Option.some.inj hF))
    · refine x_lload C 5 5 dX12_worth_40 rfl ?_
      refine x_aload_n C 0 0 dX12_worth_42 rfl rfl ?_
      refine x_iload C 7 9 dX12_worth_43 rfl ?_
      refine x_iload_n C 1 1 dX12_worth_45 rfl rfl ?_
      refine x_iload_n C 2 2 dX12_worth_46 rfl rfl ?_
      refine x_iload_n C 3 3 dX12_worth_47 rfl rfl ?_
      refine x_callVL C (wf := RW K ad rest) (As := [.int y9, .int y1, .int y2, .int y3]) (rest := [.long y5]) dX12_worth_48 ml_X12_390 rfl rfl (Nat.le_of_ble_eq_true rfl) 0 (RW_o K ad rest σ) rfl ⟨Nat.le_of_ble_eq_true rfl, Nat.le_of_ble_eq_true rfl⟩ ⟨Nat.zero_le _, Nat.zero_le _⟩ (fun q9 hq9 => c_X12_showing l D K ad rest y9 y1 y2 y3 σ q9 hq9) hF (fun v11 σ10 hF => ?_)
      refine x_ladd C dX12_worth_51 ?_
      refine x_topL hF (fun x12 hF => ?_)
      refine x_lstore C [(5, .long x12), (0, .ref (ad 0)), (1, .int y1), (2, .int y2), (3, .int y3), (4, .int y4), (7, .long y7), (9, .int y9)] dX12_worth_52 (by decide) rfl ?_
      refine x_lload C 6 7 dX12_worth_54 rfl ?_
      refine x_aload_n C 1 0 dX12_worth_56 rfl rfl ?_
      refine x_iload C 7 9 dX12_worth_57 rfl ?_
      refine x_iload_n C 2 1 dX12_worth_59 rfl rfl ?_
      refine x_iload_n C 3 2 dX12_worth_60 rfl rfl ?_
      refine x_iload_n C 4 3 dX12_worth_61 rfl rfl ?_
      refine x_callVL C (wf := RW K ad rest) (As := [.int y9, .int y1, .int y2, .int y3]) (rest := [.long y7]) dX12_worth_62 ml_X12_390 rfl rfl (Nat.le_of_ble_eq_true rfl) 0 (RW_o K ad rest σ10) rfl ⟨Nat.le_of_ble_eq_true rfl, Nat.le_of_ble_eq_true rfl⟩ ⟨Nat.zero_le _, Nat.zero_le _⟩ (fun q9 hq9 => c_X12_showing l D K ad rest y9 y1 y2 y3 σ10 q9 hq9) hF (fun v14 σ13 hF => ?_)
      refine x_aload_n C 1 0 dX12_worth_65 rfl rfl ?_
      refine x_get C 0 dX12_worth_66 fl_X12_13 (RW_o K ad rest σ13) rfl ?_
      refine x_bipush C 63 dX12_worth_69 (by decide +kernel) ?_
      refine x_iconst C 3 dX12_worth_71 (by decide +kernel) ?_
      refine x_iload C 7 9 dX12_worth_72 rfl ?_
      refine x_imul C dX12_worth_74 ?_
      refine x_iadd C dX12_worth_75 ?_
      refine x_iconst C 2 dX12_worth_76 (by decide +kernel) ?_
      refine x_iadd C dX12_worth_77 ?_
      refine x_iald C 2 dX12_worth_78 (RW_a3 K ad rest σ13) hF (fun v15 hF => ?_)
      refine x_i2l C dX12_worth_79 ?_
      refine x_lmul C dX12_worth_80 ?_
      refine x_ladd C dX12_worth_81 ?_
      refine x_topL hF (fun x16 hF => ?_)
      refine x_lstore C [(7, .long x16), (5, .long x12), (0, .ref (ad 0)), (1, .int y1), (2, .int y2), (3, .int y3), (4, .int y4), (9, .int y9)] dX12_worth_82 (by decide) rfl ?_
      refine x_iincN C 1 7 (fun x17 => [(9, .int x17), (7, .long x16), (5, .long x12), (0, .ref (ad 0)), (1, .int y1), (2, .int y2), (3, .int y3), (4, .int y4)]) dX12_worth_84 rfl (by decide +kernel) (by decide) (fun _ => rfl) hF (fun x17 hF => ?_)
      refine x_goto C 29 dX12_worth_87 (by decide) ?_
      refine x_loc [(0, .ref (ad 0)), (1, .int y1), (2, .int y2), (3, .int y3), (4, .int y4), (5, .long x12), (7, .long x16), (9, .int x17)] [3, 4, 5, 6, 7, 2, 1, 0] rfl ?_
      exact ih y1 y2 y3 y4 x12 x16 x17 σ13 hF
set_option maxHeartbeats 4000000 in
set_option maxRecDepth 100000 in
theorem c_X12_worth (l : Launch) (D : va_G) (K : Nat → ClassId) (ad : Nat → Nat) (rest : va_W) (a1 : Int32) (a2 : Int32) (a3 : Int32) (a4 : Int32) (σ : xS) (z : Int64 × xS) (hF : F_X12_worth a1 a2 a3 a4 σ = some z) : CL l D K yX12_worth cX12_worth 11 (some .long) 2 49 [.ref (ad 0), .int a1, .int a2, .int a3, .int a4] (RW K ad rest σ) z.1 (RW K ad rest z.2) := by
  refine x_enterL [(0, .ref (ad 0)), (1, .int a1), (2, .int a2), (3, .int a3), (4, .int a4)] pnX12 (Nat.le_of_ble_eq_true rfl) rfl ?_
  intro p e s m args below meth c A C
  unfold F_X12_worth at hF
  refine x_aload_n C 0 0 dX12_worth_0 rfl rfl ?_
  refine x_iconst C 0 dX12_worth_1 (by decide +kernel) ?_
  refine x_put C 0 dX12_worth_2 fl_X12_107 fm_X12_0 rfl rfl (RW_o K ad rest σ) (Nat.le_of_ble_eq_true rfl) (RW_s0 K ad rest σ _) ?_
  refine x_st (wf := RW K ad rest) hF (fun σ1 hF => ?_)
  refine x_iload_n C 1 1 dX12_worth_5 rfl rfl ?_
  refine x_iload_n C 2 2 dX12_worth_6 rfl rfl ?_
  refine x_iload_n C 3 3 dX12_worth_7 rfl rfl ?_
  refine x_iload C 4 4 dX12_worth_8 rfl ?_
  refine x_callSI C (wf := RW K ad rest) (As := [.int a1, .int a2, .int a3, .int a4]) (rest := []) dX12_worth_10 ml_X12_386 rfl rfl (Nat.le_of_ble_eq_true rfl) ⟨Nat.le_of_ble_eq_true rfl, Nat.le_of_ble_eq_true rfl⟩ ⟨Nat.zero_le _, Nat.zero_le _⟩ (fun q9 hq9 => c_X12_isGlance l D K ad rest a1 a2 a3 a4 σ1 q9 hq9) hF (fun v3 σ2 hF => ?_)
  refine x_if_ne C 20 dX12_worth_13 (by decide) hF (fun hF => ?_) (fun hF => ?_)
  · refine x_lconst C 0 dX12_worth_20 (by decide +kernel) ?_
    refine x_topL hF (fun x4 hF => ?_)
    refine x_lstore C [(5, .long x4), (0, .ref (ad 0)), (1, .int a1), (2, .int a2), (3, .int a3), (4, .int a4)] dX12_worth_21 (by decide) rfl ?_
    refine x_lconst C 0 dX12_worth_23 (by decide +kernel) ?_
    refine x_topL hF (fun x5 hF => ?_)
    refine x_lstore C [(7, .long x5), (5, .long x4), (0, .ref (ad 0)), (1, .int a1), (2, .int a2), (3, .int a3), (4, .int a4)] dX12_worth_24 (by decide) rfl ?_
    refine x_iconst C 0 dX12_worth_26 (by decide +kernel) ?_
    refine x_topI hF (fun x6 hF => ?_)
    refine x_istore C [(9, .int x6), (7, .long x5), (5, .long x4), (0, .ref (ad 0)), (1, .int a1), (2, .int a2), (3, .int a3), (4, .int a4)] dX12_worth_27 (by decide) rfl ?_
    refine x_loc [(0, .ref (ad 0)), (1, .int a1), (2, .int a2), (3, .int a3), (4, .int a4), (5, .long x4), (7, .long x5), (9, .int x6)] [3, 4, 5, 6, 7, 2, 1, 0] rfl ?_
    exact x_X12_worth_29 C z FU a1 a2 a3 a4 x4 x5 x6 σ2 hF
  · refine x_ldc2 C (-1000000000000000000) dX12_worth_16 cl_X12_375 ?_
    exact x_lret C dX12_worth_19 rfl (congrArg Prod.fst (Option.some.inj hF)) (congrArg (fun q9 : Int64 × xS => RW K ad rest q9.2) (Option.some.inj hF))
