theorem dX12_begin_0 : decode cX12_begin 0 = .ok (.aload_n 0, 1) := by decide +kernel
theorem dX12_begin_1 : decode cX12_begin 1 = .ok (.iconst 0, 1) := by decide +kernel
theorem dX12_begin_2 : decode cX12_begin 2 = .ok (.putfield 172, 3) := by decide +kernel
theorem dX12_begin_5 : decode cX12_begin 5 = .ok (.aload_n 0, 1) := by decide +kernel
theorem dX12_begin_6 : decode cX12_begin 6 = .ok (.iconst 0, 1) := by decide +kernel
theorem dX12_begin_7 : decode cX12_begin 7 = .ok (.putfield 175, 3) := by decide +kernel
theorem dX12_begin_10 : decode cX12_begin 10 = .ok (.aload_n 0, 1) := by decide +kernel
theorem dX12_begin_11 : decode cX12_begin 11 = .ok (.iconst (-1), 1) := by decide +kernel
theorem dX12_begin_12 : decode cX12_begin 12 = .ok (.putfield 26, 3) := by decide +kernel
theorem dX12_begin_15 : decode cX12_begin 15 = .ok (.aload_n 0, 1) := by decide +kernel
theorem dX12_begin_16 : decode cX12_begin 16 = .ok (.invokevirtual 179, 3) := by decide +kernel
theorem dX12_begin_19 : decode cX12_begin 19 = .ok (.return_, 1) := by decide +kernel
set_option maxHeartbeats 4000000 in
set_option maxRecDepth 100000 in
theorem c_X12_begin (l : Launch) (D : va_G) (K : Nat → ClassId) (ad : Nat → Nat) (rest : va_W)  (σ : xS) (z : Unit × xS) (hF : F_X12_begin σ = some z) : CV l D K yX12_begin cX12_begin 1 none 2 40 [.ref (ad 0)] (RW K ad rest σ) (RW K ad rest z.2) := by
  refine x_enterV [(0, .ref (ad 0))] pnX12 (Nat.le_of_ble_eq_true rfl) rfl ?_
  intro p e s m args below meth c A C
  unfold F_X12_begin at hF
  refine x_aload_n C 0 0 dX12_begin_0 rfl rfl ?_
  refine x_iconst C 0 dX12_begin_1 (by decide +kernel) ?_
  refine x_put C 0 dX12_begin_2 fl_X12_172 fm_X12_10 rfl rfl (RW_o K ad rest σ) (Nat.le_of_ble_eq_true rfl) (RW_s10 K ad rest σ _) ?_
  refine x_st (wf := RW K ad rest) hF (fun σ1 hF => ?_)
  refine x_aload_n C 0 0 dX12_begin_5 rfl rfl ?_
  refine x_iconst C 0 dX12_begin_6 (by decide +kernel) ?_
  have hz := (cz_some hF).1
  replace hF := (cz_some hF).2
  refine x_put C 0 dX12_begin_7 fl_X12_175 fm_X12_14 (cz_nar hz).1 (cz_nar hz).2 (RW_o K ad rest σ1) (Nat.le_of_ble_eq_true rfl) (RW_s14 K ad rest σ1 _) ?_
  refine x_st (wf := RW K ad rest) hF (fun σ2 hF => ?_)
  refine x_aload_n C 0 0 dX12_begin_10 rfl rfl ?_
  refine x_iconst C (-1) dX12_begin_11 (by decide +kernel) ?_
  refine x_put C 0 dX12_begin_12 fl_X12_26 fm_X12_13 rfl rfl (RW_o K ad rest σ2) (Nat.le_of_ble_eq_true rfl) (RW_s13 K ad rest σ2 _) ?_
  refine x_st (wf := RW K ad rest) hF (fun σ3 hF => ?_)
  refine x_aload_n C 0 0 dX12_begin_15 rfl rfl ?_
  refine x_callVV C (wf := RW K ad rest) (As := []) (rest := []) dX12_begin_16 ml_X12_179 rfl rfl (Nat.le_of_ble_eq_true rfl) 0 (RW_o K ad rest σ3) rfl ⟨Nat.le_of_ble_eq_true rfl, Nat.le_of_ble_eq_true rfl⟩ ⟨Nat.zero_le _, Nat.zero_le _⟩ (fun q9 hq9 => c_X12_next l D K ad rest σ3 q9 hq9) hF (fun _ σ4 hF => ?_)
  exact x_vret C dX12_begin_19 rfl (congrArg (fun q9 : Unit × xS => RW K ad rest q9.2) (Option.some.inj hF))
theorem dX12_isWord_0 : decode cX12_isWord 0 = .ok (.aload_n 0, 1) := by decide +kernel
theorem dX12_isWord_1 : decode cX12_isWord 1 = .ok (.getfield 195, 3) := by decide +kernel
theorem dX12_isWord_4 : decode cX12_isWord 4 = .ok (.iconst 1, 1) := by decide +kernel
theorem dX12_isWord_5 : decode cX12_isWord 5 = .ok (.if_icmp .ne 16, 3) := by decide +kernel
theorem dX12_isWord_8 : decode cX12_isWord 8 = .ok (.aload_n 0, 1) := by decide +kernel
theorem dX12_isWord_9 : decode cX12_isWord 9 = .ok (.getfield 185, 3) := by decide +kernel
theorem dX12_isWord_12 : decode cX12_isWord 12 = .ok (.lload_n 1, 1) := by decide +kernel
theorem dX12_isWord_13 : decode cX12_isWord 13 = .ok (.lcmp, 1) := by decide +kernel
theorem dX12_isWord_14 : decode cX12_isWord 14 = .ok (.ifCond .ne 7, 3) := by decide +kernel
theorem dX12_isWord_17 : decode cX12_isWord 17 = .ok (.iconst 1, 1) := by decide +kernel
theorem dX12_isWord_18 : decode cX12_isWord 18 = .ok (.goto 4, 3) := by decide +kernel
theorem dX12_isWord_21 : decode cX12_isWord 21 = .ok (.iconst 0, 1) := by decide +kernel
theorem dX12_isWord_22 : decode cX12_isWord 22 = .ok (.ireturn, 1) := by decide +kernel
set_option maxHeartbeats 4000000 in
set_option maxRecDepth 100000 in
theorem c_X12_isWord (l : Launch) (D : va_G) (K : Nat → ClassId) (ad : Nat → Nat) (rest : va_W) (a1 : Int64) (σ : xS) (z : Int32 × xS) (hF : F_X12_isWord a1 σ = some z) : CI l D K yX12_isWord cX12_isWord 3 (some .boolean) 0 0 [.ref (ad 0), .long a1] (RW K ad rest σ) z.1 (RW K ad rest z.2) := by
  refine x_enterI [(0, .ref (ad 0)), (1, .long a1)] pnX12 (Nat.le_of_ble_eq_true rfl) rfl ?_
  intro p e s m args below meth c A C
  unfold F_X12_isWord at hF
  refine x_aload_n C 0 0 dX12_isWord_0 rfl rfl ?_
  refine x_get C 0 dX12_isWord_1 fl_X12_195 (RW_o K ad rest σ) rfl ?_
  refine x_iconst C 1 dX12_isWord_4 (by decide +kernel) ?_
  refine x_icmp_ne C 21 dX12_isWord_5 (by decide) hF (fun hF => ?_) (fun hF => ?_)
  · refine x_iconst C 0 dX12_isWord_21 (by decide +kernel) ?_
    have hz := (cz_some hF).1
    replace hF := (cz_some hF).2
    exact x_zret C dX12_isWord_22 rfl hz (congrArg Prod.fst (Option.some.inj hF)) (congrArg (fun q9 : Int32 × xS => RW K ad rest q9.2) (Option.some.inj hF))
  · refine x_aload_n C 0 0 dX12_isWord_8 rfl rfl ?_
    refine x_get C 0 dX12_isWord_9 fl_X12_185 (RW_o K ad rest σ) rfl ?_
    refine x_lload_n C 1 1 dX12_isWord_12 rfl rfl ?_
    refine x_lcmp C dX12_isWord_13 ?_
    refine x_if_ne C 21 dX12_isWord_14 (by decide) hF (fun hF => ?_) (fun hF => ?_)
    · refine x_iconst C 0 dX12_isWord_21 (by decide +kernel) ?_
      have hz := (cz_some hF).1
      replace hF := (cz_some hF).2
      exact x_zret C dX12_isWord_22 rfl hz (congrArg Prod.fst (Option.some.inj hF)) (congrArg (fun q9 : Int32 × xS => RW K ad rest q9.2) (Option.some.inj hF))
    · refine x_iconst C 1 dX12_isWord_17 (by decide +kernel) ?_
      refine x_goto C 22 dX12_isWord_18 (by decide) ?_
      have hz := (cz_some hF).1
      replace hF := (cz_some hF).2
      exact x_zret C dX12_isWord_22 rfl hz (congrArg Prod.fst (Option.some.inj hF)) (congrArg (fun q9 : Int32 × xS => RW K ad rest q9.2) (Option.some.inj hF))
theorem dX12_isSign_0 : decode cX12_isSign 0 = .ok (.aload_n 0, 1) := by decide +kernel
theorem dX12_isSign_1 : decode cX12_isSign 1 = .ok (.getfield 195, 3) := by decide +kernel
theorem dX12_isSign_4 : decode cX12_isSign 4 = .ok (.iconst 3, 1) := by decide +kernel
theorem dX12_isSign_5 : decode cX12_isSign 5 = .ok (.if_icmp .ne 17, 3) := by decide +kernel
theorem dX12_isSign_8 : decode cX12_isSign 8 = .ok (.aload_n 0, 1) := by decide +kernel
theorem dX12_isSign_9 : decode cX12_isSign 9 = .ok (.getfield 185, 3) := by decide +kernel
theorem dX12_isSign_12 : decode cX12_isSign 12 = .ok (.iload_n 1, 1) := by decide +kernel
theorem dX12_isSign_13 : decode cX12_isSign 13 = .ok (.i2l, 1) := by decide +kernel
theorem dX12_isSign_14 : decode cX12_isSign 14 = .ok (.lcmp, 1) := by decide +kernel
theorem dX12_isSign_15 : decode cX12_isSign 15 = .ok (.ifCond .ne 7, 3) := by decide +kernel
theorem dX12_isSign_18 : decode cX12_isSign 18 = .ok (.iconst 1, 1) := by decide +kernel
theorem dX12_isSign_19 : decode cX12_isSign 19 = .ok (.goto 4, 3) := by decide +kernel
theorem dX12_isSign_22 : decode cX12_isSign 22 = .ok (.iconst 0, 1) := by decide +kernel
theorem dX12_isSign_23 : decode cX12_isSign 23 = .ok (.ireturn, 1) := by decide +kernel
set_option maxHeartbeats 4000000 in
set_option maxRecDepth 100000 in
theorem c_X12_isSign (l : Launch) (D : va_G) (K : Nat → ClassId) (ad : Nat → Nat) (rest : va_W) (a1 : Int32) (σ : xS) (z : Int32 × xS) (hF : F_X12_isSign a1 σ = some z) : CI l D K yX12_isSign cX12_isSign 2 (some .boolean) 0 0 [.ref (ad 0), .int a1] (RW K ad rest σ) z.1 (RW K ad rest z.2) := by
  refine x_enterI [(0, .ref (ad 0)), (1, .int a1)] pnX12 (Nat.le_of_ble_eq_true rfl) rfl ?_
  intro p e s m args below meth c A C
  unfold F_X12_isSign at hF
  refine x_aload_n C 0 0 dX12_isSign_0 rfl rfl ?_
  refine x_get C 0 dX12_isSign_1 fl_X12_195 (RW_o K ad rest σ) rfl ?_
  refine x_iconst C 3 dX12_isSign_4 (by decide +kernel) ?_
  refine x_icmp_ne C 22 dX12_isSign_5 (by decide) hF (fun hF => ?_) (fun hF => ?_)
  · refine x_iconst C 0 dX12_isSign_22 (by decide +kernel) ?_
    have hz := (cz_some hF).1
    replace hF := (cz_some hF).2
    exact x_zret C dX12_isSign_23 rfl hz (congrArg Prod.fst (Option.some.inj hF)) (congrArg (fun q9 : Int32 × xS => RW K ad rest q9.2) (Option.some.inj hF))
  · refine x_aload_n C 0 0 dX12_isSign_8 rfl rfl ?_
    refine x_get C 0 dX12_isSign_9 fl_X12_185 (RW_o K ad rest σ) rfl ?_
    refine x_iload_n C 1 1 dX12_isSign_12 rfl rfl ?_
    refine x_i2l C dX12_isSign_13 ?_
    refine x_lcmp C dX12_isSign_14 ?_
    refine x_if_ne C 22 dX12_isSign_15 (by decide) hF (fun hF => ?_) (fun hF => ?_)
    · refine x_iconst C 0 dX12_isSign_22 (by decide +kernel) ?_
      have hz := (cz_some hF).1
      replace hF := (cz_some hF).2
      exact x_zret C dX12_isSign_23 rfl hz (congrArg Prod.fst (Option.some.inj hF)) (congrArg (fun q9 : Int32 × xS => RW K ad rest q9.2) (Option.some.inj hF))
    · refine x_iconst C 1 dX12_isSign_18 (by decide +kernel) ?_
      refine x_goto C 23 dX12_isSign_19 (by decide) ?_
      have hz := (cz_some hF).1
      replace hF := (cz_some hF).2
      exact x_zret C dX12_isSign_23 rfl hz (congrArg Prod.fst (Option.some.inj hF)) (congrArg (fun q9 : Int32 × xS => RW K ad rest q9.2) (Option.some.inj hF))
theorem dX12_must_0 : decode cX12_must 0 = .ok (.aload_n 0, 1) := by decide +kernel
theorem dX12_must_1 : decode cX12_must 1 = .ok (.getfield 175, 3) := by decide +kernel
theorem dX12_must_4 : decode cX12_must 4 = .ok (.ifCond .ne 20, 3) := by decide +kernel
theorem dX12_must_7 : decode cX12_must 7 = .ok (.iload_n 1, 1) := by decide +kernel
theorem dX12_must_8 : decode cX12_must 8 = .ok (.ifCond .ne 16, 3) := by decide +kernel
theorem dX12_must_11 : decode cX12_must 11 = .ok (.aload_n 0, 1) := by decide +kernel
theorem dX12_must_12 : decode cX12_must 12 = .ok (.iconst 1, 1) := by decide +kernel
theorem dX12_must_13 : decode cX12_must 13 = .ok (.putfield 175, 3) := by decide +kernel
theorem dX12_must_16 : decode cX12_must 16 = .ok (.aload_n 0, 1) := by decide +kernel
theorem dX12_must_17 : decode cX12_must 17 = .ok (.aload_n 0, 1) := by decide +kernel
theorem dX12_must_18 : decode cX12_must 18 = .ok (.getfield 182, 3) := by decide +kernel
theorem dX12_must_21 : decode cX12_must 21 = .ok (.putfield 26, 3) := by decide +kernel
theorem dX12_must_24 : decode cX12_must 24 = .ok (.aload_n 0, 1) := by decide +kernel
theorem dX12_must_25 : decode cX12_must 25 = .ok (.getfield 175, 3) := by decide +kernel
theorem dX12_must_28 : decode cX12_must 28 = .ok (.ifCond .ne 7, 3) := by decide +kernel
theorem dX12_must_31 : decode cX12_must 31 = .ok (.aload_n 0, 1) := by decide +kernel
theorem dX12_must_32 : decode cX12_must 32 = .ok (.invokevirtual 179, 3) := by decide +kernel
theorem dX12_must_35 : decode cX12_must 35 = .ok (.return_, 1) := by decide +kernel
set_option maxHeartbeats 4000000 in
set_option maxRecDepth 100000 in
theorem x_X12_must_24 {p : Program} {l : Launch} {e : Env} {s : State} {m : MethodId} {args : Array Value} {below : List Frame} {meth : Method} {c : Code} {D : va_G} {K : Nat → ClassId} {A : Nat → Prop} {ad : Nat → Nat} {rest : va_W} (C : xC p s m args meth c D K A RX12 cX12_must 2 none) (z : Unit × xS) : ∀  (σ : xS), F_X12_must_24  σ = some z → X p l e (xR 2 40) s m args below meth c D A 2 (xQv below D K A args s (RW K ad rest z.2)) 0 0 24 [(0, .ref (ad 0))] [] (RW K ad rest σ) := by
  intro σ hF
  unfold F_X12_must_24 at hF
  refine x_aload_n C 0 0 dX12_must_24 rfl rfl ?_
  refine x_get C 0 dX12_must_25 fl_X12_175 (RW_o K ad rest σ) rfl ?_
  refine x_if_ne C 35 dX12_must_28 (by decide) hF (fun hF => ?_) (fun hF => ?_)
  · exact x_vret C dX12_must_35 rfl (congrArg (fun q9 : Unit × xS => RW K ad rest q9.2) (Option.some.inj hF))
  · refine x_aload_n C 0 0 dX12_must_31 rfl rfl ?_
    refine x_callVV C (wf := RW K ad rest) (As := []) (rest := []) dX12_must_32 ml_X12_179 rfl rfl (Nat.le_of_ble_eq_true rfl) 0 (RW_o K ad rest σ) rfl ⟨Nat.le_of_ble_eq_true rfl, Nat.le_of_ble_eq_true rfl⟩ ⟨Nat.zero_le _, Nat.zero_le _⟩ (fun q9 hq9 => c_X12_next l D K ad rest σ q9 hq9) hF (fun _ σ3 hF => ?_)
    exact x_vret C dX12_must_35 rfl (congrArg (fun q9 : Unit × xS => RW K ad rest q9.2) (Option.some.inj hF))
set_option maxHeartbeats 4000000 in
set_option maxRecDepth 100000 in
theorem c_X12_must (l : Launch) (D : va_G) (K : Nat → ClassId) (ad : Nat → Nat) (rest : va_W) (a1 : Int32) (σ : xS) (z : Unit × xS) (hF : F_X12_must a1 σ = some z) : CV l D K yX12_must cX12_must 2 none 2 40 [.ref (ad 0), .int a1] (RW K ad rest σ) (RW K ad rest z.2) := by
  refine x_enterV [(0, .ref (ad 0)), (1, .int a1)] pnX12 (Nat.le_of_ble_eq_true rfl) rfl ?_
  intro p e s m args below meth c A C
  unfold F_X12_must at hF
  refine x_aload_n C 0 0 dX12_must_0 rfl rfl ?_
  refine x_get C 0 dX12_must_1 fl_X12_175 (RW_o K ad rest σ) rfl ?_
  refine x_if_ne C 24 dX12_must_4 (by decide) hF (fun hF => ?_) (fun hF => ?_)
  · refine x_loc [(0, .ref (ad 0))] [0] rfl ?_
    exact x_X12_must_24 C z σ hF
  · refine x_iload_n C 1 1 dX12_must_7 rfl rfl ?_
    refine x_if_ne C 24 dX12_must_8 (by decide) hF (fun hF => ?_) (fun hF => ?_)
    · refine x_loc [(0, .ref (ad 0))] [0] rfl ?_
      exact x_X12_must_24 C z σ hF
    · refine x_aload_n C 0 0 dX12_must_11 rfl rfl ?_
      refine x_iconst C 1 dX12_must_12 (by decide +kernel) ?_
      have hz := (cz_some hF).1
      replace hF := (cz_some hF).2
      refine x_put C 0 dX12_must_13 fl_X12_175 fm_X12_14 (cz_nar hz).1 (cz_nar hz).2 (RW_o K ad rest σ) (Nat.le_of_ble_eq_true rfl) (RW_s14 K ad rest σ _) ?_
      refine x_st (wf := RW K ad rest) hF (fun σ1 hF => ?_)
      refine x_aload_n C 0 0 dX12_must_16 rfl rfl ?_
      refine x_aload_n C 0 0 dX12_must_17 rfl rfl ?_
      refine x_get C 0 dX12_must_18 fl_X12_182 (RW_o K ad rest σ1) rfl ?_
      refine x_put C 0 dX12_must_21 fl_X12_26 fm_X12_13 rfl rfl (RW_o K ad rest σ1) (Nat.le_of_ble_eq_true rfl) (RW_s13 K ad rest σ1 _) ?_
      refine x_st (wf := RW K ad rest) hF (fun σ2 hF => ?_)
      refine x_loc [(0, .ref (ad 0))] [0] rfl ?_
      exact x_X12_must_24 C z σ2 hF
theorem dX12_fault_0 : decode cX12_fault 0 = .ok (.aload_n 0, 1) := by decide +kernel
theorem dX12_fault_1 : decode cX12_fault 1 = .ok (.iconst 0, 1) := by decide +kernel
theorem dX12_fault_2 : decode cX12_fault 2 = .ok (.putfield 107, 3) := by decide +kernel
theorem dX12_fault_5 : decode cX12_fault 5 = .ok (.aload_n 0, 1) := by decide +kernel
theorem dX12_fault_6 : decode cX12_fault 6 = .ok (.getfield 26, 3) := by decide +kernel
theorem dX12_fault_9 : decode cX12_fault 9 = .ok (.ireturn, 1) := by decide +kernel
set_option maxHeartbeats 4000000 in
set_option maxRecDepth 100000 in
theorem c_X12_fault (l : Launch) (D : va_G) (K : Nat → ClassId) (ad : Nat → Nat) (rest : va_W)  (σ : xS) (z : Int32 × xS) (hF : F_X12_fault σ = some z) : CI l D K yX12_fault cX12_fault 1 (some .int) 0 0 [.ref (ad 0)] (RW K ad rest σ) z.1 (RW K ad rest z.2) := by
  refine x_enterI [(0, .ref (ad 0))] pnX12 (Nat.le_of_ble_eq_true rfl) rfl ?_
  intro p e s m args below meth c A C
  unfold F_X12_fault at hF
  refine x_aload_n C 0 0 dX12_fault_0 rfl rfl ?_
  refine x_iconst C 0 dX12_fault_1 (by decide +kernel) ?_
  refine x_put C 0 dX12_fault_2 fl_X12_107 fm_X12_0 rfl rfl (RW_o K ad rest σ) (Nat.le_of_ble_eq_true rfl) (RW_s0 K ad rest σ _) ?_
  refine x_st (wf := RW K ad rest) hF (fun σ1 hF => ?_)
  refine x_aload_n C 0 0 dX12_fault_5 rfl rfl ?_
  refine x_get C 0 dX12_fault_6 fl_X12_26 (RW_o K ad rest σ1) rfl ?_
  exact x_iret C dX12_fault_9 rfl (congrArg Prod.fst (Option.some.inj hF)) (congrArg (fun q9 : Int32 × xS => RW K ad rest q9.2) (Option.some.inj hF))
theorem dX12_emit_0 : decode cX12_emit 0 = .ok (.aload_n 0, 1) := by decide +kernel
theorem dX12_emit_1 : decode cX12_emit 1 = .ok (.getfield 33, 3) := by decide +kernel
theorem dX12_emit_4 : decode cX12_emit 4 = .ok (.aload_n 0, 1) := by decide +kernel
theorem dX12_emit_5 : decode cX12_emit 5 = .ok (.getfield 214, 3) := by decide +kernel
theorem dX12_emit_8 : decode cX12_emit 8 = .ok (.iload_n 1, 1) := by decide +kernel
theorem dX12_emit_9 : decode cX12_emit 9 = .ok (.iastore, 1) := by decide +kernel
theorem dX12_emit_10 : decode cX12_emit 10 = .ok (.aload_n 0, 1) := by decide +kernel
theorem dX12_emit_11 : decode cX12_emit 11 = .ok (.getfield 36, 3) := by decide +kernel
theorem dX12_emit_14 : decode cX12_emit 14 = .ok (.aload_n 0, 1) := by decide +kernel
theorem dX12_emit_15 : decode cX12_emit 15 = .ok (.getfield 214, 3) := by decide +kernel
theorem dX12_emit_18 : decode cX12_emit 18 = .ok (.iload_n 2, 1) := by decide +kernel
theorem dX12_emit_19 : decode cX12_emit 19 = .ok (.iastore, 1) := by decide +kernel
theorem dX12_emit_20 : decode cX12_emit 20 = .ok (.aload_n 0, 1) := by decide +kernel
theorem dX12_emit_21 : decode cX12_emit 21 = .ok (.dup, 1) := by decide +kernel
theorem dX12_emit_22 : decode cX12_emit 22 = .ok (.getfield 214, 3) := by decide +kernel
theorem dX12_emit_25 : decode cX12_emit 25 = .ok (.iconst 1, 1) := by decide +kernel
theorem dX12_emit_26 : decode cX12_emit 26 = .ok (.iadd, 1) := by decide +kernel
theorem dX12_emit_27 : decode cX12_emit 27 = .ok (.putfield 214, 3) := by decide +kernel
theorem dX12_emit_30 : decode cX12_emit 30 = .ok (.return_, 1) := by decide +kernel
set_option maxHeartbeats 4000000 in
set_option maxRecDepth 100000 in
theorem c_X12_emit (l : Launch) (D : va_G) (K : Nat → ClassId) (ad : Nat → Nat) (rest : va_W) (a1 : Int32) (a2 : Int32) (σ : xS) (z : Unit × xS) (hF : F_X12_emit a1 a2 σ = some z) : CV l D K yX12_emit cX12_emit 3 none 0 0 [.ref (ad 0), .int a1, .int a2] (RW K ad rest σ) (RW K ad rest z.2) := by
  refine x_enterV [(0, .ref (ad 0)), (1, .int a1), (2, .int a2)] pnX12 (Nat.le_of_ble_eq_true rfl) rfl ?_
  intro p e s m args below meth c A C
  unfold F_X12_emit at hF
  refine x_aload_n C 0 0 dX12_emit_0 rfl rfl ?_
  refine x_get C 0 dX12_emit_1 fl_X12_33 (RW_o K ad rest σ) rfl ?_
  refine x_aload_n C 0 0 dX12_emit_4 rfl rfl ?_
  refine x_get C 0 dX12_emit_5 fl_X12_214 (RW_o K ad rest σ) rfl ?_
  refine x_iload_n C 1 1 dX12_emit_8 rfl rfl ?_
  refine x_iast C 7 dX12_emit_9 (RW_a18 K ad rest σ) hF (RW_s18 K ad rest σ _) (fun hF => ?_)
  refine x_st (wf := RW K ad rest) hF (fun σ1 hF => ?_)
  refine x_aload_n C 0 0 dX12_emit_10 rfl rfl ?_
  refine x_get C 0 dX12_emit_11 fl_X12_36 (RW_o K ad rest σ1) rfl ?_
  refine x_aload_n C 0 0 dX12_emit_14 rfl rfl ?_
  refine x_get C 0 dX12_emit_15 fl_X12_214 (RW_o K ad rest σ1) rfl ?_
  refine x_iload_n C 2 2 dX12_emit_18 rfl rfl ?_
  refine x_iast C 8 dX12_emit_19 (RW_a19 K ad rest σ1) hF (RW_s19 K ad rest σ1 _) (fun hF => ?_)
  refine x_st (wf := RW K ad rest) hF (fun σ2 hF => ?_)
  refine x_aload_n C 0 0 dX12_emit_20 rfl rfl ?_
  refine x_dup C rfl dX12_emit_21 ?_
  refine x_get C 0 dX12_emit_22 fl_X12_214 (RW_o K ad rest σ2) rfl ?_
  refine x_iconst C 1 dX12_emit_25 (by decide +kernel) ?_
  refine x_iadd C dX12_emit_26 ?_
  refine x_put C 0 dX12_emit_27 fl_X12_214 fm_X12_17 rfl rfl (RW_o K ad rest σ2) (Nat.le_of_ble_eq_true rfl) (RW_s17 K ad rest σ2 _) ?_
  refine x_st (wf := RW K ad rest) hF (fun σ3 hF => ?_)
  exact x_vret C dX12_emit_30 rfl (congrArg (fun q9 : Unit × xS => RW K ad rest q9.2) (Option.some.inj hF))
theorem dX12_push_0 : decode cX12_push 0 = .ok (.aload_n 0, 1) := by decide +kernel
theorem dX12_push_1 : decode cX12_push 1 = .ok (.getfield 39, 3) := by decide +kernel
theorem dX12_push_4 : decode cX12_push 4 = .ok (.aload_n 0, 1) := by decide +kernel
theorem dX12_push_5 : decode cX12_push 5 = .ok (.getfield 217, 3) := by decide +kernel
theorem dX12_push_8 : decode cX12_push 8 = .ok (.iload_n 1, 1) := by decide +kernel
theorem dX12_push_9 : decode cX12_push 9 = .ok (.iastore, 1) := by decide +kernel
theorem dX12_push_10 : decode cX12_push 10 = .ok (.aload_n 0, 1) := by decide +kernel
theorem dX12_push_11 : decode cX12_push 11 = .ok (.getfield 42, 3) := by decide +kernel
theorem dX12_push_14 : decode cX12_push 14 = .ok (.aload_n 0, 1) := by decide +kernel
theorem dX12_push_15 : decode cX12_push 15 = .ok (.getfield 217, 3) := by decide +kernel
theorem dX12_push_18 : decode cX12_push 18 = .ok (.iload_n 2, 1) := by decide +kernel
theorem dX12_push_19 : decode cX12_push 19 = .ok (.iastore, 1) := by decide +kernel
theorem dX12_push_20 : decode cX12_push 20 = .ok (.aload_n 0, 1) := by decide +kernel
theorem dX12_push_21 : decode cX12_push 21 = .ok (.dup, 1) := by decide +kernel
theorem dX12_push_22 : decode cX12_push 22 = .ok (.getfield 217, 3) := by decide +kernel
theorem dX12_push_25 : decode cX12_push 25 = .ok (.iconst 1, 1) := by decide +kernel
theorem dX12_push_26 : decode cX12_push 26 = .ok (.iadd, 1) := by decide +kernel
theorem dX12_push_27 : decode cX12_push 27 = .ok (.putfield 217, 3) := by decide +kernel
theorem dX12_push_30 : decode cX12_push 30 = .ok (.return_, 1) := by decide +kernel
set_option maxHeartbeats 4000000 in
set_option maxRecDepth 100000 in
theorem c_X12_push (l : Launch) (D : va_G) (K : Nat → ClassId) (ad : Nat → Nat) (rest : va_W) (a1 : Int32) (a2 : Int32) (σ : xS) (z : Unit × xS) (hF : F_X12_push a1 a2 σ = some z) : CV l D K yX12_push cX12_push 3 none 0 0 [.ref (ad 0), .int a1, .int a2] (RW K ad rest σ) (RW K ad rest z.2) := by
  refine x_enterV [(0, .ref (ad 0)), (1, .int a1), (2, .int a2)] pnX12 (Nat.le_of_ble_eq_true rfl) rfl ?_
  intro p e s m args below meth c A C
  unfold F_X12_push at hF
  refine x_aload_n C 0 0 dX12_push_0 rfl rfl ?_
  refine x_get C 0 dX12_push_1 fl_X12_39 (RW_o K ad rest σ) rfl ?_
  refine x_aload_n C 0 0 dX12_push_4 rfl rfl ?_
  refine x_get C 0 dX12_push_5 fl_X12_217 (RW_o K ad rest σ) rfl ?_
  refine x_iload_n C 1 1 dX12_push_8 rfl rfl ?_
  refine x_iast C 9 dX12_push_9 (RW_a21 K ad rest σ) hF (RW_s21 K ad rest σ _) (fun hF => ?_)
  refine x_st (wf := RW K ad rest) hF (fun σ1 hF => ?_)
  refine x_aload_n C 0 0 dX12_push_10 rfl rfl ?_
  refine x_get C 0 dX12_push_11 fl_X12_42 (RW_o K ad rest σ1) rfl ?_
  refine x_aload_n C 0 0 dX12_push_14 rfl rfl ?_
  refine x_get C 0 dX12_push_15 fl_X12_217 (RW_o K ad rest σ1) rfl ?_
  refine x_iload_n C 2 2 dX12_push_18 rfl rfl ?_
  refine x_iast C 10 dX12_push_19 (RW_a22 K ad rest σ1) hF (RW_s22 K ad rest σ1 _) (fun hF => ?_)
  refine x_st (wf := RW K ad rest) hF (fun σ2 hF => ?_)
  refine x_aload_n C 0 0 dX12_push_20 rfl rfl ?_
  refine x_dup C rfl dX12_push_21 ?_
  refine x_get C 0 dX12_push_22 fl_X12_217 (RW_o K ad rest σ2) rfl ?_
  refine x_iconst C 1 dX12_push_25 (by decide +kernel) ?_
  refine x_iadd C dX12_push_26 ?_
  refine x_put C 0 dX12_push_27 fl_X12_217 fm_X12_23 rfl rfl (RW_o K ad rest σ2) (Nat.le_of_ble_eq_true rfl) (RW_s23 K ad rest σ2 _) ?_
  refine x_st (wf := RW K ad rest) hF (fun σ3 hF => ?_)
  exact x_vret C dX12_push_30 rfl (congrArg (fun q9 : Unit × xS => RW K ad rest q9.2) (Option.some.inj hF))
theorem dX12_binds_0 : decode cX12_binds 0 = .ok (.iload_n 0, 1) := by decide +kernel
theorem dX12_binds_1 : decode cX12_binds 1 = .ok (.bipush 30, 2) := by decide +kernel
theorem dX12_binds_3 : decode cX12_binds 3 = .ok (.if_icmp .lt 7, 3) := by decide +kernel
theorem dX12_binds_6 : decode cX12_binds 6 = .ok (.iconst 0, 1) := by decide +kernel
theorem dX12_binds_7 : decode cX12_binds 7 = .ok (.goto 55, 3) := by decide +kernel
theorem dX12_binds_10 : decode cX12_binds 10 = .ok (.iload_n 0, 1) := by decide +kernel
theorem dX12_binds_11 : decode cX12_binds 11 = .ok (.bipush 29, 2) := by decide +kernel
theorem dX12_binds_13 : decode cX12_binds 13 = .ok (.if_icmp .ne 7, 3) := by decide +kernel
theorem dX12_binds_16 : decode cX12_binds 16 = .ok (.iconst 1, 1) := by decide +kernel
theorem dX12_binds_17 : decode cX12_binds 17 = .ok (.goto 45, 3) := by decide +kernel
theorem dX12_binds_20 : decode cX12_binds 20 = .ok (.iload_n 0, 1) := by decide +kernel
theorem dX12_binds_21 : decode cX12_binds 21 = .ok (.bipush 28, 2) := by decide +kernel
theorem dX12_binds_23 : decode cX12_binds 23 = .ok (.if_icmp .ne 7, 3) := by decide +kernel
theorem dX12_binds_26 : decode cX12_binds 26 = .ok (.iconst 2, 1) := by decide +kernel
theorem dX12_binds_27 : decode cX12_binds 27 = .ok (.goto 35, 3) := by decide +kernel
theorem dX12_binds_30 : decode cX12_binds 30 = .ok (.iload_n 0, 1) := by decide +kernel
theorem dX12_binds_31 : decode cX12_binds 31 = .ok (.bipush 27, 2) := by decide +kernel
theorem dX12_binds_33 : decode cX12_binds 33 = .ok (.if_icmp .ne 7, 3) := by decide +kernel
theorem dX12_binds_36 : decode cX12_binds 36 = .ok (.iconst 3, 1) := by decide +kernel
theorem dX12_binds_37 : decode cX12_binds 37 = .ok (.goto 25, 3) := by decide +kernel
theorem dX12_binds_40 : decode cX12_binds 40 = .ok (.iload_n 0, 1) := by decide +kernel
theorem dX12_binds_41 : decode cX12_binds 41 = .ok (.bipush 24, 2) := by decide +kernel
theorem dX12_binds_43 : decode cX12_binds 43 = .ok (.if_icmp .lt 7, 3) := by decide +kernel
theorem dX12_binds_46 : decode cX12_binds 46 = .ok (.iconst 4, 1) := by decide +kernel
theorem dX12_binds_47 : decode cX12_binds 47 = .ok (.goto 15, 3) := by decide +kernel
theorem dX12_binds_50 : decode cX12_binds 50 = .ok (.iload_n 0, 1) := by decide +kernel
theorem dX12_binds_51 : decode cX12_binds 51 = .ok (.bipush 22, 2) := by decide +kernel
theorem dX12_binds_53 : decode cX12_binds 53 = .ok (.if_icmp .lt 8, 3) := by decide +kernel
theorem dX12_binds_56 : decode cX12_binds 56 = .ok (.bipush 6, 2) := by decide +kernel
theorem dX12_binds_58 : decode cX12_binds 58 = .ok (.goto 4, 3) := by decide +kernel
theorem dX12_binds_61 : decode cX12_binds 61 = .ok (.iconst 5, 1) := by decide +kernel
theorem dX12_binds_62 : decode cX12_binds 62 = .ok (.ireturn, 1) := by decide +kernel
set_option maxHeartbeats 4000000 in
set_option maxRecDepth 100000 in
theorem c_X12_binds (l : Launch) (D : va_G) (K : Nat → ClassId) (ad : Nat → Nat) (rest : va_W) (a1 : Int32) (σ : xS) (z : Int32 × xS) (hF : F_X12_binds a1 σ = some z) : CI l D K yX12_binds cX12_binds 1 (some .int) 0 0 [.int a1] (RW K ad rest σ) z.1 (RW K ad rest z.2) := by
  refine x_enterI [(0, .int a1)] pnX12 (Nat.le_of_ble_eq_true rfl) rfl ?_
  intro p e s m args below meth c A C
  unfold F_X12_binds at hF
  refine x_iload_n C 0 0 dX12_binds_0 rfl rfl ?_
  refine x_bipush C 30 dX12_binds_1 (by decide +kernel) ?_
  refine x_icmp_lt C 10 dX12_binds_3 (by decide) hF (fun hF => ?_) (fun hF => ?_)
  · refine x_iload_n C 0 0 dX12_binds_10 rfl rfl ?_
    refine x_bipush C 29 dX12_binds_11 (by decide +kernel) ?_
    refine x_icmp_ne C 20 dX12_binds_13 (by decide) hF (fun hF => ?_) (fun hF => ?_)
    · refine x_iload_n C 0 0 dX12_binds_20 rfl rfl ?_
      refine x_bipush C 28 dX12_binds_21 (by decide +kernel) ?_
      refine x_icmp_ne C 30 dX12_binds_23 (by decide) hF (fun hF => ?_) (fun hF => ?_)
      · refine x_iload_n C 0 0 dX12_binds_30 rfl rfl ?_
        refine x_bipush C 27 dX12_binds_31 (by decide +kernel) ?_
        refine x_icmp_ne C 40 dX12_binds_33 (by decide) hF (fun hF => ?_) (fun hF => ?_)
        · refine x_iload_n C 0 0 dX12_binds_40 rfl rfl ?_
          refine x_bipush C 24 dX12_binds_41 (by decide +kernel) ?_
          refine x_icmp_lt C 50 dX12_binds_43 (by decide) hF (fun hF => ?_) (fun hF => ?_)
          · refine x_iload_n C 0 0 dX12_binds_50 rfl rfl ?_
            refine x_bipush C 22 dX12_binds_51 (by decide +kernel) ?_
            refine x_icmp_lt C 61 dX12_binds_53 (by decide) hF (fun hF => ?_) (fun hF => ?_)
            · refine x_iconst C 5 dX12_binds_61 (by decide +kernel) ?_
              exact x_iret C dX12_binds_62 rfl (congrArg Prod.fst (Option.some.inj hF)) (congrArg (fun q9 : Int32 × xS => RW K ad rest q9.2) (Option.some.inj hF))
            · refine x_bipush C 6 dX12_binds_56 (by decide +kernel) ?_
              refine x_goto C 62 dX12_binds_58 (by decide) ?_
              exact x_iret C dX12_binds_62 rfl (congrArg Prod.fst (Option.some.inj hF)) (congrArg (fun q9 : Int32 × xS => RW K ad rest q9.2) (Option.some.inj hF))
          · refine x_iconst C 4 dX12_binds_46 (by decide +kernel) ?_
            refine x_goto C 62 dX12_binds_47 (by decide) ?_
            exact x_iret C dX12_binds_62 rfl (congrArg Prod.fst (Option.some.inj hF)) (congrArg (fun q9 : Int32 × xS => RW K ad rest q9.2) (Option.some.inj hF))
        · refine x_iconst C 3 dX12_binds_36 (by decide +kernel) ?_
          refine x_goto C 62 dX12_binds_37 (by decide) ?_
          exact x_iret C dX12_binds_62 rfl (congrArg Prod.fst (Option.some.inj hF)) (congrArg (fun q9 : Int32 × xS => RW K ad rest q9.2) (Option.some.inj hF))
      · refine x_iconst C 2 dX12_binds_26 (by decide +kernel) ?_
        refine x_goto C 62 dX12_binds_27 (by decide) ?_
        exact x_iret C dX12_binds_62 rfl (congrArg Prod.fst (Option.some.inj hF)) (congrArg (fun q9 : Int32 × xS => RW K ad rest q9.2) (Option.some.inj hF))
    · refine x_iconst C 1 dX12_binds_16 (by decide +kernel) ?_
      refine x_goto C 62 dX12_binds_17 (by decide) ?_
      exact x_iret C dX12_binds_62 rfl (congrArg Prod.fst (Option.some.inj hF)) (congrArg (fun q9 : Int32 × xS => RW K ad rest q9.2) (Option.some.inj hF))
  · refine x_iconst C 0 dX12_binds_6 (by decide +kernel) ?_
    refine x_goto C 62 dX12_binds_7 (by decide) ?_
    exact x_iret C dX12_binds_62 rfl (congrArg Prod.fst (Option.some.inj hF)) (congrArg (fun q9 : Int32 × xS => RW K ad rest q9.2) (Option.some.inj hF))
theorem dX12_settle_0 : decode cX12_settle 0 = .ok (.aload_n 0, 1) := by decide +kernel
theorem dX12_settle_1 : decode cX12_settle 1 = .ok (.getfield 217, 3) := by decide +kernel
theorem dX12_settle_4 : decode cX12_settle 4 = .ok (.ifCond .le 97, 3) := by decide +kernel
theorem dX12_settle_7 : decode cX12_settle 7 = .ok (.aload_n 0, 1) := by decide +kernel
theorem dX12_settle_8 : decode cX12_settle 8 = .ok (.getfield 39, 3) := by decide +kernel
theorem dX12_settle_11 : decode cX12_settle 11 = .ok (.aload_n 0, 1) := by decide +kernel
theorem dX12_settle_12 : decode cX12_settle 12 = .ok (.getfield 217, 3) := by decide +kernel
theorem dX12_settle_15 : decode cX12_settle 15 = .ok (.iconst 1, 1) := by decide +kernel
theorem dX12_settle_16 : decode cX12_settle 16 = .ok (.isub, 1) := by decide +kernel
theorem dX12_settle_17 : decode cX12_settle 17 = .ok (.iaload, 1) := by decide +kernel
theorem dX12_settle_18 : decode cX12_settle 18 = .ok (.invokestatic 220, 3) := by decide +kernel
theorem dX12_settle_21 : decode cX12_settle 21 = .ok (.iload_n 1, 1) := by decide +kernel
theorem dX12_settle_22 : decode cX12_settle 22 = .ok (.if_icmp .lt 79, 3) := by decide +kernel
theorem dX12_settle_25 : decode cX12_settle 25 = .ok (.aload_n 0, 1) := by decide +kernel
theorem dX12_settle_26 : decode cX12_settle 26 = .ok (.dup, 1) := by decide +kernel
theorem dX12_settle_27 : decode cX12_settle 27 = .ok (.getfield 217, 3) := by decide +kernel
theorem dX12_settle_30 : decode cX12_settle 30 = .ok (.iconst 1, 1) := by decide +kernel
theorem dX12_settle_31 : decode cX12_settle 31 = .ok (.isub, 1) := by decide +kernel
theorem dX12_settle_32 : decode cX12_settle 32 = .ok (.putfield 217, 3) := by decide +kernel
theorem dX12_settle_35 : decode cX12_settle 35 = .ok (.aload_n 0, 1) := by decide +kernel
theorem dX12_settle_36 : decode cX12_settle 36 = .ok (.getfield 39, 3) := by decide +kernel
theorem dX12_settle_39 : decode cX12_settle 39 = .ok (.aload_n 0, 1) := by decide +kernel
theorem dX12_settle_40 : decode cX12_settle 40 = .ok (.getfield 217, 3) := by decide +kernel
theorem dX12_settle_43 : decode cX12_settle 43 = .ok (.iaload, 1) := by decide +kernel
theorem dX12_settle_44 : decode cX12_settle 44 = .ok (.bipush 28, 2) := by decide +kernel
theorem dX12_settle_46 : decode cX12_settle 46 = .ok (.if_icmp .eq 17, 3) := by decide +kernel
theorem dX12_settle_49 : decode cX12_settle 49 = .ok (.aload_n 0, 1) := by decide +kernel
theorem dX12_settle_50 : decode cX12_settle 50 = .ok (.getfield 39, 3) := by decide +kernel
theorem dX12_settle_53 : decode cX12_settle 53 = .ok (.aload_n 0, 1) := by decide +kernel
theorem dX12_settle_54 : decode cX12_settle 54 = .ok (.getfield 217, 3) := by decide +kernel
theorem dX12_settle_57 : decode cX12_settle 57 = .ok (.iaload, 1) := by decide +kernel
theorem dX12_settle_58 : decode cX12_settle 58 = .ok (.bipush 29, 2) := by decide +kernel
theorem dX12_settle_60 : decode cX12_settle 60 = .ok (.if_icmp .ne 24, 3) := by decide +kernel
theorem dX12_settle_63 : decode cX12_settle 63 = .ok (.aload_n 0, 1) := by decide +kernel
theorem dX12_settle_64 : decode cX12_settle 64 = .ok (.getfield 36, 3) := by decide +kernel
theorem dX12_settle_67 : decode cX12_settle 67 = .ok (.aload_n 0, 1) := by decide +kernel
theorem dX12_settle_68 : decode cX12_settle 68 = .ok (.getfield 42, 3) := by decide +kernel
theorem dX12_settle_71 : decode cX12_settle 71 = .ok (.aload_n 0, 1) := by decide +kernel
theorem dX12_settle_72 : decode cX12_settle 72 = .ok (.getfield 217, 3) := by decide +kernel
theorem dX12_settle_75 : decode cX12_settle 75 = .ok (.iaload, 1) := by decide +kernel
theorem dX12_settle_76 : decode cX12_settle 76 = .ok (.aload_n 0, 1) := by decide +kernel
theorem dX12_settle_77 : decode cX12_settle 77 = .ok (.getfield 214, 3) := by decide +kernel
theorem dX12_settle_80 : decode cX12_settle 80 = .ok (.iastore, 1) := by decide +kernel
theorem dX12_settle_81 : decode cX12_settle 81 = .ok (.goto (-81), 3) := by decide +kernel
theorem dX12_settle_84 : decode cX12_settle 84 = .ok (.aload_n 0, 1) := by decide +kernel
theorem dX12_settle_85 : decode cX12_settle 85 = .ok (.aload_n 0, 1) := by decide +kernel
theorem dX12_settle_86 : decode cX12_settle 86 = .ok (.getfield 39, 3) := by decide +kernel
theorem dX12_settle_89 : decode cX12_settle 89 = .ok (.aload_n 0, 1) := by decide +kernel
theorem dX12_settle_90 : decode cX12_settle 90 = .ok (.getfield 217, 3) := by decide +kernel
theorem dX12_settle_93 : decode cX12_settle 93 = .ok (.iaload, 1) := by decide +kernel
theorem dX12_settle_94 : decode cX12_settle 94 = .ok (.iconst 0, 1) := by decide +kernel
theorem dX12_settle_95 : decode cX12_settle 95 = .ok (.invokevirtual 223, 3) := by decide +kernel
theorem dX12_settle_98 : decode cX12_settle 98 = .ok (.goto (-98), 3) := by decide +kernel
theorem dX12_settle_101 : decode cX12_settle 101 = .ok (.return_, 1) := by decide +kernel
set_option maxHeartbeats 4000000 in
set_option maxRecDepth 100000 in
theorem x_X12_settle_63 {p : Program} {l : Launch} {e : Env} {s : State} {m : MethodId} {args : Array Value} {below : List Frame} {meth : Method} {c : Code} {D : va_G} {K : Nat → ClassId} {A : Nat → Prop} {ad : Nat → Nat} {rest : va_W} (C : xC p s m args meth c D K A RX12 cX12_settle 2 none) (z : Unit × xS) (k_0 : Int32 → xS → Option (Unit × xS)) (H_0 : ∀ (y1 : Int32) (σ : xS), k_0 y1 σ = some z → X p l e (xR 1 22) s m args below meth c D A 2 (xQv below D K A args s (RW K ad rest z.2)) 0 0 0 [(0, .ref (ad 0)), (1, .int y1)] [] (RW K ad rest σ)) : ∀ (y1 : Int32) (σ : xS), F_X12_settle_63 k_0 y1 σ = some z → X p l e (xR 1 22) s m args below meth c D A 2 (xQv below D K A args s (RW K ad rest z.2)) 0 0 63 [(0, .ref (ad 0)), (1, .int y1)] [] (RW K ad rest σ) := by
  intro y1 σ hF
  unfold F_X12_settle_63 at hF
  refine x_aload_n C 0 0 dX12_settle_63 rfl rfl ?_
  refine x_get C 0 dX12_settle_64 fl_X12_36 (RW_o K ad rest σ) rfl ?_
  refine x_aload_n C 0 0 dX12_settle_67 rfl rfl ?_
  refine x_get C 0 dX12_settle_68 fl_X12_42 (RW_o K ad rest σ) rfl ?_
  refine x_aload_n C 0 0 dX12_settle_71 rfl rfl ?_
  refine x_get C 0 dX12_settle_72 fl_X12_217 (RW_o K ad rest σ) rfl ?_
  refine x_iald C 10 dX12_settle_75 (RW_a22 K ad rest σ) hF (fun v9 hF => ?_)
  refine x_aload_n C 0 0 dX12_settle_76 rfl rfl ?_
  refine x_get C 0 dX12_settle_77 fl_X12_214 (RW_o K ad rest σ) rfl ?_
  refine x_iast C 8 dX12_settle_80 (RW_a19 K ad rest σ) hF (RW_s19 K ad rest σ _) (fun hF => ?_)
  refine x_st (wf := RW K ad rest) hF (fun σ10 hF => ?_)
  refine x_goto C 0 dX12_settle_81 (by decide) ?_
  exact H_0 y1 σ10 hF
set_option maxHeartbeats 4000000 in
set_option maxRecDepth 100000 in
theorem x_X12_settle_0 {p : Program} {l : Launch} {e : Env} {s : State} {m : MethodId} {args : Array Value} {below : List Frame} {meth : Method} {c : Code} {D : va_G} {K : Nat → ClassId} {A : Nat → Prop} {ad : Nat → Nat} {rest : va_W} (C : xC p s m args meth c D K A RX12 cX12_settle 2 none) (z : Unit × xS) : ∀ (n : Nat) (y1 : Int32) (σ : xS), F_X12_settle_0  n y1 σ = some z → X p l e (xR 1 22) s m args below meth c D A 2 (xQv below D K A args s (RW K ad rest z.2)) 0 0 0 [(0, .ref (ad 0)), (1, .int y1)] [] (RW K ad rest σ) := by
  intro n
  induction n with
  | zero =>
    intro y1 σ hF
    cases hF
  | succ n ih =>
    intro y1 σ hF
    rw [F_X12_settle_0] at hF
    refine x_aload_n C 0 0 dX12_settle_0 rfl rfl ?_
    refine x_get C 0 dX12_settle_1 fl_X12_217 (RW_o K ad rest σ) rfl ?_
    refine x_if_le C 101 dX12_settle_4 (by decide) hF (fun hF => ?_) (fun hF => ?_)
    · exact x_vret C dX12_settle_101 rfl (congrArg (fun q9 : Unit × xS => RW K ad rest q9.2) (Option.some.inj hF))
    · refine x_aload_n C 0 0 dX12_settle_7 rfl rfl ?_
      refine x_get C 0 dX12_settle_8 fl_X12_39 (RW_o K ad rest σ) rfl ?_
      refine x_aload_n C 0 0 dX12_settle_11 rfl rfl ?_
      refine x_get C 0 dX12_settle_12 fl_X12_217 (RW_o K ad rest σ) rfl ?_
      refine x_iconst C 1 dX12_settle_15 (by decide +kernel) ?_
      refine x_isub C dX12_settle_16 ?_
      refine x_iald C 9 dX12_settle_17 (RW_a21 K ad rest σ) hF (fun v1 hF => ?_)
      refine x_callSI C (wf := RW K ad rest) (As := [.int v1]) (rest := []) dX12_settle_18 ml_X12_220 rfl rfl (Nat.le_of_ble_eq_true rfl) ⟨Nat.le_of_ble_eq_true rfl, Nat.le_of_ble_eq_true rfl⟩ ⟨Nat.zero_le _, Nat.zero_le _⟩ (fun q9 hq9 => c_X12_binds l D K ad rest v1 σ q9 hq9) hF (fun v3 σ2 hF => ?_)
      refine x_iload_n C 1 1 dX12_settle_21 rfl rfl ?_
      refine x_icmp_lt C 101 dX12_settle_22 (by decide) hF (fun hF => ?_) (fun hF => ?_)
      · exact x_vret C dX12_settle_101 rfl (congrArg (fun q9 : Unit × xS => RW K ad rest q9.2) (Option.some.inj hF))
      · refine x_aload_n C 0 0 dX12_settle_25 rfl rfl ?_
        refine x_dup C rfl dX12_settle_26 ?_
        refine x_get C 0 dX12_settle_27 fl_X12_217 (RW_o K ad rest σ2) rfl ?_
        refine x_iconst C 1 dX12_settle_30 (by decide +kernel) ?_
        refine x_isub C dX12_settle_31 ?_
        refine x_put C 0 dX12_settle_32 fl_X12_217 fm_X12_23 rfl rfl (RW_o K ad rest σ2) (Nat.le_of_ble_eq_true rfl) (RW_s23 K ad rest σ2 _) ?_
        refine x_st (wf := RW K ad rest) hF (fun σ4 hF => ?_)
        refine x_aload_n C 0 0 dX12_settle_35 rfl rfl ?_
        refine x_get C 0 dX12_settle_36 fl_X12_39 (RW_o K ad rest σ4) rfl ?_
        refine x_aload_n C 0 0 dX12_settle_39 rfl rfl ?_
        refine x_get C 0 dX12_settle_40 fl_X12_217 (RW_o K ad rest σ4) rfl ?_
        refine x_iald C 9 dX12_settle_43 (RW_a21 K ad rest σ4) hF (fun v5 hF => ?_)
        refine x_bipush C 28 dX12_settle_44 (by decide +kernel) ?_
        refine x_icmp_eq C 63 dX12_settle_46 (by decide) hF (fun hF => ?_) (fun hF => ?_)
        · exact x_X12_settle_63 C z ((F_X12_settle_0 n)) ih y1 σ4 hF
        · refine x_aload_n C 0 0 dX12_settle_49 rfl rfl ?_
          refine x_get C 0 dX12_settle_50 fl_X12_39 (RW_o K ad rest σ4) rfl ?_
          refine x_aload_n C 0 0 dX12_settle_53 rfl rfl ?_
          refine x_get C 0 dX12_settle_54 fl_X12_217 (RW_o K ad rest σ4) rfl ?_
          refine x_iald C 9 dX12_settle_57 (RW_a21 K ad rest σ4) hF (fun v6 hF => ?_)
          refine x_bipush C 29 dX12_settle_58 (by decide +kernel) ?_
          refine x_icmp_ne C 84 dX12_settle_60 (by decide) hF (fun hF => ?_) (fun hF => ?_)
          · refine x_aload_n C 0 0 dX12_settle_84 rfl rfl ?_
            refine x_aload_n C 0 0 dX12_settle_85 rfl rfl ?_
            refine x_get C 0 dX12_settle_86 fl_X12_39 (RW_o K ad rest σ4) rfl ?_
            refine x_aload_n C 0 0 dX12_settle_89 rfl rfl ?_
            refine x_get C 0 dX12_settle_90 fl_X12_217 (RW_o K ad rest σ4) rfl ?_
            refine x_iald C 9 dX12_settle_93 (RW_a21 K ad rest σ4) hF (fun v7 hF => ?_)
            refine x_iconst C 0 dX12_settle_94 (by decide +kernel) ?_
            refine x_callVV C (wf := RW K ad rest) (As := [.int v7, .int 0]) (rest := []) dX12_settle_95 ml_X12_223 rfl rfl (Nat.le_of_ble_eq_true rfl) 0 (RW_o K ad rest σ4) rfl ⟨Nat.le_of_ble_eq_true rfl, Nat.le_of_ble_eq_true rfl⟩ ⟨Nat.zero_le _, Nat.zero_le _⟩ (fun q9 hq9 => c_X12_emit l D K ad rest v7 0 σ4 q9 hq9) hF (fun _ σ8 hF => ?_)
            refine x_goto C 0 dX12_settle_98 (by decide) ?_
            exact ih y1 σ8 hF
          · exact x_X12_settle_63 C z ((F_X12_settle_0 n)) ih y1 σ4 hF
set_option maxHeartbeats 4000000 in
set_option maxRecDepth 100000 in
theorem c_X12_settle (l : Launch) (D : va_G) (K : Nat → ClassId) (ad : Nat → Nat) (rest : va_W) (a1 : Int32) (σ : xS) (z : Unit × xS) (hF : F_X12_settle a1 σ = some z) : CV l D K yX12_settle cX12_settle 2 none 1 22 [.ref (ad 0), .int a1] (RW K ad rest σ) (RW K ad rest z.2) := by
  refine x_enterV [(0, .ref (ad 0)), (1, .int a1)] pnX12 (Nat.le_of_ble_eq_true rfl) rfl ?_
  intro p e s m args below meth c A C
  unfold F_X12_settle at hF
  exact x_X12_settle_0 C z FU a1 σ hF
theorem dX12_inner_0 : decode cX12_inner 0 = .ok (.iconst (-1), 1) := by decide +kernel
theorem dX12_inner_1 : decode cX12_inner 1 = .ok (.istore_n 1, 1) := by decide +kernel
theorem dX12_inner_2 : decode cX12_inner 2 = .ok (.iconst 0, 1) := by decide +kernel
theorem dX12_inner_3 : decode cX12_inner 3 = .ok (.istore_n 2, 1) := by decide +kernel
theorem dX12_inner_4 : decode cX12_inner 4 = .ok (.iload_n 2, 1) := by decide +kernel
theorem dX12_inner_5 : decode cX12_inner 5 = .ok (.aload_n 0, 1) := by decide +kernel
theorem dX12_inner_6 : decode cX12_inner 6 = .ok (.getfield 217, 3) := by decide +kernel
theorem dX12_inner_9 : decode cX12_inner 9 = .ok (.if_icmp .ge 31, 3) := by decide +kernel
theorem dX12_inner_12 : decode cX12_inner 12 = .ok (.aload_n 0, 1) := by decide +kernel
theorem dX12_inner_13 : decode cX12_inner 13 = .ok (.getfield 39, 3) := by decide +kernel
theorem dX12_inner_16 : decode cX12_inner 16 = .ok (.iload_n 2, 1) := by decide +kernel
theorem dX12_inner_17 : decode cX12_inner 17 = .ok (.iaload, 1) := by decide +kernel
theorem dX12_inner_18 : decode cX12_inner 18 = .ok (.bipush 30, 2) := by decide +kernel
theorem dX12_inner_20 : decode cX12_inner 20 = .ok (.if_icmp .lt 12, 3) := by decide +kernel
theorem dX12_inner_23 : decode cX12_inner 23 = .ok (.aload_n 0, 1) := by decide +kernel
theorem dX12_inner_24 : decode cX12_inner 24 = .ok (.getfield 39, 3) := by decide +kernel
theorem dX12_inner_27 : decode cX12_inner 27 = .ok (.iload_n 2, 1) := by decide +kernel
theorem dX12_inner_28 : decode cX12_inner 28 = .ok (.iaload, 1) := by decide +kernel
theorem dX12_inner_29 : decode cX12_inner 29 = .ok (.goto 4, 3) := by decide +kernel
theorem dX12_inner_32 : decode cX12_inner 32 = .ok (.iload_n 1, 1) := by decide +kernel
theorem dX12_inner_33 : decode cX12_inner 33 = .ok (.istore_n 1, 1) := by decide +kernel
theorem dX12_inner_34 : decode cX12_inner 34 = .ok (.iinc 2 1, 3) := by decide +kernel
theorem dX12_inner_37 : decode cX12_inner 37 = .ok (.goto (-33), 3) := by decide +kernel
theorem dX12_inner_40 : decode cX12_inner 40 = .ok (.iload_n 1, 1) := by decide +kernel
theorem dX12_inner_41 : decode cX12_inner 41 = .ok (.ireturn, 1) := by decide +kernel
set_option maxHeartbeats 4000000 in
set_option maxRecDepth 100000 in
theorem x_X12_inner_4 {p : Program} {l : Launch} {e : Env} {s : State} {m : MethodId} {args : Array Value} {below : List Frame} {meth : Method} {c : Code} {D : va_G} {K : Nat → ClassId} {A : Nat → Prop} {ad : Nat → Nat} {rest : va_W} (C : xC p s m args meth c D K A RX12 cX12_inner 3 (some .int)) (z : Int32 × xS) : ∀ (n : Nat) (y1 : Int32) (y2 : Int32) (σ : xS), F_X12_inner_4  n y1 y2 σ = some z → X p l e (xR 0 0) s m args below meth c D A 3 (xQi below D K A args s z.1 (RW K ad rest z.2)) 0 0 4 [(0, .ref (ad 0)), (1, .int y1), (2, .int y2)] [] (RW K ad rest σ) := by
  intro n
  induction n with
  | zero =>
    intro y1 y2 σ hF
    cases hF
  | succ n ih =>
    intro y1 y2 σ hF
    rw [F_X12_inner_4] at hF
    refine x_iload_n C 2 2 dX12_inner_4 rfl rfl ?_
    refine x_aload_n C 0 0 dX12_inner_5 rfl rfl ?_
    refine x_get C 0 dX12_inner_6 fl_X12_217 (RW_o K ad rest σ) rfl ?_
    refine x_icmp_ge C 40 dX12_inner_9 (by decide) hF (fun hF => ?_) (fun hF => ?_)
    · refine x_iload_n C 1 1 dX12_inner_40 rfl rfl ?_
      exact x_iret C dX12_inner_41 rfl (congrArg Prod.fst (Option.some.inj hF)) (congrArg (fun q9 : Int32 × xS => RW K ad rest q9.2) (Option.some.inj hF))
    · refine x_aload_n C 0 0 dX12_inner_12 rfl rfl ?_
      refine x_get C 0 dX12_inner_13 fl_X12_39 (RW_o K ad rest σ) rfl ?_
      refine x_iload_n C 2 2 dX12_inner_16 rfl rfl ?_
      refine x_iald C 9 dX12_inner_17 (RW_a21 K ad rest σ) hF (fun v3 hF => ?_)
      refine x_bipush C 30 dX12_inner_18 (by decide +kernel) ?_
      refine x_icmp_lt C 32 dX12_inner_20 (by decide) hF (fun hF => ?_) (fun hF => ?_)
      · refine x_iload_n C 1 1 dX12_inner_32 rfl rfl ?_
        refine x_istore_n C [(1, .int y1), (0, .ref (ad 0)), (2, .int y2)] dX12_inner_33 rfl (by decide) rfl ?_
        refine x_iincN C 1 2 (fun x4 => [(2, .int x4), (1, .int y1), (0, .ref (ad 0))]) dX12_inner_34 rfl (by decide +kernel) (by decide) (fun _ => rfl) hF (fun x4 hF => ?_)
        refine x_goto C 4 dX12_inner_37 (by decide) ?_
        refine x_loc [(0, .ref (ad 0)), (1, .int y1), (2, .int x4)] [2, 1, 0] rfl ?_
        exact ih y1 x4 σ hF
      · refine x_aload_n C 0 0 dX12_inner_23 rfl rfl ?_
        refine x_get C 0 dX12_inner_24 fl_X12_39 (RW_o K ad rest σ) rfl ?_
        refine x_iload_n C 2 2 dX12_inner_27 rfl rfl ?_
        refine x_iald C 9 dX12_inner_28 (RW_a21 K ad rest σ) hF (fun v5 hF => ?_)
        refine x_goto C 33 dX12_inner_29 (by decide) ?_
        refine x_istore_n C [(1, .int v5), (0, .ref (ad 0)), (2, .int y2)] dX12_inner_33 rfl (by decide) rfl ?_
        refine x_iincN C 1 2 (fun x6 => [(2, .int x6), (1, .int v5), (0, .ref (ad 0))]) dX12_inner_34 rfl (by decide +kernel) (by decide) (fun _ => rfl) hF (fun x6 hF => ?_)
        refine x_goto C 4 dX12_inner_37 (by decide) ?_
        refine x_loc [(0, .ref (ad 0)), (1, .int v5), (2, .int x6)] [2, 1, 0] rfl ?_
        exact ih v5 x6 σ hF
set_option maxHeartbeats 4000000 in
set_option maxRecDepth 100000 in
theorem c_X12_inner (l : Launch) (D : va_G) (K : Nat → ClassId) (ad : Nat → Nat) (rest : va_W)  (σ : xS) (z : Int32 × xS) (hF : F_X12_inner σ = some z) : CI l D K yX12_inner cX12_inner 3 (some .int) 0 0 [.ref (ad 0)] (RW K ad rest σ) z.1 (RW K ad rest z.2) := by
  refine x_enterI [(0, .ref (ad 0))] pnX12 (Nat.le_of_ble_eq_true rfl) rfl ?_
  intro p e s m args below meth c A C
  unfold F_X12_inner at hF
  refine x_iconst C (-1) dX12_inner_0 (by decide +kernel) ?_
  refine x_topI hF (fun x1 hF => ?_)
  refine x_istore_n C [(1, .int x1), (0, .ref (ad 0))] dX12_inner_1 rfl (by decide) rfl ?_
  refine x_iconst C 0 dX12_inner_2 (by decide +kernel) ?_
  refine x_topI hF (fun x2 hF => ?_)
  refine x_istore_n C [(2, .int x2), (1, .int x1), (0, .ref (ad 0))] dX12_inner_3 rfl (by decide) rfl ?_
  refine x_loc [(0, .ref (ad 0)), (1, .int x1), (2, .int x2)] [2, 1, 0] rfl ?_
  exact x_X12_inner_4 C z FU x1 x2 σ hF
theorem dX12_isCompared_0 : decode cX12_isCompared 0 = .ok (.aload_n 0, 1) := by decide +kernel
theorem dX12_isCompared_1 : decode cX12_isCompared 1 = .ok (.getfield 217, 3) := by decide +kernel
theorem dX12_isCompared_4 : decode cX12_isCompared 4 = .ok (.iconst 1, 1) := by decide +kernel
theorem dX12_isCompared_5 : decode cX12_isCompared 5 = .ok (.isub, 1) := by decide +kernel
theorem dX12_isCompared_6 : decode cX12_isCompared 6 = .ok (.istore_n 1, 1) := by decide +kernel
theorem dX12_isCompared_7 : decode cX12_isCompared 7 = .ok (.iload_n 1, 1) := by decide +kernel
theorem dX12_isCompared_8 : decode cX12_isCompared 8 = .ok (.ifCond .lt 28, 3) := by decide +kernel
theorem dX12_isCompared_11 : decode cX12_isCompared 11 = .ok (.aload_n 0, 1) := by decide +kernel
theorem dX12_isCompared_12 : decode cX12_isCompared 12 = .ok (.getfield 39, 3) := by decide +kernel
theorem dX12_isCompared_15 : decode cX12_isCompared 15 = .ok (.iload_n 1, 1) := by decide +kernel
theorem dX12_isCompared_16 : decode cX12_isCompared 16 = .ok (.iaload, 1) := by decide +kernel
theorem dX12_isCompared_17 : decode cX12_isCompared 17 = .ok (.i2l, 1) := by decide +kernel
theorem dX12_isCompared_18 : decode cX12_isCompared 18 = .ok (.ldc2_w 227, 3) := by decide +kernel
theorem dX12_isCompared_21 : decode cX12_isCompared 21 = .ok (.ldc2_w 229, 3) := by decide +kernel
theorem dX12_isCompared_24 : decode cX12_isCompared 24 = .ok (.invokestatic 117, 3) := by decide +kernel
theorem dX12_isCompared_27 : decode cX12_isCompared 27 = .ok (.ifCond .eq 9, 3) := by decide +kernel
theorem dX12_isCompared_30 : decode cX12_isCompared 30 = .ok (.iinc 1 (-1), 3) := by decide +kernel
theorem dX12_isCompared_33 : decode cX12_isCompared 33 = .ok (.goto (-26), 3) := by decide +kernel
theorem dX12_isCompared_36 : decode cX12_isCompared 36 = .ok (.iload_n 1, 1) := by decide +kernel
theorem dX12_isCompared_37 : decode cX12_isCompared 37 = .ok (.ifCond .lt 26, 3) := by decide +kernel
theorem dX12_isCompared_40 : decode cX12_isCompared 40 = .ok (.aload_n 0, 1) := by decide +kernel
theorem dX12_isCompared_41 : decode cX12_isCompared 41 = .ok (.getfield 39, 3) := by decide +kernel
theorem dX12_isCompared_44 : decode cX12_isCompared 44 = .ok (.iload_n 1, 1) := by decide +kernel
theorem dX12_isCompared_45 : decode cX12_isCompared 45 = .ok (.iaload, 1) := by decide +kernel
theorem dX12_isCompared_46 : decode cX12_isCompared 46 = .ok (.i2l, 1) := by decide +kernel
theorem dX12_isCompared_47 : decode cX12_isCompared 47 = .ok (.ldc2_w 231, 3) := by decide +kernel
theorem dX12_isCompared_50 : decode cX12_isCompared 50 = .ok (.ldc2_w 233, 3) := by decide +kernel
theorem dX12_isCompared_53 : decode cX12_isCompared 53 = .ok (.invokestatic 117, 3) := by decide +kernel
theorem dX12_isCompared_56 : decode cX12_isCompared 56 = .ok (.ifCond .eq 7, 3) := by decide +kernel
theorem dX12_isCompared_59 : decode cX12_isCompared 59 = .ok (.iconst 1, 1) := by decide +kernel
theorem dX12_isCompared_60 : decode cX12_isCompared 60 = .ok (.goto 4, 3) := by decide +kernel
theorem dX12_isCompared_63 : decode cX12_isCompared 63 = .ok (.iconst 0, 1) := by decide +kernel
theorem dX12_isCompared_64 : decode cX12_isCompared 64 = .ok (.ireturn, 1) := by decide +kernel
set_option maxHeartbeats 4000000 in
set_option maxRecDepth 100000 in
theorem x_X12_isCompared_36 {p : Program} {l : Launch} {e : Env} {s : State} {m : MethodId} {args : Array Value} {below : List Frame} {meth : Method} {c : Code} {D : va_G} {K : Nat → ClassId} {A : Nat → Prop} {ad : Nat → Nat} {rest : va_W} (C : xC p s m args meth c D K A RX12 cX12_isCompared 2 (some .boolean)) (z : Int32 × xS) : ∀ (y1 : Int32) (σ : xS), F_X12_isCompared_36  y1 σ = some z → X p l e (xR 1 25) s m args below meth c D A 2 (xQi below D K A args s z.1 (RW K ad rest z.2)) 0 0 36 [(0, .ref (ad 0)), (1, .int y1)] [] (RW K ad rest σ) := by
  intro y1 σ hF
  unfold F_X12_isCompared_36 at hF
  refine x_iload_n C 1 1 dX12_isCompared_36 rfl rfl ?_
  refine x_if_lt C 63 dX12_isCompared_37 (by decide) hF (fun hF => ?_) (fun hF => ?_)
  · refine x_iconst C 0 dX12_isCompared_63 (by decide +kernel) ?_
    have hz := (cz_some hF).1
    replace hF := (cz_some hF).2
    exact x_zret C dX12_isCompared_64 rfl hz (congrArg Prod.fst (Option.some.inj hF)) (congrArg (fun q9 : Int32 × xS => RW K ad rest q9.2) (Option.some.inj hF))
  · refine x_aload_n C 0 0 dX12_isCompared_40 rfl rfl ?_
    refine x_get C 0 dX12_isCompared_41 fl_X12_39 (RW_o K ad rest σ) rfl ?_
    refine x_iload_n C 1 1 dX12_isCompared_44 rfl rfl ?_
    refine x_iald C 9 dX12_isCompared_45 (RW_a21 K ad rest σ) hF (fun v6 hF => ?_)
    refine x_i2l C dX12_isCompared_46 ?_
    refine x_ldc2 C 24 dX12_isCompared_47 cl_X12_231 ?_
    refine x_ldc2 C 26 dX12_isCompared_50 cl_X12_233 ?_
    refine x_callSI C (wf := RW K ad rest) (As := [.long (v6.toInt64), .long 24, .long 26]) (rest := []) dX12_isCompared_53 ml_X12_117 rfl rfl (Nat.le_of_ble_eq_true rfl) ⟨Nat.le_of_ble_eq_true rfl, Nat.le_of_ble_eq_true rfl⟩ ⟨Nat.zero_le _, Nat.zero_le _⟩ (fun q9 hq9 => c_X12_in l D K ad rest (v6.toInt64) 24 26 σ q9 hq9) hF (fun v8 σ7 hF => ?_)
    refine x_if_eq C 63 dX12_isCompared_56 (by decide) hF (fun hF => ?_) (fun hF => ?_)
    · refine x_iconst C 0 dX12_isCompared_63 (by decide +kernel) ?_
      have hz := (cz_some hF).1
      replace hF := (cz_some hF).2
      exact x_zret C dX12_isCompared_64 rfl hz (congrArg Prod.fst (Option.some.inj hF)) (congrArg (fun q9 : Int32 × xS => RW K ad rest q9.2) (Option.some.inj hF))
    · refine x_iconst C 1 dX12_isCompared_59 (by decide +kernel) ?_
      refine x_goto C 64 dX12_isCompared_60 (by decide) ?_
      have hz := (cz_some hF).1
      replace hF := (cz_some hF).2
      exact x_zret C dX12_isCompared_64 rfl hz (congrArg Prod.fst (Option.some.inj hF)) (congrArg (fun q9 : Int32 × xS => RW K ad rest q9.2) (Option.some.inj hF))
set_option maxHeartbeats 4000000 in
set_option maxRecDepth 100000 in
theorem x_X12_isCompared_7 {p : Program} {l : Launch} {e : Env} {s : State} {m : MethodId} {args : Array Value} {below : List Frame} {meth : Method} {c : Code} {D : va_G} {K : Nat → ClassId} {A : Nat → Prop} {ad : Nat → Nat} {rest : va_W} (C : xC p s m args meth c D K A RX12 cX12_isCompared 2 (some .boolean)) (z : Int32 × xS) : ∀ (n : Nat) (y1 : Int32) (σ : xS), F_X12_isCompared_7  n y1 σ = some z → X p l e (xR 1 25) s m args below meth c D A 2 (xQi below D K A args s z.1 (RW K ad rest z.2)) 0 0 7 [(0, .ref (ad 0)), (1, .int y1)] [] (RW K ad rest σ) := by
  intro n
  induction n with
  | zero =>
    intro y1 σ hF
    cases hF
  | succ n ih =>
    intro y1 σ hF
    rw [F_X12_isCompared_7] at hF
    refine x_iload_n C 1 1 dX12_isCompared_7 rfl rfl ?_
    refine x_if_lt C 36 dX12_isCompared_8 (by decide) hF (fun hF => ?_) (fun hF => ?_)
    · exact x_X12_isCompared_36 C z y1 σ hF
    · refine x_aload_n C 0 0 dX12_isCompared_11 rfl rfl ?_
      refine x_get C 0 dX12_isCompared_12 fl_X12_39 (RW_o K ad rest σ) rfl ?_
      refine x_iload_n C 1 1 dX12_isCompared_15 rfl rfl ?_
      refine x_iald C 9 dX12_isCompared_16 (RW_a21 K ad rest σ) hF (fun v2 hF => ?_)
      refine x_i2l C dX12_isCompared_17 ?_
      refine x_ldc2 C 20 dX12_isCompared_18 cl_X12_227 ?_
      refine x_ldc2 C 23 dX12_isCompared_21 cl_X12_229 ?_
      refine x_callSI C (wf := RW K ad rest) (As := [.long (v2.toInt64), .long 20, .long 23]) (rest := []) dX12_isCompared_24 ml_X12_117 rfl rfl (Nat.le_of_ble_eq_true rfl) ⟨Nat.le_of_ble_eq_true rfl, Nat.le_of_ble_eq_true rfl⟩ ⟨Nat.zero_le _, Nat.zero_le _⟩ (fun q9 hq9 => c_X12_in l D K ad rest (v2.toInt64) 20 23 σ q9 hq9) hF (fun v4 σ3 hF => ?_)
      refine x_if_eq C 36 dX12_isCompared_27 (by decide) hF (fun hF => ?_) (fun hF => ?_)
      · exact x_X12_isCompared_36 C z y1 σ3 hF
      · refine x_iincN C (-1) 1 (fun x5 => [(1, .int x5), (0, .ref (ad 0))]) dX12_isCompared_30 rfl (by decide +kernel) (by decide) (fun _ => rfl) hF (fun x5 hF => ?_)
        refine x_goto C 7 dX12_isCompared_33 (by decide) ?_
        refine x_loc [(0, .ref (ad 0)), (1, .int x5)] [1, 0] rfl ?_
        exact ih x5 σ3 hF
set_option maxHeartbeats 4000000 in
set_option maxRecDepth 100000 in
theorem c_X12_isCompared (l : Launch) (D : va_G) (K : Nat → ClassId) (ad : Nat → Nat) (rest : va_W)  (σ : xS) (z : Int32 × xS) (hF : F_X12_isCompared σ = some z) : CI l D K yX12_isCompared cX12_isCompared 2 (some .boolean) 1 25 [.ref (ad 0)] (RW K ad rest σ) z.1 (RW K ad rest z.2) := by
  refine x_enterI [(0, .ref (ad 0))] pnX12 (Nat.le_of_ble_eq_true rfl) rfl ?_
  intro p e s m args below meth c A C
  unfold F_X12_isCompared at hF
  refine x_aload_n C 0 0 dX12_isCompared_0 rfl rfl ?_
  refine x_get C 0 dX12_isCompared_1 fl_X12_217 (RW_o K ad rest σ) rfl ?_
  refine x_iconst C 1 dX12_isCompared_4 (by decide +kernel) ?_
  refine x_isub C dX12_isCompared_5 ?_
  refine x_topI hF (fun x1 hF => ?_)
  refine x_istore_n C [(1, .int x1), (0, .ref (ad 0))] dX12_isCompared_6 rfl (by decide) rfl ?_
  refine x_loc [(0, .ref (ad 0)), (1, .int x1)] [1, 0] rfl ?_
  exact x_X12_isCompared_7 C z FU x1 σ hF
theorem dX12_partAt_0 : decode cX12_partAt 0 = .ok (.iconst (-1), 1) := by decide +kernel
theorem dX12_partAt_1 : decode cX12_partAt 1 = .ok (.istore_n 1, 1) := by decide +kernel
theorem dX12_partAt_2 : decode cX12_partAt 2 = .ok (.iconst 0, 1) := by decide +kernel
theorem dX12_partAt_3 : decode cX12_partAt 3 = .ok (.istore_n 2, 1) := by decide +kernel
theorem dX12_partAt_4 : decode cX12_partAt 4 = .ok (.iload_n 2, 1) := by decide +kernel
theorem dX12_partAt_5 : decode cX12_partAt 5 = .ok (.bipush 10, 2) := by decide +kernel
theorem dX12_partAt_7 : decode cX12_partAt 7 = .ok (.if_icmp .ge 30, 3) := by decide +kernel
theorem dX12_partAt_10 : decode cX12_partAt 10 = .ok (.aload_n 0, 1) := by decide +kernel
theorem dX12_partAt_11 : decode cX12_partAt 11 = .ok (.aload_n 0, 1) := by decide +kernel
theorem dX12_partAt_12 : decode cX12_partAt 12 = .ok (.getfield 65, 3) := by decide +kernel
theorem dX12_partAt_15 : decode cX12_partAt 15 = .ok (.iload_n 2, 1) := by decide +kernel
theorem dX12_partAt_16 : decode cX12_partAt 16 = .ok (.laload, 1) := by decide +kernel
theorem dX12_partAt_17 : decode cX12_partAt 17 = .ok (.invokevirtual 235, 3) := by decide +kernel
theorem dX12_partAt_20 : decode cX12_partAt 20 = .ok (.ifCond .eq 9, 3) := by decide +kernel
theorem dX12_partAt_23 : decode cX12_partAt 23 = .ok (.iload_n 2, 1) := by decide +kernel
theorem dX12_partAt_24 : decode cX12_partAt 24 = .ok (.iconst 1, 1) := by decide +kernel
theorem dX12_partAt_25 : decode cX12_partAt 25 = .ok (.iadd, 1) := by decide +kernel
theorem dX12_partAt_26 : decode cX12_partAt 26 = .ok (.goto 4, 3) := by decide +kernel
theorem dX12_partAt_29 : decode cX12_partAt 29 = .ok (.iload_n 1, 1) := by decide +kernel
theorem dX12_partAt_30 : decode cX12_partAt 30 = .ok (.istore_n 1, 1) := by decide +kernel
theorem dX12_partAt_31 : decode cX12_partAt 31 = .ok (.iinc 2 1, 3) := by decide +kernel
theorem dX12_partAt_34 : decode cX12_partAt 34 = .ok (.goto (-30), 3) := by decide +kernel
theorem dX12_partAt_37 : decode cX12_partAt 37 = .ok (.iload_n 1, 1) := by decide +kernel
theorem dX12_partAt_38 : decode cX12_partAt 38 = .ok (.ireturn, 1) := by decide +kernel
set_option maxHeartbeats 4000000 in
set_option maxRecDepth 100000 in
theorem x_X12_partAt_4 {p : Program} {l : Launch} {e : Env} {s : State} {m : MethodId} {args : Array Value} {below : List Frame} {meth : Method} {c : Code} {D : va_G} {K : Nat → ClassId} {A : Nat → Prop} {ad : Nat → Nat} {rest : va_W} (C : xC p s m args meth c D K A RX12 cX12_partAt 3 (some .int)) (z : Int32 × xS) : ∀ (n : Nat) (y1 : Int32) (y2 : Int32) (σ : xS), F_X12_partAt_4  n y1 y2 σ = some z → X p l e (xR 1 22) s m args below meth c D A 3 (xQi below D K A args s z.1 (RW K ad rest z.2)) 0 0 4 [(0, .ref (ad 0)), (1, .int y1), (2, .int y2)] [] (RW K ad rest σ) := by
  intro n
  induction n with
  | zero =>
    intro y1 y2 σ hF
    cases hF
  | succ n ih =>
    intro y1 y2 σ hF
    rw [F_X12_partAt_4] at hF
    refine x_iload_n C 2 2 dX12_partAt_4 rfl rfl ?_
    refine x_bipush C 10 dX12_partAt_5 (by decide +kernel) ?_
    refine x_icmp_ge C 37 dX12_partAt_7 (by decide) hF (fun hF => ?_) (fun hF => ?_)
    · refine x_iload_n C 1 1 dX12_partAt_37 rfl rfl ?_
      exact x_iret C dX12_partAt_38 rfl (congrArg Prod.fst (Option.some.inj hF)) (congrArg (fun q9 : Int32 × xS => RW K ad rest q9.2) (Option.some.inj hF))
    · refine x_aload_n C 0 0 dX12_partAt_10 rfl rfl ?_
      refine x_aload_n C 0 0 dX12_partAt_11 rfl rfl ?_
      refine x_get C 0 dX12_partAt_12 fl_X12_65 (RW_o K ad rest σ) rfl ?_
      refine x_iload_n C 2 2 dX12_partAt_15 rfl rfl ?_
      refine x_lald C 11 dX12_partAt_16 (RW_a25 K ad rest σ) hF (fun v3 hF => ?_)
      refine x_callVI C (wf := RW K ad rest) (As := [.long v3]) (rest := []) dX12_partAt_17 ml_X12_235 rfl rfl (Nat.le_of_ble_eq_true rfl) 0 (RW_o K ad rest σ) rfl ⟨Nat.le_of_ble_eq_true rfl, Nat.le_of_ble_eq_true rfl⟩ ⟨Nat.zero_le _, Nat.zero_le _⟩ (fun q9 hq9 => c_X12_isWord l D K ad rest v3 σ q9 hq9) hF (fun v5 σ4 hF => ?_)
      refine x_if_eq C 29 dX12_partAt_20 (by decide) hF (fun hF => ?_) (fun hF => ?_)
      · refine x_iload_n C 1 1 dX12_partAt_29 rfl rfl ?_
        refine x_istore_n C [(1, .int y1), (0, .ref (ad 0)), (2, .int y2)] dX12_partAt_30 rfl (by decide) rfl ?_
        refine x_iincN C 1 2 (fun x6 => [(2, .int x6), (1, .int y1), (0, .ref (ad 0))]) dX12_partAt_31 rfl (by decide +kernel) (by decide) (fun _ => rfl) hF (fun x6 hF => ?_)
        refine x_goto C 4 dX12_partAt_34 (by decide) ?_
        refine x_loc [(0, .ref (ad 0)), (1, .int y1), (2, .int x6)] [2, 1, 0] rfl ?_
        exact ih y1 x6 σ4 hF
      · refine x_iload_n C 2 2 dX12_partAt_23 rfl rfl ?_
        refine x_iconst C 1 dX12_partAt_24 (by decide +kernel) ?_
        refine x_iadd C dX12_partAt_25 ?_
        refine x_goto C 30 dX12_partAt_26 (by decide) ?_
        refine x_topI hF (fun x7 hF => ?_)
        refine x_istore_n C [(1, .int x7), (0, .ref (ad 0)), (2, .int y2)] dX12_partAt_30 rfl (by decide) rfl ?_
        refine x_iincN C 1 2 (fun x8 => [(2, .int x8), (1, .int x7), (0, .ref (ad 0))]) dX12_partAt_31 rfl (by decide +kernel) (by decide) (fun _ => rfl) hF (fun x8 hF => ?_)
        refine x_goto C 4 dX12_partAt_34 (by decide) ?_
        refine x_loc [(0, .ref (ad 0)), (1, .int x7), (2, .int x8)] [2, 1, 0] rfl ?_
        exact ih x7 x8 σ4 hF
set_option maxHeartbeats 4000000 in
set_option maxRecDepth 100000 in
theorem c_X12_partAt (l : Launch) (D : va_G) (K : Nat → ClassId) (ad : Nat → Nat) (rest : va_W)  (σ : xS) (z : Int32 × xS) (hF : F_X12_partAt σ = some z) : CI l D K yX12_partAt cX12_partAt 3 (some .int) 1 22 [.ref (ad 0)] (RW K ad rest σ) z.1 (RW K ad rest z.2) := by
  refine x_enterI [(0, .ref (ad 0))] pnX12 (Nat.le_of_ble_eq_true rfl) rfl ?_
  intro p e s m args below meth c A C
  unfold F_X12_partAt at hF
  refine x_iconst C (-1) dX12_partAt_0 (by decide +kernel) ?_
  refine x_topI hF (fun x1 hF => ?_)
  refine x_istore_n C [(1, .int x1), (0, .ref (ad 0))] dX12_partAt_1 rfl (by decide) rfl ?_
  refine x_iconst C 0 dX12_partAt_2 (by decide +kernel) ?_
  refine x_topI hF (fun x2 hF => ?_)
  refine x_istore_n C [(2, .int x2), (1, .int x1), (0, .ref (ad 0))] dX12_partAt_3 rfl (by decide) rfl ?_
  refine x_loc [(0, .ref (ad 0)), (1, .int x1), (2, .int x2)] [2, 1, 0] rfl ?_
  exact x_X12_partAt_4 C z FU x1 x2 σ hF
theorem dX12_openBracket_0 : decode cX12_openBracket 0 = .ok (.aload_n 0, 1) := by decide +kernel
theorem dX12_openBracket_1 : decode cX12_openBracket 1 = .ok (.aload_n 0, 1) := by decide +kernel
theorem dX12_openBracket_2 : decode cX12_openBracket 2 = .ok (.getfield 239, 3) := by decide +kernel
theorem dX12_openBracket_5 : decode cX12_openBracket 5 = .ok (.bipush 8, 2) := by decide +kernel
theorem dX12_openBracket_7 : decode cX12_openBracket 7 = .ok (.if_icmp .ge 7, 3) := by decide +kernel
theorem dX12_openBracket_10 : decode cX12_openBracket 10 = .ok (.iconst 1, 1) := by decide +kernel
theorem dX12_openBracket_11 : decode cX12_openBracket 11 = .ok (.goto 4, 3) := by decide +kernel
theorem dX12_openBracket_14 : decode cX12_openBracket 14 = .ok (.iconst 0, 1) := by decide +kernel
theorem dX12_openBracket_15 : decode cX12_openBracket 15 = .ok (.invokevirtual 210, 3) := by decide +kernel
theorem dX12_openBracket_18 : decode cX12_openBracket 18 = .ok (.aload_n 0, 1) := by decide +kernel
theorem dX12_openBracket_19 : decode cX12_openBracket 19 = .ok (.getfield 175, 3) := by decide +kernel
theorem dX12_openBracket_22 : decode cX12_openBracket 22 = .ok (.ifCond .ne 19, 3) := by decide +kernel
theorem dX12_openBracket_25 : decode cX12_openBracket 25 = .ok (.aload_n 0, 1) := by decide +kernel
theorem dX12_openBracket_26 : decode cX12_openBracket 26 = .ok (.dup, 1) := by decide +kernel
theorem dX12_openBracket_27 : decode cX12_openBracket 27 = .ok (.getfield 239, 3) := by decide +kernel
theorem dX12_openBracket_30 : decode cX12_openBracket 30 = .ok (.iconst 1, 1) := by decide +kernel
theorem dX12_openBracket_31 : decode cX12_openBracket 31 = .ok (.iadd, 1) := by decide +kernel
theorem dX12_openBracket_32 : decode cX12_openBracket 32 = .ok (.putfield 239, 3) := by decide +kernel
theorem dX12_openBracket_35 : decode cX12_openBracket 35 = .ok (.aload_n 0, 1) := by decide +kernel
theorem dX12_openBracket_36 : decode cX12_openBracket 36 = .ok (.iload_n 1, 1) := by decide +kernel
theorem dX12_openBracket_37 : decode cX12_openBracket 37 = .ok (.iconst 0, 1) := by decide +kernel
theorem dX12_openBracket_38 : decode cX12_openBracket 38 = .ok (.invokevirtual 242, 3) := by decide +kernel
theorem dX12_openBracket_41 : decode cX12_openBracket 41 = .ok (.return_, 1) := by decide +kernel
set_option maxHeartbeats 4000000 in
set_option maxRecDepth 100000 in
theorem x_X12_openBracket_15 {p : Program} {l : Launch} {e : Env} {s : State} {m : MethodId} {args : Array Value} {below : List Frame} {meth : Method} {c : Code} {D : va_G} {K : Nat → ClassId} {A : Nat → Prop} {ad : Nat → Nat} {rest : va_W} (C : xC p s m args meth c D K A RX12 cX12_openBracket 2 none) (z : Unit × xS) : ∀ (y1 : Int32) (t1 : Int32) (σ : xS), F_X12_openBracket_15  y1 t1 σ = some z → X p l e (xR 3 61) s m args below meth c D A 2 (xQv below D K A args s (RW K ad rest z.2)) 0 0 15 [(0, .ref (ad 0)), (1, .int y1)] [.int t1, .ref (ad 0)] (RW K ad rest σ) := by
  intro y1 t1 σ hF
  unfold F_X12_openBracket_15 at hF
  refine x_callVV C (wf := RW K ad rest) (As := [.int t1]) (rest := []) dX12_openBracket_15 ml_X12_210 rfl rfl (Nat.le_of_ble_eq_true rfl) 0 (RW_o K ad rest σ) rfl ⟨Nat.le_of_ble_eq_true rfl, Nat.le_of_ble_eq_true rfl⟩ ⟨Nat.zero_le _, Nat.zero_le _⟩ (fun q9 hq9 => c_X12_must l D K ad rest t1 σ q9 hq9) hF (fun _ σ1 hF => ?_)
  refine x_aload_n C 0 0 dX12_openBracket_18 rfl rfl ?_
  refine x_get C 0 dX12_openBracket_19 fl_X12_175 (RW_o K ad rest σ1) rfl ?_
  refine x_if_ne C 41 dX12_openBracket_22 (by decide) hF (fun hF => ?_) (fun hF => ?_)
  · exact x_vret C dX12_openBracket_41 rfl (congrArg (fun q9 : Unit × xS => RW K ad rest q9.2) (Option.some.inj hF))
  · refine x_aload_n C 0 0 dX12_openBracket_25 rfl rfl ?_
    refine x_dup C rfl dX12_openBracket_26 ?_
    refine x_get C 0 dX12_openBracket_27 fl_X12_239 (RW_o K ad rest σ1) rfl ?_
    refine x_iconst C 1 dX12_openBracket_30 (by decide +kernel) ?_
    refine x_iadd C dX12_openBracket_31 ?_
    refine x_put C 0 dX12_openBracket_32 fl_X12_239 fm_X12_24 rfl rfl (RW_o K ad rest σ1) (Nat.le_of_ble_eq_true rfl) (RW_s24 K ad rest σ1 _) ?_
    refine x_st (wf := RW K ad rest) hF (fun σ2 hF => ?_)
    refine x_aload_n C 0 0 dX12_openBracket_35 rfl rfl ?_
    refine x_iload_n C 1 1 dX12_openBracket_36 rfl rfl ?_
    refine x_iconst C 0 dX12_openBracket_37 (by decide +kernel) ?_
    refine x_callVV C (wf := RW K ad rest) (As := [.int y1, .int 0]) (rest := []) dX12_openBracket_38 ml_X12_242 rfl rfl (Nat.le_of_ble_eq_true rfl) 0 (RW_o K ad rest σ2) rfl ⟨Nat.le_of_ble_eq_true rfl, Nat.le_of_ble_eq_true rfl⟩ ⟨Nat.zero_le _, Nat.zero_le _⟩ (fun q9 hq9 => c_X12_push l D K ad rest y1 0 σ2 q9 hq9) hF (fun _ σ3 hF => ?_)
    exact x_vret C dX12_openBracket_41 rfl (congrArg (fun q9 : Unit × xS => RW K ad rest q9.2) (Option.some.inj hF))
set_option maxHeartbeats 4000000 in
set_option maxRecDepth 100000 in
theorem c_X12_openBracket (l : Launch) (D : va_G) (K : Nat → ClassId) (ad : Nat → Nat) (rest : va_W) (a1 : Int32) (σ : xS) (z : Unit × xS) (hF : F_X12_openBracket a1 σ = some z) : CV l D K yX12_openBracket cX12_openBracket 2 none 3 61 [.ref (ad 0), .int a1] (RW K ad rest σ) (RW K ad rest z.2) := by
  refine x_enterV [(0, .ref (ad 0)), (1, .int a1)] pnX12 (Nat.le_of_ble_eq_true rfl) rfl ?_
  intro p e s m args below meth c A C
  unfold F_X12_openBracket at hF
  refine x_aload_n C 0 0 dX12_openBracket_0 rfl rfl ?_
  refine x_aload_n C 0 0 dX12_openBracket_1 rfl rfl ?_
  refine x_get C 0 dX12_openBracket_2 fl_X12_239 (RW_o K ad rest σ) rfl ?_
  refine x_bipush C 8 dX12_openBracket_5 (by decide +kernel) ?_
  refine x_icmp_ge C 14 dX12_openBracket_7 (by decide) hF (fun hF => ?_) (fun hF => ?_)
  · refine x_iconst C 0 dX12_openBracket_14 (by decide +kernel) ?_
    exact x_X12_openBracket_15 C z a1 0 σ hF
  · refine x_iconst C 1 dX12_openBracket_10 (by decide +kernel) ?_
    refine x_goto C 15 dX12_openBracket_11 (by decide) ?_
    exact x_X12_openBracket_15 C z a1 1 σ hF
theorem dX12_leaf_0 : decode cX12_leaf 0 = .ok (.aload_n 0, 1) := by decide +kernel
theorem dX12_leaf_1 : decode cX12_leaf 1 = .ok (.iload_n 1, 1) := by decide +kernel
theorem dX12_leaf_2 : decode cX12_leaf 2 = .ok (.ifCond .eq 16, 3) := by decide +kernel
theorem dX12_leaf_5 : decode cX12_leaf 5 = .ok (.aload_n 0, 1) := by decide +kernel
theorem dX12_leaf_6 : decode cX12_leaf 6 = .ok (.getfield 245, 3) := by decide +kernel
theorem dX12_leaf_9 : decode cX12_leaf 9 = .ok (.bipush 50, 2) := by decide +kernel
theorem dX12_leaf_11 : decode cX12_leaf 11 = .ok (.if_icmp .ge 7, 3) := by decide +kernel
theorem dX12_leaf_14 : decode cX12_leaf 14 = .ok (.iconst 1, 1) := by decide +kernel
theorem dX12_leaf_15 : decode cX12_leaf 15 = .ok (.goto 4, 3) := by decide +kernel
theorem dX12_leaf_18 : decode cX12_leaf 18 = .ok (.iconst 0, 1) := by decide +kernel
theorem dX12_leaf_19 : decode cX12_leaf 19 = .ok (.invokevirtual 210, 3) := by decide +kernel
theorem dX12_leaf_22 : decode cX12_leaf 22 = .ok (.aload_n 0, 1) := by decide +kernel
theorem dX12_leaf_23 : decode cX12_leaf 23 = .ok (.getfield 175, 3) := by decide +kernel
theorem dX12_leaf_26 : decode cX12_leaf 26 = .ok (.ifCond .ne 19, 3) := by decide +kernel
theorem dX12_leaf_29 : decode cX12_leaf 29 = .ok (.aload_n 0, 1) := by decide +kernel
theorem dX12_leaf_30 : decode cX12_leaf 30 = .ok (.iload_n 2, 1) := by decide +kernel
theorem dX12_leaf_31 : decode cX12_leaf 31 = .ok (.iload_n 3, 1) := by decide +kernel
theorem dX12_leaf_32 : decode cX12_leaf 32 = .ok (.invokevirtual 223, 3) := by decide +kernel
theorem dX12_leaf_35 : decode cX12_leaf 35 = .ok (.aload_n 0, 1) := by decide +kernel
theorem dX12_leaf_36 : decode cX12_leaf 36 = .ok (.dup, 1) := by decide +kernel
theorem dX12_leaf_37 : decode cX12_leaf 37 = .ok (.getfield 245, 3) := by decide +kernel
theorem dX12_leaf_40 : decode cX12_leaf 40 = .ok (.iconst 1, 1) := by decide +kernel
theorem dX12_leaf_41 : decode cX12_leaf 41 = .ok (.iadd, 1) := by decide +kernel
theorem dX12_leaf_42 : decode cX12_leaf 42 = .ok (.putfield 245, 3) := by decide +kernel
theorem dX12_leaf_45 : decode cX12_leaf 45 = .ok (.return_, 1) := by decide +kernel
set_option maxHeartbeats 4000000 in
set_option maxRecDepth 100000 in
theorem x_X12_leaf_19 {p : Program} {l : Launch} {e : Env} {s : State} {m : MethodId} {args : Array Value} {below : List Frame} {meth : Method} {c : Code} {D : va_G} {K : Nat → ClassId} {A : Nat → Prop} {ad : Nat → Nat} {rest : va_W} (C : xC p s m args meth c D K A RX12 cX12_leaf 4 none) (z : Unit × xS) : ∀ (y2 : Int32) (y3 : Int32) (t1 : Int32) (σ : xS), F_X12_leaf_19  y2 y3 t1 σ = some z → X p l e (xR 3 61) s m args below meth c D A 4 (xQv below D K A args s (RW K ad rest z.2)) 0 0 19 [(0, .ref (ad 0)), (2, .int y2), (3, .int y3)] [.int t1, .ref (ad 0)] (RW K ad rest σ) := by
  intro y2 y3 t1 σ hF
  unfold F_X12_leaf_19 at hF
  refine x_callVV C (wf := RW K ad rest) (As := [.int t1]) (rest := []) dX12_leaf_19 ml_X12_210 rfl rfl (Nat.le_of_ble_eq_true rfl) 0 (RW_o K ad rest σ) rfl ⟨Nat.le_of_ble_eq_true rfl, Nat.le_of_ble_eq_true rfl⟩ ⟨Nat.zero_le _, Nat.zero_le _⟩ (fun q9 hq9 => c_X12_must l D K ad rest t1 σ q9 hq9) hF (fun _ σ1 hF => ?_)
  refine x_aload_n C 0 0 dX12_leaf_22 rfl rfl ?_
  refine x_get C 0 dX12_leaf_23 fl_X12_175 (RW_o K ad rest σ1) rfl ?_
  refine x_if_ne C 45 dX12_leaf_26 (by decide) hF (fun hF => ?_) (fun hF => ?_)
  · exact x_vret C dX12_leaf_45 rfl (congrArg (fun q9 : Unit × xS => RW K ad rest q9.2) (Option.some.inj hF))
  · refine x_aload_n C 0 0 dX12_leaf_29 rfl rfl ?_
    refine x_iload_n C 1 2 dX12_leaf_30 rfl rfl ?_
    refine x_iload_n C 2 3 dX12_leaf_31 rfl rfl ?_
    refine x_callVV C (wf := RW K ad rest) (As := [.int y2, .int y3]) (rest := []) dX12_leaf_32 ml_X12_223 rfl rfl (Nat.le_of_ble_eq_true rfl) 0 (RW_o K ad rest σ1) rfl ⟨Nat.le_of_ble_eq_true rfl, Nat.le_of_ble_eq_true rfl⟩ ⟨Nat.zero_le _, Nat.zero_le _⟩ (fun q9 hq9 => c_X12_emit l D K ad rest y2 y3 σ1 q9 hq9) hF (fun _ σ2 hF => ?_)
    refine x_aload_n C 0 0 dX12_leaf_35 rfl rfl ?_
    refine x_dup C rfl dX12_leaf_36 ?_
    refine x_get C 0 dX12_leaf_37 fl_X12_245 (RW_o K ad rest σ2) rfl ?_
    refine x_iconst C 1 dX12_leaf_40 (by decide +kernel) ?_
    refine x_iadd C dX12_leaf_41 ?_
    refine x_put C 0 dX12_leaf_42 fl_X12_245 fm_X12_20 rfl rfl (RW_o K ad rest σ2) (Nat.le_of_ble_eq_true rfl) (RW_s20 K ad rest σ2 _) ?_
    refine x_st (wf := RW K ad rest) hF (fun σ3 hF => ?_)
    exact x_vret C dX12_leaf_45 rfl (congrArg (fun q9 : Unit × xS => RW K ad rest q9.2) (Option.some.inj hF))
set_option maxHeartbeats 4000000 in
set_option maxRecDepth 100000 in
theorem x_X12_leaf_18 {p : Program} {l : Launch} {e : Env} {s : State} {m : MethodId} {args : Array Value} {below : List Frame} {meth : Method} {c : Code} {D : va_G} {K : Nat → ClassId} {A : Nat → Prop} {ad : Nat → Nat} {rest : va_W} (C : xC p s m args meth c D K A RX12 cX12_leaf 4 none) (z : Unit × xS) : ∀ (y2 : Int32) (y3 : Int32) (σ : xS), F_X12_leaf_18  y2 y3 σ = some z → X p l e (xR 3 61) s m args below meth c D A 4 (xQv below D K A args s (RW K ad rest z.2)) 0 0 18 [(0, .ref (ad 0)), (2, .int y2), (3, .int y3)] [.ref (ad 0)] (RW K ad rest σ) := by
  intro y2 y3 σ hF
  unfold F_X12_leaf_18 at hF
  refine x_iconst C 0 dX12_leaf_18 (by decide +kernel) ?_
  exact x_X12_leaf_19 C z y2 y3 0 σ hF
set_option maxHeartbeats 4000000 in
set_option maxRecDepth 100000 in
theorem c_X12_leaf (l : Launch) (D : va_G) (K : Nat → ClassId) (ad : Nat → Nat) (rest : va_W) (a1 : Int32) (a2 : Int32) (a3 : Int32) (σ : xS) (z : Unit × xS) (hF : F_X12_leaf a1 a2 a3 σ = some z) : CV l D K yX12_leaf cX12_leaf 4 none 3 61 [.ref (ad 0), .int a1, .int a2, .int a3] (RW K ad rest σ) (RW K ad rest z.2) := by
  refine x_enterV [(0, .ref (ad 0)), (1, .int a1), (2, .int a2), (3, .int a3)] pnX12 (Nat.le_of_ble_eq_true rfl) rfl ?_
  intro p e s m args below meth c A C
  unfold F_X12_leaf at hF
  refine x_aload_n C 0 0 dX12_leaf_0 rfl rfl ?_
  refine x_iload_n C 1 1 dX12_leaf_1 rfl rfl ?_
  refine x_if_eq C 18 dX12_leaf_2 (by decide) hF (fun hF => ?_) (fun hF => ?_)
  · refine x_loc [(0, .ref (ad 0)), (2, .int a2), (3, .int a3)] [0, 2, 3] rfl ?_
    exact x_X12_leaf_18 C z a2 a3 σ hF
  · refine x_aload_n C 0 0 dX12_leaf_5 rfl rfl ?_
    refine x_get C 0 dX12_leaf_6 fl_X12_245 (RW_o K ad rest σ) rfl ?_
    refine x_bipush C 50 dX12_leaf_9 (by decide +kernel) ?_
    refine x_icmp_ge C 18 dX12_leaf_11 (by decide) hF (fun hF => ?_) (fun hF => ?_)
    · refine x_loc [(0, .ref (ad 0)), (2, .int a2), (3, .int a3)] [0, 2, 3] rfl ?_
      exact x_X12_leaf_18 C z a2 a3 σ hF
    · refine x_iconst C 1 dX12_leaf_14 (by decide +kernel) ?_
      refine x_goto C 19 dX12_leaf_15 (by decide) ?_
      refine x_loc [(0, .ref (ad 0)), (2, .int a2), (3, .int a3)] [0, 2, 3] rfl ?_
      exact x_X12_leaf_19 C z a2 a3 1 σ hF
theorem dX12_readPart_0 : decode cX12_readPart 0 = .ok (.aload_n 0, 1) := by decide +kernel
theorem dX12_readPart_1 : decode cX12_readPart 1 = .ok (.bipush 91, 2) := by decide +kernel
theorem dX12_readPart_3 : decode cX12_readPart 3 = .ok (.invokevirtual 248, 3) := by decide +kernel
theorem dX12_readPart_6 : decode cX12_readPart 6 = .ok (.ifCond .eq 11, 3) := by decide +kernel
theorem dX12_readPart_9 : decode cX12_readPart 9 = .ok (.aload_n 0, 1) := by decide +kernel
theorem dX12_readPart_10 : decode cX12_readPart 10 = .ok (.bipush 31, 2) := by decide +kernel
theorem dX12_readPart_12 : decode cX12_readPart 12 = .ok (.invokevirtual 251, 3) := by decide +kernel
theorem dX12_readPart_15 : decode cX12_readPart 15 = .ok (.iconst 1, 1) := by decide +kernel
theorem dX12_readPart_16 : decode cX12_readPart 16 = .ok (.ireturn, 1) := by decide +kernel
theorem dX12_readPart_17 : decode cX12_readPart 17 = .ok (.aload_n 0, 1) := by decide +kernel
theorem dX12_readPart_18 : decode cX12_readPart 18 = .ok (.invokevirtual 254, 3) := by decide +kernel
theorem dX12_readPart_21 : decode cX12_readPart 21 = .ok (.istore_n 1, 1) := by decide +kernel
theorem dX12_readPart_22 : decode cX12_readPart 22 = .ok (.aload_n 0, 1) := by decide +kernel
theorem dX12_readPart_23 : decode cX12_readPart 23 = .ok (.getfield 195, 3) := by decide +kernel
theorem dX12_readPart_26 : decode cX12_readPart 26 = .ok (.iconst 2, 1) := by decide +kernel
theorem dX12_readPart_27 : decode cX12_readPart 27 = .ok (.if_icmp .ne 18, 3) := by decide +kernel
theorem dX12_readPart_30 : decode cX12_readPart 30 = .ok (.aload_n 0, 1) := by decide +kernel
theorem dX12_readPart_31 : decode cX12_readPart 31 = .ok (.getfield 185, 3) := by decide +kernel
theorem dX12_readPart_34 : decode cX12_readPart 34 = .ok (.ldc2_w 258, 3) := by decide +kernel
theorem dX12_readPart_37 : decode cX12_readPart 37 = .ok (.lcmp, 1) := by decide +kernel
theorem dX12_readPart_38 : decode cX12_readPart 38 = .ok (.ifCond .gt 7, 3) := by decide +kernel
theorem dX12_readPart_41 : decode cX12_readPart 41 = .ok (.iconst 1, 1) := by decide +kernel
theorem dX12_readPart_42 : decode cX12_readPart 42 = .ok (.goto 4, 3) := by decide +kernel
theorem dX12_readPart_45 : decode cX12_readPart 45 = .ok (.iconst 0, 1) := by decide +kernel
theorem dX12_readPart_46 : decode cX12_readPart 46 = .ok (.istore_n 2, 1) := by decide +kernel
theorem dX12_readPart_47 : decode cX12_readPart 47 = .ok (.aload_n 0, 1) := by decide +kernel
theorem dX12_readPart_48 : decode cX12_readPart 48 = .ok (.iload_n 1, 1) := by decide +kernel
theorem dX12_readPart_49 : decode cX12_readPart 49 = .ok (.iconst (-1), 1) := by decide +kernel
theorem dX12_readPart_50 : decode cX12_readPart 50 = .ok (.if_icmp .ne 7, 3) := by decide +kernel
theorem dX12_readPart_53 : decode cX12_readPart 53 = .ok (.iload_n 2, 1) := by decide +kernel
theorem dX12_readPart_54 : decode cX12_readPart 54 = .ok (.ifCond .eq 7, 3) := by decide +kernel
theorem dX12_readPart_57 : decode cX12_readPart 57 = .ok (.iconst 1, 1) := by decide +kernel
theorem dX12_readPart_58 : decode cX12_readPart 58 = .ok (.goto 4, 3) := by decide +kernel
theorem dX12_readPart_61 : decode cX12_readPart 61 = .ok (.iconst 0, 1) := by decide +kernel
theorem dX12_readPart_62 : decode cX12_readPart 62 = .ok (.iload_n 1, 1) := by decide +kernel
theorem dX12_readPart_63 : decode cX12_readPart 63 = .ok (.iconst (-1), 1) := by decide +kernel
theorem dX12_readPart_64 : decode cX12_readPart 64 = .ok (.if_icmp .ne 7, 3) := by decide +kernel
theorem dX12_readPart_67 : decode cX12_readPart 67 = .ok (.iconst 0, 1) := by decide +kernel
theorem dX12_readPart_68 : decode cX12_readPart 68 = .ok (.goto 4, 3) := by decide +kernel
theorem dX12_readPart_71 : decode cX12_readPart 71 = .ok (.iload_n 1, 1) := by decide +kernel
theorem dX12_readPart_72 : decode cX12_readPart 72 = .ok (.iload_n 2, 1) := by decide +kernel
theorem dX12_readPart_73 : decode cX12_readPart 73 = .ok (.ifCond .eq 11, 3) := by decide +kernel
theorem dX12_readPart_76 : decode cX12_readPart 76 = .ok (.aload_n 0, 1) := by decide +kernel
theorem dX12_readPart_77 : decode cX12_readPart 77 = .ok (.getfield 185, 3) := by decide +kernel
theorem dX12_readPart_80 : decode cX12_readPart 80 = .ok (.l2i, 1) := by decide +kernel
theorem dX12_readPart_81 : decode cX12_readPart 81 = .ok (.goto 4, 3) := by decide +kernel
theorem dX12_readPart_84 : decode cX12_readPart 84 = .ok (.iconst 0, 1) := by decide +kernel
theorem dX12_readPart_85 : decode cX12_readPart 85 = .ok (.invokevirtual 260, 3) := by decide +kernel
theorem dX12_readPart_88 : decode cX12_readPart 88 = .ok (.iconst 3, 1) := by decide +kernel
theorem dX12_readPart_89 : decode cX12_readPart 89 = .ok (.ireturn, 1) := by decide +kernel
set_option maxHeartbeats 4000000 in
set_option maxRecDepth 100000 in
theorem x_X12_readPart_85 {p : Program} {l : Launch} {e : Env} {s : State} {m : MethodId} {args : Array Value} {below : List Frame} {meth : Method} {c : Code} {D : va_G} {K : Nat → ClassId} {A : Nat → Prop} {ad : Nat → Nat} {rest : va_W} (C : xC p s m args meth c D K A RX12 cX12_readPart 3 (some .int)) (z : Int32 × xS) : ∀ (t1 : Int32) (t2 : Int32) (t3 : Int32) (σ : xS), F_X12_readPart_85  t1 t2 t3 σ = some z → X p l e (xR 4 84) s m args below meth c D A 3 (xQi below D K A args s z.1 (RW K ad rest z.2)) 0 0 85 [] [.int t3, .int t2, .int t1, .ref (ad 0)] (RW K ad rest σ) := by
  intro t1 t2 t3 σ hF
  unfold F_X12_readPart_85 at hF
  refine x_callVV C (wf := RW K ad rest) (As := [.int t1, .int t2, .int t3]) (rest := []) dX12_readPart_85 ml_X12_260 rfl rfl (Nat.le_of_ble_eq_true rfl) 0 (RW_o K ad rest σ) rfl ⟨Nat.le_of_ble_eq_true rfl, Nat.le_of_ble_eq_true rfl⟩ ⟨Nat.zero_le _, Nat.zero_le _⟩ (fun q9 hq9 => c_X12_leaf l D K ad rest t1 t2 t3 σ q9 hq9) hF (fun _ σ6 hF => ?_)
  refine x_iconst C 3 dX12_readPart_88 (by decide +kernel) ?_
  exact x_iret C dX12_readPart_89 rfl (congrArg Prod.fst (Option.some.inj hF)) (congrArg (fun q9 : Int32 × xS => RW K ad rest q9.2) (Option.some.inj hF))
set_option maxHeartbeats 4000000 in
set_option maxRecDepth 100000 in
theorem x_X12_readPart_72 {p : Program} {l : Launch} {e : Env} {s : State} {m : MethodId} {args : Array Value} {below : List Frame} {meth : Method} {c : Code} {D : va_G} {K : Nat → ClassId} {A : Nat → Prop} {ad : Nat → Nat} {rest : va_W} (C : xC p s m args meth c D K A RX12 cX12_readPart 3 (some .int)) (z : Int32 × xS) : ∀ (y2 : Int32) (t1 : Int32) (t2 : Int32) (σ : xS), F_X12_readPart_72  y2 t1 t2 σ = some z → X p l e (xR 4 84) s m args below meth c D A 3 (xQi below D K A args s z.1 (RW K ad rest z.2)) 0 0 72 [(0, .ref (ad 0)), (2, .int y2)] [.int t2, .int t1, .ref (ad 0)] (RW K ad rest σ) := by
  intro y2 t1 t2 σ hF
  unfold F_X12_readPart_72 at hF
  refine x_iload_n C 1 2 dX12_readPart_72 rfl rfl ?_
  refine x_if_eq C 84 dX12_readPart_73 (by decide) hF (fun hF => ?_) (fun hF => ?_)
  · refine x_iconst C 0 dX12_readPart_84 (by decide +kernel) ?_
    refine x_loc [] [] rfl ?_
    exact x_X12_readPart_85 C z t1 t2 0 σ hF
  · refine x_aload_n C 0 0 dX12_readPart_76 rfl rfl ?_
    refine x_get C 0 dX12_readPart_77 fl_X12_185 (RW_o K ad rest σ) rfl ?_
    refine x_l2i C dX12_readPart_80 ?_
    refine x_goto C 85 dX12_readPart_81 (by decide) ?_
    refine x_loc [] [] rfl ?_
    exact x_X12_readPart_85 C z t1 t2 ((sJ σ 12).toInt32) σ hF
set_option maxHeartbeats 4000000 in
set_option maxRecDepth 100000 in
theorem x_X12_readPart_62 {p : Program} {l : Launch} {e : Env} {s : State} {m : MethodId} {args : Array Value} {below : List Frame} {meth : Method} {c : Code} {D : va_G} {K : Nat → ClassId} {A : Nat → Prop} {ad : Nat → Nat} {rest : va_W} (C : xC p s m args meth c D K A RX12 cX12_readPart 3 (some .int)) (z : Int32 × xS) : ∀ (y1 : Int32) (y2 : Int32) (t1 : Int32) (σ : xS), F_X12_readPart_62  y1 y2 t1 σ = some z → X p l e (xR 4 84) s m args below meth c D A 3 (xQi below D K A args s z.1 (RW K ad rest z.2)) 0 0 62 [(0, .ref (ad 0)), (1, .int y1), (2, .int y2)] [.int t1, .ref (ad 0)] (RW K ad rest σ) := by
  intro y1 y2 t1 σ hF
  unfold F_X12_readPart_62 at hF
  refine x_iload_n C 1 1 dX12_readPart_62 rfl rfl ?_
  refine x_iconst C (-1) dX12_readPart_63 (by decide +kernel) ?_
  refine x_icmp_ne C 71 dX12_readPart_64 (by decide) hF (fun hF => ?_) (fun hF => ?_)
  · refine x_iload_n C 1 1 dX12_readPart_71 rfl rfl ?_
    refine x_loc [(0, .ref (ad 0)), (2, .int y2)] [0, 2] rfl ?_
    exact x_X12_readPart_72 C z y2 t1 y1 σ hF
  · refine x_iconst C 0 dX12_readPart_67 (by decide +kernel) ?_
    refine x_goto C 72 dX12_readPart_68 (by decide) ?_
    refine x_loc [(0, .ref (ad 0)), (2, .int y2)] [0, 2] rfl ?_
    exact x_X12_readPart_72 C z y2 t1 0 σ hF
set_option maxHeartbeats 4000000 in
set_option maxRecDepth 100000 in
theorem x_X12_readPart_57 {p : Program} {l : Launch} {e : Env} {s : State} {m : MethodId} {args : Array Value} {below : List Frame} {meth : Method} {c : Code} {D : va_G} {K : Nat → ClassId} {A : Nat → Prop} {ad : Nat → Nat} {rest : va_W} (C : xC p s m args meth c D K A RX12 cX12_readPart 3 (some .int)) (z : Int32 × xS) : ∀ (y1 : Int32) (y2 : Int32) (σ : xS), F_X12_readPart_57  y1 y2 σ = some z → X p l e (xR 4 84) s m args below meth c D A 3 (xQi below D K A args s z.1 (RW K ad rest z.2)) 0 0 57 [(0, .ref (ad 0)), (1, .int y1), (2, .int y2)] [.ref (ad 0)] (RW K ad rest σ) := by
  intro y1 y2 σ hF
  unfold F_X12_readPart_57 at hF
  refine x_iconst C 1 dX12_readPart_57 (by decide +kernel) ?_
  refine x_goto C 62 dX12_readPart_58 (by decide) ?_
  exact x_X12_readPart_62 C z y1 y2 1 σ hF
set_option maxHeartbeats 4000000 in
set_option maxRecDepth 100000 in
theorem x_X12_readPart_46 {p : Program} {l : Launch} {e : Env} {s : State} {m : MethodId} {args : Array Value} {below : List Frame} {meth : Method} {c : Code} {D : va_G} {K : Nat → ClassId} {A : Nat → Prop} {ad : Nat → Nat} {rest : va_W} (C : xC p s m args meth c D K A RX12 cX12_readPart 3 (some .int)) (z : Int32 × xS) : ∀ (y1 : Int32) (t0 : Int32) (σ : xS), F_X12_readPart_46  y1 t0 σ = some z → X p l e (xR 4 84) s m args below meth c D A 3 (xQi below D K A args s z.1 (RW K ad rest z.2)) 0 0 46 [(0, .ref (ad 0)), (1, .int y1)] [.int t0] (RW K ad rest σ) := by
  intro y1 t0 σ hF
  unfold F_X12_readPart_46 at hF
  refine x_istore_n C [(2, .int t0), (0, .ref (ad 0)), (1, .int y1)] dX12_readPart_46 rfl (by decide) rfl ?_
  refine x_aload_n C 1 0 dX12_readPart_47 rfl rfl ?_
  refine x_iload_n C 2 1 dX12_readPart_48 rfl rfl ?_
  refine x_iconst C (-1) dX12_readPart_49 (by decide +kernel) ?_
  refine x_icmp_ne C 57 dX12_readPart_50 (by decide) hF (fun hF => ?_) (fun hF => ?_)
  · refine x_loc [(0, .ref (ad 0)), (1, .int y1), (2, .int t0)] [1, 2, 0] rfl ?_
    exact x_X12_readPart_57 C z y1 t0 σ hF
  · refine x_iload_n C 0 2 dX12_readPart_53 rfl rfl ?_
    refine x_if_eq C 61 dX12_readPart_54 (by decide) hF (fun hF => ?_) (fun hF => ?_)
    · refine x_iconst C 0 dX12_readPart_61 (by decide +kernel) ?_
      refine x_loc [(0, .ref (ad 0)), (1, .int y1), (2, .int t0)] [1, 2, 0] rfl ?_
      exact x_X12_readPart_62 C z y1 t0 0 σ hF
    · refine x_loc [(0, .ref (ad 0)), (1, .int y1), (2, .int t0)] [1, 2, 0] rfl ?_
      exact x_X12_readPart_57 C z y1 t0 σ hF
set_option maxHeartbeats 4000000 in
set_option maxRecDepth 100000 in
theorem x_X12_readPart_45 {p : Program} {l : Launch} {e : Env} {s : State} {m : MethodId} {args : Array Value} {below : List Frame} {meth : Method} {c : Code} {D : va_G} {K : Nat → ClassId} {A : Nat → Prop} {ad : Nat → Nat} {rest : va_W} (C : xC p s m args meth c D K A RX12 cX12_readPart 3 (some .int)) (z : Int32 × xS) : ∀ (y1 : Int32) (σ : xS), F_X12_readPart_45  y1 σ = some z → X p l e (xR 4 84) s m args below meth c D A 3 (xQi below D K A args s z.1 (RW K ad rest z.2)) 0 0 45 [(0, .ref (ad 0)), (1, .int y1)] [] (RW K ad rest σ) := by
  intro y1 σ hF
  unfold F_X12_readPart_45 at hF
  refine x_iconst C 0 dX12_readPart_45 (by decide +kernel) ?_
  exact x_X12_readPart_46 C z y1 0 σ hF
set_option maxHeartbeats 4000000 in
set_option maxRecDepth 100000 in
theorem c_X12_readPart (l : Launch) (D : va_G) (K : Nat → ClassId) (ad : Nat → Nat) (rest : va_W)  (σ : xS) (z : Int32 × xS) (hF : F_X12_readPart σ = some z) : CI l D K yX12_readPart cX12_readPart 3 (some .int) 4 84 [.ref (ad 0)] (RW K ad rest σ) z.1 (RW K ad rest z.2) := by
  refine x_enterI [(0, .ref (ad 0))] pnX12 (Nat.le_of_ble_eq_true rfl) rfl ?_
  intro p e s m args below meth c A C
  unfold F_X12_readPart at hF
  refine x_aload_n C 0 0 dX12_readPart_0 rfl rfl ?_
  refine x_bipush C 91 dX12_readPart_1 (by decide +kernel) ?_
  refine x_callVI C (wf := RW K ad rest) (As := [.int 91]) (rest := []) dX12_readPart_3 ml_X12_248 rfl rfl (Nat.le_of_ble_eq_true rfl) 0 (RW_o K ad rest σ) rfl ⟨Nat.le_of_ble_eq_true rfl, Nat.le_of_ble_eq_true rfl⟩ ⟨Nat.zero_le _, Nat.zero_le _⟩ (fun q9 hq9 => c_X12_isSign l D K ad rest 91 σ q9 hq9) hF (fun v2 σ1 hF => ?_)
  refine x_if_eq C 17 dX12_readPart_6 (by decide) hF (fun hF => ?_) (fun hF => ?_)
  · refine x_aload_n C 0 0 dX12_readPart_17 rfl rfl ?_
    refine x_callVI C (wf := RW K ad rest) (As := []) (rest := []) dX12_readPart_18 ml_X12_254 rfl rfl (Nat.le_of_ble_eq_true rfl) 0 (RW_o K ad rest σ1) rfl ⟨Nat.le_of_ble_eq_true rfl, Nat.le_of_ble_eq_true rfl⟩ ⟨Nat.zero_le _, Nat.zero_le _⟩ (fun q9 hq9 => c_X12_partAt l D K ad rest σ1 q9 hq9) hF (fun v4 σ3 hF => ?_)
    refine x_istore_n C [(1, .int v4), (0, .ref (ad 0))] dX12_readPart_21 rfl (by decide) rfl ?_
    refine x_aload_n C 1 0 dX12_readPart_22 rfl rfl ?_
    refine x_get C 0 dX12_readPart_23 fl_X12_195 (RW_o K ad rest σ3) rfl ?_
    refine x_iconst C 2 dX12_readPart_26 (by decide +kernel) ?_
    refine x_icmp_ne C 45 dX12_readPart_27 (by decide) hF (fun hF => ?_) (fun hF => ?_)
    · refine x_loc [(0, .ref (ad 0)), (1, .int v4)] [1, 0] rfl ?_
      exact x_X12_readPart_45 C z v4 σ3 hF
    · refine x_aload_n C 1 0 dX12_readPart_30 rfl rfl ?_
      refine x_get C 0 dX12_readPart_31 fl_X12_185 (RW_o K ad rest σ3) rfl ?_
      refine x_ldc2 C 1000 dX12_readPart_34 cl_X12_258 ?_
      refine x_lcmp C dX12_readPart_37 ?_
      refine x_if_gt C 45 dX12_readPart_38 (by decide) hF (fun hF => ?_) (fun hF => ?_)
      · refine x_loc [(0, .ref (ad 0)), (1, .int v4)] [1, 0] rfl ?_
        exact x_X12_readPart_45 C z v4 σ3 hF
      · refine x_iconst C 1 dX12_readPart_41 (by decide +kernel) ?_
        refine x_goto C 46 dX12_readPart_42 (by decide) ?_
        refine x_loc [(0, .ref (ad 0)), (1, .int v4)] [1, 0] rfl ?_
        exact x_X12_readPart_46 C z v4 1 σ3 hF
  · refine x_aload_n C 0 0 dX12_readPart_9 rfl rfl ?_
    refine x_bipush C 31 dX12_readPart_10 (by decide +kernel) ?_
    refine x_callVV C (wf := RW K ad rest) (As := [.int 31]) (rest := []) dX12_readPart_12 ml_X12_251 rfl rfl (Nat.le_of_ble_eq_true rfl) 0 (RW_o K ad rest σ1) rfl ⟨Nat.le_of_ble_eq_true rfl, Nat.le_of_ble_eq_true rfl⟩ ⟨Nat.zero_le _, Nat.zero_le _⟩ (fun q9 hq9 => c_X12_openBracket l D K ad rest 31 σ1 q9 hq9) hF (fun _ σ5 hF => ?_)
    refine x_iconst C 1 dX12_readPart_15 (by decide +kernel) ?_
    exact x_iret C dX12_readPart_16 rfl (congrArg Prod.fst (Option.some.inj hF)) (congrArg (fun q9 : Int32 × xS => RW K ad rest q9.2) (Option.some.inj hF))
theorem dX12_readPlain_0 : decode cX12_readPlain 0 = .ok (.aload_n 0, 1) := by decide +kernel
theorem dX12_readPlain_1 : decode cX12_readPlain 1 = .ok (.ldc2_w 264, 3) := by decide +kernel
theorem dX12_readPlain_4 : decode cX12_readPlain 4 = .ok (.invokevirtual 235, 3) := by decide +kernel
theorem dX12_readPlain_7 : decode cX12_readPlain 7 = .ok (.ifCond .eq 16, 3) := by decide +kernel
theorem dX12_readPlain_10 : decode cX12_readPlain 10 = .ok (.aload_n 0, 1) := by decide +kernel
theorem dX12_readPlain_11 : decode cX12_readPlain 11 = .ok (.bipush 27, 2) := by decide +kernel
theorem dX12_readPlain_13 : decode cX12_readPlain 13 = .ok (.iconst 0, 1) := by decide +kernel
theorem dX12_readPlain_14 : decode cX12_readPlain 14 = .ok (.invokevirtual 242, 3) := by decide +kernel
theorem dX12_readPlain_17 : decode cX12_readPlain 17 = .ok (.aload_n 0, 1) := by decide +kernel
theorem dX12_readPlain_18 : decode cX12_readPlain 18 = .ok (.invokevirtual 179, 3) := by decide +kernel
theorem dX12_readPlain_21 : decode cX12_readPlain 21 = .ok (.iconst 0, 1) := by decide +kernel
theorem dX12_readPlain_22 : decode cX12_readPlain 22 = .ok (.ireturn, 1) := by decide +kernel
theorem dX12_readPlain_23 : decode cX12_readPlain 23 = .ok (.aload_n 0, 1) := by decide +kernel
theorem dX12_readPlain_24 : decode cX12_readPlain 24 = .ok (.bipush 40, 2) := by decide +kernel
theorem dX12_readPlain_26 : decode cX12_readPlain 26 = .ok (.invokevirtual 248, 3) := by decide +kernel
theorem dX12_readPlain_29 : decode cX12_readPlain 29 = .ok (.ifCond .eq 11, 3) := by decide +kernel
theorem dX12_readPlain_32 : decode cX12_readPlain 32 = .ok (.aload_n 0, 1) := by decide +kernel
theorem dX12_readPlain_33 : decode cX12_readPlain 33 = .ok (.bipush 30, 2) := by decide +kernel
theorem dX12_readPlain_35 : decode cX12_readPlain 35 = .ok (.invokevirtual 251, 3) := by decide +kernel
theorem dX12_readPlain_38 : decode cX12_readPlain 38 = .ok (.iconst 0, 1) := by decide +kernel
theorem dX12_readPlain_39 : decode cX12_readPlain 39 = .ok (.ireturn, 1) := by decide +kernel
theorem dX12_readPlain_40 : decode cX12_readPlain 40 = .ok (.aload_n 0, 1) := by decide +kernel
theorem dX12_readPlain_41 : decode cX12_readPlain 41 = .ok (.invokevirtual 266, 3) := by decide +kernel
theorem dX12_readPlain_44 : decode cX12_readPlain 44 = .ok (.ireturn, 1) := by decide +kernel
set_option maxHeartbeats 4000000 in
set_option maxRecDepth 100000 in
theorem c_X12_readPlain (l : Launch) (D : va_G) (K : Nat → ClassId) (ad : Nat → Nat) (rest : va_W)  (σ : xS) (z : Int32 × xS) (hF : F_X12_readPlain σ = some z) : CI l D K yX12_readPlain cX12_readPlain 1 (some .int) 5 106 [.ref (ad 0)] (RW K ad rest σ) z.1 (RW K ad rest z.2) := by
  refine x_enterI [(0, .ref (ad 0))] pnX12 (Nat.le_of_ble_eq_true rfl) rfl ?_
  intro p e s m args below meth c A C
  unfold F_X12_readPlain at hF
  refine x_aload_n C 0 0 dX12_readPlain_0 rfl rfl ?_
  refine x_ldc2 C 14836 dX12_readPlain_1 cl_X12_264 ?_
  refine x_callVI C (wf := RW K ad rest) (As := [.long 14836]) (rest := []) dX12_readPlain_4 ml_X12_235 rfl rfl (Nat.le_of_ble_eq_true rfl) 0 (RW_o K ad rest σ) rfl ⟨Nat.le_of_ble_eq_true rfl, Nat.le_of_ble_eq_true rfl⟩ ⟨Nat.zero_le _, Nat.zero_le _⟩ (fun q9 hq9 => c_X12_isWord l D K ad rest 14836 σ q9 hq9) hF (fun v2 σ1 hF => ?_)
  refine x_if_eq C 23 dX12_readPlain_7 (by decide) hF (fun hF => ?_) (fun hF => ?_)
  · refine x_aload_n C 0 0 dX12_readPlain_23 rfl rfl ?_
    refine x_bipush C 40 dX12_readPlain_24 (by decide +kernel) ?_
    refine x_callVI C (wf := RW K ad rest) (As := [.int 40]) (rest := []) dX12_readPlain_26 ml_X12_248 rfl rfl (Nat.le_of_ble_eq_true rfl) 0 (RW_o K ad rest σ1) rfl ⟨Nat.le_of_ble_eq_true rfl, Nat.le_of_ble_eq_true rfl⟩ ⟨Nat.zero_le _, Nat.zero_le _⟩ (fun q9 hq9 => c_X12_isSign l D K ad rest 40 σ1 q9 hq9) hF (fun v4 σ3 hF => ?_)
    refine x_if_eq C 40 dX12_readPlain_29 (by decide) hF (fun hF => ?_) (fun hF => ?_)
    · refine x_aload_n C 0 0 dX12_readPlain_40 rfl rfl ?_
      refine x_callVI C (wf := RW K ad rest) (As := []) (rest := []) dX12_readPlain_41 ml_X12_266 rfl rfl (Nat.le_of_ble_eq_true rfl) 0 (RW_o K ad rest σ3) rfl ⟨Nat.le_of_ble_eq_true rfl, Nat.le_of_ble_eq_true rfl⟩ ⟨Nat.zero_le _, Nat.zero_le _⟩ (fun q9 hq9 => c_X12_readPart l D K ad rest σ3 q9 hq9) hF (fun v6 σ5 hF => ?_)
      exact x_iret C dX12_readPlain_44 rfl (congrArg Prod.fst (Option.some.inj hF)) (congrArg (fun q9 : Int32 × xS => RW K ad rest q9.2) (Option.some.inj hF))
    · refine x_aload_n C 0 0 dX12_readPlain_32 rfl rfl ?_
      refine x_bipush C 30 dX12_readPlain_33 (by decide +kernel) ?_
      refine x_callVV C (wf := RW K ad rest) (As := [.int 30]) (rest := []) dX12_readPlain_35 ml_X12_251 rfl rfl (Nat.le_of_ble_eq_true rfl) 0 (RW_o K ad rest σ3) rfl ⟨Nat.le_of_ble_eq_true rfl, Nat.le_of_ble_eq_true rfl⟩ ⟨Nat.zero_le _, Nat.zero_le _⟩ (fun q9 hq9 => c_X12_openBracket l D K ad rest 30 σ3 q9 hq9) hF (fun _ σ7 hF => ?_)
      refine x_iconst C 0 dX12_readPlain_38 (by decide +kernel) ?_
      exact x_iret C dX12_readPlain_39 rfl (congrArg Prod.fst (Option.some.inj hF)) (congrArg (fun q9 : Int32 × xS => RW K ad rest q9.2) (Option.some.inj hF))
  · refine x_aload_n C 0 0 dX12_readPlain_10 rfl rfl ?_
    refine x_bipush C 27 dX12_readPlain_11 (by decide +kernel) ?_
    refine x_iconst C 0 dX12_readPlain_13 (by decide +kernel) ?_
    refine x_callVV C (wf := RW K ad rest) (As := [.int 27, .int 0]) (rest := []) dX12_readPlain_14 ml_X12_242 rfl rfl (Nat.le_of_ble_eq_true rfl) 0 (RW_o K ad rest σ1) rfl ⟨Nat.le_of_ble_eq_true rfl, Nat.le_of_ble_eq_true rfl⟩ ⟨Nat.zero_le _, Nat.zero_le _⟩ (fun q9 hq9 => c_X12_push l D K ad rest 27 0 σ1 q9 hq9) hF (fun _ σ8 hF => ?_)
    refine x_aload_n C 0 0 dX12_readPlain_17 rfl rfl ?_
    refine x_callVV C (wf := RW K ad rest) (As := []) (rest := []) dX12_readPlain_18 ml_X12_179 rfl rfl (Nat.le_of_ble_eq_true rfl) 0 (RW_o K ad rest σ8) rfl ⟨Nat.le_of_ble_eq_true rfl, Nat.le_of_ble_eq_true rfl⟩ ⟨Nat.zero_le _, Nat.zero_le _⟩ (fun q9 hq9 => c_X12_next l D K ad rest σ8 q9 hq9) hF (fun _ σ9 hF => ?_)
    refine x_iconst C 0 dX12_readPlain_21 (by decide +kernel) ?_
    exact x_iret C dX12_readPlain_22 rfl (congrArg Prod.fst (Option.some.inj hF)) (congrArg (fun q9 : Int32 × xS => RW K ad rest q9.2) (Option.some.inj hF))
theorem dX12_behindSum_0 : decode cX12_behindSum 0 = .ok (.aload_n 0, 1) := by decide +kernel
theorem dX12_behindSum_1 : decode cX12_behindSum 1 = .ok (.bipush 43, 2) := by decide +kernel
theorem dX12_behindSum_3 : decode cX12_behindSum 3 = .ok (.invokevirtual 248, 3) := by decide +kernel
theorem dX12_behindSum_6 : decode cX12_behindSum 6 = .ok (.ifCond .eq 8, 3) := by decide +kernel
theorem dX12_behindSum_9 : decode cX12_behindSum 9 = .ok (.bipush 20, 2) := by decide +kernel
theorem dX12_behindSum_11 : decode cX12_behindSum 11 = .ok (.goto 46, 3) := by decide +kernel
theorem dX12_behindSum_14 : decode cX12_behindSum 14 = .ok (.aload_n 0, 1) := by decide +kernel
theorem dX12_behindSum_15 : decode cX12_behindSum 15 = .ok (.bipush 45, 2) := by decide +kernel
theorem dX12_behindSum_17 : decode cX12_behindSum 17 = .ok (.invokevirtual 248, 3) := by decide +kernel
theorem dX12_behindSum_20 : decode cX12_behindSum 20 = .ok (.ifCond .eq 8, 3) := by decide +kernel
theorem dX12_behindSum_23 : decode cX12_behindSum 23 = .ok (.bipush 21, 2) := by decide +kernel
theorem dX12_behindSum_25 : decode cX12_behindSum 25 = .ok (.goto 32, 3) := by decide +kernel
theorem dX12_behindSum_28 : decode cX12_behindSum 28 = .ok (.aload_n 0, 1) := by decide +kernel
theorem dX12_behindSum_29 : decode cX12_behindSum 29 = .ok (.bipush 42, 2) := by decide +kernel
theorem dX12_behindSum_31 : decode cX12_behindSum 31 = .ok (.invokevirtual 248, 3) := by decide +kernel
theorem dX12_behindSum_34 : decode cX12_behindSum 34 = .ok (.ifCond .eq 8, 3) := by decide +kernel
theorem dX12_behindSum_37 : decode cX12_behindSum 37 = .ok (.bipush 22, 2) := by decide +kernel
theorem dX12_behindSum_39 : decode cX12_behindSum 39 = .ok (.goto 18, 3) := by decide +kernel
theorem dX12_behindSum_42 : decode cX12_behindSum 42 = .ok (.aload_n 0, 1) := by decide +kernel
theorem dX12_behindSum_43 : decode cX12_behindSum 43 = .ok (.bipush 47, 2) := by decide +kernel
theorem dX12_behindSum_45 : decode cX12_behindSum 45 = .ok (.invokevirtual 248, 3) := by decide +kernel
theorem dX12_behindSum_48 : decode cX12_behindSum 48 = .ok (.ifCond .eq 8, 3) := by decide +kernel
theorem dX12_behindSum_51 : decode cX12_behindSum 51 = .ok (.bipush 23, 2) := by decide +kernel
theorem dX12_behindSum_53 : decode cX12_behindSum 53 = .ok (.goto 4, 3) := by decide +kernel
theorem dX12_behindSum_56 : decode cX12_behindSum 56 = .ok (.iconst (-1), 1) := by decide +kernel
theorem dX12_behindSum_57 : decode cX12_behindSum 57 = .ok (.istore_n 2, 1) := by decide +kernel
theorem dX12_behindSum_58 : decode cX12_behindSum 58 = .ok (.iload_n 2, 1) := by decide +kernel
theorem dX12_behindSum_59 : decode cX12_behindSum 59 = .ok (.iconst (-1), 1) := by decide +kernel
theorem dX12_behindSum_60 : decode cX12_behindSum 60 = .ok (.if_icmp .eq 23, 3) := by decide +kernel
theorem dX12_behindSum_63 : decode cX12_behindSum 63 = .ok (.aload_n 0, 1) := by decide +kernel
theorem dX12_behindSum_64 : decode cX12_behindSum 64 = .ok (.iload_n 2, 1) := by decide +kernel
theorem dX12_behindSum_65 : decode cX12_behindSum 65 = .ok (.invokestatic 220, 3) := by decide +kernel
theorem dX12_behindSum_68 : decode cX12_behindSum 68 = .ok (.invokevirtual 269, 3) := by decide +kernel
theorem dX12_behindSum_71 : decode cX12_behindSum 71 = .ok (.aload_n 0, 1) := by decide +kernel
theorem dX12_behindSum_72 : decode cX12_behindSum 72 = .ok (.iload_n 2, 1) := by decide +kernel
theorem dX12_behindSum_73 : decode cX12_behindSum 73 = .ok (.iconst 0, 1) := by decide +kernel
theorem dX12_behindSum_74 : decode cX12_behindSum 74 = .ok (.invokevirtual 242, 3) := by decide +kernel
theorem dX12_behindSum_77 : decode cX12_behindSum 77 = .ok (.aload_n 0, 1) := by decide +kernel
theorem dX12_behindSum_78 : decode cX12_behindSum 78 = .ok (.invokevirtual 179, 3) := by decide +kernel
theorem dX12_behindSum_81 : decode cX12_behindSum 81 = .ok (.iconst 1, 1) := by decide +kernel
theorem dX12_behindSum_82 : decode cX12_behindSum 82 = .ok (.ireturn, 1) := by decide +kernel
theorem dX12_behindSum_83 : decode cX12_behindSum 83 = .ok (.aload_n 0, 1) := by decide +kernel
theorem dX12_behindSum_84 : decode cX12_behindSum 84 = .ok (.invokevirtual 272, 3) := by decide +kernel
theorem dX12_behindSum_87 : decode cX12_behindSum 87 = .ok (.istore_n 3, 1) := by decide +kernel
theorem dX12_behindSum_88 : decode cX12_behindSum 88 = .ok (.iload_n 3, 1) := by decide +kernel
theorem dX12_behindSum_89 : decode cX12_behindSum 89 = .ok (.bipush 31, 2) := by decide +kernel
theorem dX12_behindSum_91 : decode cX12_behindSum 91 = .ok (.if_icmp .ne 47, 3) := by decide +kernel
theorem dX12_behindSum_94 : decode cX12_behindSum 94 = .ok (.aload_n 0, 1) := by decide +kernel
theorem dX12_behindSum_95 : decode cX12_behindSum 95 = .ok (.aload_n 0, 1) := by decide +kernel
theorem dX12_behindSum_96 : decode cX12_behindSum 96 = .ok (.bipush 93, 2) := by decide +kernel
theorem dX12_behindSum_98 : decode cX12_behindSum 98 = .ok (.invokevirtual 248, 3) := by decide +kernel
theorem dX12_behindSum_101 : decode cX12_behindSum 101 = .ok (.invokevirtual 210, 3) := by decide +kernel
theorem dX12_behindSum_104 : decode cX12_behindSum 104 = .ok (.aload_n 0, 1) := by decide +kernel
theorem dX12_behindSum_105 : decode cX12_behindSum 105 = .ok (.getfield 175, 3) := by decide +kernel
theorem dX12_behindSum_108 : decode cX12_behindSum 108 = .ok (.ifCond .ne 28, 3) := by decide +kernel
theorem dX12_behindSum_111 : decode cX12_behindSum 111 = .ok (.aload_n 0, 1) := by decide +kernel
theorem dX12_behindSum_112 : decode cX12_behindSum 112 = .ok (.iconst 5, 1) := by decide +kernel
theorem dX12_behindSum_113 : decode cX12_behindSum 113 = .ok (.invokevirtual 269, 3) := by decide +kernel
theorem dX12_behindSum_116 : decode cX12_behindSum 116 = .ok (.aload_n 0, 1) := by decide +kernel
theorem dX12_behindSum_117 : decode cX12_behindSum 117 = .ok (.dup, 1) := by decide +kernel
theorem dX12_behindSum_118 : decode cX12_behindSum 118 = .ok (.getfield 217, 3) := by decide +kernel
theorem dX12_behindSum_121 : decode cX12_behindSum 121 = .ok (.iconst 1, 1) := by decide +kernel
theorem dX12_behindSum_122 : decode cX12_behindSum 122 = .ok (.isub, 1) := by decide +kernel
theorem dX12_behindSum_123 : decode cX12_behindSum 123 = .ok (.putfield 217, 3) := by decide +kernel
theorem dX12_behindSum_126 : decode cX12_behindSum 126 = .ok (.aload_n 0, 1) := by decide +kernel
theorem dX12_behindSum_127 : decode cX12_behindSum 127 = .ok (.dup, 1) := by decide +kernel
theorem dX12_behindSum_128 : decode cX12_behindSum 128 = .ok (.getfield 239, 3) := by decide +kernel
theorem dX12_behindSum_131 : decode cX12_behindSum 131 = .ok (.iconst 1, 1) := by decide +kernel
theorem dX12_behindSum_132 : decode cX12_behindSum 132 = .ok (.isub, 1) := by decide +kernel
theorem dX12_behindSum_133 : decode cX12_behindSum 133 = .ok (.putfield 239, 3) := by decide +kernel
theorem dX12_behindSum_136 : decode cX12_behindSum 136 = .ok (.iconst 3, 1) := by decide +kernel
theorem dX12_behindSum_137 : decode cX12_behindSum 137 = .ok (.ireturn, 1) := by decide +kernel
theorem dX12_behindSum_138 : decode cX12_behindSum 138 = .ok (.iload_n 3, 1) := by decide +kernel
theorem dX12_behindSum_139 : decode cX12_behindSum 139 = .ok (.iconst (-1), 1) := by decide +kernel
theorem dX12_behindSum_140 : decode cX12_behindSum 140 = .ok (.if_icmp .ne 9, 3) := by decide +kernel
theorem dX12_behindSum_143 : decode cX12_behindSum 143 = .ok (.iload_n 1, 1) := by decide +kernel
theorem dX12_behindSum_144 : decode cX12_behindSum 144 = .ok (.ifCond .ne 5, 3) := by decide +kernel
theorem dX12_behindSum_147 : decode cX12_behindSum 147 = .ok (.iconst 4, 1) := by decide +kernel
theorem dX12_behindSum_148 : decode cX12_behindSum 148 = .ok (.ireturn, 1) := by decide +kernel
theorem dX12_behindSum_149 : decode cX12_behindSum 149 = .ok (.aload_n 0, 1) := by decide +kernel
theorem dX12_behindSum_150 : decode cX12_behindSum 150 = .ok (.invokevirtual 275, 3) := by decide +kernel
theorem dX12_behindSum_153 : decode cX12_behindSum 153 = .ok (.ifCond .eq 5, 3) := by decide +kernel
theorem dX12_behindSum_156 : decode cX12_behindSum 156 = .ok (.iconst 2, 1) := by decide +kernel
theorem dX12_behindSum_157 : decode cX12_behindSum 157 = .ok (.ireturn, 1) := by decide +kernel
theorem dX12_behindSum_158 : decode cX12_behindSum 158 = .ok (.aload_n 0, 1) := by decide +kernel
theorem dX12_behindSum_159 : decode cX12_behindSum 159 = .ok (.bipush 60, 2) := by decide +kernel
theorem dX12_behindSum_161 : decode cX12_behindSum 161 = .ok (.invokevirtual 248, 3) := by decide +kernel
theorem dX12_behindSum_164 : decode cX12_behindSum 164 = .ok (.ifCond .eq 8, 3) := by decide +kernel
theorem dX12_behindSum_167 : decode cX12_behindSum 167 = .ok (.bipush 24, 2) := by decide +kernel
theorem dX12_behindSum_169 : decode cX12_behindSum 169 = .ok (.goto 19, 3) := by decide +kernel
theorem dX12_behindSum_172 : decode cX12_behindSum 172 = .ok (.aload_n 0, 1) := by decide +kernel
theorem dX12_behindSum_173 : decode cX12_behindSum 173 = .ok (.bipush 62, 2) := by decide +kernel
theorem dX12_behindSum_175 : decode cX12_behindSum 175 = .ok (.invokevirtual 248, 3) := by decide +kernel
theorem dX12_behindSum_178 : decode cX12_behindSum 178 = .ok (.ifCond .eq 8, 3) := by decide +kernel
theorem dX12_behindSum_181 : decode cX12_behindSum 181 = .ok (.bipush 25, 2) := by decide +kernel
theorem dX12_behindSum_183 : decode cX12_behindSum 183 = .ok (.goto 5, 3) := by decide +kernel
theorem dX12_behindSum_186 : decode cX12_behindSum 186 = .ok (.bipush 26, 2) := by decide +kernel
theorem dX12_behindSum_188 : decode cX12_behindSum 188 = .ok (.istore_n 2, 1) := by decide +kernel
theorem dX12_behindSum_189 : decode cX12_behindSum 189 = .ok (.aload_n 0, 1) := by decide +kernel
theorem dX12_behindSum_190 : decode cX12_behindSum 190 = .ok (.iload_n 2, 1) := by decide +kernel
theorem dX12_behindSum_191 : decode cX12_behindSum 191 = .ok (.bipush 26, 2) := by decide +kernel
theorem dX12_behindSum_193 : decode cX12_behindSum 193 = .ok (.if_icmp .ne 12, 3) := by decide +kernel
theorem dX12_behindSum_196 : decode cX12_behindSum 196 = .ok (.aload_n 0, 1) := by decide +kernel
theorem dX12_behindSum_197 : decode cX12_behindSum 197 = .ok (.bipush 61, 2) := by decide +kernel
theorem dX12_behindSum_199 : decode cX12_behindSum 199 = .ok (.invokevirtual 248, 3) := by decide +kernel
theorem dX12_behindSum_202 : decode cX12_behindSum 202 = .ok (.ifCond .eq 7, 3) := by decide +kernel
theorem dX12_behindSum_205 : decode cX12_behindSum 205 = .ok (.iconst 1, 1) := by decide +kernel
theorem dX12_behindSum_206 : decode cX12_behindSum 206 = .ok (.goto 4, 3) := by decide +kernel
theorem dX12_behindSum_209 : decode cX12_behindSum 209 = .ok (.iconst 0, 1) := by decide +kernel
theorem dX12_behindSum_210 : decode cX12_behindSum 210 = .ok (.invokevirtual 210, 3) := by decide +kernel
theorem dX12_behindSum_213 : decode cX12_behindSum 213 = .ok (.aload_n 0, 1) := by decide +kernel
theorem dX12_behindSum_214 : decode cX12_behindSum 214 = .ok (.getfield 175, 3) := by decide +kernel
theorem dX12_behindSum_217 : decode cX12_behindSum 217 = .ok (.ifCond .ne 14, 3) := by decide +kernel
theorem dX12_behindSum_220 : decode cX12_behindSum 220 = .ok (.aload_n 0, 1) := by decide +kernel
theorem dX12_behindSum_221 : decode cX12_behindSum 221 = .ok (.iconst 5, 1) := by decide +kernel
theorem dX12_behindSum_222 : decode cX12_behindSum 222 = .ok (.invokevirtual 269, 3) := by decide +kernel
theorem dX12_behindSum_225 : decode cX12_behindSum 225 = .ok (.aload_n 0, 1) := by decide +kernel
theorem dX12_behindSum_226 : decode cX12_behindSum 226 = .ok (.iload_n 2, 1) := by decide +kernel
theorem dX12_behindSum_227 : decode cX12_behindSum 227 = .ok (.iconst 0, 1) := by decide +kernel
theorem dX12_behindSum_228 : decode cX12_behindSum 228 = .ok (.invokevirtual 242, 3) := by decide +kernel
theorem dX12_behindSum_231 : decode cX12_behindSum 231 = .ok (.iconst 1, 1) := by decide +kernel
theorem dX12_behindSum_232 : decode cX12_behindSum 232 = .ok (.ireturn, 1) := by decide +kernel
set_option maxHeartbeats 4000000 in
set_option maxRecDepth 100000 in
theorem x_X12_behindSum_210 {p : Program} {l : Launch} {e : Env} {s : State} {m : MethodId} {args : Array Value} {below : List Frame} {meth : Method} {c : Code} {D : va_G} {K : Nat → ClassId} {A : Nat → Prop} {ad : Nat → Nat} {rest : va_W} (C : xC p s m args meth c D K A RX12 cX12_behindSum 4 (some .int)) (z : Int32 × xS) : ∀ (y2 : Int32) (t1 : Int32) (σ : xS), F_X12_behindSum_210  y2 t1 σ = some z → X p l e (xR 3 61) s m args below meth c D A 4 (xQi below D K A args s z.1 (RW K ad rest z.2)) 0 0 210 [(0, .ref (ad 0)), (2, .int y2)] [.int t1, .ref (ad 0)] (RW K ad rest σ) := by
  intro y2 t1 σ hF
  unfold F_X12_behindSum_210 at hF
  refine x_callVV C (wf := RW K ad rest) (As := [.int t1]) (rest := []) dX12_behindSum_210 ml_X12_210 rfl rfl (Nat.le_of_ble_eq_true rfl) 0 (RW_o K ad rest σ) rfl ⟨Nat.le_of_ble_eq_true rfl, Nat.le_of_ble_eq_true rfl⟩ ⟨Nat.zero_le _, Nat.zero_le _⟩ (fun q9 hq9 => c_X12_must l D K ad rest t1 σ q9 hq9) hF (fun _ σ30 hF => ?_)
  refine x_aload_n C 0 0 dX12_behindSum_213 rfl rfl ?_
  refine x_get C 0 dX12_behindSum_214 fl_X12_175 (RW_o K ad rest σ30) rfl ?_
  refine x_if_ne C 231 dX12_behindSum_217 (by decide) hF (fun hF => ?_) (fun hF => ?_)
  · refine x_iconst C 1 dX12_behindSum_231 (by decide +kernel) ?_
    exact x_iret C dX12_behindSum_232 rfl (congrArg Prod.fst (Option.some.inj hF)) (congrArg (fun q9 : Int32 × xS => RW K ad rest q9.2) (Option.some.inj hF))
  · refine x_aload_n C 0 0 dX12_behindSum_220 rfl rfl ?_
    refine x_iconst C 5 dX12_behindSum_221 (by decide +kernel) ?_
    refine x_callVV C (wf := RW K ad rest) (As := [.int 5]) (rest := []) dX12_behindSum_222 ml_X12_269 rfl rfl (Nat.le_of_ble_eq_true rfl) 0 (RW_o K ad rest σ30) rfl ⟨Nat.le_of_ble_eq_true rfl, Nat.le_of_ble_eq_true rfl⟩ ⟨Nat.zero_le _, Nat.zero_le _⟩ (fun q9 hq9 => c_X12_settle l D K ad rest 5 σ30 q9 hq9) hF (fun _ σ31 hF => ?_)
    refine x_aload_n C 0 0 dX12_behindSum_225 rfl rfl ?_
    refine x_iload_n C 1 2 dX12_behindSum_226 rfl rfl ?_
    refine x_iconst C 0 dX12_behindSum_227 (by decide +kernel) ?_
    refine x_callVV C (wf := RW K ad rest) (As := [.int y2, .int 0]) (rest := []) dX12_behindSum_228 ml_X12_242 rfl rfl (Nat.le_of_ble_eq_true rfl) 0 (RW_o K ad rest σ31) rfl ⟨Nat.le_of_ble_eq_true rfl, Nat.le_of_ble_eq_true rfl⟩ ⟨Nat.zero_le _, Nat.zero_le _⟩ (fun q9 hq9 => c_X12_push l D K ad rest y2 0 σ31 q9 hq9) hF (fun _ σ32 hF => ?_)
    refine x_iconst C 1 dX12_behindSum_231 (by decide +kernel) ?_
    exact x_iret C dX12_behindSum_232 rfl (congrArg Prod.fst (Option.some.inj hF)) (congrArg (fun q9 : Int32 × xS => RW K ad rest q9.2) (Option.some.inj hF))
set_option maxHeartbeats 4000000 in
set_option maxRecDepth 100000 in
theorem x_X12_behindSum_205 {p : Program} {l : Launch} {e : Env} {s : State} {m : MethodId} {args : Array Value} {below : List Frame} {meth : Method} {c : Code} {D : va_G} {K : Nat → ClassId} {A : Nat → Prop} {ad : Nat → Nat} {rest : va_W} (C : xC p s m args meth c D K A RX12 cX12_behindSum 4 (some .int)) (z : Int32 × xS) : ∀ (y2 : Int32) (σ : xS), F_X12_behindSum_205  y2 σ = some z → X p l e (xR 3 61) s m args below meth c D A 4 (xQi below D K A args s z.1 (RW K ad rest z.2)) 0 0 205 [(0, .ref (ad 0)), (2, .int y2)] [.ref (ad 0)] (RW K ad rest σ) := by
  intro y2 σ hF
  unfold F_X12_behindSum_205 at hF
  refine x_iconst C 1 dX12_behindSum_205 (by decide +kernel) ?_
  refine x_goto C 210 dX12_behindSum_206 (by decide) ?_
  exact x_X12_behindSum_210 C z y2 1 σ hF
set_option maxHeartbeats 4000000 in
set_option maxRecDepth 100000 in
theorem x_X12_behindSum_188 {p : Program} {l : Launch} {e : Env} {s : State} {m : MethodId} {args : Array Value} {below : List Frame} {meth : Method} {c : Code} {D : va_G} {K : Nat → ClassId} {A : Nat → Prop} {ad : Nat → Nat} {rest : va_W} (C : xC p s m args meth c D K A RX12 cX12_behindSum 4 (some .int)) (z : Int32 × xS) : ∀ (t0 : Int32) (σ : xS), F_X12_behindSum_188  t0 σ = some z → X p l e (xR 3 61) s m args below meth c D A 4 (xQi below D K A args s z.1 (RW K ad rest z.2)) 0 0 188 [(0, .ref (ad 0))] [.int t0] (RW K ad rest σ) := by
  intro t0 σ hF
  unfold F_X12_behindSum_188 at hF
  refine x_istore_n C [(2, .int t0), (0, .ref (ad 0))] dX12_behindSum_188 rfl (by decide) rfl ?_
  refine x_aload_n C 1 0 dX12_behindSum_189 rfl rfl ?_
  refine x_iload_n C 0 2 dX12_behindSum_190 rfl rfl ?_
  refine x_bipush C 26 dX12_behindSum_191 (by decide +kernel) ?_
  refine x_icmp_ne C 205 dX12_behindSum_193 (by decide) hF (fun hF => ?_) (fun hF => ?_)
  · refine x_loc [(0, .ref (ad 0)), (2, .int t0)] [1, 0] rfl ?_
    exact x_X12_behindSum_205 C z t0 σ hF
  · refine x_aload_n C 1 0 dX12_behindSum_196 rfl rfl ?_
    refine x_bipush C 61 dX12_behindSum_197 (by decide +kernel) ?_
    refine x_callVI C (wf := RW K ad rest) (As := [.int 61]) (rest := [.ref (ad 0)]) dX12_behindSum_199 ml_X12_248 rfl rfl (Nat.le_of_ble_eq_true rfl) 0 (RW_o K ad rest σ) rfl ⟨Nat.le_of_ble_eq_true rfl, Nat.le_of_ble_eq_true rfl⟩ ⟨Nat.zero_le _, Nat.zero_le _⟩ (fun q9 hq9 => c_X12_isSign l D K ad rest 61 σ q9 hq9) hF (fun v29 σ28 hF => ?_)
    refine x_if_eq C 209 dX12_behindSum_202 (by decide) hF (fun hF => ?_) (fun hF => ?_)
    · refine x_iconst C 0 dX12_behindSum_209 (by decide +kernel) ?_
      refine x_loc [(0, .ref (ad 0)), (2, .int t0)] [1, 0] rfl ?_
      exact x_X12_behindSum_210 C z t0 0 σ28 hF
    · refine x_loc [(0, .ref (ad 0)), (2, .int t0)] [1, 0] rfl ?_
      exact x_X12_behindSum_205 C z t0 σ28 hF
set_option maxHeartbeats 4000000 in
set_option maxRecDepth 100000 in
theorem x_X12_behindSum_149 {p : Program} {l : Launch} {e : Env} {s : State} {m : MethodId} {args : Array Value} {below : List Frame} {meth : Method} {c : Code} {D : va_G} {K : Nat → ClassId} {A : Nat → Prop} {ad : Nat → Nat} {rest : va_W} (C : xC p s m args meth c D K A RX12 cX12_behindSum 4 (some .int)) (z : Int32 × xS) : ∀  (σ : xS), F_X12_behindSum_149  σ = some z → X p l e (xR 3 61) s m args below meth c D A 4 (xQi below D K A args s z.1 (RW K ad rest z.2)) 0 0 149 [(0, .ref (ad 0))] [] (RW K ad rest σ) := by
  intro σ hF
  unfold F_X12_behindSum_149 at hF
  refine x_aload_n C 0 0 dX12_behindSum_149 rfl rfl ?_
  refine x_callVI C (wf := RW K ad rest) (As := []) (rest := []) dX12_behindSum_150 ml_X12_275 rfl rfl (Nat.le_of_ble_eq_true rfl) 0 (RW_o K ad rest σ) rfl ⟨Nat.le_of_ble_eq_true rfl, Nat.le_of_ble_eq_true rfl⟩ ⟨Nat.zero_le _, Nat.zero_le _⟩ (fun q9 hq9 => c_X12_isCompared l D K ad rest σ q9 hq9) hF (fun v23 σ22 hF => ?_)
  refine x_if_eq C 158 dX12_behindSum_153 (by decide) hF (fun hF => ?_) (fun hF => ?_)
  · refine x_aload_n C 0 0 dX12_behindSum_158 rfl rfl ?_
    refine x_bipush C 60 dX12_behindSum_159 (by decide +kernel) ?_
    refine x_callVI C (wf := RW K ad rest) (As := [.int 60]) (rest := []) dX12_behindSum_161 ml_X12_248 rfl rfl (Nat.le_of_ble_eq_true rfl) 0 (RW_o K ad rest σ22) rfl ⟨Nat.le_of_ble_eq_true rfl, Nat.le_of_ble_eq_true rfl⟩ ⟨Nat.zero_le _, Nat.zero_le _⟩ (fun q9 hq9 => c_X12_isSign l D K ad rest 60 σ22 q9 hq9) hF (fun v25 σ24 hF => ?_)
    refine x_if_eq C 172 dX12_behindSum_164 (by decide) hF (fun hF => ?_) (fun hF => ?_)
    · refine x_aload_n C 0 0 dX12_behindSum_172 rfl rfl ?_
      refine x_bipush C 62 dX12_behindSum_173 (by decide +kernel) ?_
      refine x_callVI C (wf := RW K ad rest) (As := [.int 62]) (rest := []) dX12_behindSum_175 ml_X12_248 rfl rfl (Nat.le_of_ble_eq_true rfl) 0 (RW_o K ad rest σ24) rfl ⟨Nat.le_of_ble_eq_true rfl, Nat.le_of_ble_eq_true rfl⟩ ⟨Nat.zero_le _, Nat.zero_le _⟩ (fun q9 hq9 => c_X12_isSign l D K ad rest 62 σ24 q9 hq9) hF (fun v27 σ26 hF => ?_)
      refine x_if_eq C 186 dX12_behindSum_178 (by decide) hF (fun hF => ?_) (fun hF => ?_)
      · refine x_bipush C 26 dX12_behindSum_186 (by decide +kernel) ?_
        exact x_X12_behindSum_188 C z 26 σ26 hF
      · refine x_bipush C 25 dX12_behindSum_181 (by decide +kernel) ?_
        refine x_goto C 188 dX12_behindSum_183 (by decide) ?_
        exact x_X12_behindSum_188 C z 25 σ26 hF
    · refine x_bipush C 24 dX12_behindSum_167 (by decide +kernel) ?_
      refine x_goto C 188 dX12_behindSum_169 (by decide) ?_
      exact x_X12_behindSum_188 C z 24 σ24 hF
  · refine x_iconst C 2 dX12_behindSum_156 (by decide +kernel) ?_
    exact x_iret C dX12_behindSum_157 rfl (congrArg Prod.fst (Option.some.inj hF)) (congrArg (fun q9 : Int32 × xS => RW K ad rest q9.2) (Option.some.inj hF))
set_option maxHeartbeats 4000000 in
set_option maxRecDepth 100000 in
theorem x_X12_behindSum_57 {p : Program} {l : Launch} {e : Env} {s : State} {m : MethodId} {args : Array Value} {below : List Frame} {meth : Method} {c : Code} {D : va_G} {K : Nat → ClassId} {A : Nat → Prop} {ad : Nat → Nat} {rest : va_W} (C : xC p s m args meth c D K A RX12 cX12_behindSum 4 (some .int)) (z : Int32 × xS) : ∀ (y1 : Int32) (t0 : Int32) (σ : xS), F_X12_behindSum_57  y1 t0 σ = some z → X p l e (xR 3 61) s m args below meth c D A 4 (xQi below D K A args s z.1 (RW K ad rest z.2)) 0 0 57 [(0, .ref (ad 0)), (1, .int y1)] [.int t0] (RW K ad rest σ) := by
  intro y1 t0 σ hF
  unfold F_X12_behindSum_57 at hF
  refine x_istore_n C [(2, .int t0), (0, .ref (ad 0)), (1, .int y1)] dX12_behindSum_57 rfl (by decide) rfl ?_
  refine x_iload_n C 0 2 dX12_behindSum_58 rfl rfl ?_
  refine x_iconst C (-1) dX12_behindSum_59 (by decide +kernel) ?_
  refine x_icmp_eq C 83 dX12_behindSum_60 (by decide) hF (fun hF => ?_) (fun hF => ?_)
  · refine x_aload_n C 1 0 dX12_behindSum_83 rfl rfl ?_
    refine x_callVI C (wf := RW K ad rest) (As := []) (rest := []) dX12_behindSum_84 ml_X12_272 rfl rfl (Nat.le_of_ble_eq_true rfl) 0 (RW_o K ad rest σ) rfl ⟨Nat.le_of_ble_eq_true rfl, Nat.le_of_ble_eq_true rfl⟩ ⟨Nat.zero_le _, Nat.zero_le _⟩ (fun q9 hq9 => c_X12_inner l D K ad rest σ q9 hq9) hF (fun v10 σ9 hF => ?_)
    refine x_istore_n C [(3, .int v10), (2, .int t0), (0, .ref (ad 0)), (1, .int y1)] dX12_behindSum_87 rfl (by decide) rfl ?_
    refine x_iload_n C 0 3 dX12_behindSum_88 rfl rfl ?_
    refine x_bipush C 31 dX12_behindSum_89 (by decide +kernel) ?_
    refine x_icmp_ne C 138 dX12_behindSum_91 (by decide) hF (fun hF => ?_) (fun hF => ?_)
    · refine x_iload_n C 0 3 dX12_behindSum_138 rfl rfl ?_
      refine x_iconst C (-1) dX12_behindSum_139 (by decide +kernel) ?_
      refine x_icmp_ne C 149 dX12_behindSum_140 (by decide) hF (fun hF => ?_) (fun hF => ?_)
      · refine x_loc [(0, .ref (ad 0))] [2] rfl ?_
        exact x_X12_behindSum_149 C z σ9 hF
      · refine x_iload_n C 3 1 dX12_behindSum_143 rfl rfl ?_
        refine x_if_ne C 149 dX12_behindSum_144 (by decide) hF (fun hF => ?_) (fun hF => ?_)
        · refine x_loc [(0, .ref (ad 0))] [2] rfl ?_
          exact x_X12_behindSum_149 C z σ9 hF
        · refine x_iconst C 4 dX12_behindSum_147 (by decide +kernel) ?_
          exact x_iret C dX12_behindSum_148 rfl (congrArg Prod.fst (Option.some.inj hF)) (congrArg (fun q9 : Int32 × xS => RW K ad rest q9.2) (Option.some.inj hF))
    · refine x_aload_n C 2 0 dX12_behindSum_94 rfl rfl ?_
      refine x_aload_n C 2 0 dX12_behindSum_95 rfl rfl ?_
      refine x_bipush C 93 dX12_behindSum_96 (by decide +kernel) ?_
      refine x_callVI C (wf := RW K ad rest) (As := [.int 93]) (rest := [.ref (ad 0)]) dX12_behindSum_98 ml_X12_248 rfl rfl (Nat.le_of_ble_eq_true rfl) 0 (RW_o K ad rest σ9) rfl ⟨Nat.le_of_ble_eq_true rfl, Nat.le_of_ble_eq_true rfl⟩ ⟨Nat.zero_le _, Nat.zero_le _⟩ (fun q9 hq9 => c_X12_isSign l D K ad rest 93 σ9 q9 hq9) hF (fun v12 σ11 hF => ?_)
      refine x_callVV C (wf := RW K ad rest) (As := [.int v12]) (rest := []) dX12_behindSum_101 ml_X12_210 rfl rfl (Nat.le_of_ble_eq_true rfl) 0 (RW_o K ad rest σ11) rfl ⟨Nat.le_of_ble_eq_true rfl, Nat.le_of_ble_eq_true rfl⟩ ⟨Nat.zero_le _, Nat.zero_le _⟩ (fun q9 hq9 => c_X12_must l D K ad rest v12 σ11 q9 hq9) hF (fun _ σ13 hF => ?_)
      refine x_aload_n C 2 0 dX12_behindSum_104 rfl rfl ?_
      refine x_get C 0 dX12_behindSum_105 fl_X12_175 (RW_o K ad rest σ13) rfl ?_
      refine x_if_ne C 136 dX12_behindSum_108 (by decide) hF (fun hF => ?_) (fun hF => ?_)
      · refine x_iconst C 3 dX12_behindSum_136 (by decide +kernel) ?_
        exact x_iret C dX12_behindSum_137 rfl (congrArg Prod.fst (Option.some.inj hF)) (congrArg (fun q9 : Int32 × xS => RW K ad rest q9.2) (Option.some.inj hF))
      · refine x_aload_n C 2 0 dX12_behindSum_111 rfl rfl ?_
        refine x_iconst C 5 dX12_behindSum_112 (by decide +kernel) ?_
        refine x_callVV C (wf := RW K ad rest) (As := [.int 5]) (rest := []) dX12_behindSum_113 ml_X12_269 rfl rfl (Nat.le_of_ble_eq_true rfl) 0 (RW_o K ad rest σ13) rfl ⟨Nat.le_of_ble_eq_true rfl, Nat.le_of_ble_eq_true rfl⟩ ⟨Nat.zero_le _, Nat.zero_le _⟩ (fun q9 hq9 => c_X12_settle l D K ad rest 5 σ13 q9 hq9) hF (fun _ σ14 hF => ?_)
        refine x_aload_n C 2 0 dX12_behindSum_116 rfl rfl ?_
        refine x_dup C rfl dX12_behindSum_117 ?_
        refine x_get C 0 dX12_behindSum_118 fl_X12_217 (RW_o K ad rest σ14) rfl ?_
        refine x_iconst C 1 dX12_behindSum_121 (by decide +kernel) ?_
        refine x_isub C dX12_behindSum_122 ?_
        refine x_put C 0 dX12_behindSum_123 fl_X12_217 fm_X12_23 rfl rfl (RW_o K ad rest σ14) (Nat.le_of_ble_eq_true rfl) (RW_s23 K ad rest σ14 _) ?_
        refine x_st (wf := RW K ad rest) hF (fun σ15 hF => ?_)
        refine x_aload_n C 2 0 dX12_behindSum_126 rfl rfl ?_
        refine x_dup C rfl dX12_behindSum_127 ?_
        refine x_get C 0 dX12_behindSum_128 fl_X12_239 (RW_o K ad rest σ15) rfl ?_
        refine x_iconst C 1 dX12_behindSum_131 (by decide +kernel) ?_
        refine x_isub C dX12_behindSum_132 ?_
        refine x_put C 0 dX12_behindSum_133 fl_X12_239 fm_X12_24 rfl rfl (RW_o K ad rest σ15) (Nat.le_of_ble_eq_true rfl) (RW_s24 K ad rest σ15 _) ?_
        refine x_st (wf := RW K ad rest) hF (fun σ16 hF => ?_)
        refine x_iconst C 3 dX12_behindSum_136 (by decide +kernel) ?_
        exact x_iret C dX12_behindSum_137 rfl (congrArg Prod.fst (Option.some.inj hF)) (congrArg (fun q9 : Int32 × xS => RW K ad rest q9.2) (Option.some.inj hF))
  · refine x_aload_n C 1 0 dX12_behindSum_63 rfl rfl ?_
    refine x_iload_n C 0 2 dX12_behindSum_64 rfl rfl ?_
    refine x_callSI C (wf := RW K ad rest) (As := [.int t0]) (rest := [.ref (ad 0)]) dX12_behindSum_65 ml_X12_220 rfl rfl (Nat.le_of_ble_eq_true rfl) ⟨Nat.le_of_ble_eq_true rfl, Nat.le_of_ble_eq_true rfl⟩ ⟨Nat.zero_le _, Nat.zero_le _⟩ (fun q9 hq9 => c_X12_binds l D K ad rest t0 σ q9 hq9) hF (fun v18 σ17 hF => ?_)
    refine x_callVV C (wf := RW K ad rest) (As := [.int v18]) (rest := []) dX12_behindSum_68 ml_X12_269 rfl rfl (Nat.le_of_ble_eq_true rfl) 0 (RW_o K ad rest σ17) rfl ⟨Nat.le_of_ble_eq_true rfl, Nat.le_of_ble_eq_true rfl⟩ ⟨Nat.zero_le _, Nat.zero_le _⟩ (fun q9 hq9 => c_X12_settle l D K ad rest v18 σ17 q9 hq9) hF (fun _ σ19 hF => ?_)
    refine x_aload_n C 1 0 dX12_behindSum_71 rfl rfl ?_
    refine x_iload_n C 0 2 dX12_behindSum_72 rfl rfl ?_
    refine x_iconst C 0 dX12_behindSum_73 (by decide +kernel) ?_
    refine x_callVV C (wf := RW K ad rest) (As := [.int t0, .int 0]) (rest := []) dX12_behindSum_74 ml_X12_242 rfl rfl (Nat.le_of_ble_eq_true rfl) 0 (RW_o K ad rest σ19) rfl ⟨Nat.le_of_ble_eq_true rfl, Nat.le_of_ble_eq_true rfl⟩ ⟨Nat.zero_le _, Nat.zero_le _⟩ (fun q9 hq9 => c_X12_push l D K ad rest t0 0 σ19 q9 hq9) hF (fun _ σ20 hF => ?_)
    refine x_aload_n C 1 0 dX12_behindSum_77 rfl rfl ?_
    refine x_callVV C (wf := RW K ad rest) (As := []) (rest := []) dX12_behindSum_78 ml_X12_179 rfl rfl (Nat.le_of_ble_eq_true rfl) 0 (RW_o K ad rest σ20) rfl ⟨Nat.le_of_ble_eq_true rfl, Nat.le_of_ble_eq_true rfl⟩ ⟨Nat.zero_le _, Nat.zero_le _⟩ (fun q9 hq9 => c_X12_next l D K ad rest σ20 q9 hq9) hF (fun _ σ21 hF => ?_)
    refine x_iconst C 1 dX12_behindSum_81 (by decide +kernel) ?_
    exact x_iret C dX12_behindSum_82 rfl (congrArg Prod.fst (Option.some.inj hF)) (congrArg (fun q9 : Int32 × xS => RW K ad rest q9.2) (Option.some.inj hF))
set_option maxHeartbeats 4000000 in
set_option maxRecDepth 100000 in
theorem c_X12_behindSum (l : Launch) (D : va_G) (K : Nat → ClassId) (ad : Nat → Nat) (rest : va_W) (a1 : Int32) (σ : xS) (z : Int32 × xS) (hF : F_X12_behindSum a1 σ = some z) : CI l D K yX12_behindSum cX12_behindSum 4 (some .int) 3 61 [.ref (ad 0), .int a1] (RW K ad rest σ) z.1 (RW K ad rest z.2) := by
  refine x_enterI [(0, .ref (ad 0)), (1, .int a1)] pnX12 (Nat.le_of_ble_eq_true rfl) rfl ?_
  intro p e s m args below meth c A C
  unfold F_X12_behindSum at hF
  refine x_aload_n C 0 0 dX12_behindSum_0 rfl rfl ?_
  refine x_bipush C 43 dX12_behindSum_1 (by decide +kernel) ?_
  refine x_callVI C (wf := RW K ad rest) (As := [.int 43]) (rest := []) dX12_behindSum_3 ml_X12_248 rfl rfl (Nat.le_of_ble_eq_true rfl) 0 (RW_o K ad rest σ) rfl ⟨Nat.le_of_ble_eq_true rfl, Nat.le_of_ble_eq_true rfl⟩ ⟨Nat.zero_le _, Nat.zero_le _⟩ (fun q9 hq9 => c_X12_isSign l D K ad rest 43 σ q9 hq9) hF (fun v2 σ1 hF => ?_)
  refine x_if_eq C 14 dX12_behindSum_6 (by decide) hF (fun hF => ?_) (fun hF => ?_)
  · refine x_aload_n C 0 0 dX12_behindSum_14 rfl rfl ?_
    refine x_bipush C 45 dX12_behindSum_15 (by decide +kernel) ?_
    refine x_callVI C (wf := RW K ad rest) (As := [.int 45]) (rest := []) dX12_behindSum_17 ml_X12_248 rfl rfl (Nat.le_of_ble_eq_true rfl) 0 (RW_o K ad rest σ1) rfl ⟨Nat.le_of_ble_eq_true rfl, Nat.le_of_ble_eq_true rfl⟩ ⟨Nat.zero_le _, Nat.zero_le _⟩ (fun q9 hq9 => c_X12_isSign l D K ad rest 45 σ1 q9 hq9) hF (fun v4 σ3 hF => ?_)
    refine x_if_eq C 28 dX12_behindSum_20 (by decide) hF (fun hF => ?_) (fun hF => ?_)
    · refine x_aload_n C 0 0 dX12_behindSum_28 rfl rfl ?_
      refine x_bipush C 42 dX12_behindSum_29 (by decide +kernel) ?_
      refine x_callVI C (wf := RW K ad rest) (As := [.int 42]) (rest := []) dX12_behindSum_31 ml_X12_248 rfl rfl (Nat.le_of_ble_eq_true rfl) 0 (RW_o K ad rest σ3) rfl ⟨Nat.le_of_ble_eq_true rfl, Nat.le_of_ble_eq_true rfl⟩ ⟨Nat.zero_le _, Nat.zero_le _⟩ (fun q9 hq9 => c_X12_isSign l D K ad rest 42 σ3 q9 hq9) hF (fun v6 σ5 hF => ?_)
      refine x_if_eq C 42 dX12_behindSum_34 (by decide) hF (fun hF => ?_) (fun hF => ?_)
      · refine x_aload_n C 0 0 dX12_behindSum_42 rfl rfl ?_
        refine x_bipush C 47 dX12_behindSum_43 (by decide +kernel) ?_
        refine x_callVI C (wf := RW K ad rest) (As := [.int 47]) (rest := []) dX12_behindSum_45 ml_X12_248 rfl rfl (Nat.le_of_ble_eq_true rfl) 0 (RW_o K ad rest σ5) rfl ⟨Nat.le_of_ble_eq_true rfl, Nat.le_of_ble_eq_true rfl⟩ ⟨Nat.zero_le _, Nat.zero_le _⟩ (fun q9 hq9 => c_X12_isSign l D K ad rest 47 σ5 q9 hq9) hF (fun v8 σ7 hF => ?_)
        refine x_if_eq C 56 dX12_behindSum_48 (by decide) hF (fun hF => ?_) (fun hF => ?_)
        · refine x_iconst C (-1) dX12_behindSum_56 (by decide +kernel) ?_
          exact x_X12_behindSum_57 C z a1 ((-1)) σ7 hF
        · refine x_bipush C 23 dX12_behindSum_51 (by decide +kernel) ?_
          refine x_goto C 57 dX12_behindSum_53 (by decide) ?_
          exact x_X12_behindSum_57 C z a1 23 σ7 hF
      · refine x_bipush C 22 dX12_behindSum_37 (by decide +kernel) ?_
        refine x_goto C 57 dX12_behindSum_39 (by decide) ?_
        exact x_X12_behindSum_57 C z a1 22 σ5 hF
    · refine x_bipush C 21 dX12_behindSum_23 (by decide +kernel) ?_
      refine x_goto C 57 dX12_behindSum_25 (by decide) ?_
      exact x_X12_behindSum_57 C z a1 21 σ3 hF
  · refine x_bipush C 20 dX12_behindSum_9 (by decide +kernel) ?_
    refine x_goto C 57 dX12_behindSum_11 (by decide) ?_
    exact x_X12_behindSum_57 C z a1 20 σ1 hF
theorem dX12_behindTest_0 : decode cX12_behindTest 0 = .ok (.aload_n 0, 1) := by decide +kernel
theorem dX12_behindTest_1 : decode cX12_behindTest 1 = .ok (.ldc2_w 279, 3) := by decide +kernel
theorem dX12_behindTest_4 : decode cX12_behindTest 4 = .ok (.invokevirtual 235, 3) := by decide +kernel
theorem dX12_behindTest_7 : decode cX12_behindTest 7 = .ok (.istore_n 1, 1) := by decide +kernel
theorem dX12_behindTest_8 : decode cX12_behindTest 8 = .ok (.iload_n 1, 1) := by decide +kernel
theorem dX12_behindTest_9 : decode cX12_behindTest 9 = .ok (.ifCond .ne 13, 3) := by decide +kernel
theorem dX12_behindTest_12 : decode cX12_behindTest 12 = .ok (.aload_n 0, 1) := by decide +kernel
theorem dX12_behindTest_13 : decode cX12_behindTest 13 = .ok (.ldc2_w 281, 3) := by decide +kernel
theorem dX12_behindTest_16 : decode cX12_behindTest 16 = .ok (.invokevirtual 235, 3) := by decide +kernel
theorem dX12_behindTest_19 : decode cX12_behindTest 19 = .ok (.ifCond .eq 57, 3) := by decide +kernel
theorem dX12_behindTest_22 : decode cX12_behindTest 22 = .ok (.aload_n 0, 1) := by decide +kernel
theorem dX12_behindTest_23 : decode cX12_behindTest 23 = .ok (.iload_n 1, 1) := by decide +kernel
theorem dX12_behindTest_24 : decode cX12_behindTest 24 = .ok (.ifCond .eq 7, 3) := by decide +kernel
theorem dX12_behindTest_27 : decode cX12_behindTest 27 = .ok (.iconst 2, 1) := by decide +kernel
theorem dX12_behindTest_28 : decode cX12_behindTest 28 = .ok (.goto 4, 3) := by decide +kernel
theorem dX12_behindTest_31 : decode cX12_behindTest 31 = .ok (.iconst 1, 1) := by decide +kernel
theorem dX12_behindTest_32 : decode cX12_behindTest 32 = .ok (.invokevirtual 269, 3) := by decide +kernel
theorem dX12_behindTest_35 : decode cX12_behindTest 35 = .ok (.aload_n 0, 1) := by decide +kernel
theorem dX12_behindTest_36 : decode cX12_behindTest 36 = .ok (.iload_n 1, 1) := by decide +kernel
theorem dX12_behindTest_37 : decode cX12_behindTest 37 = .ok (.ifCond .eq 8, 3) := by decide +kernel
theorem dX12_behindTest_40 : decode cX12_behindTest 40 = .ok (.bipush 28, 2) := by decide +kernel
theorem dX12_behindTest_42 : decode cX12_behindTest 42 = .ok (.goto 5, 3) := by decide +kernel
theorem dX12_behindTest_45 : decode cX12_behindTest 45 = .ok (.bipush 29, 2) := by decide +kernel
theorem dX12_behindTest_47 : decode cX12_behindTest 47 = .ok (.aload_n 0, 1) := by decide +kernel
theorem dX12_behindTest_48 : decode cX12_behindTest 48 = .ok (.getfield 214, 3) := by decide +kernel
theorem dX12_behindTest_51 : decode cX12_behindTest 51 = .ok (.invokevirtual 242, 3) := by decide +kernel
theorem dX12_behindTest_54 : decode cX12_behindTest 54 = .ok (.aload_n 0, 1) := by decide +kernel
theorem dX12_behindTest_55 : decode cX12_behindTest 55 = .ok (.iload_n 1, 1) := by decide +kernel
theorem dX12_behindTest_56 : decode cX12_behindTest 56 = .ok (.ifCond .eq 8, 3) := by decide +kernel
theorem dX12_behindTest_59 : decode cX12_behindTest 59 = .ok (.bipush 28, 2) := by decide +kernel
theorem dX12_behindTest_61 : decode cX12_behindTest 61 = .ok (.goto 5, 3) := by decide +kernel
theorem dX12_behindTest_64 : decode cX12_behindTest 64 = .ok (.bipush 29, 2) := by decide +kernel
theorem dX12_behindTest_66 : decode cX12_behindTest 66 = .ok (.iconst 0, 1) := by decide +kernel
theorem dX12_behindTest_67 : decode cX12_behindTest 67 = .ok (.invokevirtual 223, 3) := by decide +kernel
theorem dX12_behindTest_70 : decode cX12_behindTest 70 = .ok (.aload_n 0, 1) := by decide +kernel
theorem dX12_behindTest_71 : decode cX12_behindTest 71 = .ok (.invokevirtual 179, 3) := by decide +kernel
theorem dX12_behindTest_74 : decode cX12_behindTest 74 = .ok (.iconst 0, 1) := by decide +kernel
theorem dX12_behindTest_75 : decode cX12_behindTest 75 = .ok (.ireturn, 1) := by decide +kernel
theorem dX12_behindTest_76 : decode cX12_behindTest 76 = .ok (.aload_n 0, 1) := by decide +kernel
theorem dX12_behindTest_77 : decode cX12_behindTest 77 = .ok (.invokevirtual 272, 3) := by decide +kernel
theorem dX12_behindTest_80 : decode cX12_behindTest 80 = .ok (.iconst (-1), 1) := by decide +kernel
theorem dX12_behindTest_81 : decode cX12_behindTest 81 = .ok (.if_icmp .ne 5, 3) := by decide +kernel
theorem dX12_behindTest_84 : decode cX12_behindTest 84 = .ok (.iconst 4, 1) := by decide +kernel
theorem dX12_behindTest_85 : decode cX12_behindTest 85 = .ok (.ireturn, 1) := by decide +kernel
theorem dX12_behindTest_86 : decode cX12_behindTest 86 = .ok (.aload_n 0, 1) := by decide +kernel
theorem dX12_behindTest_87 : decode cX12_behindTest 87 = .ok (.aload_n 0, 1) := by decide +kernel
theorem dX12_behindTest_88 : decode cX12_behindTest 88 = .ok (.bipush 41, 2) := by decide +kernel
theorem dX12_behindTest_90 : decode cX12_behindTest 90 = .ok (.invokevirtual 248, 3) := by decide +kernel
theorem dX12_behindTest_93 : decode cX12_behindTest 93 = .ok (.invokevirtual 210, 3) := by decide +kernel
theorem dX12_behindTest_96 : decode cX12_behindTest 96 = .ok (.aload_n 0, 1) := by decide +kernel
theorem dX12_behindTest_97 : decode cX12_behindTest 97 = .ok (.getfield 175, 3) := by decide +kernel
theorem dX12_behindTest_100 : decode cX12_behindTest 100 = .ok (.ifCond .ne 28, 3) := by decide +kernel
theorem dX12_behindTest_103 : decode cX12_behindTest 103 = .ok (.aload_n 0, 1) := by decide +kernel
theorem dX12_behindTest_104 : decode cX12_behindTest 104 = .ok (.iconst 1, 1) := by decide +kernel
theorem dX12_behindTest_105 : decode cX12_behindTest 105 = .ok (.invokevirtual 269, 3) := by decide +kernel
theorem dX12_behindTest_108 : decode cX12_behindTest 108 = .ok (.aload_n 0, 1) := by decide +kernel
theorem dX12_behindTest_109 : decode cX12_behindTest 109 = .ok (.dup, 1) := by decide +kernel
theorem dX12_behindTest_110 : decode cX12_behindTest 110 = .ok (.getfield 217, 3) := by decide +kernel
theorem dX12_behindTest_113 : decode cX12_behindTest 113 = .ok (.iconst 1, 1) := by decide +kernel
theorem dX12_behindTest_114 : decode cX12_behindTest 114 = .ok (.isub, 1) := by decide +kernel
theorem dX12_behindTest_115 : decode cX12_behindTest 115 = .ok (.putfield 217, 3) := by decide +kernel
theorem dX12_behindTest_118 : decode cX12_behindTest 118 = .ok (.aload_n 0, 1) := by decide +kernel
theorem dX12_behindTest_119 : decode cX12_behindTest 119 = .ok (.dup, 1) := by decide +kernel
theorem dX12_behindTest_120 : decode cX12_behindTest 120 = .ok (.getfield 239, 3) := by decide +kernel
theorem dX12_behindTest_123 : decode cX12_behindTest 123 = .ok (.iconst 1, 1) := by decide +kernel
theorem dX12_behindTest_124 : decode cX12_behindTest 124 = .ok (.isub, 1) := by decide +kernel
theorem dX12_behindTest_125 : decode cX12_behindTest 125 = .ok (.putfield 239, 3) := by decide +kernel
theorem dX12_behindTest_128 : decode cX12_behindTest 128 = .ok (.iconst 2, 1) := by decide +kernel
theorem dX12_behindTest_129 : decode cX12_behindTest 129 = .ok (.ireturn, 1) := by decide +kernel
set_option maxHeartbeats 4000000 in
set_option maxRecDepth 100000 in
theorem x_X12_behindTest_66 {p : Program} {l : Launch} {e : Env} {s : State} {m : MethodId} {args : Array Value} {below : List Frame} {meth : Method} {c : Code} {D : va_G} {K : Nat → ClassId} {A : Nat → Prop} {ad : Nat → Nat} {rest : va_W} (C : xC p s m args meth c D K A RX12 cX12_behindTest 2 (some .int)) (z : Int32 × xS) : ∀ (t1 : Int32) (σ : xS), F_X12_behindTest_66  t1 σ = some z → X p l e (xR 3 61) s m args below meth c D A 2 (xQi below D K A args s z.1 (RW K ad rest z.2)) 0 0 66 [(0, .ref (ad 0))] [.int t1, .ref (ad 0)] (RW K ad rest σ) := by
  intro t1 σ hF
  unfold F_X12_behindTest_66 at hF
  refine x_iconst C 0 dX12_behindTest_66 (by decide +kernel) ?_
  refine x_callVV C (wf := RW K ad rest) (As := [.int t1, .int 0]) (rest := []) dX12_behindTest_67 ml_X12_223 rfl rfl (Nat.le_of_ble_eq_true rfl) 0 (RW_o K ad rest σ) rfl ⟨Nat.le_of_ble_eq_true rfl, Nat.le_of_ble_eq_true rfl⟩ ⟨Nat.zero_le _, Nat.zero_le _⟩ (fun q9 hq9 => c_X12_emit l D K ad rest t1 0 σ q9 hq9) hF (fun _ σ15 hF => ?_)
  refine x_aload_n C 0 0 dX12_behindTest_70 rfl rfl ?_
  refine x_callVV C (wf := RW K ad rest) (As := []) (rest := []) dX12_behindTest_71 ml_X12_179 rfl rfl (Nat.le_of_ble_eq_true rfl) 0 (RW_o K ad rest σ15) rfl ⟨Nat.le_of_ble_eq_true rfl, Nat.le_of_ble_eq_true rfl⟩ ⟨Nat.zero_le _, Nat.zero_le _⟩ (fun q9 hq9 => c_X12_next l D K ad rest σ15 q9 hq9) hF (fun _ σ16 hF => ?_)
  refine x_iconst C 0 dX12_behindTest_74 (by decide +kernel) ?_
  exact x_iret C dX12_behindTest_75 rfl (congrArg Prod.fst (Option.some.inj hF)) (congrArg (fun q9 : Int32 × xS => RW K ad rest q9.2) (Option.some.inj hF))
set_option maxHeartbeats 4000000 in
set_option maxRecDepth 100000 in
theorem x_X12_behindTest_47 {p : Program} {l : Launch} {e : Env} {s : State} {m : MethodId} {args : Array Value} {below : List Frame} {meth : Method} {c : Code} {D : va_G} {K : Nat → ClassId} {A : Nat → Prop} {ad : Nat → Nat} {rest : va_W} (C : xC p s m args meth c D K A RX12 cX12_behindTest 2 (some .int)) (z : Int32 × xS) : ∀ (y1 : Int32) (t1 : Int32) (σ : xS), F_X12_behindTest_47  y1 t1 σ = some z → X p l e (xR 3 61) s m args below meth c D A 2 (xQi below D K A args s z.1 (RW K ad rest z.2)) 0 0 47 [(0, .ref (ad 0)), (1, .int y1)] [.int t1, .ref (ad 0)] (RW K ad rest σ) := by
  intro y1 t1 σ hF
  unfold F_X12_behindTest_47 at hF
  refine x_aload_n C 0 0 dX12_behindTest_47 rfl rfl ?_
  refine x_get C 0 dX12_behindTest_48 fl_X12_214 (RW_o K ad rest σ) rfl ?_
  refine x_callVV C (wf := RW K ad rest) (As := [.int t1, .int (sI σ 17)]) (rest := []) dX12_behindTest_51 ml_X12_242 rfl rfl (Nat.le_of_ble_eq_true rfl) 0 (RW_o K ad rest σ) rfl ⟨Nat.le_of_ble_eq_true rfl, Nat.le_of_ble_eq_true rfl⟩ ⟨Nat.zero_le _, Nat.zero_le _⟩ (fun q9 hq9 => c_X12_push l D K ad rest t1 (sI σ 17) σ q9 hq9) hF (fun _ σ14 hF => ?_)
  refine x_aload_n C 0 0 dX12_behindTest_54 rfl rfl ?_
  refine x_iload_n C 1 1 dX12_behindTest_55 rfl rfl ?_
  refine x_if_eq C 64 dX12_behindTest_56 (by decide) hF (fun hF => ?_) (fun hF => ?_)
  · refine x_bipush C 29 dX12_behindTest_64 (by decide +kernel) ?_
    refine x_loc [(0, .ref (ad 0))] [0] rfl ?_
    exact x_X12_behindTest_66 C z 29 σ14 hF
  · refine x_bipush C 28 dX12_behindTest_59 (by decide +kernel) ?_
    refine x_goto C 66 dX12_behindTest_61 (by decide) ?_
    refine x_loc [(0, .ref (ad 0))] [0] rfl ?_
    exact x_X12_behindTest_66 C z 28 σ14 hF
set_option maxHeartbeats 4000000 in
set_option maxRecDepth 100000 in
theorem x_X12_behindTest_32 {p : Program} {l : Launch} {e : Env} {s : State} {m : MethodId} {args : Array Value} {below : List Frame} {meth : Method} {c : Code} {D : va_G} {K : Nat → ClassId} {A : Nat → Prop} {ad : Nat → Nat} {rest : va_W} (C : xC p s m args meth c D K A RX12 cX12_behindTest 2 (some .int)) (z : Int32 × xS) : ∀ (y1 : Int32) (t1 : Int32) (σ : xS), F_X12_behindTest_32  y1 t1 σ = some z → X p l e (xR 3 61) s m args below meth c D A 2 (xQi below D K A args s z.1 (RW K ad rest z.2)) 0 0 32 [(0, .ref (ad 0)), (1, .int y1)] [.int t1, .ref (ad 0)] (RW K ad rest σ) := by
  intro y1 t1 σ hF
  unfold F_X12_behindTest_32 at hF
  refine x_callVV C (wf := RW K ad rest) (As := [.int t1]) (rest := []) dX12_behindTest_32 ml_X12_269 rfl rfl (Nat.le_of_ble_eq_true rfl) 0 (RW_o K ad rest σ) rfl ⟨Nat.le_of_ble_eq_true rfl, Nat.le_of_ble_eq_true rfl⟩ ⟨Nat.zero_le _, Nat.zero_le _⟩ (fun q9 hq9 => c_X12_settle l D K ad rest t1 σ q9 hq9) hF (fun _ σ13 hF => ?_)
  refine x_aload_n C 0 0 dX12_behindTest_35 rfl rfl ?_
  refine x_iload_n C 1 1 dX12_behindTest_36 rfl rfl ?_
  refine x_if_eq C 45 dX12_behindTest_37 (by decide) hF (fun hF => ?_) (fun hF => ?_)
  · refine x_bipush C 29 dX12_behindTest_45 (by decide +kernel) ?_
    exact x_X12_behindTest_47 C z y1 29 σ13 hF
  · refine x_bipush C 28 dX12_behindTest_40 (by decide +kernel) ?_
    refine x_goto C 47 dX12_behindTest_42 (by decide) ?_
    exact x_X12_behindTest_47 C z y1 28 σ13 hF
set_option maxHeartbeats 4000000 in
set_option maxRecDepth 100000 in
theorem x_X12_behindTest_22 {p : Program} {l : Launch} {e : Env} {s : State} {m : MethodId} {args : Array Value} {below : List Frame} {meth : Method} {c : Code} {D : va_G} {K : Nat → ClassId} {A : Nat → Prop} {ad : Nat → Nat} {rest : va_W} (C : xC p s m args meth c D K A RX12 cX12_behindTest 2 (some .int)) (z : Int32 × xS) : ∀ (y1 : Int32) (σ : xS), F_X12_behindTest_22  y1 σ = some z → X p l e (xR 3 61) s m args below meth c D A 2 (xQi below D K A args s z.1 (RW K ad rest z.2)) 0 0 22 [(0, .ref (ad 0)), (1, .int y1)] [] (RW K ad rest σ) := by
  intro y1 σ hF
  unfold F_X12_behindTest_22 at hF
  refine x_aload_n C 0 0 dX12_behindTest_22 rfl rfl ?_
  refine x_iload_n C 1 1 dX12_behindTest_23 rfl rfl ?_
  refine x_if_eq C 31 dX12_behindTest_24 (by decide) hF (fun hF => ?_) (fun hF => ?_)
  · refine x_iconst C 1 dX12_behindTest_31 (by decide +kernel) ?_
    exact x_X12_behindTest_32 C z y1 1 σ hF
  · refine x_iconst C 2 dX12_behindTest_27 (by decide +kernel) ?_
    refine x_goto C 32 dX12_behindTest_28 (by decide) ?_
    exact x_X12_behindTest_32 C z y1 2 σ hF
set_option maxHeartbeats 4000000 in
set_option maxRecDepth 100000 in
theorem c_X12_behindTest (l : Launch) (D : va_G) (K : Nat → ClassId) (ad : Nat → Nat) (rest : va_W)  (σ : xS) (z : Int32 × xS) (hF : F_X12_behindTest σ = some z) : CI l D K yX12_behindTest cX12_behindTest 2 (some .int) 3 61 [.ref (ad 0)] (RW K ad rest σ) z.1 (RW K ad rest z.2) := by
  refine x_enterI [(0, .ref (ad 0))] pnX12 (Nat.le_of_ble_eq_true rfl) rfl ?_
  intro p e s m args below meth c A C
  unfold F_X12_behindTest at hF
  refine x_aload_n C 0 0 dX12_behindTest_0 rfl rfl ?_
  refine x_ldc2 C 1476 dX12_behindTest_1 cl_X12_279 ?_
  refine x_callVI C (wf := RW K ad rest) (As := [.long 1476]) (rest := []) dX12_behindTest_4 ml_X12_235 rfl rfl (Nat.le_of_ble_eq_true rfl) 0 (RW_o K ad rest σ) rfl ⟨Nat.le_of_ble_eq_true rfl, Nat.le_of_ble_eq_true rfl⟩ ⟨Nat.zero_le _, Nat.zero_le _⟩ (fun q9 hq9 => c_X12_isWord l D K ad rest 1476 σ q9 hq9) hF (fun v2 σ1 hF => ?_)
  refine x_istore_n C [(1, .int v2), (0, .ref (ad 0))] dX12_behindTest_7 rfl (by decide) rfl ?_
  refine x_iload_n C 0 1 dX12_behindTest_8 rfl rfl ?_
  refine x_if_ne C 22 dX12_behindTest_9 (by decide) hF (fun hF => ?_) (fun hF => ?_)
  · refine x_loc [(0, .ref (ad 0)), (1, .int v2)] [1, 0] rfl ?_
    exact x_X12_behindTest_22 C z v2 σ1 hF
  · refine x_aload_n C 1 0 dX12_behindTest_12 rfl rfl ?_
    refine x_ldc2 C 498 dX12_behindTest_13 cl_X12_281 ?_
    refine x_callVI C (wf := RW K ad rest) (As := [.long 498]) (rest := []) dX12_behindTest_16 ml_X12_235 rfl rfl (Nat.le_of_ble_eq_true rfl) 0 (RW_o K ad rest σ1) rfl ⟨Nat.le_of_ble_eq_true rfl, Nat.le_of_ble_eq_true rfl⟩ ⟨Nat.zero_le _, Nat.zero_le _⟩ (fun q9 hq9 => c_X12_isWord l D K ad rest 498 σ1 q9 hq9) hF (fun v4 σ3 hF => ?_)
    refine x_if_eq C 76 dX12_behindTest_19 (by decide) hF (fun hF => ?_) (fun hF => ?_)
    · refine x_aload_n C 1 0 dX12_behindTest_76 rfl rfl ?_
      refine x_callVI C (wf := RW K ad rest) (As := []) (rest := []) dX12_behindTest_77 ml_X12_272 rfl rfl (Nat.le_of_ble_eq_true rfl) 0 (RW_o K ad rest σ3) rfl ⟨Nat.le_of_ble_eq_true rfl, Nat.le_of_ble_eq_true rfl⟩ ⟨Nat.zero_le _, Nat.zero_le _⟩ (fun q9 hq9 => c_X12_inner l D K ad rest σ3 q9 hq9) hF (fun v6 σ5 hF => ?_)
      refine x_iconst C (-1) dX12_behindTest_80 (by decide +kernel) ?_
      refine x_icmp_ne C 86 dX12_behindTest_81 (by decide) hF (fun hF => ?_) (fun hF => ?_)
      · refine x_aload_n C 1 0 dX12_behindTest_86 rfl rfl ?_
        refine x_aload_n C 1 0 dX12_behindTest_87 rfl rfl ?_
        refine x_bipush C 41 dX12_behindTest_88 (by decide +kernel) ?_
        refine x_callVI C (wf := RW K ad rest) (As := [.int 41]) (rest := [.ref (ad 0)]) dX12_behindTest_90 ml_X12_248 rfl rfl (Nat.le_of_ble_eq_true rfl) 0 (RW_o K ad rest σ5) rfl ⟨Nat.le_of_ble_eq_true rfl, Nat.le_of_ble_eq_true rfl⟩ ⟨Nat.zero_le _, Nat.zero_le _⟩ (fun q9 hq9 => c_X12_isSign l D K ad rest 41 σ5 q9 hq9) hF (fun v8 σ7 hF => ?_)
        refine x_callVV C (wf := RW K ad rest) (As := [.int v8]) (rest := []) dX12_behindTest_93 ml_X12_210 rfl rfl (Nat.le_of_ble_eq_true rfl) 0 (RW_o K ad rest σ7) rfl ⟨Nat.le_of_ble_eq_true rfl, Nat.le_of_ble_eq_true rfl⟩ ⟨Nat.zero_le _, Nat.zero_le _⟩ (fun q9 hq9 => c_X12_must l D K ad rest v8 σ7 q9 hq9) hF (fun _ σ9 hF => ?_)
        refine x_aload_n C 1 0 dX12_behindTest_96 rfl rfl ?_
        refine x_get C 0 dX12_behindTest_97 fl_X12_175 (RW_o K ad rest σ9) rfl ?_
        refine x_if_ne C 128 dX12_behindTest_100 (by decide) hF (fun hF => ?_) (fun hF => ?_)
        · refine x_iconst C 2 dX12_behindTest_128 (by decide +kernel) ?_
          exact x_iret C dX12_behindTest_129 rfl (congrArg Prod.fst (Option.some.inj hF)) (congrArg (fun q9 : Int32 × xS => RW K ad rest q9.2) (Option.some.inj hF))
        · refine x_aload_n C 1 0 dX12_behindTest_103 rfl rfl ?_
          refine x_iconst C 1 dX12_behindTest_104 (by decide +kernel) ?_
          refine x_callVV C (wf := RW K ad rest) (As := [.int 1]) (rest := []) dX12_behindTest_105 ml_X12_269 rfl rfl (Nat.le_of_ble_eq_true rfl) 0 (RW_o K ad rest σ9) rfl ⟨Nat.le_of_ble_eq_true rfl, Nat.le_of_ble_eq_true rfl⟩ ⟨Nat.zero_le _, Nat.zero_le _⟩ (fun q9 hq9 => c_X12_settle l D K ad rest 1 σ9 q9 hq9) hF (fun _ σ10 hF => ?_)
          refine x_aload_n C 1 0 dX12_behindTest_108 rfl rfl ?_
          refine x_dup C rfl dX12_behindTest_109 ?_
          refine x_get C 0 dX12_behindTest_110 fl_X12_217 (RW_o K ad rest σ10) rfl ?_
          refine x_iconst C 1 dX12_behindTest_113 (by decide +kernel) ?_
          refine x_isub C dX12_behindTest_114 ?_
          refine x_put C 0 dX12_behindTest_115 fl_X12_217 fm_X12_23 rfl rfl (RW_o K ad rest σ10) (Nat.le_of_ble_eq_true rfl) (RW_s23 K ad rest σ10 _) ?_
          refine x_st (wf := RW K ad rest) hF (fun σ11 hF => ?_)
          refine x_aload_n C 1 0 dX12_behindTest_118 rfl rfl ?_
          refine x_dup C rfl dX12_behindTest_119 ?_
          refine x_get C 0 dX12_behindTest_120 fl_X12_239 (RW_o K ad rest σ11) rfl ?_
          refine x_iconst C 1 dX12_behindTest_123 (by decide +kernel) ?_
          refine x_isub C dX12_behindTest_124 ?_
          refine x_put C 0 dX12_behindTest_125 fl_X12_239 fm_X12_24 rfl rfl (RW_o K ad rest σ11) (Nat.le_of_ble_eq_true rfl) (RW_s24 K ad rest σ11 _) ?_
          refine x_st (wf := RW K ad rest) hF (fun σ12 hF => ?_)
          refine x_iconst C 2 dX12_behindTest_128 (by decide +kernel) ?_
          exact x_iret C dX12_behindTest_129 rfl (congrArg Prod.fst (Option.some.inj hF)) (congrArg (fun q9 : Int32 × xS => RW K ad rest q9.2) (Option.some.inj hF))
      · refine x_iconst C 4 dX12_behindTest_84 (by decide +kernel) ?_
        exact x_iret C dX12_behindTest_85 rfl (congrArg Prod.fst (Option.some.inj hF)) (congrArg (fun q9 : Int32 × xS => RW K ad rest q9.2) (Option.some.inj hF))
    · refine x_loc [(0, .ref (ad 0)), (1, .int v2)] [1, 0] rfl ?_
      exact x_X12_behindTest_22 C z v2 σ3 hF
theorem dX12_readExpression_0 : decode cX12_readExpression 0 = .ok (.aload_n 0, 1) := by decide +kernel
theorem dX12_readExpression_1 : decode cX12_readExpression 1 = .ok (.iconst 0, 1) := by decide +kernel
theorem dX12_readExpression_2 : decode cX12_readExpression 2 = .ok (.putfield 217, 3) := by decide +kernel
theorem dX12_readExpression_5 : decode cX12_readExpression 5 = .ok (.aload_n 0, 1) := by decide +kernel
theorem dX12_readExpression_6 : decode cX12_readExpression 6 = .ok (.iconst 0, 1) := by decide +kernel
theorem dX12_readExpression_7 : decode cX12_readExpression 7 = .ok (.putfield 239, 3) := by decide +kernel
theorem dX12_readExpression_10 : decode cX12_readExpression 10 = .ok (.iload_n 1, 1) := by decide +kernel
theorem dX12_readExpression_11 : decode cX12_readExpression 11 = .ok (.ifCond .eq 7, 3) := by decide +kernel
theorem dX12_readExpression_14 : decode cX12_readExpression 14 = .ok (.iconst 0, 1) := by decide +kernel
theorem dX12_readExpression_15 : decode cX12_readExpression 15 = .ok (.goto 4, 3) := by decide +kernel
theorem dX12_readExpression_18 : decode cX12_readExpression 18 = .ok (.iconst 1, 1) := by decide +kernel
theorem dX12_readExpression_19 : decode cX12_readExpression 19 = .ok (.istore_n 2, 1) := by decide +kernel
theorem dX12_readExpression_20 : decode cX12_readExpression 20 = .ok (.aload_n 0, 1) := by decide +kernel
theorem dX12_readExpression_21 : decode cX12_readExpression 21 = .ok (.getfield 175, 3) := by decide +kernel
theorem dX12_readExpression_24 : decode cX12_readExpression 24 = .ok (.ifCond .ne 52, 3) := by decide +kernel
theorem dX12_readExpression_27 : decode cX12_readExpression 27 = .ok (.iload_n 2, 1) := by decide +kernel
theorem dX12_readExpression_28 : decode cX12_readExpression 28 = .ok (.iconst 4, 1) := by decide +kernel
theorem dX12_readExpression_29 : decode cX12_readExpression 29 = .ok (.if_icmp .eq 47, 3) := by decide +kernel
theorem dX12_readExpression_32 : decode cX12_readExpression 32 = .ok (.iload_n 2, 1) := by decide +kernel
theorem dX12_readExpression_33 : decode cX12_readExpression 33 = .ok (.ifCond .ne 10, 3) := by decide +kernel
theorem dX12_readExpression_36 : decode cX12_readExpression 36 = .ok (.aload_n 0, 1) := by decide +kernel
theorem dX12_readExpression_37 : decode cX12_readExpression 37 = .ok (.invokevirtual 283, 3) := by decide +kernel
theorem dX12_readExpression_40 : decode cX12_readExpression 40 = .ok (.goto 32, 3) := by decide +kernel
theorem dX12_readExpression_43 : decode cX12_readExpression 43 = .ok (.iload_n 2, 1) := by decide +kernel
theorem dX12_readExpression_44 : decode cX12_readExpression 44 = .ok (.iconst 1, 1) := by decide +kernel
theorem dX12_readExpression_45 : decode cX12_readExpression 45 = .ok (.if_icmp .ne 10, 3) := by decide +kernel
theorem dX12_readExpression_48 : decode cX12_readExpression 48 = .ok (.aload_n 0, 1) := by decide +kernel
theorem dX12_readExpression_49 : decode cX12_readExpression 49 = .ok (.invokevirtual 266, 3) := by decide +kernel
theorem dX12_readExpression_52 : decode cX12_readExpression 52 = .ok (.goto 20, 3) := by decide +kernel
theorem dX12_readExpression_55 : decode cX12_readExpression 55 = .ok (.iload_n 2, 1) := by decide +kernel
theorem dX12_readExpression_56 : decode cX12_readExpression 56 = .ok (.iconst 3, 1) := by decide +kernel
theorem dX12_readExpression_57 : decode cX12_readExpression 57 = .ok (.if_icmp .ne 11, 3) := by decide +kernel
theorem dX12_readExpression_60 : decode cX12_readExpression 60 = .ok (.aload_n 0, 1) := by decide +kernel
theorem dX12_readExpression_61 : decode cX12_readExpression 61 = .ok (.iload_n 1, 1) := by decide +kernel
theorem dX12_readExpression_62 : decode cX12_readExpression 62 = .ok (.invokevirtual 286, 3) := by decide +kernel
theorem dX12_readExpression_65 : decode cX12_readExpression 65 = .ok (.goto 7, 3) := by decide +kernel
theorem dX12_readExpression_68 : decode cX12_readExpression 68 = .ok (.aload_n 0, 1) := by decide +kernel
theorem dX12_readExpression_69 : decode cX12_readExpression 69 = .ok (.invokevirtual 290, 3) := by decide +kernel
theorem dX12_readExpression_72 : decode cX12_readExpression 72 = .ok (.istore_n 2, 1) := by decide +kernel
theorem dX12_readExpression_73 : decode cX12_readExpression 73 = .ok (.goto (-53), 3) := by decide +kernel
theorem dX12_readExpression_76 : decode cX12_readExpression 76 = .ok (.aload_n 0, 1) := by decide +kernel
theorem dX12_readExpression_77 : decode cX12_readExpression 77 = .ok (.iconst 1, 1) := by decide +kernel
theorem dX12_readExpression_78 : decode cX12_readExpression 78 = .ok (.invokevirtual 269, 3) := by decide +kernel
theorem dX12_readExpression_81 : decode cX12_readExpression 81 = .ok (.return_, 1) := by decide +kernel
set_option maxHeartbeats 4000000 in
set_option maxRecDepth 100000 in
theorem x_X12_readExpression_76 {p : Program} {l : Launch} {e : Env} {s : State} {m : MethodId} {args : Array Value} {below : List Frame} {meth : Method} {c : Code} {D : va_G} {K : Nat → ClassId} {A : Nat → Prop} {ad : Nat → Nat} {rest : va_W} (C : xC p s m args meth c D K A RX12 cX12_readExpression 3 none) (z : Unit × xS) : ∀  (σ : xS), F_X12_readExpression_76  σ = some z → X p l e (xR 6 126) s m args below meth c D A 3 (xQv below D K A args s (RW K ad rest z.2)) 0 0 76 [(0, .ref (ad 0))] [] (RW K ad rest σ) := by
  intro σ hF
  unfold F_X12_readExpression_76 at hF
  refine x_aload_n C 0 0 dX12_readExpression_76 rfl rfl ?_
  refine x_iconst C 1 dX12_readExpression_77 (by decide +kernel) ?_
  refine x_callVV C (wf := RW K ad rest) (As := [.int 1]) (rest := []) dX12_readExpression_78 ml_X12_269 rfl rfl (Nat.le_of_ble_eq_true rfl) 0 (RW_o K ad rest σ) rfl ⟨Nat.le_of_ble_eq_true rfl, Nat.le_of_ble_eq_true rfl⟩ ⟨Nat.zero_le _, Nat.zero_le _⟩ (fun q9 hq9 => c_X12_settle l D K ad rest 1 σ q9 hq9) hF (fun _ σ13 hF => ?_)
  exact x_vret C dX12_readExpression_81 rfl (congrArg (fun q9 : Unit × xS => RW K ad rest q9.2) (Option.some.inj hF))
set_option maxHeartbeats 4000000 in
set_option maxRecDepth 100000 in
theorem x_X12_readExpression_20 {p : Program} {l : Launch} {e : Env} {s : State} {m : MethodId} {args : Array Value} {below : List Frame} {meth : Method} {c : Code} {D : va_G} {K : Nat → ClassId} {A : Nat → Prop} {ad : Nat → Nat} {rest : va_W} (C : xC p s m args meth c D K A RX12 cX12_readExpression 3 none) (z : Unit × xS) : ∀ (n : Nat) (y1 : Int32) (y2 : Int32) (σ : xS), F_X12_readExpression_20  n y1 y2 σ = some z → X p l e (xR 6 126) s m args below meth c D A 3 (xQv below D K A args s (RW K ad rest z.2)) 0 0 20 [(0, .ref (ad 0)), (1, .int y1), (2, .int y2)] [] (RW K ad rest σ) := by
  intro n
  induction n with
  | zero =>
    intro y1 y2 σ hF
    cases hF
  | succ n ih =>
    intro y1 y2 σ hF
    rw [F_X12_readExpression_20] at hF
    refine x_aload_n C 0 0 dX12_readExpression_20 rfl rfl ?_
    refine x_get C 0 dX12_readExpression_21 fl_X12_175 (RW_o K ad rest σ) rfl ?_
    refine x_if_ne C 76 dX12_readExpression_24 (by decide) hF (fun hF => ?_) (fun hF => ?_)
    · refine x_loc [(0, .ref (ad 0))] [0] rfl ?_
      exact x_X12_readExpression_76 C z σ hF
    · refine x_iload_n C 2 2 dX12_readExpression_27 rfl rfl ?_
      refine x_iconst C 4 dX12_readExpression_28 (by decide +kernel) ?_
      refine x_icmp_eq C 76 dX12_readExpression_29 (by decide) hF (fun hF => ?_) (fun hF => ?_)
      · refine x_loc [(0, .ref (ad 0))] [0] rfl ?_
        exact x_X12_readExpression_76 C z σ hF
      · refine x_iload_n C 2 2 dX12_readExpression_32 rfl rfl ?_
        refine x_if_ne C 43 dX12_readExpression_33 (by decide) hF (fun hF => ?_) (fun hF => ?_)
        · refine x_iload_n C 2 2 dX12_readExpression_43 rfl rfl ?_
          refine x_iconst C 1 dX12_readExpression_44 (by decide +kernel) ?_
          refine x_icmp_ne C 55 dX12_readExpression_45 (by decide) hF (fun hF => ?_) (fun hF => ?_)
          · refine x_iload_n C 2 2 dX12_readExpression_55 rfl rfl ?_
            refine x_iconst C 3 dX12_readExpression_56 (by decide +kernel) ?_
            refine x_icmp_ne C 68 dX12_readExpression_57 (by decide) hF (fun hF => ?_) (fun hF => ?_)
            · refine x_aload_n C 0 0 dX12_readExpression_68 rfl rfl ?_
              refine x_callVI C (wf := RW K ad rest) (As := []) (rest := []) dX12_readExpression_69 ml_X12_290 rfl rfl (Nat.le_of_ble_eq_true rfl) 0 (RW_o K ad rest σ) rfl ⟨Nat.le_of_ble_eq_true rfl, Nat.le_of_ble_eq_true rfl⟩ ⟨Nat.zero_le _, Nat.zero_le _⟩ (fun q9 hq9 => c_X12_behindTest l D K ad rest σ q9 hq9) hF (fun v6 σ5 hF => ?_)
              refine x_istore_n C [(2, .int v6), (0, .ref (ad 0)), (1, .int y1)] dX12_readExpression_72 rfl (by decide) rfl ?_
              refine x_goto C 20 dX12_readExpression_73 (by decide) ?_
              refine x_loc [(0, .ref (ad 0)), (1, .int y1), (2, .int v6)] [1, 2, 0] rfl ?_
              exact ih y1 v6 σ5 hF
            · refine x_aload_n C 0 0 dX12_readExpression_60 rfl rfl ?_
              refine x_iload_n C 1 1 dX12_readExpression_61 rfl rfl ?_
              refine x_callVI C (wf := RW K ad rest) (As := [.int y1]) (rest := []) dX12_readExpression_62 ml_X12_286 rfl rfl (Nat.le_of_ble_eq_true rfl) 0 (RW_o K ad rest σ) rfl ⟨Nat.le_of_ble_eq_true rfl, Nat.le_of_ble_eq_true rfl⟩ ⟨Nat.zero_le _, Nat.zero_le _⟩ (fun q9 hq9 => c_X12_behindSum l D K ad rest y1 σ q9 hq9) hF (fun v8 σ7 hF => ?_)
              refine x_goto C 72 dX12_readExpression_65 (by decide) ?_
              refine x_istore_n C [(2, .int v8), (0, .ref (ad 0)), (1, .int y1)] dX12_readExpression_72 rfl (by decide) rfl ?_
              refine x_goto C 20 dX12_readExpression_73 (by decide) ?_
              refine x_loc [(0, .ref (ad 0)), (1, .int y1), (2, .int v8)] [1, 2, 0] rfl ?_
              exact ih y1 v8 σ7 hF
          · refine x_aload_n C 0 0 dX12_readExpression_48 rfl rfl ?_
            refine x_callVI C (wf := RW K ad rest) (As := []) (rest := []) dX12_readExpression_49 ml_X12_266 rfl rfl (Nat.le_of_ble_eq_true rfl) 0 (RW_o K ad rest σ) rfl ⟨Nat.le_of_ble_eq_true rfl, Nat.le_of_ble_eq_true rfl⟩ ⟨Nat.zero_le _, Nat.zero_le _⟩ (fun q9 hq9 => c_X12_readPart l D K ad rest σ q9 hq9) hF (fun v10 σ9 hF => ?_)
            refine x_goto C 72 dX12_readExpression_52 (by decide) ?_
            refine x_istore_n C [(2, .int v10), (0, .ref (ad 0)), (1, .int y1)] dX12_readExpression_72 rfl (by decide) rfl ?_
            refine x_goto C 20 dX12_readExpression_73 (by decide) ?_
            refine x_loc [(0, .ref (ad 0)), (1, .int y1), (2, .int v10)] [1, 2, 0] rfl ?_
            exact ih y1 v10 σ9 hF
        · refine x_aload_n C 0 0 dX12_readExpression_36 rfl rfl ?_
          refine x_callVI C (wf := RW K ad rest) (As := []) (rest := []) dX12_readExpression_37 ml_X12_283 rfl rfl (Nat.le_of_ble_eq_true rfl) 0 (RW_o K ad rest σ) rfl ⟨Nat.le_of_ble_eq_true rfl, Nat.le_of_ble_eq_true rfl⟩ ⟨Nat.zero_le _, Nat.zero_le _⟩ (fun q9 hq9 => c_X12_readPlain l D K ad rest σ q9 hq9) hF (fun v12 σ11 hF => ?_)
          refine x_goto C 72 dX12_readExpression_40 (by decide) ?_
          refine x_istore_n C [(2, .int v12), (0, .ref (ad 0)), (1, .int y1)] dX12_readExpression_72 rfl (by decide) rfl ?_
          refine x_goto C 20 dX12_readExpression_73 (by decide) ?_
          refine x_loc [(0, .ref (ad 0)), (1, .int y1), (2, .int v12)] [1, 2, 0] rfl ?_
          exact ih y1 v12 σ11 hF
set_option maxHeartbeats 4000000 in
set_option maxRecDepth 100000 in
theorem c_X12_readExpression (l : Launch) (D : va_G) (K : Nat → ClassId) (ad : Nat → Nat) (rest : va_W) (a1 : Int32) (σ : xS) (z : Unit × xS) (hF : F_X12_readExpression a1 σ = some z) : CV l D K yX12_readExpression cX12_readExpression 3 none 6 126 [.ref (ad 0), .int a1] (RW K ad rest σ) (RW K ad rest z.2) := by
  refine x_enterV [(0, .ref (ad 0)), (1, .int a1)] pnX12 (Nat.le_of_ble_eq_true rfl) rfl ?_
  intro p e s m args below meth c A C
  unfold F_X12_readExpression at hF
  refine x_aload_n C 0 0 dX12_readExpression_0 rfl rfl ?_
  refine x_iconst C 0 dX12_readExpression_1 (by decide +kernel) ?_
  refine x_put C 0 dX12_readExpression_2 fl_X12_217 fm_X12_23 rfl rfl (RW_o K ad rest σ) (Nat.le_of_ble_eq_true rfl) (RW_s23 K ad rest σ _) ?_
  refine x_st (wf := RW K ad rest) hF (fun σ1 hF => ?_)
  refine x_aload_n C 0 0 dX12_readExpression_5 rfl rfl ?_
  refine x_iconst C 0 dX12_readExpression_6 (by decide +kernel) ?_
  refine x_put C 0 dX12_readExpression_7 fl_X12_239 fm_X12_24 rfl rfl (RW_o K ad rest σ1) (Nat.le_of_ble_eq_true rfl) (RW_s24 K ad rest σ1 _) ?_
  refine x_st (wf := RW K ad rest) hF (fun σ2 hF => ?_)
  refine x_iload_n C 1 1 dX12_readExpression_10 rfl rfl ?_
  refine x_if_eq C 18 dX12_readExpression_11 (by decide) hF (fun hF => ?_) (fun hF => ?_)
  · refine x_iconst C 1 dX12_readExpression_18 (by decide +kernel) ?_
    refine x_topI hF (fun x3 hF => ?_)
    refine x_istore_n C [(2, .int x3), (0, .ref (ad 0)), (1, .int a1)] dX12_readExpression_19 rfl (by decide) rfl ?_
    refine x_loc [(0, .ref (ad 0)), (1, .int a1), (2, .int x3)] [1, 2, 0] rfl ?_
    exact x_X12_readExpression_20 C z FU a1 x3 σ2 hF
  · refine x_iconst C 0 dX12_readExpression_14 (by decide +kernel) ?_
    refine x_goto C 19 dX12_readExpression_15 (by decide) ?_
    refine x_topI hF (fun x4 hF => ?_)
    refine x_istore_n C [(2, .int x4), (0, .ref (ad 0)), (1, .int a1)] dX12_readExpression_19 rfl (by decide) rfl ?_
    refine x_loc [(0, .ref (ad 0)), (1, .int a1), (2, .int x4)] [1, 2, 0] rfl ?_
    exact x_X12_readExpression_20 C z FU a1 x4 σ2 hF
theorem dX12_readClause_0 : decode cX12_readClause 0 = .ok (.iconst (-1), 1) := by decide +kernel
theorem dX12_readClause_1 : decode cX12_readClause 1 = .ok (.istore_n 1, 1) := by decide +kernel
theorem dX12_readClause_2 : decode cX12_readClause 2 = .ok (.iconst 0, 1) := by decide +kernel
theorem dX12_readClause_3 : decode cX12_readClause 3 = .ok (.istore_n 2, 1) := by decide +kernel
theorem dX12_readClause_4 : decode cX12_readClause 4 = .ok (.iload_n 2, 1) := by decide +kernel
theorem dX12_readClause_5 : decode cX12_readClause 5 = .ok (.iconst 4, 1) := by decide +kernel
theorem dX12_readClause_6 : decode cX12_readClause 6 = .ok (.if_icmp .ge 28, 3) := by decide +kernel
theorem dX12_readClause_9 : decode cX12_readClause 9 = .ok (.aload_n 0, 1) := by decide +kernel
theorem dX12_readClause_10 : decode cX12_readClause 10 = .ok (.aload_n 0, 1) := by decide +kernel
theorem dX12_readClause_11 : decode cX12_readClause 11 = .ok (.getfield 77, 3) := by decide +kernel
theorem dX12_readClause_14 : decode cX12_readClause 14 = .ok (.iload_n 2, 1) := by decide +kernel
theorem dX12_readClause_15 : decode cX12_readClause 15 = .ok (.laload, 1) := by decide +kernel
theorem dX12_readClause_16 : decode cX12_readClause 16 = .ok (.invokevirtual 235, 3) := by decide +kernel
theorem dX12_readClause_19 : decode cX12_readClause 19 = .ok (.ifCond .eq 7, 3) := by decide +kernel
theorem dX12_readClause_22 : decode cX12_readClause 22 = .ok (.iload_n 2, 1) := by decide +kernel
theorem dX12_readClause_23 : decode cX12_readClause 23 = .ok (.goto 4, 3) := by decide +kernel
theorem dX12_readClause_26 : decode cX12_readClause 26 = .ok (.iload_n 1, 1) := by decide +kernel
theorem dX12_readClause_27 : decode cX12_readClause 27 = .ok (.istore_n 1, 1) := by decide +kernel
theorem dX12_readClause_28 : decode cX12_readClause 28 = .ok (.iinc 2 1, 3) := by decide +kernel
theorem dX12_readClause_31 : decode cX12_readClause 31 = .ok (.goto (-27), 3) := by decide +kernel
theorem dX12_readClause_34 : decode cX12_readClause 34 = .ok (.aload_n 0, 1) := by decide +kernel
theorem dX12_readClause_35 : decode cX12_readClause 35 = .ok (.iload_n 1, 1) := by decide +kernel
theorem dX12_readClause_36 : decode cX12_readClause 36 = .ok (.iconst (-1), 1) := by decide +kernel
theorem dX12_readClause_37 : decode cX12_readClause 37 = .ok (.if_icmp .eq 16, 3) := by decide +kernel
theorem dX12_readClause_40 : decode cX12_readClause 40 = .ok (.aload_n 0, 1) := by decide +kernel
theorem dX12_readClause_41 : decode cX12_readClause 41 = .ok (.getfield 293, 3) := by decide +kernel
theorem dX12_readClause_44 : decode cX12_readClause 44 = .ok (.bipush 12, 2) := by decide +kernel
theorem dX12_readClause_46 : decode cX12_readClause 46 = .ok (.if_icmp .ge 7, 3) := by decide +kernel
theorem dX12_readClause_49 : decode cX12_readClause 49 = .ok (.iconst 1, 1) := by decide +kernel
theorem dX12_readClause_50 : decode cX12_readClause 50 = .ok (.goto 4, 3) := by decide +kernel
theorem dX12_readClause_53 : decode cX12_readClause 53 = .ok (.iconst 0, 1) := by decide +kernel
theorem dX12_readClause_54 : decode cX12_readClause 54 = .ok (.invokevirtual 210, 3) := by decide +kernel
theorem dX12_readClause_57 : decode cX12_readClause 57 = .ok (.aload_n 0, 1) := by decide +kernel
theorem dX12_readClause_58 : decode cX12_readClause 58 = .ok (.getfield 175, 3) := by decide +kernel
theorem dX12_readClause_61 : decode cX12_readClause 61 = .ok (.ifCond .eq 4, 3) := by decide +kernel
theorem dX12_readClause_64 : decode cX12_readClause 64 = .ok (.return_, 1) := by decide +kernel
theorem dX12_readClause_65 : decode cX12_readClause 65 = .ok (.bipush 8, 2) := by decide +kernel
theorem dX12_readClause_67 : decode cX12_readClause 67 = .ok (.aload_n 0, 1) := by decide +kernel
theorem dX12_readClause_68 : decode cX12_readClause 68 = .ok (.getfield 293, 3) := by decide +kernel
theorem dX12_readClause_71 : decode cX12_readClause 71 = .ok (.imul, 1) := by decide +kernel
theorem dX12_readClause_72 : decode cX12_readClause 72 = .ok (.istore_n 2, 1) := by decide +kernel
theorem dX12_readClause_73 : decode cX12_readClause 73 = .ok (.iconst 0, 1) := by decide +kernel
theorem dX12_readClause_74 : decode cX12_readClause 74 = .ok (.istore_n 3, 1) := by decide +kernel
theorem dX12_readClause_75 : decode cX12_readClause 75 = .ok (.iload_n 3, 1) := by decide +kernel
theorem dX12_readClause_76 : decode cX12_readClause 76 = .ok (.bipush 8, 2) := by decide +kernel
theorem dX12_readClause_78 : decode cX12_readClause 78 = .ok (.if_icmp .ge 18, 3) := by decide +kernel
theorem dX12_readClause_81 : decode cX12_readClause 81 = .ok (.aload_n 0, 1) := by decide +kernel
theorem dX12_readClause_82 : decode cX12_readClause 82 = .ok (.getfield 30, 3) := by decide +kernel
theorem dX12_readClause_85 : decode cX12_readClause 85 = .ok (.iload_n 2, 1) := by decide +kernel
theorem dX12_readClause_86 : decode cX12_readClause 86 = .ok (.iload_n 3, 1) := by decide +kernel
theorem dX12_readClause_87 : decode cX12_readClause 87 = .ok (.iadd, 1) := by decide +kernel
theorem dX12_readClause_88 : decode cX12_readClause 88 = .ok (.iconst 0, 1) := by decide +kernel
theorem dX12_readClause_89 : decode cX12_readClause 89 = .ok (.iastore, 1) := by decide +kernel
theorem dX12_readClause_90 : decode cX12_readClause 90 = .ok (.iinc 3 1, 3) := by decide +kernel
theorem dX12_readClause_93 : decode cX12_readClause 93 = .ok (.goto (-18), 3) := by decide +kernel
theorem dX12_readClause_96 : decode cX12_readClause 96 = .ok (.aload_n 0, 1) := by decide +kernel
theorem dX12_readClause_97 : decode cX12_readClause 97 = .ok (.getfield 30, 3) := by decide +kernel
theorem dX12_readClause_100 : decode cX12_readClause 100 = .ok (.iload_n 2, 1) := by decide +kernel
theorem dX12_readClause_101 : decode cX12_readClause 101 = .ok (.iload_n 1, 1) := by decide +kernel
theorem dX12_readClause_102 : decode cX12_readClause 102 = .ok (.iastore, 1) := by decide +kernel
theorem dX12_readClause_103 : decode cX12_readClause 103 = .ok (.aload_n 0, 1) := by decide +kernel
theorem dX12_readClause_104 : decode cX12_readClause 104 = .ok (.dup, 1) := by decide +kernel
theorem dX12_readClause_105 : decode cX12_readClause 105 = .ok (.getfield 293, 3) := by decide +kernel
theorem dX12_readClause_108 : decode cX12_readClause 108 = .ok (.iconst 1, 1) := by decide +kernel
theorem dX12_readClause_109 : decode cX12_readClause 109 = .ok (.iadd, 1) := by decide +kernel
theorem dX12_readClause_110 : decode cX12_readClause 110 = .ok (.putfield 293, 3) := by decide +kernel
theorem dX12_readClause_113 : decode cX12_readClause 113 = .ok (.aload_n 0, 1) := by decide +kernel
theorem dX12_readClause_114 : decode cX12_readClause 114 = .ok (.getfield 30, 3) := by decide +kernel
theorem dX12_readClause_117 : decode cX12_readClause 117 = .ok (.iload_n 2, 1) := by decide +kernel
theorem dX12_readClause_118 : decode cX12_readClause 118 = .ok (.iconst 3, 1) := by decide +kernel
theorem dX12_readClause_119 : decode cX12_readClause 119 = .ok (.iadd, 1) := by decide +kernel
theorem dX12_readClause_120 : decode cX12_readClause 120 = .ok (.aload_n 0, 1) := by decide +kernel
theorem dX12_readClause_121 : decode cX12_readClause 121 = .ok (.getfield 214, 3) := by decide +kernel
theorem dX12_readClause_124 : decode cX12_readClause 124 = .ok (.iastore, 1) := by decide +kernel
theorem dX12_readClause_125 : decode cX12_readClause 125 = .ok (.iload_n 1, 1) := by decide +kernel
theorem dX12_readClause_126 : decode cX12_readClause 126 = .ok (.iconst 3, 1) := by decide +kernel
theorem dX12_readClause_127 : decode cX12_readClause 127 = .ok (.if_icmp .ge 8, 3) := by decide +kernel
theorem dX12_readClause_130 : decode cX12_readClause 130 = .ok (.aload_n 0, 1) := by decide +kernel
theorem dX12_readClause_131 : decode cX12_readClause 131 = .ok (.iconst 0, 1) := by decide +kernel
theorem dX12_readClause_132 : decode cX12_readClause 132 = .ok (.invokevirtual 296, 3) := by decide +kernel
theorem dX12_readClause_135 : decode cX12_readClause 135 = .ok (.aload_n 0, 1) := by decide +kernel
theorem dX12_readClause_136 : decode cX12_readClause 136 = .ok (.getfield 30, 3) := by decide +kernel
theorem dX12_readClause_139 : decode cX12_readClause 139 = .ok (.iload_n 2, 1) := by decide +kernel
theorem dX12_readClause_140 : decode cX12_readClause 140 = .ok (.iconst 4, 1) := by decide +kernel
theorem dX12_readClause_141 : decode cX12_readClause 141 = .ok (.iadd, 1) := by decide +kernel
theorem dX12_readClause_142 : decode cX12_readClause 142 = .ok (.aload_n 0, 1) := by decide +kernel
theorem dX12_readClause_143 : decode cX12_readClause 143 = .ok (.getfield 214, 3) := by decide +kernel
theorem dX12_readClause_146 : decode cX12_readClause 146 = .ok (.iastore, 1) := by decide +kernel
theorem dX12_readClause_147 : decode cX12_readClause 147 = .ok (.aload_n 0, 1) := by decide +kernel
theorem dX12_readClause_148 : decode cX12_readClause 148 = .ok (.getfield 30, 3) := by decide +kernel
theorem dX12_readClause_151 : decode cX12_readClause 151 = .ok (.iload_n 2, 1) := by decide +kernel
theorem dX12_readClause_152 : decode cX12_readClause 152 = .ok (.iconst 5, 1) := by decide +kernel
theorem dX12_readClause_153 : decode cX12_readClause 153 = .ok (.iadd, 1) := by decide +kernel
theorem dX12_readClause_154 : decode cX12_readClause 154 = .ok (.aload_n 0, 1) := by decide +kernel
theorem dX12_readClause_155 : decode cX12_readClause 155 = .ok (.getfield 214, 3) := by decide +kernel
theorem dX12_readClause_158 : decode cX12_readClause 158 = .ok (.iastore, 1) := by decide +kernel
theorem dX12_readClause_159 : decode cX12_readClause 159 = .ok (.aload_n 0, 1) := by decide +kernel
theorem dX12_readClause_160 : decode cX12_readClause 160 = .ok (.getfield 175, 3) := by decide +kernel
theorem dX12_readClause_163 : decode cX12_readClause 163 = .ok (.ifCond .ne 22, 3) := by decide +kernel
theorem dX12_readClause_166 : decode cX12_readClause 166 = .ok (.aload_n 0, 1) := by decide +kernel
theorem dX12_readClause_167 : decode cX12_readClause 167 = .ok (.ldc2_w 299, 3) := by decide +kernel
theorem dX12_readClause_170 : decode cX12_readClause 170 = .ok (.invokevirtual 235, 3) := by decide +kernel
theorem dX12_readClause_173 : decode cX12_readClause 173 = .ok (.ifCond .eq 12, 3) := by decide +kernel
theorem dX12_readClause_176 : decode cX12_readClause 176 = .ok (.aload_n 0, 1) := by decide +kernel
theorem dX12_readClause_177 : decode cX12_readClause 177 = .ok (.invokevirtual 179, 3) := by decide +kernel
theorem dX12_readClause_180 : decode cX12_readClause 180 = .ok (.aload_n 0, 1) := by decide +kernel
theorem dX12_readClause_181 : decode cX12_readClause 181 = .ok (.iconst 1, 1) := by decide +kernel
theorem dX12_readClause_182 : decode cX12_readClause 182 = .ok (.invokevirtual 296, 3) := by decide +kernel
theorem dX12_readClause_185 : decode cX12_readClause 185 = .ok (.aload_n 0, 1) := by decide +kernel
theorem dX12_readClause_186 : decode cX12_readClause 186 = .ok (.getfield 30, 3) := by decide +kernel
theorem dX12_readClause_189 : decode cX12_readClause 189 = .ok (.iload_n 2, 1) := by decide +kernel
theorem dX12_readClause_190 : decode cX12_readClause 190 = .ok (.bipush 6, 2) := by decide +kernel
theorem dX12_readClause_192 : decode cX12_readClause 192 = .ok (.iadd, 1) := by decide +kernel
theorem dX12_readClause_193 : decode cX12_readClause 193 = .ok (.aload_n 0, 1) := by decide +kernel
theorem dX12_readClause_194 : decode cX12_readClause 194 = .ok (.getfield 214, 3) := by decide +kernel
theorem dX12_readClause_197 : decode cX12_readClause 197 = .ok (.iastore, 1) := by decide +kernel
theorem dX12_readClause_198 : decode cX12_readClause 198 = .ok (.return_, 1) := by decide +kernel
set_option maxHeartbeats 4000000 in
set_option maxRecDepth 100000 in
theorem x_X12_readClause_185 {p : Program} {l : Launch} {e : Env} {s : State} {m : MethodId} {args : Array Value} {below : List Frame} {meth : Method} {c : Code} {D : va_G} {K : Nat → ClassId} {A : Nat → Prop} {ad : Nat → Nat} {rest : va_W} (C : xC p s m args meth c D K A RX12 cX12_readClause 4 none) (z : Unit × xS) : ∀ (y2 : Int32) (σ : xS), F_X12_readClause_185  y2 σ = some z → X p l e (xR 7 148) s m args below meth c D A 4 (xQv below D K A args s (RW K ad rest z.2)) 0 0 185 [(0, .ref (ad 0)), (2, .int y2)] [] (RW K ad rest σ) := by
  intro y2 σ hF
  unfold F_X12_readClause_185 at hF
  refine x_aload_n C 0 0 dX12_readClause_185 rfl rfl ?_
  refine x_get C 0 dX12_readClause_186 fl_X12_30 (RW_o K ad rest σ) rfl ?_
  refine x_iload_n C 1 2 dX12_readClause_189 rfl rfl ?_
  refine x_bipush C 6 dX12_readClause_190 (by decide +kernel) ?_
  refine x_iadd C dX12_readClause_192 ?_
  refine x_aload_n C 0 0 dX12_readClause_193 rfl rfl ?_
  refine x_get C 0 dX12_readClause_194 fl_X12_214 (RW_o K ad rest σ) rfl ?_
  refine x_iast C 6 dX12_readClause_197 (RW_a16 K ad rest σ) hF (RW_s16 K ad rest σ _) (fun hF => ?_)
  refine x_st (wf := RW K ad rest) hF (fun σ23 hF => ?_)
  exact x_vret C dX12_readClause_198 rfl (congrArg (fun q9 : Unit × xS => RW K ad rest q9.2) (Option.some.inj hF))
set_option maxHeartbeats 4000000 in
set_option maxRecDepth 100000 in
theorem x_X12_readClause_135 {p : Program} {l : Launch} {e : Env} {s : State} {m : MethodId} {args : Array Value} {below : List Frame} {meth : Method} {c : Code} {D : va_G} {K : Nat → ClassId} {A : Nat → Prop} {ad : Nat → Nat} {rest : va_W} (C : xC p s m args meth c D K A RX12 cX12_readClause 4 none) (z : Unit × xS) : ∀ (y2 : Int32) (σ : xS), F_X12_readClause_135  y2 σ = some z → X p l e (xR 7 148) s m args below meth c D A 4 (xQv below D K A args s (RW K ad rest z.2)) 0 0 135 [(0, .ref (ad 0)), (2, .int y2)] [] (RW K ad rest σ) := by
  intro y2 σ hF
  unfold F_X12_readClause_135 at hF
  refine x_aload_n C 0 0 dX12_readClause_135 rfl rfl ?_
  refine x_get C 0 dX12_readClause_136 fl_X12_30 (RW_o K ad rest σ) rfl ?_
  refine x_iload_n C 1 2 dX12_readClause_139 rfl rfl ?_
  refine x_iconst C 4 dX12_readClause_140 (by decide +kernel) ?_
  refine x_iadd C dX12_readClause_141 ?_
  refine x_aload_n C 0 0 dX12_readClause_142 rfl rfl ?_
  refine x_get C 0 dX12_readClause_143 fl_X12_214 (RW_o K ad rest σ) rfl ?_
  refine x_iast C 6 dX12_readClause_146 (RW_a16 K ad rest σ) hF (RW_s16 K ad rest σ _) (fun hF => ?_)
  refine x_st (wf := RW K ad rest) hF (fun σ17 hF => ?_)
  refine x_aload_n C 0 0 dX12_readClause_147 rfl rfl ?_
  refine x_get C 0 dX12_readClause_148 fl_X12_30 (RW_o K ad rest σ17) rfl ?_
  refine x_iload_n C 1 2 dX12_readClause_151 rfl rfl ?_
  refine x_iconst C 5 dX12_readClause_152 (by decide +kernel) ?_
  refine x_iadd C dX12_readClause_153 ?_
  refine x_aload_n C 0 0 dX12_readClause_154 rfl rfl ?_
  refine x_get C 0 dX12_readClause_155 fl_X12_214 (RW_o K ad rest σ17) rfl ?_
  refine x_iast C 6 dX12_readClause_158 (RW_a16 K ad rest σ17) hF (RW_s16 K ad rest σ17 _) (fun hF => ?_)
  refine x_st (wf := RW K ad rest) hF (fun σ18 hF => ?_)
  refine x_aload_n C 0 0 dX12_readClause_159 rfl rfl ?_
  refine x_get C 0 dX12_readClause_160 fl_X12_175 (RW_o K ad rest σ18) rfl ?_
  refine x_if_ne C 185 dX12_readClause_163 (by decide) hF (fun hF => ?_) (fun hF => ?_)
  · exact x_X12_readClause_185 C z y2 σ18 hF
  · refine x_aload_n C 0 0 dX12_readClause_166 rfl rfl ?_
    refine x_ldc2 C 294 dX12_readClause_167 cl_X12_299 ?_
    refine x_callVI C (wf := RW K ad rest) (As := [.long 294]) (rest := []) dX12_readClause_170 ml_X12_235 rfl rfl (Nat.le_of_ble_eq_true rfl) 0 (RW_o K ad rest σ18) rfl ⟨Nat.le_of_ble_eq_true rfl, Nat.le_of_ble_eq_true rfl⟩ ⟨Nat.zero_le _, Nat.zero_le _⟩ (fun q9 hq9 => c_X12_isWord l D K ad rest 294 σ18 q9 hq9) hF (fun v20 σ19 hF => ?_)
    refine x_if_eq C 185 dX12_readClause_173 (by decide) hF (fun hF => ?_) (fun hF => ?_)
    · exact x_X12_readClause_185 C z y2 σ19 hF
    · refine x_aload_n C 0 0 dX12_readClause_176 rfl rfl ?_
      refine x_callVV C (wf := RW K ad rest) (As := []) (rest := []) dX12_readClause_177 ml_X12_179 rfl rfl (Nat.le_of_ble_eq_true rfl) 0 (RW_o K ad rest σ19) rfl ⟨Nat.le_of_ble_eq_true rfl, Nat.le_of_ble_eq_true rfl⟩ ⟨Nat.zero_le _, Nat.zero_le _⟩ (fun q9 hq9 => c_X12_next l D K ad rest σ19 q9 hq9) hF (fun _ σ21 hF => ?_)
      refine x_aload_n C 0 0 dX12_readClause_180 rfl rfl ?_
      refine x_iconst C 1 dX12_readClause_181 (by decide +kernel) ?_
      refine x_callVV C (wf := RW K ad rest) (As := [.int 1]) (rest := []) dX12_readClause_182 ml_X12_296 rfl rfl (Nat.le_of_ble_eq_true rfl) 0 (RW_o K ad rest σ21) rfl ⟨Nat.le_of_ble_eq_true rfl, Nat.le_of_ble_eq_true rfl⟩ ⟨Nat.zero_le _, Nat.zero_le _⟩ (fun q9 hq9 => c_X12_readExpression l D K ad rest 1 σ21 q9 hq9) hF (fun _ σ22 hF => ?_)
      exact x_X12_readClause_185 C z y2 σ22 hF
set_option maxHeartbeats 4000000 in
set_option maxRecDepth 100000 in
theorem x_X12_readClause_75 {p : Program} {l : Launch} {e : Env} {s : State} {m : MethodId} {args : Array Value} {below : List Frame} {meth : Method} {c : Code} {D : va_G} {K : Nat → ClassId} {A : Nat → Prop} {ad : Nat → Nat} {rest : va_W} (C : xC p s m args meth c D K A RX12 cX12_readClause 4 none) (z : Unit × xS) : ∀ (n : Nat) (y1 : Int32) (y2 : Int32) (y3 : Int32) (σ : xS), F_X12_readClause_75  n y1 y2 y3 σ = some z → X p l e (xR 7 148) s m args below meth c D A 4 (xQv below D K A args s (RW K ad rest z.2)) 0 0 75 [(0, .ref (ad 0)), (1, .int y1), (2, .int y2), (3, .int y3)] [] (RW K ad rest σ) := by
  intro n
  induction n with
  | zero =>
    intro y1 y2 y3 σ hF
    cases hF
  | succ n ih =>
    intro y1 y2 y3 σ hF
    rw [F_X12_readClause_75] at hF
    refine x_iload_n C 3 3 dX12_readClause_75 rfl rfl ?_
    refine x_bipush C 8 dX12_readClause_76 (by decide +kernel) ?_
    refine x_icmp_ge C 96 dX12_readClause_78 (by decide) hF (fun hF => ?_) (fun hF => ?_)
    · refine x_aload_n C 0 0 dX12_readClause_96 rfl rfl ?_
      refine x_get C 0 dX12_readClause_97 fl_X12_30 (RW_o K ad rest σ) rfl ?_
      refine x_iload_n C 2 2 dX12_readClause_100 rfl rfl ?_
      refine x_iload_n C 1 1 dX12_readClause_101 rfl rfl ?_
      refine x_iast C 6 dX12_readClause_102 (RW_a16 K ad rest σ) hF (RW_s16 K ad rest σ _) (fun hF => ?_)
      refine x_st (wf := RW K ad rest) hF (fun σ11 hF => ?_)
      refine x_aload_n C 0 0 dX12_readClause_103 rfl rfl ?_
      refine x_dup C rfl dX12_readClause_104 ?_
      refine x_get C 0 dX12_readClause_105 fl_X12_293 (RW_o K ad rest σ11) rfl ?_
      refine x_iconst C 1 dX12_readClause_108 (by decide +kernel) ?_
      refine x_iadd C dX12_readClause_109 ?_
      refine x_put C 0 dX12_readClause_110 fl_X12_293 fm_X12_15 rfl rfl (RW_o K ad rest σ11) (Nat.le_of_ble_eq_true rfl) (RW_s15 K ad rest σ11 _) ?_
      refine x_st (wf := RW K ad rest) hF (fun σ12 hF => ?_)
      refine x_aload_n C 0 0 dX12_readClause_113 rfl rfl ?_
      refine x_get C 0 dX12_readClause_114 fl_X12_30 (RW_o K ad rest σ12) rfl ?_
      refine x_iload_n C 2 2 dX12_readClause_117 rfl rfl ?_
      refine x_iconst C 3 dX12_readClause_118 (by decide +kernel) ?_
      refine x_iadd C dX12_readClause_119 ?_
      refine x_aload_n C 0 0 dX12_readClause_120 rfl rfl ?_
      refine x_get C 0 dX12_readClause_121 fl_X12_214 (RW_o K ad rest σ12) rfl ?_
      refine x_iast C 6 dX12_readClause_124 (RW_a16 K ad rest σ12) hF (RW_s16 K ad rest σ12 _) (fun hF => ?_)
      refine x_st (wf := RW K ad rest) hF (fun σ13 hF => ?_)
      refine x_iload_n C 1 1 dX12_readClause_125 rfl rfl ?_
      refine x_iconst C 3 dX12_readClause_126 (by decide +kernel) ?_
      refine x_icmp_ge C 135 dX12_readClause_127 (by decide) hF (fun hF => ?_) (fun hF => ?_)
      · refine x_loc [(0, .ref (ad 0)), (2, .int y2)] [0, 2] rfl ?_
        exact x_X12_readClause_135 C z y2 σ13 hF
      · refine x_aload_n C 0 0 dX12_readClause_130 rfl rfl ?_
        refine x_iconst C 0 dX12_readClause_131 (by decide +kernel) ?_
        refine x_callVV C (wf := RW K ad rest) (As := [.int 0]) (rest := []) dX12_readClause_132 ml_X12_296 rfl rfl (Nat.le_of_ble_eq_true rfl) 0 (RW_o K ad rest σ13) rfl ⟨Nat.le_of_ble_eq_true rfl, Nat.le_of_ble_eq_true rfl⟩ ⟨Nat.zero_le _, Nat.zero_le _⟩ (fun q9 hq9 => c_X12_readExpression l D K ad rest 0 σ13 q9 hq9) hF (fun _ σ14 hF => ?_)
        refine x_loc [(0, .ref (ad 0)), (2, .int y2)] [0, 2] rfl ?_
        exact x_X12_readClause_135 C z y2 σ14 hF
    · refine x_aload_n C 0 0 dX12_readClause_81 rfl rfl ?_
      refine x_get C 0 dX12_readClause_82 fl_X12_30 (RW_o K ad rest σ) rfl ?_
      refine x_iload_n C 2 2 dX12_readClause_85 rfl rfl ?_
      refine x_iload_n C 3 3 dX12_readClause_86 rfl rfl ?_
      refine x_iadd C dX12_readClause_87 ?_
      refine x_iconst C 0 dX12_readClause_88 (by decide +kernel) ?_
      refine x_iast C 6 dX12_readClause_89 (RW_a16 K ad rest σ) hF (RW_s16 K ad rest σ _) (fun hF => ?_)
      refine x_st (wf := RW K ad rest) hF (fun σ15 hF => ?_)
      refine x_iincN C 1 3 (fun x16 => [(3, .int x16), (0, .ref (ad 0)), (1, .int y1), (2, .int y2)]) dX12_readClause_90 rfl (by decide +kernel) (by decide) (fun _ => rfl) hF (fun x16 hF => ?_)
      refine x_goto C 75 dX12_readClause_93 (by decide) ?_
      refine x_loc [(0, .ref (ad 0)), (1, .int y1), (2, .int y2), (3, .int x16)] [1, 2, 3, 0] rfl ?_
      exact ih y1 y2 x16 σ15 hF
set_option maxHeartbeats 4000000 in
set_option maxRecDepth 100000 in
theorem x_X12_readClause_54 {p : Program} {l : Launch} {e : Env} {s : State} {m : MethodId} {args : Array Value} {below : List Frame} {meth : Method} {c : Code} {D : va_G} {K : Nat → ClassId} {A : Nat → Prop} {ad : Nat → Nat} {rest : va_W} (C : xC p s m args meth c D K A RX12 cX12_readClause 4 none) (z : Unit × xS) : ∀ (y1 : Int32) (t1 : Int32) (σ : xS), F_X12_readClause_54  y1 t1 σ = some z → X p l e (xR 7 148) s m args below meth c D A 4 (xQv below D K A args s (RW K ad rest z.2)) 0 0 54 [(0, .ref (ad 0)), (1, .int y1)] [.int t1, .ref (ad 0)] (RW K ad rest σ) := by
  intro y1 t1 σ hF
  unfold F_X12_readClause_54 at hF
  refine x_callVV C (wf := RW K ad rest) (As := [.int t1]) (rest := []) dX12_readClause_54 ml_X12_210 rfl rfl (Nat.le_of_ble_eq_true rfl) 0 (RW_o K ad rest σ) rfl ⟨Nat.le_of_ble_eq_true rfl, Nat.le_of_ble_eq_true rfl⟩ ⟨Nat.zero_le _, Nat.zero_le _⟩ (fun q9 hq9 => c_X12_must l D K ad rest t1 σ q9 hq9) hF (fun _ σ8 hF => ?_)
  refine x_aload_n C 0 0 dX12_readClause_57 rfl rfl ?_
  refine x_get C 0 dX12_readClause_58 fl_X12_175 (RW_o K ad rest σ8) rfl ?_
  refine x_if_eq C 65 dX12_readClause_61 (by decide) hF (fun hF => ?_) (fun hF => ?_)
  · refine x_bipush C 8 dX12_readClause_65 (by decide +kernel) ?_
    refine x_aload_n C 0 0 dX12_readClause_67 rfl rfl ?_
    refine x_get C 0 dX12_readClause_68 fl_X12_293 (RW_o K ad rest σ8) rfl ?_
    refine x_imul C dX12_readClause_71 ?_
    refine x_topI hF (fun x9 hF => ?_)
    refine x_istore_n C [(2, .int x9), (0, .ref (ad 0)), (1, .int y1)] dX12_readClause_72 rfl (by decide) rfl ?_
    refine x_iconst C 0 dX12_readClause_73 (by decide +kernel) ?_
    refine x_topI hF (fun x10 hF => ?_)
    refine x_istore_n C [(3, .int x10), (2, .int x9), (0, .ref (ad 0)), (1, .int y1)] dX12_readClause_74 rfl (by decide) rfl ?_
    refine x_loc [(0, .ref (ad 0)), (1, .int y1), (2, .int x9), (3, .int x10)] [2, 3, 1, 0] rfl ?_
    exact x_X12_readClause_75 C z FU y1 x9 x10 σ8 hF
  · exact x_vret C dX12_readClause_64 rfl (congrArg (fun q9 : Unit × xS => RW K ad rest q9.2) (Option.some.inj hF))
set_option maxHeartbeats 4000000 in
set_option maxRecDepth 100000 in
theorem x_X12_readClause_53 {p : Program} {l : Launch} {e : Env} {s : State} {m : MethodId} {args : Array Value} {below : List Frame} {meth : Method} {c : Code} {D : va_G} {K : Nat → ClassId} {A : Nat → Prop} {ad : Nat → Nat} {rest : va_W} (C : xC p s m args meth c D K A RX12 cX12_readClause 4 none) (z : Unit × xS) : ∀ (y1 : Int32) (σ : xS), F_X12_readClause_53  y1 σ = some z → X p l e (xR 7 148) s m args below meth c D A 4 (xQv below D K A args s (RW K ad rest z.2)) 0 0 53 [(0, .ref (ad 0)), (1, .int y1)] [.ref (ad 0)] (RW K ad rest σ) := by
  intro y1 σ hF
  unfold F_X12_readClause_53 at hF
  refine x_iconst C 0 dX12_readClause_53 (by decide +kernel) ?_
  exact x_X12_readClause_54 C z y1 0 σ hF
set_option maxHeartbeats 4000000 in
set_option maxRecDepth 100000 in
theorem x_X12_readClause_4 {p : Program} {l : Launch} {e : Env} {s : State} {m : MethodId} {args : Array Value} {below : List Frame} {meth : Method} {c : Code} {D : va_G} {K : Nat → ClassId} {A : Nat → Prop} {ad : Nat → Nat} {rest : va_W} (C : xC p s m args meth c D K A RX12 cX12_readClause 4 none) (z : Unit × xS) : ∀ (n : Nat) (y1 : Int32) (y2 : Int32) (σ : xS), F_X12_readClause_4  n y1 y2 σ = some z → X p l e (xR 7 148) s m args below meth c D A 4 (xQv below D K A args s (RW K ad rest z.2)) 0 0 4 [(0, .ref (ad 0)), (1, .int y1), (2, .int y2)] [] (RW K ad rest σ) := by
  intro n
  induction n with
  | zero =>
    intro y1 y2 σ hF
    cases hF
  | succ n ih =>
    intro y1 y2 σ hF
    rw [F_X12_readClause_4] at hF
    refine x_iload_n C 2 2 dX12_readClause_4 rfl rfl ?_
    refine x_iconst C 4 dX12_readClause_5 (by decide +kernel) ?_
    refine x_icmp_ge C 34 dX12_readClause_6 (by decide) hF (fun hF => ?_) (fun hF => ?_)
    · refine x_aload_n C 0 0 dX12_readClause_34 rfl rfl ?_
      refine x_iload_n C 1 1 dX12_readClause_35 rfl rfl ?_
      refine x_iconst C (-1) dX12_readClause_36 (by decide +kernel) ?_
      refine x_icmp_eq C 53 dX12_readClause_37 (by decide) hF (fun hF => ?_) (fun hF => ?_)
      · refine x_loc [(0, .ref (ad 0)), (1, .int y1)] [0, 1] rfl ?_
        exact x_X12_readClause_53 C z y1 σ hF
      · refine x_aload_n C 0 0 dX12_readClause_40 rfl rfl ?_
        refine x_get C 0 dX12_readClause_41 fl_X12_293 (RW_o K ad rest σ) rfl ?_
        refine x_bipush C 12 dX12_readClause_44 (by decide +kernel) ?_
        refine x_icmp_ge C 53 dX12_readClause_46 (by decide) hF (fun hF => ?_) (fun hF => ?_)
        · refine x_loc [(0, .ref (ad 0)), (1, .int y1)] [0, 1] rfl ?_
          exact x_X12_readClause_53 C z y1 σ hF
        · refine x_iconst C 1 dX12_readClause_49 (by decide +kernel) ?_
          refine x_goto C 54 dX12_readClause_50 (by decide) ?_
          refine x_loc [(0, .ref (ad 0)), (1, .int y1)] [0, 1] rfl ?_
          exact x_X12_readClause_54 C z y1 1 σ hF
    · refine x_aload_n C 0 0 dX12_readClause_9 rfl rfl ?_
      refine x_aload_n C 0 0 dX12_readClause_10 rfl rfl ?_
      refine x_get C 0 dX12_readClause_11 fl_X12_77 (RW_o K ad rest σ) rfl ?_
      refine x_iload_n C 2 2 dX12_readClause_14 rfl rfl ?_
      refine x_lald C 12 dX12_readClause_15 (RW_a26 K ad rest σ) hF (fun v3 hF => ?_)
      refine x_callVI C (wf := RW K ad rest) (As := [.long v3]) (rest := []) dX12_readClause_16 ml_X12_235 rfl rfl (Nat.le_of_ble_eq_true rfl) 0 (RW_o K ad rest σ) rfl ⟨Nat.le_of_ble_eq_true rfl, Nat.le_of_ble_eq_true rfl⟩ ⟨Nat.zero_le _, Nat.zero_le _⟩ (fun q9 hq9 => c_X12_isWord l D K ad rest v3 σ q9 hq9) hF (fun v5 σ4 hF => ?_)
      refine x_if_eq C 26 dX12_readClause_19 (by decide) hF (fun hF => ?_) (fun hF => ?_)
      · refine x_iload_n C 1 1 dX12_readClause_26 rfl rfl ?_
        refine x_istore_n C [(1, .int y1), (0, .ref (ad 0)), (2, .int y2)] dX12_readClause_27 rfl (by decide) rfl ?_
        refine x_iincN C 1 2 (fun x6 => [(2, .int x6), (1, .int y1), (0, .ref (ad 0))]) dX12_readClause_28 rfl (by decide +kernel) (by decide) (fun _ => rfl) hF (fun x6 hF => ?_)
        refine x_goto C 4 dX12_readClause_31 (by decide) ?_
        refine x_loc [(0, .ref (ad 0)), (1, .int y1), (2, .int x6)] [2, 1, 0] rfl ?_
        exact ih y1 x6 σ4 hF
      · refine x_iload_n C 2 2 dX12_readClause_22 rfl rfl ?_
        refine x_goto C 27 dX12_readClause_23 (by decide) ?_
        refine x_istore_n C [(1, .int y2), (0, .ref (ad 0)), (2, .int y2)] dX12_readClause_27 rfl (by decide) rfl ?_
        refine x_iincN C 1 2 (fun x7 => [(2, .int x7), (1, .int y2), (0, .ref (ad 0))]) dX12_readClause_28 rfl (by decide +kernel) (by decide) (fun _ => rfl) hF (fun x7 hF => ?_)
        refine x_goto C 4 dX12_readClause_31 (by decide) ?_
        refine x_loc [(0, .ref (ad 0)), (1, .int y2), (2, .int x7)] [2, 1, 0] rfl ?_
        exact ih y2 x7 σ4 hF
set_option maxHeartbeats 4000000 in
set_option maxRecDepth 100000 in
theorem c_X12_readClause (l : Launch) (D : va_G) (K : Nat → ClassId) (ad : Nat → Nat) (rest : va_W)  (σ : xS) (z : Unit × xS) (hF : F_X12_readClause σ = some z) : CV l D K yX12_readClause cX12_readClause 4 none 7 148 [.ref (ad 0)] (RW K ad rest σ) (RW K ad rest z.2) := by
  refine x_enterV [(0, .ref (ad 0))] pnX12 (Nat.le_of_ble_eq_true rfl) rfl ?_
  intro p e s m args below meth c A C
  unfold F_X12_readClause at hF
  refine x_iconst C (-1) dX12_readClause_0 (by decide +kernel) ?_
  refine x_topI hF (fun x1 hF => ?_)
  refine x_istore_n C [(1, .int x1), (0, .ref (ad 0))] dX12_readClause_1 rfl (by decide) rfl ?_
  refine x_iconst C 0 dX12_readClause_2 (by decide +kernel) ?_
  refine x_topI hF (fun x2 hF => ?_)
  refine x_istore_n C [(2, .int x2), (1, .int x1), (0, .ref (ad 0))] dX12_readClause_3 rfl (by decide) rfl ?_
  refine x_loc [(0, .ref (ad 0)), (1, .int x1), (2, .int x2)] [2, 1, 0] rfl ?_
  exact x_X12_readClause_4 C z FU x1 x2 σ hF
