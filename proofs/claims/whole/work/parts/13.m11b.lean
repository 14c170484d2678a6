theorem dX1_pays_0 : decode cX1_pays 0 = .ok (.iconst 0, 1) := by decide +kernel
theorem dX1_pays_1 : decode cX1_pays 1 = .ok (.istore_n 2, 1) := by decide +kernel
theorem dX1_pays_2 : decode cX1_pays 2 = .ok (.iconst 0, 1) := by decide +kernel
theorem dX1_pays_3 : decode cX1_pays 3 = .ok (.istore_n 3, 1) := by decide +kernel
theorem dX1_pays_4 : decode cX1_pays 4 = .ok (.iload_n 3, 1) := by decide +kernel
theorem dX1_pays_5 : decode cX1_pays 5 = .ok (.aload_n 0, 1) := by decide +kernel
theorem dX1_pays_6 : decode cX1_pays 6 = .ok (.getfield 29, 3) := by decide +kernel
theorem dX1_pays_9 : decode cX1_pays 9 = .ok (.getfield 37, 3) := by decide +kernel
theorem dX1_pays_12 : decode cX1_pays 12 = .ok (.getfield 43, 3) := by decide +kernel
theorem dX1_pays_15 : decode cX1_pays 15 = .ok (.if_icmp .ge 33, 3) := by decide +kernel
theorem dX1_pays_18 : decode cX1_pays 18 = .ok (.iload_n 1, 1) := by decide +kernel
theorem dX1_pays_19 : decode cX1_pays 19 = .ok (.iload_n 3, 1) := by decide +kernel
theorem dX1_pays_20 : decode cX1_pays 20 = .ok (.ishr, 1) := by decide +kernel
theorem dX1_pays_21 : decode cX1_pays 21 = .ok (.iconst 1, 1) := by decide +kernel
theorem dX1_pays_22 : decode cX1_pays 22 = .ok (.iand, 1) := by decide +kernel
theorem dX1_pays_23 : decode cX1_pays 23 = .ok (.iconst 1, 1) := by decide +kernel
theorem dX1_pays_24 : decode cX1_pays 24 = .ok (.if_icmp .ne 18, 3) := by decide +kernel
theorem dX1_pays_27 : decode cX1_pays 27 = .ok (.iload_n 2, 1) := by decide +kernel
theorem dX1_pays_28 : decode cX1_pays 28 = .ok (.aload_n 0, 1) := by decide +kernel
theorem dX1_pays_29 : decode cX1_pays 29 = .ok (.getfield 29, 3) := by decide +kernel
theorem dX1_pays_32 : decode cX1_pays 32 = .ok (.getfield 37, 3) := by decide +kernel
theorem dX1_pays_35 : decode cX1_pays 35 = .ok (.iload_n 3, 1) := by decide +kernel
theorem dX1_pays_36 : decode cX1_pays 36 = .ok (.iconst 3, 1) := by decide +kernel
theorem dX1_pays_37 : decode cX1_pays 37 = .ok (.invokevirtual 78, 3) := by decide +kernel
theorem dX1_pays_40 : decode cX1_pays 40 = .ok (.iadd, 1) := by decide +kernel
theorem dX1_pays_41 : decode cX1_pays 41 = .ok (.istore_n 2, 1) := by decide +kernel
theorem dX1_pays_42 : decode cX1_pays 42 = .ok (.iinc 3 1, 3) := by decide +kernel
theorem dX1_pays_45 : decode cX1_pays 45 = .ok (.goto (-41), 3) := by decide +kernel
theorem dX1_pays_48 : decode cX1_pays 48 = .ok (.iload_n 2, 1) := by decide +kernel
theorem dX1_pays_49 : decode cX1_pays 49 = .ok (.ireturn, 1) := by decide +kernel
set_option maxHeartbeats 4000000 in
set_option maxRecDepth 100000 in
theorem x_X1_pays_4 {p : Program} {l : Launch} {e : Env} {s : State} {m : MethodId} {args : Array Value} {below : List Frame} {meth : Method} {c : Code} {D : va_G} {K : Nat → ClassId} {A : Nat → Prop} {ad la : Nat → Nat} {rest : va_W} (C : xC p s m args meth c D K A RX1 cX1_pays 4 (some .int)) (z : Int32 × xS) : ∀ (n : Nat) (y1 : Int32) (y2 : Int32) (y3 : Int32) (σ : xS), F_X1_pays_4  n y1 y2 y3 σ = some z → X p l e (xR 2 43) s m args below meth c D A 4 (xQi below D K A args s z.1 (CW K ad la rest z.2)) 0 0 4 [(0, .ref (ad 89)), (1, .int y1), (2, .int y2), (3, .int y3)] [] (CW K ad la rest σ) := by
  intro n
  induction n with
  | zero =>
    intro y1 y2 y3 σ hF
    cases hF
  | succ n ih =>
    intro y1 y2 y3 σ hF
    rw [F_X1_pays_4] at hF
    refine x_iload_n C 3 3 dX1_pays_4 rfl rfl ?_
    refine x_aload_n C 0 0 dX1_pays_5 rfl rfl ?_
    refine x_get C 89 dX1_pays_6 fl_X1_29 (CW_89 K ad la rest σ) rfl ?_
    refine x_get C 5 dX1_pays_9 fl_X1_37 (CW_5 K ad la rest σ) rfl ?_
    refine x_get C 8 dX1_pays_12 fl_X1_43 (CW_8 K ad la rest σ) rfl ?_
    refine x_icmp_ge C 48 dX1_pays_15 (by decide) hF (fun hF => ?_) (fun hF => ?_)
    · refine x_iload_n C 2 2 dX1_pays_48 rfl rfl ?_
      exact x_iret C dX1_pays_49 rfl (congrArg Prod.fst (Option.some.inj hF)) (congrArg (fun q9 : Int32 × xS => CW K ad la rest q9.2) (Option.some.inj hF))
    · refine x_iload_n C 1 1 dX1_pays_18 rfl rfl ?_
      refine x_iload_n C 3 3 dX1_pays_19 rfl rfl ?_
      refine x_ishr C dX1_pays_20 ?_
      refine x_iconst C 1 dX1_pays_21 (by decide +kernel) ?_
      refine x_iand C dX1_pays_22 ?_
      refine x_iconst C 1 dX1_pays_23 (by decide +kernel) ?_
      refine x_icmp_ne C 42 dX1_pays_24 (by decide) hF (fun hF => ?_) (fun hF => ?_)
      · refine x_iincN C 1 3 (fun x3 => [(3, .int x3), (0, .ref (ad 89)), (1, .int y1), (2, .int y2)]) dX1_pays_42 rfl (by decide +kernel) (by decide) (fun _ => rfl) hF (fun x3 hF => ?_)
        refine x_goto C 4 dX1_pays_45 (by decide) ?_
        refine x_loc [(0, .ref (ad 89)), (1, .int y1), (2, .int y2), (3, .int x3)] [1, 2, 3, 0] rfl ?_
        exact ih y1 y2 x3 σ hF
      · refine x_iload_n C 2 2 dX1_pays_27 rfl rfl ?_
        refine x_aload_n C 0 0 dX1_pays_28 rfl rfl ?_
        refine x_get C 89 dX1_pays_29 fl_X1_29 (CW_89 K ad la rest σ) rfl ?_
        refine x_get C 5 dX1_pays_32 fl_X1_37 (CW_5 K ad la rest σ) rfl ?_
        refine x_iload_n C 3 3 dX1_pays_35 rfl rfl ?_
        refine x_iconst C 3 dX1_pays_36 (by decide +kernel) ?_
        refine x_callVI C (wf := CW K ad la rest) (As := [.int y3, .int 3]) (rest := [.int y2]) dX1_pays_37 ml_X1_78 rfl rfl (Nat.le_of_ble_eq_true rfl) 8 (CW_8 K ad la rest σ) rfl ⟨Nat.le_of_ble_eq_true rfl, Nat.le_of_ble_eq_true rfl⟩ ⟨Nat.zero_le _, Nat.zero_le _⟩ (fun q9 hq9 => c_X6_get l D K ad la rest 0 (by decide) y3 3 σ q9 hq9) hF (fun v5 σ4 hF => ?_)
        refine x_iadd C dX1_pays_40 ?_
        refine x_topI hF (fun x6 hF => ?_)
        refine x_istore_n C [(2, .int x6), (0, .ref (ad 89)), (1, .int y1), (3, .int y3)] dX1_pays_41 rfl (by decide) rfl ?_
        refine x_iincN C 1 3 (fun x7 => [(3, .int x7), (2, .int x6), (0, .ref (ad 89)), (1, .int y1)]) dX1_pays_42 rfl (by decide +kernel) (by decide) (fun _ => rfl) hF (fun x7 hF => ?_)
        refine x_goto C 4 dX1_pays_45 (by decide) ?_
        refine x_loc [(0, .ref (ad 89)), (1, .int y1), (2, .int x6), (3, .int x7)] [2, 3, 1, 0] rfl ?_
        exact ih y1 x6 x7 σ4 hF
set_option maxHeartbeats 4000000 in
set_option maxRecDepth 100000 in
theorem c_X1_pays (l : Launch) (D : va_G) (K : Nat → ClassId) (ad la : Nat → Nat) (rest : va_W)  (a1 : Int32) (σ : xS) (z : Int32 × xS) (hF : F_X1_pays a1 σ = some z) : CI l D K yX1_pays cX1_pays 4 (some .int) 2 43 [.ref (ad 89), .int a1] (CW K ad la rest σ) z.1 (CW K ad la rest z.2) := by
  refine x_enterI [(0, .ref (ad 89)), (1, .int a1)] pnX1 (Nat.le_of_ble_eq_true rfl) rfl ?_
  intro p e s m args below meth c A C
  unfold F_X1_pays at hF
  refine x_iconst C 0 dX1_pays_0 (by decide +kernel) ?_
  refine x_topI hF (fun x1 hF => ?_)
  refine x_istore_n C [(2, .int x1), (0, .ref (ad 89)), (1, .int a1)] dX1_pays_1 rfl (by decide) rfl ?_
  refine x_iconst C 0 dX1_pays_2 (by decide +kernel) ?_
  refine x_topI hF (fun x2 hF => ?_)
  refine x_istore_n C [(3, .int x2), (2, .int x1), (0, .ref (ad 89)), (1, .int a1)] dX1_pays_3 rfl (by decide) rfl ?_
  refine x_loc [(0, .ref (ad 89)), (1, .int a1), (2, .int x1), (3, .int x2)] [2, 3, 1, 0] rfl ?_
  exact x_X1_pays_4 C z FU a1 x1 x2 σ hF
theorem dX1_lookAtAll_0 : decode cX1_lookAtAll 0 = .ok (.iconst 0, 1) := by decide +kernel
theorem dX1_lookAtAll_1 : decode cX1_lookAtAll 1 = .ok (.istore_n 1, 1) := by decide +kernel
theorem dX1_lookAtAll_2 : decode cX1_lookAtAll 2 = .ok (.iload_n 1, 1) := by decide +kernel
theorem dX1_lookAtAll_3 : decode cX1_lookAtAll 3 = .ok (.aload_n 0, 1) := by decide +kernel
theorem dX1_lookAtAll_4 : decode cX1_lookAtAll 4 = .ok (.getfield 29, 3) := by decide +kernel
theorem dX1_lookAtAll_7 : decode cX1_lookAtAll 7 = .ok (.getfield 37, 3) := by decide +kernel
theorem dX1_lookAtAll_10 : decode cX1_lookAtAll 10 = .ok (.getfield 43, 3) := by decide +kernel
theorem dX1_lookAtAll_13 : decode cX1_lookAtAll 13 = .ok (.if_icmp .ge 59, 3) := by decide +kernel
theorem dX1_lookAtAll_16 : decode cX1_lookAtAll 16 = .ok (.aload_n 0, 1) := by decide +kernel
theorem dX1_lookAtAll_17 : decode cX1_lookAtAll 17 = .ok (.getfield 33, 3) := by decide +kernel
theorem dX1_lookAtAll_20 : decode cX1_lookAtAll 20 = .ok (.iload_n 1, 1) := by decide +kernel
theorem dX1_lookAtAll_21 : decode cX1_lookAtAll 21 = .ok (.iconst 0, 1) := by decide +kernel
theorem dX1_lookAtAll_22 : decode cX1_lookAtAll 22 = .ok (.invokevirtual 49, 3) := by decide +kernel
theorem dX1_lookAtAll_25 : decode cX1_lookAtAll 25 = .ok (.aload_n 0, 1) := by decide +kernel
theorem dX1_lookAtAll_26 : decode cX1_lookAtAll 26 = .ok (.getfield 9, 3) := by decide +kernel
theorem dX1_lookAtAll_29 : decode cX1_lookAtAll 29 = .ok (.iload_n 1, 1) := by decide +kernel
theorem dX1_lookAtAll_30 : decode cX1_lookAtAll 30 = .ok (.aload_n 0, 1) := by decide +kernel
theorem dX1_lookAtAll_31 : decode cX1_lookAtAll 31 = .ok (.getfield 29, 3) := by decide +kernel
theorem dX1_lookAtAll_34 : decode cX1_lookAtAll 34 = .ok (.getfield 37, 3) := by decide +kernel
theorem dX1_lookAtAll_37 : decode cX1_lookAtAll 37 = .ok (.iload_n 1, 1) := by decide +kernel
theorem dX1_lookAtAll_38 : decode cX1_lookAtAll 38 = .ok (.iconst 3, 1) := by decide +kernel
theorem dX1_lookAtAll_39 : decode cX1_lookAtAll 39 = .ok (.invokevirtual 78, 3) := by decide +kernel
theorem dX1_lookAtAll_42 : decode cX1_lookAtAll 42 = .ok (.iastore, 1) := by decide +kernel
theorem dX1_lookAtAll_43 : decode cX1_lookAtAll 43 = .ok (.aload_n 0, 1) := by decide +kernel
theorem dX1_lookAtAll_44 : decode cX1_lookAtAll 44 = .ok (.getfield 15, 3) := by decide +kernel
theorem dX1_lookAtAll_47 : decode cX1_lookAtAll 47 = .ok (.iload_n 1, 1) := by decide +kernel
theorem dX1_lookAtAll_48 : decode cX1_lookAtAll 48 = .ok (.aload_n 0, 1) := by decide +kernel
theorem dX1_lookAtAll_49 : decode cX1_lookAtAll 49 = .ok (.invokevirtual 55, 3) := by decide +kernel
theorem dX1_lookAtAll_52 : decode cX1_lookAtAll 52 = .ok (.iastore, 1) := by decide +kernel
theorem dX1_lookAtAll_53 : decode cX1_lookAtAll 53 = .ok (.aload_n 0, 1) := by decide +kernel
theorem dX1_lookAtAll_54 : decode cX1_lookAtAll 54 = .ok (.getfield 18, 3) := by decide +kernel
theorem dX1_lookAtAll_57 : decode cX1_lookAtAll 57 = .ok (.iload_n 1, 1) := by decide +kernel
theorem dX1_lookAtAll_58 : decode cX1_lookAtAll 58 = .ok (.aload_n 0, 1) := by decide +kernel
theorem dX1_lookAtAll_59 : decode cX1_lookAtAll 59 = .ok (.getfield 33, 3) := by decide +kernel
theorem dX1_lookAtAll_62 : decode cX1_lookAtAll 62 = .ok (.invokevirtual 82, 3) := by decide +kernel
theorem dX1_lookAtAll_65 : decode cX1_lookAtAll 65 = .ok (.iastore, 1) := by decide +kernel
theorem dX1_lookAtAll_66 : decode cX1_lookAtAll 66 = .ok (.iinc 1 1, 3) := by decide +kernel
theorem dX1_lookAtAll_69 : decode cX1_lookAtAll 69 = .ok (.goto (-67), 3) := by decide +kernel
theorem dX1_lookAtAll_72 : decode cX1_lookAtAll 72 = .ok (.return_, 1) := by decide +kernel
set_option maxHeartbeats 4000000 in
set_option maxRecDepth 100000 in
theorem x_X1_lookAtAll_2 {p : Program} {l : Launch} {e : Env} {s : State} {m : MethodId} {args : Array Value} {below : List Frame} {meth : Method} {c : Code} {D : va_G} {K : Nat → ClassId} {A : Nat → Prop} {ad la : Nat → Nat} {rest : va_W} (C : xC p s m args meth c D K A RX1 cX1_lookAtAll 2 none) (z : Unit × xS) : ∀ (n : Nat) (y1 : Int32) (σ : xS), F_X1_lookAtAll_2  n y1 σ = some z → X p l e (xR 5 120) s m args below meth c D A 2 (xQv below D K A args s (CW K ad la rest z.2)) 0 0 2 [(0, .ref (ad 89)), (1, .int y1)] [] (CW K ad la rest σ) := by
  intro n
  induction n with
  | zero =>
    intro y1 σ hF
    cases hF
  | succ n ih =>
    intro y1 σ hF
    rw [F_X1_lookAtAll_2] at hF
    refine x_iload_n C 1 1 dX1_lookAtAll_2 rfl rfl ?_
    refine x_aload_n C 0 0 dX1_lookAtAll_3 rfl rfl ?_
    refine x_get C 89 dX1_lookAtAll_4 fl_X1_29 (CW_89 K ad la rest σ) rfl ?_
    refine x_get C 5 dX1_lookAtAll_7 fl_X1_37 (CW_5 K ad la rest σ) rfl ?_
    refine x_get C 8 dX1_lookAtAll_10 fl_X1_43 (CW_8 K ad la rest σ) rfl ?_
    refine x_icmp_ge C 72 dX1_lookAtAll_13 (by decide) hF (fun hF => ?_) (fun hF => ?_)
    · exact x_vret C dX1_lookAtAll_72 rfl (congrArg (fun q9 : Unit × xS => CW K ad la rest q9.2) (Option.some.inj hF))
    · refine x_aload_n C 0 0 dX1_lookAtAll_16 rfl rfl ?_
      refine x_get C 89 dX1_lookAtAll_17 fl_X1_33 (CW_89 K ad la rest σ) rfl ?_
      refine x_iload_n C 1 1 dX1_lookAtAll_20 rfl rfl ?_
      refine x_iconst C 0 dX1_lookAtAll_21 (by decide +kernel) ?_
      refine x_callVV C (wf := CW K ad la rest) (As := [.int y1, .int 0]) (rest := []) dX1_lookAtAll_22 ml_X1_49 rfl rfl (Nat.le_of_ble_eq_true rfl) 44 (CW_44 K ad la rest σ) rfl ⟨Nat.le_of_ble_eq_true rfl, Nat.le_of_ble_eq_true rfl⟩ ⟨Nat.zero_le _, Nat.zero_le _⟩ (fun q9 hq9 => c_X0_about l D K ad la rest y1 0 σ q9 hq9) hF (fun _ σ2 hF => ?_)
      refine x_aload_n C 0 0 dX1_lookAtAll_25 rfl rfl ?_
      refine x_get C 89 dX1_lookAtAll_26 fl_X1_9 (CW_89 K ad la rest σ2) rfl ?_
      refine x_iload_n C 1 1 dX1_lookAtAll_29 rfl rfl ?_
      refine x_aload_n C 0 0 dX1_lookAtAll_30 rfl rfl ?_
      refine x_get C 89 dX1_lookAtAll_31 fl_X1_29 (CW_89 K ad la rest σ2) rfl ?_
      refine x_get C 5 dX1_lookAtAll_34 fl_X1_37 (CW_5 K ad la rest σ2) rfl ?_
      refine x_iload_n C 1 1 dX1_lookAtAll_37 rfl rfl ?_
      refine x_iconst C 3 dX1_lookAtAll_38 (by decide +kernel) ?_
      refine x_callVI C (wf := CW K ad la rest) (As := [.int y1, .int 3]) (rest := [.int y1, .ref (ad 90)]) dX1_lookAtAll_39 ml_X1_78 rfl rfl (Nat.le_of_ble_eq_true rfl) 8 (CW_8 K ad la rest σ2) rfl ⟨Nat.le_of_ble_eq_true rfl, Nat.le_of_ble_eq_true rfl⟩ ⟨Nat.zero_le _, Nat.zero_le _⟩ (fun q9 hq9 => c_X6_get l D K ad la rest 0 (by decide) y1 3 σ2 q9 hq9) hF (fun v4 σ3 hF => ?_)
      refine x_iast C 90 dX1_lookAtAll_42 (CW_90 K ad la rest σ3) hF (CW_s90 K ad la rest σ3 _) (fun hF => ?_)
      refine x_st (wf := CW K ad la rest) hF (fun σ5 hF => ?_)
      refine x_aload_n C 0 0 dX1_lookAtAll_43 rfl rfl ?_
      refine x_get C 89 dX1_lookAtAll_44 fl_X1_15 (CW_89 K ad la rest σ5) rfl ?_
      refine x_iload_n C 1 1 dX1_lookAtAll_47 rfl rfl ?_
      refine x_aload_n C 0 0 dX1_lookAtAll_48 rfl rfl ?_
      refine x_callVI C (wf := CW K ad la rest) (As := []) (rest := [.int y1, .ref (ad 91)]) dX1_lookAtAll_49 ml_X1_55 rfl rfl (Nat.le_of_ble_eq_true rfl) 89 (CW_89 K ad la rest σ5) rfl ⟨Nat.le_of_ble_eq_true rfl, Nat.le_of_ble_eq_true rfl⟩ ⟨Nat.zero_le _, Nat.zero_le _⟩ (fun q9 hq9 => c_X1_gain l D K ad la rest σ5 q9 hq9) hF (fun v7 σ6 hF => ?_)
      refine x_iast C 91 dX1_lookAtAll_52 (CW_91 K ad la rest σ6) hF (CW_s91 K ad la rest σ6 _) (fun hF => ?_)
      refine x_st (wf := CW K ad la rest) hF (fun σ8 hF => ?_)
      refine x_aload_n C 0 0 dX1_lookAtAll_53 rfl rfl ?_
      refine x_get C 89 dX1_lookAtAll_54 fl_X1_18 (CW_89 K ad la rest σ8) rfl ?_
      refine x_iload_n C 1 1 dX1_lookAtAll_57 rfl rfl ?_
      refine x_aload_n C 0 0 dX1_lookAtAll_58 rfl rfl ?_
      refine x_get C 89 dX1_lookAtAll_59 fl_X1_33 (CW_89 K ad la rest σ8) rfl ?_
      refine x_callVI C (wf := CW K ad la rest) (As := []) (rest := [.int y1, .ref (ad 92)]) dX1_lookAtAll_62 ml_X1_82 rfl rfl (Nat.le_of_ble_eq_true rfl) 44 (CW_44 K ad la rest σ8) rfl ⟨Nat.le_of_ble_eq_true rfl, Nat.le_of_ble_eq_true rfl⟩ ⟨Nat.zero_le _, Nat.zero_le _⟩ (fun q9 hq9 => c_X0_sells l D K ad la rest σ8 q9 hq9) hF (fun v10 σ9 hF => ?_)
      refine x_iast C 92 dX1_lookAtAll_65 (CW_92 K ad la rest σ9) hF (CW_s92 K ad la rest σ9 _) (fun hF => ?_)
      refine x_st (wf := CW K ad la rest) hF (fun σ11 hF => ?_)
      refine x_iincN C 1 1 (fun x12 => [(1, .int x12), (0, .ref (ad 89))]) dX1_lookAtAll_66 rfl (by decide +kernel) (by decide) (fun _ => rfl) hF (fun x12 hF => ?_)
      refine x_goto C 2 dX1_lookAtAll_69 (by decide) ?_
      refine x_loc [(0, .ref (ad 89)), (1, .int x12)] [1, 0] rfl ?_
      exact ih x12 σ11 hF
set_option maxHeartbeats 4000000 in
set_option maxRecDepth 100000 in
theorem c_X1_lookAtAll (l : Launch) (D : va_G) (K : Nat → ClassId) (ad la : Nat → Nat) (rest : va_W)   (σ : xS) (z : Unit × xS) (hF : F_X1_lookAtAll σ = some z) : CV l D K yX1_lookAtAll cX1_lookAtAll 2 none 5 120 [.ref (ad 89)] (CW K ad la rest σ) (CW K ad la rest z.2) := by
  refine x_enterV [(0, .ref (ad 89))] pnX1 (Nat.le_of_ble_eq_true rfl) rfl ?_
  intro p e s m args below meth c A C
  unfold F_X1_lookAtAll at hF
  refine x_iconst C 0 dX1_lookAtAll_0 (by decide +kernel) ?_
  refine x_topI hF (fun x1 hF => ?_)
  refine x_istore_n C [(1, .int x1), (0, .ref (ad 89))] dX1_lookAtAll_1 rfl (by decide) rfl ?_
  refine x_loc [(0, .ref (ad 89)), (1, .int x1)] [1, 0] rfl ?_
  exact x_X1_lookAtAll_2 C z FU x1 σ hF
theorem dX1_broughtTogether_0 : decode cX1_broughtTogether 0 = .ok (.aload_n 0, 1) := by decide +kernel
theorem dX1_broughtTogether_1 : decode cX1_broughtTogether 1 = .ok (.invokevirtual 59, 3) := by decide +kernel
theorem dX1_broughtTogether_4 : decode cX1_broughtTogether 4 = .ok (.istore_n 1, 1) := by decide +kernel
theorem dX1_broughtTogether_5 : decode cX1_broughtTogether 5 = .ok (.iconst 0, 1) := by decide +kernel
theorem dX1_broughtTogether_6 : decode cX1_broughtTogether 6 = .ok (.istore_n 2, 1) := by decide +kernel
theorem dX1_broughtTogether_7 : decode cX1_broughtTogether 7 = .ok (.iconst 0, 1) := by decide +kernel
theorem dX1_broughtTogether_8 : decode cX1_broughtTogether 8 = .ok (.istore_n 3, 1) := by decide +kernel
theorem dX1_broughtTogether_9 : decode cX1_broughtTogether 9 = .ok (.iload_n 3, 1) := by decide +kernel
theorem dX1_broughtTogether_10 : decode cX1_broughtTogether 10 = .ok (.aload_n 0, 1) := by decide +kernel
theorem dX1_broughtTogether_11 : decode cX1_broughtTogether 11 = .ok (.getfield 29, 3) := by decide +kernel
theorem dX1_broughtTogether_14 : decode cX1_broughtTogether 14 = .ok (.getfield 37, 3) := by decide +kernel
theorem dX1_broughtTogether_17 : decode cX1_broughtTogether 17 = .ok (.getfield 43, 3) := by decide +kernel
theorem dX1_broughtTogether_20 : decode cX1_broughtTogether 20 = .ok (.if_icmp .ge 39, 3) := by decide +kernel
theorem dX1_broughtTogether_23 : decode cX1_broughtTogether 23 = .ok (.iload_n 2, 1) := by decide +kernel
theorem dX1_broughtTogether_24 : decode cX1_broughtTogether 24 = .ok (.aload_n 0, 1) := by decide +kernel
theorem dX1_broughtTogether_25 : decode cX1_broughtTogether 25 = .ok (.getfield 9, 3) := by decide +kernel
theorem dX1_broughtTogether_28 : decode cX1_broughtTogether 28 = .ok (.iload_n 3, 1) := by decide +kernel
theorem dX1_broughtTogether_29 : decode cX1_broughtTogether 29 = .ok (.iaload, 1) := by decide +kernel
theorem dX1_broughtTogether_30 : decode cX1_broughtTogether 30 = .ok (.iload_n 1, 1) := by decide +kernel
theorem dX1_broughtTogether_31 : decode cX1_broughtTogether 31 = .ok (.iload_n 3, 1) := by decide +kernel
theorem dX1_broughtTogether_32 : decode cX1_broughtTogether 32 = .ok (.ishr, 1) := by decide +kernel
theorem dX1_broughtTogether_33 : decode cX1_broughtTogether 33 = .ok (.iconst 1, 1) := by decide +kernel
theorem dX1_broughtTogether_34 : decode cX1_broughtTogether 34 = .ok (.iand, 1) := by decide +kernel
theorem dX1_broughtTogether_35 : decode cX1_broughtTogether 35 = .ok (.iconst 1, 1) := by decide +kernel
theorem dX1_broughtTogether_36 : decode cX1_broughtTogether 36 = .ok (.if_icmp .ne 8, 3) := by decide +kernel
theorem dX1_broughtTogether_39 : decode cX1_broughtTogether 39 = .ok (.bipush 100, 2) := by decide +kernel
theorem dX1_broughtTogether_41 : decode cX1_broughtTogether 41 = .ok (.goto 9, 3) := by decide +kernel
theorem dX1_broughtTogether_44 : decode cX1_broughtTogether 44 = .ok (.aload_n 0, 1) := by decide +kernel
theorem dX1_broughtTogether_45 : decode cX1_broughtTogether 45 = .ok (.getfield 18, 3) := by decide +kernel
theorem dX1_broughtTogether_48 : decode cX1_broughtTogether 48 = .ok (.iload_n 3, 1) := by decide +kernel
theorem dX1_broughtTogether_49 : decode cX1_broughtTogether 49 = .ok (.iaload, 1) := by decide +kernel
theorem dX1_broughtTogether_50 : decode cX1_broughtTogether 50 = .ok (.imul, 1) := by decide +kernel
theorem dX1_broughtTogether_51 : decode cX1_broughtTogether 51 = .ok (.iadd, 1) := by decide +kernel
theorem dX1_broughtTogether_52 : decode cX1_broughtTogether 52 = .ok (.istore_n 2, 1) := by decide +kernel
theorem dX1_broughtTogether_53 : decode cX1_broughtTogether 53 = .ok (.iinc 3 1, 3) := by decide +kernel
theorem dX1_broughtTogether_56 : decode cX1_broughtTogether 56 = .ok (.goto (-47), 3) := by decide +kernel
theorem dX1_broughtTogether_59 : decode cX1_broughtTogether 59 = .ok (.iload_n 2, 1) := by decide +kernel
theorem dX1_broughtTogether_60 : decode cX1_broughtTogether 60 = .ok (.ireturn, 1) := by decide +kernel
set_option maxHeartbeats 4000000 in
set_option maxRecDepth 100000 in
theorem x_X1_broughtTogether_50 {p : Program} {l : Launch} {e : Env} {s : State} {m : MethodId} {args : Array Value} {below : List Frame} {meth : Method} {c : Code} {D : va_G} {K : Nat → ClassId} {A : Nat → Prop} {ad la : Nat → Nat} {rest : va_W} (C : xC p s m args meth c D K A RX1 cX1_broughtTogether 4 (some .int)) (z : Int32 × xS) (k_9 : Int32 → Int32 → Int32 → xS → Option (Int32 × xS)) (H_9 : ∀ (y1 : Int32) (y2 : Int32) (y3 : Int32) (σ : xS), k_9 y1 y2 y3 σ = some z → X p l e (xR 2 47) s m args below meth c D A 4 (xQi below D K A args s z.1 (CW K ad la rest z.2)) 0 0 9 [(0, .ref (ad 89)), (1, .int y1), (2, .int y2), (3, .int y3)] [] (CW K ad la rest σ)) : ∀ (y1 : Int32) (y3 : Int32) (t0x : Int32) (t1x : Int32) (t2x : Int32) (σ : xS), F_X1_broughtTogether_50 k_9 y1 y3 t0x t1x t2x σ = some z → X p l e (xR 2 47) s m args below meth c D A 4 (xQi below D K A args s z.1 (CW K ad la rest z.2)) 0 0 50 [(0, .ref (ad 89)), (1, .int y1), (3, .int y3)] [.int t2x, .int t1x, .int t0x] (CW K ad la rest σ) := by
  intro y1 y3 t0x t1x t2x σ hF
  unfold F_X1_broughtTogether_50 at hF
  refine x_imul C dX1_broughtTogether_50 ?_
  refine x_iadd C dX1_broughtTogether_51 ?_
  refine x_topI hF (fun x7 hF => ?_)
  refine x_istore_n C [(2, .int x7), (0, .ref (ad 89)), (1, .int y1), (3, .int y3)] dX1_broughtTogether_52 rfl (by decide) rfl ?_
  refine x_iincN C 1 3 (fun x8 => [(3, .int x8), (2, .int x7), (0, .ref (ad 89)), (1, .int y1)]) dX1_broughtTogether_53 rfl (by decide +kernel) (by decide) (fun _ => rfl) hF (fun x8 hF => ?_)
  refine x_goto C 9 dX1_broughtTogether_56 (by decide) ?_
  refine x_loc [(0, .ref (ad 89)), (1, .int y1), (2, .int x7), (3, .int x8)] [2, 3, 1, 0] rfl ?_
  exact H_9 y1 x7 x8 σ hF
set_option maxHeartbeats 4000000 in
set_option maxRecDepth 100000 in
theorem x_X1_broughtTogether_9 {p : Program} {l : Launch} {e : Env} {s : State} {m : MethodId} {args : Array Value} {below : List Frame} {meth : Method} {c : Code} {D : va_G} {K : Nat → ClassId} {A : Nat → Prop} {ad la : Nat → Nat} {rest : va_W} (C : xC p s m args meth c D K A RX1 cX1_broughtTogether 4 (some .int)) (z : Int32 × xS) : ∀ (n : Nat) (y1 : Int32) (y2 : Int32) (y3 : Int32) (σ : xS), F_X1_broughtTogether_9  n y1 y2 y3 σ = some z → X p l e (xR 2 47) s m args below meth c D A 4 (xQi below D K A args s z.1 (CW K ad la rest z.2)) 0 0 9 [(0, .ref (ad 89)), (1, .int y1), (2, .int y2), (3, .int y3)] [] (CW K ad la rest σ) := by
  intro n
  induction n with
  | zero =>
    intro y1 y2 y3 σ hF
    cases hF
  | succ n ih =>
    intro y1 y2 y3 σ hF
    rw [F_X1_broughtTogether_9] at hF
    refine x_iload_n C 3 3 dX1_broughtTogether_9 rfl rfl ?_
    refine x_aload_n C 0 0 dX1_broughtTogether_10 rfl rfl ?_
    refine x_get C 89 dX1_broughtTogether_11 fl_X1_29 (CW_89 K ad la rest σ) rfl ?_
    refine x_get C 5 dX1_broughtTogether_14 fl_X1_37 (CW_5 K ad la rest σ) rfl ?_
    refine x_get C 8 dX1_broughtTogether_17 fl_X1_43 (CW_8 K ad la rest σ) rfl ?_
    refine x_icmp_ge C 59 dX1_broughtTogether_20 (by decide) hF (fun hF => ?_) (fun hF => ?_)
    · refine x_iload_n C 2 2 dX1_broughtTogether_59 rfl rfl ?_
      exact x_iret C dX1_broughtTogether_60 rfl (congrArg Prod.fst (Option.some.inj hF)) (congrArg (fun q9 : Int32 × xS => CW K ad la rest q9.2) (Option.some.inj hF))
    · refine x_iload_n C 2 2 dX1_broughtTogether_23 rfl rfl ?_
      refine x_aload_n C 0 0 dX1_broughtTogether_24 rfl rfl ?_
      refine x_get C 89 dX1_broughtTogether_25 fl_X1_9 (CW_89 K ad la rest σ) rfl ?_
      refine x_iload_n C 3 3 dX1_broughtTogether_28 rfl rfl ?_
      refine x_iald C 90 dX1_broughtTogether_29 (CW_90 K ad la rest σ) hF (fun v5 hF => ?_)
      refine x_iload_n C 1 1 dX1_broughtTogether_30 rfl rfl ?_
      refine x_iload_n C 3 3 dX1_broughtTogether_31 rfl rfl ?_
      refine x_ishr C dX1_broughtTogether_32 ?_
      refine x_iconst C 1 dX1_broughtTogether_33 (by decide +kernel) ?_
      refine x_iand C dX1_broughtTogether_34 ?_
      refine x_iconst C 1 dX1_broughtTogether_35 (by decide +kernel) ?_
      refine x_icmp_ne C 44 dX1_broughtTogether_36 (by decide) hF (fun hF => ?_) (fun hF => ?_)
      · refine x_aload_n C 0 0 dX1_broughtTogether_44 rfl rfl ?_
        refine x_get C 89 dX1_broughtTogether_45 fl_X1_18 (CW_89 K ad la rest σ) rfl ?_
        refine x_iload_n C 3 3 dX1_broughtTogether_48 rfl rfl ?_
        refine x_iald C 92 dX1_broughtTogether_49 (CW_92 K ad la rest σ) hF (fun v6 hF => ?_)
        refine x_loc [(0, .ref (ad 89)), (1, .int y1), (3, .int y3)] [0, 1, 3] rfl ?_
        exact x_X1_broughtTogether_50 C z ((F_X1_broughtTogether_9 n)) ih y1 y3 y2 v5 v6 σ hF
      · refine x_bipush C 100 dX1_broughtTogether_39 (by decide +kernel) ?_
        refine x_goto C 50 dX1_broughtTogether_41 (by decide) ?_
        refine x_loc [(0, .ref (ad 89)), (1, .int y1), (3, .int y3)] [0, 1, 3] rfl ?_
        exact x_X1_broughtTogether_50 C z ((F_X1_broughtTogether_9 n)) ih y1 y3 y2 v5 100 σ hF
set_option maxHeartbeats 4000000 in
set_option maxRecDepth 100000 in
theorem c_X1_broughtTogether (l : Launch) (D : va_G) (K : Nat → ClassId) (ad la : Nat → Nat) (rest : va_W)   (σ : xS) (z : Int32 × xS) (hF : F_X1_broughtTogether σ = some z) : CI l D K yX1_broughtTogether cX1_broughtTogether 4 (some .int) 2 47 [.ref (ad 89)] (CW K ad la rest σ) z.1 (CW K ad la rest z.2) := by
  refine x_enterI [(0, .ref (ad 89))] pnX1 (Nat.le_of_ble_eq_true rfl) rfl ?_
  intro p e s m args below meth c A C
  unfold F_X1_broughtTogether at hF
  refine x_aload_n C 0 0 dX1_broughtTogether_0 rfl rfl ?_
  refine x_callVI C (wf := CW K ad la rest) (As := []) (rest := []) dX1_broughtTogether_1 ml_X1_59 rfl rfl (Nat.le_of_ble_eq_true rfl) 89 (CW_89 K ad la rest σ) rfl ⟨Nat.le_of_ble_eq_true rfl, Nat.le_of_ble_eq_true rfl⟩ ⟨Nat.zero_le _, Nat.zero_le _⟩ (fun q9 hq9 => c_X1_greatestGains l D K ad la rest σ q9 hq9) hF (fun v2 σ1 hF => ?_)
  refine x_istore_n C [(1, .int v2), (0, .ref (ad 89))] dX1_broughtTogether_4 rfl (by decide) rfl ?_
  refine x_iconst C 0 dX1_broughtTogether_5 (by decide +kernel) ?_
  refine x_topI hF (fun x3 hF => ?_)
  refine x_istore_n C [(2, .int x3), (1, .int v2), (0, .ref (ad 89))] dX1_broughtTogether_6 rfl (by decide) rfl ?_
  refine x_iconst C 0 dX1_broughtTogether_7 (by decide +kernel) ?_
  refine x_topI hF (fun x4 hF => ?_)
  refine x_istore_n C [(3, .int x4), (2, .int x3), (1, .int v2), (0, .ref (ad 89))] dX1_broughtTogether_8 rfl (by decide) rfl ?_
  refine x_loc [(0, .ref (ad 89)), (1, .int v2), (2, .int x3), (3, .int x4)] [3, 2, 1, 0] rfl ?_
  exact x_X1_broughtTogether_9 C z FU v2 x3 x4 σ1 hF
theorem dX1_lookAtOffers_0 : decode cX1_lookAtOffers 0 = .ok (.aload_n 0, 1) := by decide +kernel
theorem dX1_lookAtOffers_1 : decode cX1_lookAtOffers 1 = .ok (.getfield 33, 3) := by decide +kernel
theorem dX1_lookAtOffers_4 : decode cX1_lookAtOffers 4 = .ok (.iload_n 1, 1) := by decide +kernel
theorem dX1_lookAtOffers_5 : decode cX1_lookAtOffers 5 = .ok (.iconst 0, 1) := by decide +kernel
theorem dX1_lookAtOffers_6 : decode cX1_lookAtOffers 6 = .ok (.invokevirtual 49, 3) := by decide +kernel
theorem dX1_lookAtOffers_9 : decode cX1_lookAtOffers 9 = .ok (.iconst 0, 1) := by decide +kernel
theorem dX1_lookAtOffers_10 : decode cX1_lookAtOffers 10 = .ok (.istore_n 3, 1) := by decide +kernel
theorem dX1_lookAtOffers_11 : decode cX1_lookAtOffers 11 = .ok (.iload_n 3, 1) := by decide +kernel
theorem dX1_lookAtOffers_12 : decode cX1_lookAtOffers 12 = .ok (.bipush 21, 2) := by decide +kernel
theorem dX1_lookAtOffers_14 : decode cX1_lookAtOffers 14 = .ok (.if_icmp .ge 56, 3) := by decide +kernel
theorem dX1_lookAtOffers_17 : decode cX1_lookAtOffers 17 = .ok (.aload_n 0, 1) := by decide +kernel
theorem dX1_lookAtOffers_18 : decode cX1_lookAtOffers 18 = .ok (.getfield 33, 3) := by decide +kernel
theorem dX1_lookAtOffers_21 : decode cX1_lookAtOffers 21 = .ok (.getfield 62, 3) := by decide +kernel
theorem dX1_lookAtOffers_24 : decode cX1_lookAtOffers 24 = .ok (.iconst 4, 1) := by decide +kernel
theorem dX1_lookAtOffers_25 : decode cX1_lookAtOffers 25 = .ok (.iload_n 3, 1) := by decide +kernel
theorem dX1_lookAtOffers_26 : decode cX1_lookAtOffers 26 = .ok (.aload_n 0, 1) := by decide +kernel
theorem dX1_lookAtOffers_27 : decode cX1_lookAtOffers 27 = .ok (.getfield 29, 3) := by decide +kernel
theorem dX1_lookAtOffers_30 : decode cX1_lookAtOffers 30 = .ok (.getfield 71, 3) := by decide +kernel
theorem dX1_lookAtOffers_33 : decode cX1_lookAtOffers 33 = .ok (.iconst 5, 1) := by decide +kernel
theorem dX1_lookAtOffers_34 : decode cX1_lookAtOffers 34 = .ok (.iaload, 1) := by decide +kernel
theorem dX1_lookAtOffers_35 : decode cX1_lookAtOffers 35 = .ok (.imul, 1) := by decide +kernel
theorem dX1_lookAtOffers_36 : decode cX1_lookAtOffers 36 = .ok (.iastore, 1) := by decide +kernel
theorem dX1_lookAtOffers_37 : decode cX1_lookAtOffers 37 = .ok (.aload_n 0, 1) := by decide +kernel
theorem dX1_lookAtOffers_38 : decode cX1_lookAtOffers 38 = .ok (.getfield 23, 3) := by decide +kernel
theorem dX1_lookAtOffers_41 : decode cX1_lookAtOffers 41 = .ok (.iload_n 2, 1) := by decide +kernel
theorem dX1_lookAtOffers_42 : decode cX1_lookAtOffers 42 = .ok (.aaload, 1) := by decide +kernel
theorem dX1_lookAtOffers_43 : decode cX1_lookAtOffers 43 = .ok (.iload_n 3, 1) := by decide +kernel
theorem dX1_lookAtOffers_44 : decode cX1_lookAtOffers 44 = .ok (.aload_n 0, 1) := by decide +kernel
theorem dX1_lookAtOffers_45 : decode cX1_lookAtOffers 45 = .ok (.invokevirtual 55, 3) := by decide +kernel
theorem dX1_lookAtOffers_48 : decode cX1_lookAtOffers 48 = .ok (.iastore, 1) := by decide +kernel
theorem dX1_lookAtOffers_49 : decode cX1_lookAtOffers 49 = .ok (.aload_n 0, 1) := by decide +kernel
theorem dX1_lookAtOffers_50 : decode cX1_lookAtOffers 50 = .ok (.getfield 26, 3) := by decide +kernel
theorem dX1_lookAtOffers_53 : decode cX1_lookAtOffers 53 = .ok (.iload_n 2, 1) := by decide +kernel
theorem dX1_lookAtOffers_54 : decode cX1_lookAtOffers 54 = .ok (.aaload, 1) := by decide +kernel
theorem dX1_lookAtOffers_55 : decode cX1_lookAtOffers 55 = .ok (.iload_n 3, 1) := by decide +kernel
theorem dX1_lookAtOffers_56 : decode cX1_lookAtOffers 56 = .ok (.aload_n 0, 1) := by decide +kernel
theorem dX1_lookAtOffers_57 : decode cX1_lookAtOffers 57 = .ok (.getfield 33, 3) := by decide +kernel
theorem dX1_lookAtOffers_60 : decode cX1_lookAtOffers 60 = .ok (.invokevirtual 82, 3) := by decide +kernel
theorem dX1_lookAtOffers_63 : decode cX1_lookAtOffers 63 = .ok (.iastore, 1) := by decide +kernel
theorem dX1_lookAtOffers_64 : decode cX1_lookAtOffers 64 = .ok (.iinc 3 1, 3) := by decide +kernel
theorem dX1_lookAtOffers_67 : decode cX1_lookAtOffers 67 = .ok (.goto (-56), 3) := by decide +kernel
theorem dX1_lookAtOffers_70 : decode cX1_lookAtOffers 70 = .ok (.return_, 1) := by decide +kernel
set_option maxHeartbeats 4000000 in
set_option maxRecDepth 100000 in
theorem x_X1_lookAtOffers_11 {p : Program} {l : Launch} {e : Env} {s : State} {m : MethodId} {args : Array Value} {below : List Frame} {meth : Method} {c : Code} {D : va_G} {K : Nat → ClassId} {A : Nat → Prop} {ad la : Nat → Nat} {rest : va_W} (C : xC p s m args meth c D K A RX1 cX1_lookAtOffers 4 none) (z : Unit × xS) : ∀ (n : Nat) (y2 : Int32) (y3 : Int32) (σ : xS), F_X1_lookAtOffers_11  n y2 y3 σ = some z → X p l e (xR 5 120) s m args below meth c D A 4 (xQv below D K A args s (CW K ad la rest z.2)) 0 0 11 [(0, .ref (ad 89)), (2, .int y2), (3, .int y3)] [] (CW K ad la rest σ) := by
  intro n
  induction n with
  | zero =>
    intro y2 y3 σ hF
    cases hF
  | succ n ih =>
    intro y2 y3 σ hF
    rw [F_X1_lookAtOffers_11] at hF
    refine x_iload_n C 2 3 dX1_lookAtOffers_11 rfl rfl ?_
    refine x_bipush C 21 dX1_lookAtOffers_12 (by decide +kernel) ?_
    refine x_icmp_ge C 70 dX1_lookAtOffers_14 (by decide) hF (fun hF => ?_) (fun hF => ?_)
    · exact x_vret C dX1_lookAtOffers_70 rfl (congrArg (fun q9 : Unit × xS => CW K ad la rest q9.2) (Option.some.inj hF))
    · refine x_aload_n C 0 0 dX1_lookAtOffers_17 rfl rfl ?_
      refine x_get C 89 dX1_lookAtOffers_18 fl_X1_33 (CW_89 K ad la rest σ) rfl ?_
      refine x_get C 44 dX1_lookAtOffers_21 fl_X1_62 (CW_44 K ad la rest σ) rfl ?_
      refine x_iconst C 4 dX1_lookAtOffers_24 (by decide +kernel) ?_
      refine x_iload_n C 2 3 dX1_lookAtOffers_25 rfl rfl ?_
      refine x_aload_n C 0 0 dX1_lookAtOffers_26 rfl rfl ?_
      refine x_get C 89 dX1_lookAtOffers_27 fl_X1_29 (CW_89 K ad la rest σ) rfl ?_
      refine x_get C 5 dX1_lookAtOffers_30 fl_X1_71 (CW_5 K ad la rest σ) rfl ?_
      refine x_iconst C 5 dX1_lookAtOffers_33 (by decide +kernel) ?_
      refine x_iald C 38 dX1_lookAtOffers_34 (CW_38 K ad la rest σ) hF (fun v3 hF => ?_)
      refine x_imul C dX1_lookAtOffers_35 ?_
      refine x_iast C 45 dX1_lookAtOffers_36 (CW_45 K ad la rest σ) hF (CW_s45 K ad la rest σ _) (fun hF => ?_)
      refine x_st (wf := CW K ad la rest) hF (fun σ4 hF => ?_)
      refine x_aload_n C 0 0 dX1_lookAtOffers_37 rfl rfl ?_
      refine x_get C 89 dX1_lookAtOffers_38 fl_X1_23 (CW_89 K ad la rest σ4) rfl ?_
      refine x_iload_n C 1 2 dX1_lookAtOffers_41 rfl rfl ?_
      refine x_aald C (t0 := 4) 93 dX1_lookAtOffers_42 (CW_93 K ad la rest σ4) rfl rfl hF (fun hF hj5 => ?_)
      refine x_if_cast (st2 := [.ref (ad (94 + y2.toNatClampNeg))]) rfl ?_
      refine x_iload_n C 2 3 dX1_lookAtOffers_43 rfl rfl ?_
      refine x_aload_n C 0 0 dX1_lookAtOffers_44 rfl rfl ?_
      refine x_callVI C (wf := CW K ad la rest) (As := []) (rest := [.int y3, .ref (ad (94 + y2.toNatClampNeg))]) dX1_lookAtOffers_45 ml_X1_55 rfl rfl (Nat.le_of_ble_eq_true rfl) 89 (CW_89 K ad la rest σ4) rfl ⟨Nat.le_of_ble_eq_true rfl, Nat.le_of_ble_eq_true rfl⟩ ⟨Nat.zero_le _, Nat.zero_le _⟩ (fun q9 hq9 => c_X1_gain l D K ad la rest σ4 q9 hq9) hF (fun v7 σ6 hF => ?_)
      refine x_iast C (94 + y2.toNatClampNeg) dX1_lookAtOffers_48 (CW_i93 K ad la rest σ6 (y2.toNatClampNeg) hj5) hF (CW_is93 K ad la rest σ6 _ (y2.toNatClampNeg) hj5) (fun hF => ?_)
      refine x_st (wf := CW K ad la rest) hF (fun σ8 hF => ?_)
      refine x_aload_n C 0 0 dX1_lookAtOffers_49 rfl rfl ?_
      refine x_get C 89 dX1_lookAtOffers_50 fl_X1_26 (CW_89 K ad la rest σ8) rfl ?_
      refine x_iload_n C 1 2 dX1_lookAtOffers_53 rfl rfl ?_
      refine x_aald C (t0 := 4) 96 dX1_lookAtOffers_54 (CW_96 K ad la rest σ8) rfl rfl hF (fun hF hj9 => ?_)
      refine x_if_cast (st2 := [.ref (ad (97 + y2.toNatClampNeg))]) rfl ?_
      refine x_iload_n C 2 3 dX1_lookAtOffers_55 rfl rfl ?_
      refine x_aload_n C 0 0 dX1_lookAtOffers_56 rfl rfl ?_
      refine x_get C 89 dX1_lookAtOffers_57 fl_X1_33 (CW_89 K ad la rest σ8) rfl ?_
      refine x_callVI C (wf := CW K ad la rest) (As := []) (rest := [.int y3, .ref (ad (97 + y2.toNatClampNeg))]) dX1_lookAtOffers_60 ml_X1_82 rfl rfl (Nat.le_of_ble_eq_true rfl) 44 (CW_44 K ad la rest σ8) rfl ⟨Nat.le_of_ble_eq_true rfl, Nat.le_of_ble_eq_true rfl⟩ ⟨Nat.zero_le _, Nat.zero_le _⟩ (fun q9 hq9 => c_X0_sells l D K ad la rest σ8 q9 hq9) hF (fun v11 σ10 hF => ?_)
      refine x_iast C (97 + y2.toNatClampNeg) dX1_lookAtOffers_63 (CW_i96 K ad la rest σ10 (y2.toNatClampNeg) hj9) hF (CW_is96 K ad la rest σ10 _ (y2.toNatClampNeg) hj9) (fun hF => ?_)
      refine x_st (wf := CW K ad la rest) hF (fun σ12 hF => ?_)
      refine x_iincN C 1 2 (fun x13 => [(3, .int x13), (0, .ref (ad 89)), (2, .int y2)]) dX1_lookAtOffers_64 rfl (by decide +kernel) (by decide) (fun _ => rfl) hF (fun x13 hF => ?_)
      refine x_goto C 11 dX1_lookAtOffers_67 (by decide) ?_
      refine x_loc [(0, .ref (ad 89)), (2, .int y2), (3, .int x13)] [1, 2, 0] rfl ?_
      exact ih y2 x13 σ12 hF
set_option maxHeartbeats 4000000 in
set_option maxRecDepth 100000 in
theorem c_X1_lookAtOffers (l : Launch) (D : va_G) (K : Nat → ClassId) (ad la : Nat → Nat) (rest : va_W)  (a1 : Int32) (a2 : Int32) (σ : xS) (z : Unit × xS) (hF : F_X1_lookAtOffers a1 a2 σ = some z) : CV l D K yX1_lookAtOffers cX1_lookAtOffers 4 none 5 120 [.ref (ad 89), .int a1, .int a2] (CW K ad la rest σ) (CW K ad la rest z.2) := by
  refine x_enterV [(0, .ref (ad 89)), (1, .int a1), (2, .int a2)] pnX1 (Nat.le_of_ble_eq_true rfl) rfl ?_
  intro p e s m args below meth c A C
  unfold F_X1_lookAtOffers at hF
  refine x_aload_n C 0 0 dX1_lookAtOffers_0 rfl rfl ?_
  refine x_get C 89 dX1_lookAtOffers_1 fl_X1_33 (CW_89 K ad la rest σ) rfl ?_
  refine x_iload_n C 1 1 dX1_lookAtOffers_4 rfl rfl ?_
  refine x_iconst C 0 dX1_lookAtOffers_5 (by decide +kernel) ?_
  refine x_callVV C (wf := CW K ad la rest) (As := [.int a1, .int 0]) (rest := []) dX1_lookAtOffers_6 ml_X1_49 rfl rfl (Nat.le_of_ble_eq_true rfl) 44 (CW_44 K ad la rest σ) rfl ⟨Nat.le_of_ble_eq_true rfl, Nat.le_of_ble_eq_true rfl⟩ ⟨Nat.zero_le _, Nat.zero_le _⟩ (fun q9 hq9 => c_X0_about l D K ad la rest a1 0 σ q9 hq9) hF (fun _ σ1 hF => ?_)
  refine x_iconst C 0 dX1_lookAtOffers_9 (by decide +kernel) ?_
  refine x_topI hF (fun x2 hF => ?_)
  refine x_istore_n C [(3, .int x2), (0, .ref (ad 89)), (1, .int a1), (2, .int a2)] dX1_lookAtOffers_10 rfl (by decide) rfl ?_
  refine x_loc [(0, .ref (ad 89)), (2, .int a2), (3, .int x2)] [1, 3, 0] rfl ?_
  exact x_X1_lookAtOffers_11 C z FU a2 x2 σ1 hF
theorem dX1_offer_0 : decode cX1_offer 0 = .ok (.aload_n 0, 1) := by decide +kernel
theorem dX1_offer_1 : decode cX1_offer 1 = .ok (.getfield 9, 3) := by decide +kernel
theorem dX1_offer_4 : decode cX1_offer 4 = .ok (.iload_n 1, 1) := by decide +kernel
theorem dX1_offer_5 : decode cX1_offer 5 = .ok (.iload_n 3, 1) := by decide +kernel
theorem dX1_offer_6 : decode cX1_offer 6 = .ok (.aload_n 0, 1) := by decide +kernel
theorem dX1_offer_7 : decode cX1_offer 7 = .ok (.getfield 29, 3) := by decide +kernel
theorem dX1_offer_10 : decode cX1_offer 10 = .ok (.getfield 71, 3) := by decide +kernel
theorem dX1_offer_13 : decode cX1_offer 13 = .ok (.iconst 5, 1) := by decide +kernel
theorem dX1_offer_14 : decode cX1_offer 14 = .ok (.iaload, 1) := by decide +kernel
theorem dX1_offer_15 : decode cX1_offer 15 = .ok (.imul, 1) := by decide +kernel
theorem dX1_offer_16 : decode cX1_offer 16 = .ok (.iastore, 1) := by decide +kernel
theorem dX1_offer_17 : decode cX1_offer 17 = .ok (.aload_n 0, 1) := by decide +kernel
theorem dX1_offer_18 : decode cX1_offer 18 = .ok (.getfield 15, 3) := by decide +kernel
theorem dX1_offer_21 : decode cX1_offer 21 = .ok (.iload_n 1, 1) := by decide +kernel
theorem dX1_offer_22 : decode cX1_offer 22 = .ok (.aload_n 0, 1) := by decide +kernel
theorem dX1_offer_23 : decode cX1_offer 23 = .ok (.getfield 23, 3) := by decide +kernel
theorem dX1_offer_26 : decode cX1_offer 26 = .ok (.iload_n 2, 1) := by decide +kernel
theorem dX1_offer_27 : decode cX1_offer 27 = .ok (.aaload, 1) := by decide +kernel
theorem dX1_offer_28 : decode cX1_offer 28 = .ok (.iload_n 3, 1) := by decide +kernel
theorem dX1_offer_29 : decode cX1_offer 29 = .ok (.iaload, 1) := by decide +kernel
theorem dX1_offer_30 : decode cX1_offer 30 = .ok (.iastore, 1) := by decide +kernel
theorem dX1_offer_31 : decode cX1_offer 31 = .ok (.aload_n 0, 1) := by decide +kernel
theorem dX1_offer_32 : decode cX1_offer 32 = .ok (.getfield 18, 3) := by decide +kernel
theorem dX1_offer_35 : decode cX1_offer 35 = .ok (.iload_n 1, 1) := by decide +kernel
theorem dX1_offer_36 : decode cX1_offer 36 = .ok (.aload_n 0, 1) := by decide +kernel
theorem dX1_offer_37 : decode cX1_offer 37 = .ok (.getfield 26, 3) := by decide +kernel
theorem dX1_offer_40 : decode cX1_offer 40 = .ok (.iload_n 2, 1) := by decide +kernel
theorem dX1_offer_41 : decode cX1_offer 41 = .ok (.aaload, 1) := by decide +kernel
theorem dX1_offer_42 : decode cX1_offer 42 = .ok (.iload_n 3, 1) := by decide +kernel
theorem dX1_offer_43 : decode cX1_offer 43 = .ok (.iaload, 1) := by decide +kernel
theorem dX1_offer_44 : decode cX1_offer 44 = .ok (.iastore, 1) := by decide +kernel
theorem dX1_offer_45 : decode cX1_offer 45 = .ok (.return_, 1) := by decide +kernel
set_option maxHeartbeats 4000000 in
set_option maxRecDepth 100000 in
theorem c_X1_offer (l : Launch) (D : va_G) (K : Nat → ClassId) (ad la : Nat → Nat) (rest : va_W)  (a1 : Int32) (a2 : Int32) (a3 : Int32) (σ : xS) (z : Unit × xS) (hF : F_X1_offer a1 a2 a3 σ = some z) : CV l D K yX1_offer cX1_offer 4 none 0 0 [.ref (ad 89), .int a1, .int a2, .int a3] (CW K ad la rest σ) (CW K ad la rest z.2) := by
  refine x_enterV [(0, .ref (ad 89)), (1, .int a1), (2, .int a2), (3, .int a3)] pnX1 (Nat.le_of_ble_eq_true rfl) rfl ?_
  intro p e s m args below meth c A C
  unfold F_X1_offer at hF
  refine x_aload_n C 0 0 dX1_offer_0 rfl rfl ?_
  refine x_get C 89 dX1_offer_1 fl_X1_9 (CW_89 K ad la rest σ) rfl ?_
  refine x_iload_n C 1 1 dX1_offer_4 rfl rfl ?_
  refine x_iload_n C 3 3 dX1_offer_5 rfl rfl ?_
  refine x_aload_n C 0 0 dX1_offer_6 rfl rfl ?_
  refine x_get C 89 dX1_offer_7 fl_X1_29 (CW_89 K ad la rest σ) rfl ?_
  refine x_get C 5 dX1_offer_10 fl_X1_71 (CW_5 K ad la rest σ) rfl ?_
  refine x_iconst C 5 dX1_offer_13 (by decide +kernel) ?_
  refine x_iald C 38 dX1_offer_14 (CW_38 K ad la rest σ) hF (fun v1 hF => ?_)
  refine x_imul C dX1_offer_15 ?_
  refine x_iast C 90 dX1_offer_16 (CW_90 K ad la rest σ) hF (CW_s90 K ad la rest σ _) (fun hF => ?_)
  refine x_st (wf := CW K ad la rest) hF (fun σ2 hF => ?_)
  refine x_aload_n C 0 0 dX1_offer_17 rfl rfl ?_
  refine x_get C 89 dX1_offer_18 fl_X1_15 (CW_89 K ad la rest σ2) rfl ?_
  refine x_iload_n C 1 1 dX1_offer_21 rfl rfl ?_
  refine x_aload_n C 0 0 dX1_offer_22 rfl rfl ?_
  refine x_get C 89 dX1_offer_23 fl_X1_23 (CW_89 K ad la rest σ2) rfl ?_
  refine x_iload_n C 2 2 dX1_offer_26 rfl rfl ?_
  refine x_aald C (t0 := 4) 93 dX1_offer_27 (CW_93 K ad la rest σ2) rfl rfl hF (fun hF hj3 => ?_)
  refine x_if_cast (st2 := [.ref (ad (94 + a2.toNatClampNeg)), .int a1, .ref (ad 91)]) rfl ?_
  refine x_iload_n C 3 3 dX1_offer_28 rfl rfl ?_
  refine x_iald C (94 + a2.toNatClampNeg) dX1_offer_29 (CW_i93 K ad la rest σ2 (a2.toNatClampNeg) hj3) hF (fun v4 hF => ?_)
  refine x_iast C 91 dX1_offer_30 (CW_91 K ad la rest σ2) hF (CW_s91 K ad la rest σ2 _) (fun hF => ?_)
  refine x_st (wf := CW K ad la rest) hF (fun σ5 hF => ?_)
  refine x_aload_n C 0 0 dX1_offer_31 rfl rfl ?_
  refine x_get C 89 dX1_offer_32 fl_X1_18 (CW_89 K ad la rest σ5) rfl ?_
  refine x_iload_n C 1 1 dX1_offer_35 rfl rfl ?_
  refine x_aload_n C 0 0 dX1_offer_36 rfl rfl ?_
  refine x_get C 89 dX1_offer_37 fl_X1_26 (CW_89 K ad la rest σ5) rfl ?_
  refine x_iload_n C 2 2 dX1_offer_40 rfl rfl ?_
  refine x_aald C (t0 := 4) 96 dX1_offer_41 (CW_96 K ad la rest σ5) rfl rfl hF (fun hF hj6 => ?_)
  refine x_if_cast (st2 := [.ref (ad (97 + a2.toNatClampNeg)), .int a1, .ref (ad 92)]) rfl ?_
  refine x_iload_n C 3 3 dX1_offer_42 rfl rfl ?_
  refine x_iald C (97 + a2.toNatClampNeg) dX1_offer_43 (CW_i96 K ad la rest σ5 (a2.toNatClampNeg) hj6) hF (fun v7 hF => ?_)
  refine x_iast C 92 dX1_offer_44 (CW_92 K ad la rest σ5) hF (CW_s92 K ad la rest σ5 _) (fun hF => ?_)
  refine x_st (wf := CW K ad la rest) hF (fun σ8 hF => ?_)
  exact x_vret C dX1_offer_45 rfl (congrArg (fun q9 : Unit × xS => CW K ad la rest q9.2) (Option.some.inj hF))
theorem dX1_bestBait_0 : decode cX1_bestBait 0 = .ok (.aload_n 0, 1) := by decide +kernel
theorem dX1_bestBait_1 : decode cX1_bestBait 1 = .ok (.invokevirtual 85, 3) := by decide +kernel
theorem dX1_bestBait_4 : decode cX1_bestBait 4 = .ok (.aload_n 0, 1) := by decide +kernel
theorem dX1_bestBait_5 : decode cX1_bestBait 5 = .ok (.iload_n 1, 1) := by decide +kernel
theorem dX1_bestBait_6 : decode cX1_bestBait 6 = .ok (.iconst 0, 1) := by decide +kernel
theorem dX1_bestBait_7 : decode cX1_bestBait 7 = .ok (.invokevirtual 88, 3) := by decide +kernel
theorem dX1_bestBait_10 : decode cX1_bestBait 10 = .ok (.aload_n 0, 1) := by decide +kernel
theorem dX1_bestBait_11 : decode cX1_bestBait 11 = .ok (.iload_n 2, 1) := by decide +kernel
theorem dX1_bestBait_12 : decode cX1_bestBait 12 = .ok (.iconst 1, 1) := by decide +kernel
theorem dX1_bestBait_13 : decode cX1_bestBait 13 = .ok (.invokevirtual 88, 3) := by decide +kernel
theorem dX1_bestBait_16 : decode cX1_bestBait 16 = .ok (.aload_n 0, 1) := by decide +kernel
theorem dX1_bestBait_17 : decode cX1_bestBait 17 = .ok (.iconst (-1), 1) := by decide +kernel
theorem dX1_bestBait_18 : decode cX1_bestBait 18 = .ok (.putfield 91, 3) := by decide +kernel
theorem dX1_bestBait_21 : decode cX1_bestBait 21 = .ok (.iconst 0, 1) := by decide +kernel
theorem dX1_bestBait_22 : decode cX1_bestBait 22 = .ok (.istore_n 3, 1) := by decide +kernel
theorem dX1_bestBait_23 : decode cX1_bestBait 23 = .ok (.iload_n 3, 1) := by decide +kernel
theorem dX1_bestBait_24 : decode cX1_bestBait 24 = .ok (.bipush 21, 2) := by decide +kernel
theorem dX1_bestBait_26 : decode cX1_bestBait 26 = .ok (.if_icmp .ge 81, 3) := by decide +kernel
theorem dX1_bestBait_29 : decode cX1_bestBait 29 = .ok (.aload_n 0, 1) := by decide +kernel
theorem dX1_bestBait_30 : decode cX1_bestBait 30 = .ok (.iload_n 1, 1) := by decide +kernel
theorem dX1_bestBait_31 : decode cX1_bestBait 31 = .ok (.iconst 0, 1) := by decide +kernel
theorem dX1_bestBait_32 : decode cX1_bestBait 32 = .ok (.iload_n 3, 1) := by decide +kernel
theorem dX1_bestBait_33 : decode cX1_bestBait 33 = .ok (.invokevirtual 94, 3) := by decide +kernel
theorem dX1_bestBait_36 : decode cX1_bestBait 36 = .ok (.iconst 0, 1) := by decide +kernel
theorem dX1_bestBait_37 : decode cX1_bestBait 37 = .ok (.istore 4, 2) := by decide +kernel
theorem dX1_bestBait_39 : decode cX1_bestBait 39 = .ok (.iload 4, 2) := by decide +kernel
theorem dX1_bestBait_41 : decode cX1_bestBait 41 = .ok (.bipush 21, 2) := by decide +kernel
theorem dX1_bestBait_43 : decode cX1_bestBait 43 = .ok (.if_icmp .ge 58, 3) := by decide +kernel
theorem dX1_bestBait_46 : decode cX1_bestBait 46 = .ok (.aload_n 0, 1) := by decide +kernel
theorem dX1_bestBait_47 : decode cX1_bestBait 47 = .ok (.iload_n 2, 1) := by decide +kernel
theorem dX1_bestBait_48 : decode cX1_bestBait 48 = .ok (.iconst 1, 1) := by decide +kernel
theorem dX1_bestBait_49 : decode cX1_bestBait 49 = .ok (.iload 4, 2) := by decide +kernel
theorem dX1_bestBait_51 : decode cX1_bestBait 51 = .ok (.invokevirtual 94, 3) := by decide +kernel
theorem dX1_bestBait_54 : decode cX1_bestBait 54 = .ok (.aload_n 0, 1) := by decide +kernel
theorem dX1_bestBait_55 : decode cX1_bestBait 55 = .ok (.invokevirtual 98, 3) := by decide +kernel
theorem dX1_bestBait_58 : decode cX1_bestBait 58 = .ok (.istore 5, 2) := by decide +kernel
theorem dX1_bestBait_60 : decode cX1_bestBait 60 = .ok (.iload 5, 2) := by decide +kernel
theorem dX1_bestBait_62 : decode cX1_bestBait 62 = .ok (.aload_n 0, 1) := by decide +kernel
theorem dX1_bestBait_63 : decode cX1_bestBait 63 = .ok (.getfield 91, 3) := by decide +kernel
theorem dX1_bestBait_66 : decode cX1_bestBait 66 = .ok (.if_icmp .le 29, 3) := by decide +kernel
theorem dX1_bestBait_69 : decode cX1_bestBait 69 = .ok (.aload_n 0, 1) := by decide +kernel
theorem dX1_bestBait_70 : decode cX1_bestBait 70 = .ok (.aload_n 0, 1) := by decide +kernel
theorem dX1_bestBait_71 : decode cX1_bestBait 71 = .ok (.getfield 9, 3) := by decide +kernel
theorem dX1_bestBait_74 : decode cX1_bestBait 74 = .ok (.iload_n 1, 1) := by decide +kernel
theorem dX1_bestBait_75 : decode cX1_bestBait 75 = .ok (.iaload, 1) := by decide +kernel
theorem dX1_bestBait_76 : decode cX1_bestBait 76 = .ok (.putfield 101, 3) := by decide +kernel
theorem dX1_bestBait_79 : decode cX1_bestBait 79 = .ok (.aload_n 0, 1) := by decide +kernel
theorem dX1_bestBait_80 : decode cX1_bestBait 80 = .ok (.aload_n 0, 1) := by decide +kernel
theorem dX1_bestBait_81 : decode cX1_bestBait 81 = .ok (.getfield 9, 3) := by decide +kernel
theorem dX1_bestBait_84 : decode cX1_bestBait 84 = .ok (.iload_n 2, 1) := by decide +kernel
theorem dX1_bestBait_85 : decode cX1_bestBait 85 = .ok (.iaload, 1) := by decide +kernel
theorem dX1_bestBait_86 : decode cX1_bestBait 86 = .ok (.putfield 104, 3) := by decide +kernel
theorem dX1_bestBait_89 : decode cX1_bestBait 89 = .ok (.aload_n 0, 1) := by decide +kernel
theorem dX1_bestBait_90 : decode cX1_bestBait 90 = .ok (.iload 5, 2) := by decide +kernel
theorem dX1_bestBait_92 : decode cX1_bestBait 92 = .ok (.putfield 91, 3) := by decide +kernel
theorem dX1_bestBait_95 : decode cX1_bestBait 95 = .ok (.iinc 4 1, 3) := by decide +kernel
theorem dX1_bestBait_98 : decode cX1_bestBait 98 = .ok (.goto (-59), 3) := by decide +kernel
theorem dX1_bestBait_101 : decode cX1_bestBait 101 = .ok (.iinc 3 1, 3) := by decide +kernel
theorem dX1_bestBait_104 : decode cX1_bestBait 104 = .ok (.goto (-81), 3) := by decide +kernel
theorem dX1_bestBait_107 : decode cX1_bestBait 107 = .ok (.return_, 1) := by decide +kernel
set_option maxHeartbeats 4000000 in
set_option maxRecDepth 100000 in
theorem x_X1_bestBait_39 {p : Program} {l : Launch} {e : Env} {s : State} {m : MethodId} {args : Array Value} {below : List Frame} {meth : Method} {c : Code} {D : va_G} {K : Nat → ClassId} {A : Nat → Prop} {ad la : Nat → Nat} {rest : va_W} (C : xC p s m args meth c D K A RX1 cX1_bestBait 6 none) (z : Unit × xS) (k_23 : Int32 → Int32 → Int32 → xS → Option (Unit × xS)) (H_23 : ∀ (y1 : Int32) (y2 : Int32) (y3 : Int32) (σ : xS), k_23 y1 y2 y3 σ = some z → X p l e (xR 6 143) s m args below meth c D A 6 (xQv below D K A args s (CW K ad la rest z.2)) 0 0 23 [(0, .ref (ad 89)), (1, .int y1), (2, .int y2), (3, .int y3)] [] (CW K ad la rest σ)) : ∀ (n : Nat) (y1 : Int32) (y2 : Int32) (y3 : Int32) (y4 : Int32) (σ : xS), F_X1_bestBait_39 k_23 n y1 y2 y3 y4 σ = some z → X p l e (xR 6 143) s m args below meth c D A 6 (xQv below D K A args s (CW K ad la rest z.2)) 0 0 39 [(0, .ref (ad 89)), (1, .int y1), (2, .int y2), (3, .int y3), (4, .int y4)] [] (CW K ad la rest σ) := by
  intro n
  induction n with
  | zero =>
    intro y1 y2 y3 y4 σ hF
    cases hF
  | succ n ih =>
    intro y1 y2 y3 y4 σ hF
    rw [F_X1_bestBait_39] at hF
    refine x_iload C 4 4 dX1_bestBait_39 rfl ?_
    refine x_bipush C 21 dX1_bestBait_41 (by decide +kernel) ?_
    refine x_icmp_ge C 101 dX1_bestBait_43 (by decide) hF (fun hF => ?_) (fun hF => ?_)
    · refine x_iincN C 1 3 (fun x8 => [(3, .int x8), (0, .ref (ad 89)), (1, .int y1), (2, .int y2), (4, .int y4)]) dX1_bestBait_101 rfl (by decide +kernel) (by decide) (fun _ => rfl) hF (fun x8 hF => ?_)
      refine x_goto C 23 dX1_bestBait_104 (by decide) ?_
      refine x_loc [(0, .ref (ad 89)), (1, .int y1), (2, .int y2), (3, .int x8)] [1, 2, 3, 0] rfl ?_
      exact H_23 y1 y2 x8 σ hF
    · refine x_aload_n C 0 0 dX1_bestBait_46 rfl rfl ?_
      refine x_iload_n C 2 2 dX1_bestBait_47 rfl rfl ?_
      refine x_iconst C 1 dX1_bestBait_48 (by decide +kernel) ?_
      refine x_iload C 4 4 dX1_bestBait_49 rfl ?_
      refine x_callVV C (wf := CW K ad la rest) (As := [.int y2, .int 1, .int y4]) (rest := []) dX1_bestBait_51 ml_X1_94 rfl rfl (Nat.le_of_ble_eq_true rfl) 89 (CW_89 K ad la rest σ) rfl ⟨Nat.le_of_ble_eq_true rfl, Nat.le_of_ble_eq_true rfl⟩ ⟨Nat.zero_le _, Nat.zero_le _⟩ (fun q9 hq9 => c_X1_offer l D K ad la rest y2 1 y4 σ q9 hq9) hF (fun _ σ9 hF => ?_)
      refine x_aload_n C 0 0 dX1_bestBait_54 rfl rfl ?_
      refine x_callVI C (wf := CW K ad la rest) (As := []) (rest := []) dX1_bestBait_55 ml_X1_98 rfl rfl (Nat.le_of_ble_eq_true rfl) 89 (CW_89 K ad la rest σ9) rfl ⟨Nat.le_of_ble_eq_true rfl, Nat.le_of_ble_eq_true rfl⟩ ⟨Nat.zero_le _, Nat.zero_le _⟩ (fun q9 hq9 => c_X1_broughtTogether l D K ad la rest σ9 q9 hq9) hF (fun v11 σ10 hF => ?_)
      refine x_istore C [(5, .int v11), (0, .ref (ad 89)), (1, .int y1), (2, .int y2), (3, .int y3), (4, .int y4)] dX1_bestBait_58 (by decide) rfl ?_
      refine x_iload C 0 5 dX1_bestBait_60 rfl ?_
      refine x_aload_n C 1 0 dX1_bestBait_62 rfl rfl ?_
      refine x_get C 89 dX1_bestBait_63 fl_X1_91 (CW_89 K ad la rest σ10) rfl ?_
      refine x_icmp_le C 95 dX1_bestBait_66 (by decide) hF (fun hF => ?_) (fun hF => ?_)
      · refine x_iincN C 1 5 (fun x12 => [(4, .int x12), (5, .int v11), (0, .ref (ad 89)), (1, .int y1), (2, .int y2), (3, .int y3)]) dX1_bestBait_95 rfl (by decide +kernel) (by decide) (fun _ => rfl) hF (fun x12 hF => ?_)
        refine x_goto C 39 dX1_bestBait_98 (by decide) ?_
        refine x_loc [(0, .ref (ad 89)), (1, .int y1), (2, .int y2), (3, .int y3), (4, .int x12)] [2, 3, 4, 5, 0] rfl ?_
        exact ih y1 y2 y3 x12 σ10 hF
      · refine x_aload_n C 1 0 dX1_bestBait_69 rfl rfl ?_
        refine x_aload_n C 1 0 dX1_bestBait_70 rfl rfl ?_
        refine x_get C 89 dX1_bestBait_71 fl_X1_9 (CW_89 K ad la rest σ10) rfl ?_
        refine x_iload_n C 2 1 dX1_bestBait_74 rfl rfl ?_
        refine x_iald C 90 dX1_bestBait_75 (CW_90 K ad la rest σ10) hF (fun v13 hF => ?_)
        refine x_put C 89 dX1_bestBait_76 fl_X1_101 fm_X1_7 rfl rfl (CW_89 K ad la rest σ10) (Nat.le_of_ble_eq_true rfl) (CW_s89_7 K ad la rest σ10 _) ?_
        refine x_st (wf := CW K ad la rest) hF (fun σ14 hF => ?_)
        refine x_aload_n C 1 0 dX1_bestBait_79 rfl rfl ?_
        refine x_aload_n C 1 0 dX1_bestBait_80 rfl rfl ?_
        refine x_get C 89 dX1_bestBait_81 fl_X1_9 (CW_89 K ad la rest σ14) rfl ?_
        refine x_iload_n C 3 2 dX1_bestBait_84 rfl rfl ?_
        refine x_iald C 90 dX1_bestBait_85 (CW_90 K ad la rest σ14) hF (fun v15 hF => ?_)
        refine x_put C 89 dX1_bestBait_86 fl_X1_104 fm_X1_8 rfl rfl (CW_89 K ad la rest σ14) (Nat.le_of_ble_eq_true rfl) (CW_s89_8 K ad la rest σ14 _) ?_
        refine x_st (wf := CW K ad la rest) hF (fun σ16 hF => ?_)
        refine x_aload_n C 1 0 dX1_bestBait_89 rfl rfl ?_
        refine x_iload C 0 5 dX1_bestBait_90 rfl ?_
        refine x_put C 89 dX1_bestBait_92 fl_X1_91 fm_X1_9 rfl rfl (CW_89 K ad la rest σ16) (Nat.le_of_ble_eq_true rfl) (CW_s89_9 K ad la rest σ16 _) ?_
        refine x_st (wf := CW K ad la rest) hF (fun σ17 hF => ?_)
        refine x_iincN C 1 5 (fun x18 => [(4, .int x18), (5, .int v11), (0, .ref (ad 89)), (1, .int y1), (2, .int y2), (3, .int y3)]) dX1_bestBait_95 rfl (by decide +kernel) (by decide) (fun _ => rfl) hF (fun x18 hF => ?_)
        refine x_goto C 39 dX1_bestBait_98 (by decide) ?_
        refine x_loc [(0, .ref (ad 89)), (1, .int y1), (2, .int y2), (3, .int y3), (4, .int x18)] [2, 3, 4, 5, 0] rfl ?_
        exact ih y1 y2 y3 x18 σ17 hF
set_option maxHeartbeats 4000000 in
set_option maxRecDepth 100000 in
theorem x_X1_bestBait_23 {p : Program} {l : Launch} {e : Env} {s : State} {m : MethodId} {args : Array Value} {below : List Frame} {meth : Method} {c : Code} {D : va_G} {K : Nat → ClassId} {A : Nat → Prop} {ad la : Nat → Nat} {rest : va_W} (C : xC p s m args meth c D K A RX1 cX1_bestBait 6 none) (z : Unit × xS) : ∀ (n : Nat) (y1 : Int32) (y2 : Int32) (y3 : Int32) (σ : xS), F_X1_bestBait_23  n y1 y2 y3 σ = some z → X p l e (xR 6 143) s m args below meth c D A 6 (xQv below D K A args s (CW K ad la rest z.2)) 0 0 23 [(0, .ref (ad 89)), (1, .int y1), (2, .int y2), (3, .int y3)] [] (CW K ad la rest σ) := by
  intro n
  induction n with
  | zero =>
    intro y1 y2 y3 σ hF
    cases hF
  | succ n ih =>
    intro y1 y2 y3 σ hF
    rw [F_X1_bestBait_23] at hF
    refine x_iload_n C 3 3 dX1_bestBait_23 rfl rfl ?_
    refine x_bipush C 21 dX1_bestBait_24 (by decide +kernel) ?_
    refine x_icmp_ge C 107 dX1_bestBait_26 (by decide) hF (fun hF => ?_) (fun hF => ?_)
    · exact x_vret C dX1_bestBait_107 rfl (congrArg (fun q9 : Unit × xS => CW K ad la rest q9.2) (Option.some.inj hF))
    · refine x_aload_n C 0 0 dX1_bestBait_29 rfl rfl ?_
      refine x_iload_n C 1 1 dX1_bestBait_30 rfl rfl ?_
      refine x_iconst C 0 dX1_bestBait_31 (by decide +kernel) ?_
      refine x_iload_n C 3 3 dX1_bestBait_32 rfl rfl ?_
      refine x_callVV C (wf := CW K ad la rest) (As := [.int y1, .int 0, .int y3]) (rest := []) dX1_bestBait_33 ml_X1_94 rfl rfl (Nat.le_of_ble_eq_true rfl) 89 (CW_89 K ad la rest σ) rfl ⟨Nat.le_of_ble_eq_true rfl, Nat.le_of_ble_eq_true rfl⟩ ⟨Nat.zero_le _, Nat.zero_le _⟩ (fun q9 hq9 => c_X1_offer l D K ad la rest y1 0 y3 σ q9 hq9) hF (fun _ σ6 hF => ?_)
      refine x_iconst C 0 dX1_bestBait_36 (by decide +kernel) ?_
      refine x_topI hF (fun x7 hF => ?_)
      refine x_istore C [(4, .int x7), (0, .ref (ad 89)), (1, .int y1), (2, .int y2), (3, .int y3)] dX1_bestBait_37 (by decide) rfl ?_
      refine x_loc [(0, .ref (ad 89)), (1, .int y1), (2, .int y2), (3, .int y3), (4, .int x7)] [1, 2, 3, 4, 0] rfl ?_
      exact x_X1_bestBait_39 C z ((F_X1_bestBait_23 n)) ih FU y1 y2 y3 x7 σ6 hF
set_option maxHeartbeats 4000000 in
set_option maxRecDepth 100000 in
theorem c_X1_bestBait (l : Launch) (D : va_G) (K : Nat → ClassId) (ad la : Nat → Nat) (rest : va_W)  (a1 : Int32) (a2 : Int32) (σ : xS) (z : Unit × xS) (hF : F_X1_bestBait a1 a2 σ = some z) : CV l D K yX1_bestBait cX1_bestBait 6 none 6 143 [.ref (ad 89), .int a1, .int a2] (CW K ad la rest σ) (CW K ad la rest z.2) := by
  refine x_enterV [(0, .ref (ad 89)), (1, .int a1), (2, .int a2)] pnX1 (Nat.le_of_ble_eq_true rfl) rfl ?_
  intro p e s m args below meth c A C
  unfold F_X1_bestBait at hF
  refine x_aload_n C 0 0 dX1_bestBait_0 rfl rfl ?_
  refine x_callVV C (wf := CW K ad la rest) (As := []) (rest := []) dX1_bestBait_1 ml_X1_85 rfl rfl (Nat.le_of_ble_eq_true rfl) 89 (CW_89 K ad la rest σ) rfl ⟨Nat.le_of_ble_eq_true rfl, Nat.le_of_ble_eq_true rfl⟩ ⟨Nat.zero_le _, Nat.zero_le _⟩ (fun q9 hq9 => c_X1_lookAtAll l D K ad la rest σ q9 hq9) hF (fun _ σ1 hF => ?_)
  refine x_aload_n C 0 0 dX1_bestBait_4 rfl rfl ?_
  refine x_iload_n C 1 1 dX1_bestBait_5 rfl rfl ?_
  refine x_iconst C 0 dX1_bestBait_6 (by decide +kernel) ?_
  refine x_callVV C (wf := CW K ad la rest) (As := [.int a1, .int 0]) (rest := []) dX1_bestBait_7 ml_X1_88 rfl rfl (Nat.le_of_ble_eq_true rfl) 89 (CW_89 K ad la rest σ1) rfl ⟨Nat.le_of_ble_eq_true rfl, Nat.le_of_ble_eq_true rfl⟩ ⟨Nat.zero_le _, Nat.zero_le _⟩ (fun q9 hq9 => c_X1_lookAtOffers l D K ad la rest a1 0 σ1 q9 hq9) hF (fun _ σ2 hF => ?_)
  refine x_aload_n C 0 0 dX1_bestBait_10 rfl rfl ?_
  refine x_iload_n C 2 2 dX1_bestBait_11 rfl rfl ?_
  refine x_iconst C 1 dX1_bestBait_12 (by decide +kernel) ?_
  refine x_callVV C (wf := CW K ad la rest) (As := [.int a2, .int 1]) (rest := []) dX1_bestBait_13 ml_X1_88 rfl rfl (Nat.le_of_ble_eq_true rfl) 89 (CW_89 K ad la rest σ2) rfl ⟨Nat.le_of_ble_eq_true rfl, Nat.le_of_ble_eq_true rfl⟩ ⟨Nat.zero_le _, Nat.zero_le _⟩ (fun q9 hq9 => c_X1_lookAtOffers l D K ad la rest a2 1 σ2 q9 hq9) hF (fun _ σ3 hF => ?_)
  refine x_aload_n C 0 0 dX1_bestBait_16 rfl rfl ?_
  refine x_iconst C (-1) dX1_bestBait_17 (by decide +kernel) ?_
  refine x_put C 89 dX1_bestBait_18 fl_X1_91 fm_X1_9 rfl rfl (CW_89 K ad la rest σ3) (Nat.le_of_ble_eq_true rfl) (CW_s89_9 K ad la rest σ3 _) ?_
  refine x_st (wf := CW K ad la rest) hF (fun σ4 hF => ?_)
  refine x_iconst C 0 dX1_bestBait_21 (by decide +kernel) ?_
  refine x_topI hF (fun x5 hF => ?_)
  refine x_istore_n C [(3, .int x5), (0, .ref (ad 89)), (1, .int a1), (2, .int a2)] dX1_bestBait_22 rfl (by decide) rfl ?_
  refine x_loc [(0, .ref (ad 89)), (1, .int a1), (2, .int a2), (3, .int x5)] [1, 2, 3, 0] rfl ?_
  exact x_X1_bestBait_23 C z FU a1 a2 x5 σ4 hF
theorem dX2_leave_0 : decode cX2_leave 0 = .ok (.aload_n 0, 1) := by decide +kernel
theorem dX2_leave_1 : decode cX2_leave 1 = .ok (.dup, 1) := by decide +kernel
theorem dX2_leave_2 : decode cX2_leave 2 = .ok (.getfield 51, 3) := by decide +kernel
theorem dX2_leave_5 : decode cX2_leave 5 = .ok (.iload_n 1, 1) := by decide +kernel
theorem dX2_leave_6 : decode cX2_leave 6 = .ok (.iconst (-1), 1) := by decide +kernel
theorem dX2_leave_7 : decode cX2_leave 7 = .ok (.ixor, 1) := by decide +kernel
theorem dX2_leave_8 : decode cX2_leave 8 = .ok (.iand, 1) := by decide +kernel
theorem dX2_leave_9 : decode cX2_leave 9 = .ok (.putfield 51, 3) := by decide +kernel
theorem dX2_leave_12 : decode cX2_leave 12 = .ok (.iconst 0, 1) := by decide +kernel
theorem dX2_leave_13 : decode cX2_leave 13 = .ok (.istore 4, 2) := by decide +kernel
theorem dX2_leave_15 : decode cX2_leave 15 = .ok (.iload 4, 2) := by decide +kernel
theorem dX2_leave_17 : decode cX2_leave 17 = .ok (.bipush 10, 2) := by decide +kernel
theorem dX2_leave_19 : decode cX2_leave 19 = .ok (.if_icmp .ge 35, 3) := by decide +kernel
theorem dX2_leave_22 : decode cX2_leave 22 = .ok (.iload_n 1, 1) := by decide +kernel
theorem dX2_leave_23 : decode cX2_leave 23 = .ok (.iload 4, 2) := by decide +kernel
theorem dX2_leave_25 : decode cX2_leave 25 = .ok (.ishr, 1) := by decide +kernel
theorem dX2_leave_26 : decode cX2_leave 26 = .ok (.iconst 1, 1) := by decide +kernel
theorem dX2_leave_27 : decode cX2_leave 27 = .ok (.iand, 1) := by decide +kernel
theorem dX2_leave_28 : decode cX2_leave 28 = .ok (.iconst 1, 1) := by decide +kernel
theorem dX2_leave_29 : decode cX2_leave 29 = .ok (.if_icmp .ne 19, 3) := by decide +kernel
theorem dX2_leave_32 : decode cX2_leave 32 = .ok (.aload_n 0, 1) := by decide +kernel
theorem dX2_leave_33 : decode cX2_leave 33 = .ok (.getfield 9, 3) := by decide +kernel
theorem dX2_leave_36 : decode cX2_leave 36 = .ok (.iload 4, 2) := by decide +kernel
theorem dX2_leave_38 : decode cX2_leave 38 = .ok (.iload_n 2, 1) := by decide +kernel
theorem dX2_leave_39 : decode cX2_leave 39 = .ok (.iastore, 1) := by decide +kernel
theorem dX2_leave_40 : decode cX2_leave 40 = .ok (.aload_n 0, 1) := by decide +kernel
theorem dX2_leave_41 : decode cX2_leave 41 = .ok (.getfield 15, 3) := by decide +kernel
theorem dX2_leave_44 : decode cX2_leave 44 = .ok (.iload 4, 2) := by decide +kernel
theorem dX2_leave_46 : decode cX2_leave 46 = .ok (.iload_n 3, 1) := by decide +kernel
theorem dX2_leave_47 : decode cX2_leave 47 = .ok (.iastore, 1) := by decide +kernel
theorem dX2_leave_48 : decode cX2_leave 48 = .ok (.iinc 4 1, 3) := by decide +kernel
theorem dX2_leave_51 : decode cX2_leave 51 = .ok (.goto (-36), 3) := by decide +kernel
theorem dX2_leave_54 : decode cX2_leave 54 = .ok (.return_, 1) := by decide +kernel
set_option maxHeartbeats 4000000 in
set_option maxRecDepth 100000 in
theorem x_X2_leave_15 {p : Program} {l : Launch} {e : Env} {s : State} {m : MethodId} {args : Array Value} {below : List Frame} {meth : Method} {c : Code} {D : va_G} {K : Nat → ClassId} {A : Nat → Prop} {ad la : Nat → Nat} {rest : va_W} (C : xC p s m args meth c D K A RX2 cX2_leave 5 none) (z : Unit × xS) : ∀ (n : Nat) (y1 : Int32) (y2 : Int32) (y3 : Int32) (y4 : Int32) (σ : xS), F_X2_leave_15  n y1 y2 y3 y4 σ = some z → X p l e (xR 0 0) s m args below meth c D A 5 (xQv below D K A args s (CW K ad la rest z.2)) 0 0 15 [(0, .ref (ad 99)), (1, .int y1), (2, .int y2), (3, .int y3), (4, .int y4)] [] (CW K ad la rest σ) := by
  intro n
  induction n with
  | zero =>
    intro y1 y2 y3 y4 σ hF
    cases hF
  | succ n ih =>
    intro y1 y2 y3 y4 σ hF
    rw [F_X2_leave_15] at hF
    refine x_iload C 4 4 dX2_leave_15 rfl ?_
    refine x_bipush C 10 dX2_leave_17 (by decide +kernel) ?_
    refine x_icmp_ge C 54 dX2_leave_19 (by decide) hF (fun hF => ?_) (fun hF => ?_)
    · exact x_vret C dX2_leave_54 rfl (congrArg (fun q9 : Unit × xS => CW K ad la rest q9.2) (Option.some.inj hF))
    · refine x_iload_n C 1 1 dX2_leave_22 rfl rfl ?_
      refine x_iload C 4 4 dX2_leave_23 rfl ?_
      refine x_ishr C dX2_leave_25 ?_
      refine x_iconst C 1 dX2_leave_26 (by decide +kernel) ?_
      refine x_iand C dX2_leave_27 ?_
      refine x_iconst C 1 dX2_leave_28 (by decide +kernel) ?_
      refine x_icmp_ne C 48 dX2_leave_29 (by decide) hF (fun hF => ?_) (fun hF => ?_)
      · refine x_iincN C 1 4 (fun x3 => [(4, .int x3), (0, .ref (ad 99)), (1, .int y1), (2, .int y2), (3, .int y3)]) dX2_leave_48 rfl (by decide +kernel) (by decide) (fun _ => rfl) hF (fun x3 hF => ?_)
        refine x_goto C 15 dX2_leave_51 (by decide) ?_
        refine x_loc [(0, .ref (ad 99)), (1, .int y1), (2, .int y2), (3, .int y3), (4, .int x3)] [1, 2, 3, 4, 0] rfl ?_
        exact ih y1 y2 y3 x3 σ hF
      · refine x_aload_n C 0 0 dX2_leave_32 rfl rfl ?_
        refine x_get C 99 dX2_leave_33 fl_X2_9 (CW_99 K ad la rest σ) rfl ?_
        refine x_iload C 4 4 dX2_leave_36 rfl ?_
        refine x_iload_n C 2 2 dX2_leave_38 rfl rfl ?_
        refine x_iast C 100 dX2_leave_39 (CW_100 K ad la rest σ) hF (CW_s100 K ad la rest σ _) (fun hF => ?_)
        refine x_st (wf := CW K ad la rest) hF (fun σ4 hF => ?_)
        refine x_aload_n C 0 0 dX2_leave_40 rfl rfl ?_
        refine x_get C 99 dX2_leave_41 fl_X2_15 (CW_99 K ad la rest σ4) rfl ?_
        refine x_iload C 4 4 dX2_leave_44 rfl ?_
        refine x_iload_n C 3 3 dX2_leave_46 rfl rfl ?_
        refine x_iast C 101 dX2_leave_47 (CW_101 K ad la rest σ4) hF (CW_s101 K ad la rest σ4 _) (fun hF => ?_)
        refine x_st (wf := CW K ad la rest) hF (fun σ5 hF => ?_)
        refine x_iincN C 1 4 (fun x6 => [(4, .int x6), (0, .ref (ad 99)), (1, .int y1), (2, .int y2), (3, .int y3)]) dX2_leave_48 rfl (by decide +kernel) (by decide) (fun _ => rfl) hF (fun x6 hF => ?_)
        refine x_goto C 15 dX2_leave_51 (by decide) ?_
        refine x_loc [(0, .ref (ad 99)), (1, .int y1), (2, .int y2), (3, .int y3), (4, .int x6)] [1, 2, 3, 4, 0] rfl ?_
        exact ih y1 y2 y3 x6 σ5 hF
set_option maxHeartbeats 4000000 in
set_option maxRecDepth 100000 in
theorem c_X2_leave (l : Launch) (D : va_G) (K : Nat → ClassId) (ad la : Nat → Nat) (rest : va_W)  (a1 : Int32) (a2 : Int32) (a3 : Int32) (σ : xS) (z : Unit × xS) (hF : F_X2_leave a1 a2 a3 σ = some z) : CV l D K yX2_leave cX2_leave 5 none 0 0 [.ref (ad 99), .int a1, .int a2, .int a3] (CW K ad la rest σ) (CW K ad la rest z.2) := by
  refine x_enterV [(0, .ref (ad 99)), (1, .int a1), (2, .int a2), (3, .int a3)] pnX2 (Nat.le_of_ble_eq_true rfl) rfl ?_
  intro p e s m args below meth c A C
  unfold F_X2_leave at hF
  refine x_aload_n C 0 0 dX2_leave_0 rfl rfl ?_
  refine x_dup C rfl dX2_leave_1 ?_
  refine x_get C 99 dX2_leave_2 fl_X2_51 (CW_99 K ad la rest σ) rfl ?_
  refine x_iload_n C 1 1 dX2_leave_5 rfl rfl ?_
  refine x_iconst C (-1) dX2_leave_6 (by decide +kernel) ?_
  refine x_ixor C dX2_leave_7 ?_
  refine x_iand C dX2_leave_8 ?_
  refine x_put C 99 dX2_leave_9 fl_X2_51 fm_X2_5 rfl rfl (CW_99 K ad la rest σ) (Nat.le_of_ble_eq_true rfl) (CW_s99_5 K ad la rest σ _) ?_
  refine x_st (wf := CW K ad la rest) hF (fun σ1 hF => ?_)
  refine x_iconst C 0 dX2_leave_12 (by decide +kernel) ?_
  refine x_topI hF (fun x2 hF => ?_)
  refine x_istore C [(4, .int x2), (0, .ref (ad 99)), (1, .int a1), (2, .int a2), (3, .int a3)] dX2_leave_13 (by decide) rfl ?_
  refine x_loc [(0, .ref (ad 99)), (1, .int a1), (2, .int a2), (3, .int a3), (4, .int x2)] [1, 2, 3, 4, 0] rfl ?_
  exact x_X2_leave_15 C z FU a1 a2 a3 x2 σ1 hF
theorem dX2_crowdIn_0 : decode cX2_crowdIn 0 = .ok (.iconst 0, 1) := by decide +kernel
theorem dX2_crowdIn_1 : decode cX2_crowdIn 1 = .ok (.istore_n 2, 1) := by decide +kernel
theorem dX2_crowdIn_2 : decode cX2_crowdIn 2 = .ok (.iconst 0, 1) := by decide +kernel
theorem dX2_crowdIn_3 : decode cX2_crowdIn 3 = .ok (.istore_n 3, 1) := by decide +kernel
theorem dX2_crowdIn_4 : decode cX2_crowdIn 4 = .ok (.iload_n 3, 1) := by decide +kernel
theorem dX2_crowdIn_5 : decode cX2_crowdIn 5 = .ok (.aload_n 0, 1) := by decide +kernel
theorem dX2_crowdIn_6 : decode cX2_crowdIn 6 = .ok (.getfield 18, 3) := by decide +kernel
theorem dX2_crowdIn_9 : decode cX2_crowdIn 9 = .ok (.getfield 40, 3) := by decide +kernel
theorem dX2_crowdIn_12 : decode cX2_crowdIn 12 = .ok (.getfield 46, 3) := by decide +kernel
theorem dX2_crowdIn_15 : decode cX2_crowdIn 15 = .ok (.if_icmp .ge 49, 3) := by decide +kernel
theorem dX2_crowdIn_18 : decode cX2_crowdIn 18 = .ok (.aload_n 0, 1) := by decide +kernel
theorem dX2_crowdIn_19 : decode cX2_crowdIn 19 = .ok (.getfield 51, 3) := by decide +kernel
theorem dX2_crowdIn_22 : decode cX2_crowdIn 22 = .ok (.iload_n 3, 1) := by decide +kernel
theorem dX2_crowdIn_23 : decode cX2_crowdIn 23 = .ok (.ishr, 1) := by decide +kernel
theorem dX2_crowdIn_24 : decode cX2_crowdIn 24 = .ok (.iconst 1, 1) := by decide +kernel
theorem dX2_crowdIn_25 : decode cX2_crowdIn 25 = .ok (.iand, 1) := by decide +kernel
theorem dX2_crowdIn_26 : decode cX2_crowdIn 26 = .ok (.iconst 1, 1) := by decide +kernel
theorem dX2_crowdIn_27 : decode cX2_crowdIn 27 = .ok (.if_icmp .ne 31, 3) := by decide +kernel
theorem dX2_crowdIn_30 : decode cX2_crowdIn 30 = .ok (.aload_n 0, 1) := by decide +kernel
theorem dX2_crowdIn_31 : decode cX2_crowdIn 31 = .ok (.getfield 18, 3) := by decide +kernel
theorem dX2_crowdIn_34 : decode cX2_crowdIn 34 = .ok (.getfield 40, 3) := by decide +kernel
theorem dX2_crowdIn_37 : decode cX2_crowdIn 37 = .ok (.iload_n 3, 1) := by decide +kernel
theorem dX2_crowdIn_38 : decode cX2_crowdIn 38 = .ok (.iconst 4, 1) := by decide +kernel
theorem dX2_crowdIn_39 : decode cX2_crowdIn 39 = .ok (.invokevirtual 92, 3) := by decide +kernel
theorem dX2_crowdIn_42 : decode cX2_crowdIn 42 = .ok (.iconst 1, 1) := by decide +kernel
theorem dX2_crowdIn_43 : decode cX2_crowdIn 43 = .ok (.if_icmp .ne 15, 3) := by decide +kernel
theorem dX2_crowdIn_46 : decode cX2_crowdIn 46 = .ok (.iload_n 2, 1) := by decide +kernel
theorem dX2_crowdIn_47 : decode cX2_crowdIn 47 = .ok (.aload_n 0, 1) := by decide +kernel
theorem dX2_crowdIn_48 : decode cX2_crowdIn 48 = .ok (.getfield 22, 3) := by decide +kernel
theorem dX2_crowdIn_51 : decode cX2_crowdIn 51 = .ok (.iload_n 3, 1) := by decide +kernel
theorem dX2_crowdIn_52 : decode cX2_crowdIn 52 = .ok (.iload_n 1, 1) := by decide +kernel
theorem dX2_crowdIn_53 : decode cX2_crowdIn 53 = .ok (.invokevirtual 95, 3) := by decide +kernel
theorem dX2_crowdIn_56 : decode cX2_crowdIn 56 = .ok (.iadd, 1) := by decide +kernel
theorem dX2_crowdIn_57 : decode cX2_crowdIn 57 = .ok (.istore_n 2, 1) := by decide +kernel
theorem dX2_crowdIn_58 : decode cX2_crowdIn 58 = .ok (.iinc 3 1, 3) := by decide +kernel
theorem dX2_crowdIn_61 : decode cX2_crowdIn 61 = .ok (.goto (-57), 3) := by decide +kernel
theorem dX2_crowdIn_64 : decode cX2_crowdIn 64 = .ok (.iload_n 2, 1) := by decide +kernel
theorem dX2_crowdIn_65 : decode cX2_crowdIn 65 = .ok (.ireturn, 1) := by decide +kernel
set_option maxHeartbeats 4000000 in
set_option maxRecDepth 100000 in
theorem x_X2_crowdIn_4 {p : Program} {l : Launch} {e : Env} {s : State} {m : MethodId} {args : Array Value} {below : List Frame} {meth : Method} {c : Code} {D : va_G} {K : Nat → ClassId} {A : Nat → Prop} {ad la : Nat → Nat} {rest : va_W} (C : xC p s m args meth c D K A RX2 cX2_crowdIn 4 (some .int)) (z : Int32 × xS) : ∀ (n : Nat) (y1 : Int32) (y2 : Int32) (y3 : Int32) (σ : xS), F_X2_crowdIn_4  n y1 y2 y3 σ = some z → X p l e (xR 4 101) s m args below meth c D A 4 (xQi below D K A args s z.1 (CW K ad la rest z.2)) 0 0 4 [(0, .ref (ad 99)), (1, .int y1), (2, .int y2), (3, .int y3)] [] (CW K ad la rest σ) := by
  intro n
  induction n with
  | zero =>
    intro y1 y2 y3 σ hF
    cases hF
  | succ n ih =>
    intro y1 y2 y3 σ hF
    rw [F_X2_crowdIn_4] at hF
    refine x_iload_n C 3 3 dX2_crowdIn_4 rfl rfl ?_
    refine x_aload_n C 0 0 dX2_crowdIn_5 rfl rfl ?_
    refine x_get C 99 dX2_crowdIn_6 fl_X2_18 (CW_99 K ad la rest σ) rfl ?_
    refine x_get C 5 dX2_crowdIn_9 fl_X2_40 (CW_5 K ad la rest σ) rfl ?_
    refine x_get C 8 dX2_crowdIn_12 fl_X2_46 (CW_8 K ad la rest σ) rfl ?_
    refine x_icmp_ge C 64 dX2_crowdIn_15 (by decide) hF (fun hF => ?_) (fun hF => ?_)
    · refine x_iload_n C 2 2 dX2_crowdIn_64 rfl rfl ?_
      exact x_iret C dX2_crowdIn_65 rfl (congrArg Prod.fst (Option.some.inj hF)) (congrArg (fun q9 : Int32 × xS => CW K ad la rest q9.2) (Option.some.inj hF))
    · refine x_aload_n C 0 0 dX2_crowdIn_18 rfl rfl ?_
      refine x_get C 99 dX2_crowdIn_19 fl_X2_51 (CW_99 K ad la rest σ) rfl ?_
      refine x_iload_n C 3 3 dX2_crowdIn_22 rfl rfl ?_
      refine x_ishr C dX2_crowdIn_23 ?_
      refine x_iconst C 1 dX2_crowdIn_24 (by decide +kernel) ?_
      refine x_iand C dX2_crowdIn_25 ?_
      refine x_iconst C 1 dX2_crowdIn_26 (by decide +kernel) ?_
      refine x_icmp_ne C 58 dX2_crowdIn_27 (by decide) hF (fun hF => ?_) (fun hF => ?_)
      · refine x_iincN C 1 3 (fun x3 => [(3, .int x3), (0, .ref (ad 99)), (1, .int y1), (2, .int y2)]) dX2_crowdIn_58 rfl (by decide +kernel) (by decide) (fun _ => rfl) hF (fun x3 hF => ?_)
        refine x_goto C 4 dX2_crowdIn_61 (by decide) ?_
        refine x_loc [(0, .ref (ad 99)), (1, .int y1), (2, .int y2), (3, .int x3)] [1, 2, 3, 0] rfl ?_
        exact ih y1 y2 x3 σ hF
      · refine x_aload_n C 0 0 dX2_crowdIn_30 rfl rfl ?_
        refine x_get C 99 dX2_crowdIn_31 fl_X2_18 (CW_99 K ad la rest σ) rfl ?_
        refine x_get C 5 dX2_crowdIn_34 fl_X2_40 (CW_5 K ad la rest σ) rfl ?_
        refine x_iload_n C 3 3 dX2_crowdIn_37 rfl rfl ?_
        refine x_iconst C 4 dX2_crowdIn_38 (by decide +kernel) ?_
        refine x_callVI C (wf := CW K ad la rest) (As := [.int y3, .int 4]) (rest := []) dX2_crowdIn_39 ml_X2_92 rfl rfl (Nat.le_of_ble_eq_true rfl) 8 (CW_8 K ad la rest σ) rfl ⟨Nat.le_of_ble_eq_true rfl, Nat.le_of_ble_eq_true rfl⟩ ⟨Nat.zero_le _, Nat.zero_le _⟩ (fun q9 hq9 => c_X6_get l D K ad la rest 0 (by decide) y3 4 σ q9 hq9) hF (fun v5 σ4 hF => ?_)
        refine x_iconst C 1 dX2_crowdIn_42 (by decide +kernel) ?_
        refine x_icmp_ne C 58 dX2_crowdIn_43 (by decide) hF (fun hF => ?_) (fun hF => ?_)
        · refine x_iincN C 1 3 (fun x6 => [(3, .int x6), (0, .ref (ad 99)), (1, .int y1), (2, .int y2)]) dX2_crowdIn_58 rfl (by decide +kernel) (by decide) (fun _ => rfl) hF (fun x6 hF => ?_)
          refine x_goto C 4 dX2_crowdIn_61 (by decide) ?_
          refine x_loc [(0, .ref (ad 99)), (1, .int y1), (2, .int y2), (3, .int x6)] [1, 2, 3, 0] rfl ?_
          exact ih y1 y2 x6 σ4 hF
        · refine x_iload_n C 2 2 dX2_crowdIn_46 rfl rfl ?_
          refine x_aload_n C 0 0 dX2_crowdIn_47 rfl rfl ?_
          refine x_get C 99 dX2_crowdIn_48 fl_X2_22 (CW_99 K ad la rest σ4) rfl ?_
          refine x_iload_n C 3 3 dX2_crowdIn_51 rfl rfl ?_
          refine x_iload_n C 1 1 dX2_crowdIn_52 rfl rfl ?_
          refine x_callVI C (wf := CW K ad la rest) (As := [.int y3, .int y1]) (rest := [.int y2]) dX2_crowdIn_53 ml_X2_95 rfl rfl (Nat.le_of_ble_eq_true rfl) 44 (CW_44 K ad la rest σ4) rfl ⟨Nat.le_of_ble_eq_true rfl, Nat.le_of_ble_eq_true rfl⟩ ⟨Nat.zero_le _, Nat.zero_le _⟩ (fun q9 hq9 => c_X0_drawsOnTable l D K ad la rest y3 y1 σ4 q9 hq9) hF (fun v8 σ7 hF => ?_)
          refine x_iadd C dX2_crowdIn_56 ?_
          refine x_topI hF (fun x9 hF => ?_)
          refine x_istore_n C [(2, .int x9), (0, .ref (ad 99)), (1, .int y1), (3, .int y3)] dX2_crowdIn_57 rfl (by decide) rfl ?_
          refine x_iincN C 1 3 (fun x10 => [(3, .int x10), (2, .int x9), (0, .ref (ad 99)), (1, .int y1)]) dX2_crowdIn_58 rfl (by decide +kernel) (by decide) (fun _ => rfl) hF (fun x10 hF => ?_)
          refine x_goto C 4 dX2_crowdIn_61 (by decide) ?_
          refine x_loc [(0, .ref (ad 99)), (1, .int y1), (2, .int x9), (3, .int x10)] [2, 3, 1, 0] rfl ?_
          exact ih y1 x9 x10 σ7 hF
set_option maxHeartbeats 4000000 in
set_option maxRecDepth 100000 in
theorem c_X2_crowdIn (l : Launch) (D : va_G) (K : Nat → ClassId) (ad la : Nat → Nat) (rest : va_W)  (a1 : Int32) (σ : xS) (z : Int32 × xS) (hF : F_X2_crowdIn a1 σ = some z) : CI l D K yX2_crowdIn cX2_crowdIn 4 (some .int) 4 101 [.ref (ad 99), .int a1] (CW K ad la rest σ) z.1 (CW K ad la rest z.2) := by
  refine x_enterI [(0, .ref (ad 99)), (1, .int a1)] pnX2 (Nat.le_of_ble_eq_true rfl) rfl ?_
  intro p e s m args below meth c A C
  unfold F_X2_crowdIn at hF
  refine x_iconst C 0 dX2_crowdIn_0 (by decide +kernel) ?_
  refine x_topI hF (fun x1 hF => ?_)
  refine x_istore_n C [(2, .int x1), (0, .ref (ad 99)), (1, .int a1)] dX2_crowdIn_1 rfl (by decide) rfl ?_
  refine x_iconst C 0 dX2_crowdIn_2 (by decide +kernel) ?_
  refine x_topI hF (fun x2 hF => ?_)
  refine x_istore_n C [(3, .int x2), (2, .int x1), (0, .ref (ad 99)), (1, .int a1)] dX2_crowdIn_3 rfl (by decide) rfl ?_
  refine x_loc [(0, .ref (ad 99)), (1, .int a1), (2, .int x1), (3, .int x2)] [2, 3, 1, 0] rfl ?_
  exact x_X2_crowdIn_4 C z FU a1 x1 x2 σ hF
theorem dX2_drawOfHundred_0 : decode cX2_drawOfHundred 0 = .ok (.aload_n 0, 1) := by decide +kernel
theorem dX2_drawOfHundred_1 : decode cX2_drawOfHundred 1 = .ok (.aload_n 0, 1) := by decide +kernel
theorem dX2_drawOfHundred_2 : decode cX2_drawOfHundred 2 = .ok (.getfield 36, 3) := by decide +kernel
theorem dX2_drawOfHundred_5 : decode cX2_drawOfHundred 5 = .ok (.i2l, 1) := by decide +kernel
theorem dX2_drawOfHundred_6 : decode cX2_drawOfHundred 6 = .ok (.ldc2_w 98, 3) := by decide +kernel
theorem dX2_drawOfHundred_9 : decode cX2_drawOfHundred 9 = .ok (.lmul, 1) := by decide +kernel
theorem dX2_drawOfHundred_10 : decode cX2_drawOfHundred 10 = .ok (.ldc2_w 100, 3) := by decide +kernel
theorem dX2_drawOfHundred_13 : decode cX2_drawOfHundred 13 = .ok (.ladd, 1) := by decide +kernel
theorem dX2_drawOfHundred_14 : decode cX2_drawOfHundred 14 = .ok (.ldc2_w 102, 3) := by decide +kernel
theorem dX2_drawOfHundred_17 : decode cX2_drawOfHundred 17 = .ok (.lrem, 1) := by decide +kernel
theorem dX2_drawOfHundred_18 : decode cX2_drawOfHundred 18 = .ok (.l2i, 1) := by decide +kernel
theorem dX2_drawOfHundred_19 : decode cX2_drawOfHundred 19 = .ok (.putfield 36, 3) := by decide +kernel
theorem dX2_drawOfHundred_22 : decode cX2_drawOfHundred 22 = .ok (.aload_n 0, 1) := by decide +kernel
theorem dX2_drawOfHundred_23 : decode cX2_drawOfHundred 23 = .ok (.getfield 36, 3) := by decide +kernel
theorem dX2_drawOfHundred_26 : decode cX2_drawOfHundred 26 = .ok (.bipush 100, 2) := by decide +kernel
theorem dX2_drawOfHundred_28 : decode cX2_drawOfHundred 28 = .ok (.irem, 1) := by decide +kernel
theorem dX2_drawOfHundred_29 : decode cX2_drawOfHundred 29 = .ok (.ireturn, 1) := by decide +kernel
set_option maxHeartbeats 4000000 in
set_option maxRecDepth 100000 in
theorem c_X2_drawOfHundred (l : Launch) (D : va_G) (K : Nat → ClassId) (ad la : Nat → Nat) (rest : va_W)   (σ : xS) (z : Int32 × xS) (hF : F_X2_drawOfHundred σ = some z) : CI l D K yX2_drawOfHundred cX2_drawOfHundred 1 (some .int) 0 0 [.ref (ad 99)] (CW K ad la rest σ) z.1 (CW K ad la rest z.2) := by
  refine x_enterI [(0, .ref (ad 99))] pnX2 (Nat.le_of_ble_eq_true rfl) rfl ?_
  intro p e s m args below meth c A C
  unfold F_X2_drawOfHundred at hF
  refine x_aload_n C 0 0 dX2_drawOfHundred_0 rfl rfl ?_
  refine x_aload_n C 0 0 dX2_drawOfHundred_1 rfl rfl ?_
  refine x_get C 99 dX2_drawOfHundred_2 fl_X2_36 (CW_99 K ad la rest σ) rfl ?_
  refine x_i2l C dX2_drawOfHundred_5 ?_
  refine x_ldc2 C 1103 dX2_drawOfHundred_6 cl_X2_98 ?_
  refine x_lmul C dX2_drawOfHundred_9 ?_
  refine x_ldc2 C 12345 dX2_drawOfHundred_10 cl_X2_100 ?_
  refine x_ladd C dX2_drawOfHundred_13 ?_
  refine x_ldc2 C 1000003 dX2_drawOfHundred_14 cl_X2_102 ?_
  refine x_lrem C dX2_drawOfHundred_17 hF (fun hF => ?_)
  refine x_l2i C dX2_drawOfHundred_18 ?_
  refine x_put C 99 dX2_drawOfHundred_19 fl_X2_36 fm_X2_6 rfl rfl (CW_99 K ad la rest σ) (Nat.le_of_ble_eq_true rfl) (CW_s99_6 K ad la rest σ _) ?_
  refine x_st (wf := CW K ad la rest) hF (fun σ1 hF => ?_)
  refine x_aload_n C 0 0 dX2_drawOfHundred_22 rfl rfl ?_
  refine x_get C 99 dX2_drawOfHundred_23 fl_X2_36 (CW_99 K ad la rest σ1) rfl ?_
  refine x_bipush C 100 dX2_drawOfHundred_26 (by decide +kernel) ?_
  refine x_irem C dX2_drawOfHundred_28 hF (fun hF => ?_)
  exact x_iret C dX2_drawOfHundred_29 rfl (congrArg Prod.fst (Option.some.inj hF)) (congrArg (fun q9 : Int32 × xS => CW K ad la rest q9.2) (Option.some.inj hF))
theorem dX2_soldIn_0 : decode cX2_soldIn 0 = .ok (.aload_n 0, 1) := by decide +kernel
theorem dX2_soldIn_1 : decode cX2_soldIn 1 = .ok (.iload_n 1, 1) := by decide +kernel
theorem dX2_soldIn_2 : decode cX2_soldIn 2 = .ok (.invokevirtual 71, 3) := by decide +kernel
theorem dX2_soldIn_5 : decode cX2_soldIn 5 = .ok (.istore_n 2, 1) := by decide +kernel
theorem dX2_soldIn_6 : decode cX2_soldIn 6 = .ok (.iconst 0, 1) := by decide +kernel
theorem dX2_soldIn_7 : decode cX2_soldIn 7 = .ok (.istore_n 3, 1) := by decide +kernel
theorem dX2_soldIn_8 : decode cX2_soldIn 8 = .ok (.iconst 0, 1) := by decide +kernel
theorem dX2_soldIn_9 : decode cX2_soldIn 9 = .ok (.istore 4, 2) := by decide +kernel
theorem dX2_soldIn_11 : decode cX2_soldIn 11 = .ok (.iload 4, 2) := by decide +kernel
theorem dX2_soldIn_13 : decode cX2_soldIn 13 = .ok (.aload_n 0, 1) := by decide +kernel
theorem dX2_soldIn_14 : decode cX2_soldIn 14 = .ok (.getfield 18, 3) := by decide +kernel
theorem dX2_soldIn_17 : decode cX2_soldIn 17 = .ok (.getfield 40, 3) := by decide +kernel
theorem dX2_soldIn_20 : decode cX2_soldIn 20 = .ok (.getfield 46, 3) := by decide +kernel
theorem dX2_soldIn_23 : decode cX2_soldIn 23 = .ok (.if_icmp .ge 64, 3) := by decide +kernel
theorem dX2_soldIn_26 : decode cX2_soldIn 26 = .ok (.aload_n 0, 1) := by decide +kernel
theorem dX2_soldIn_27 : decode cX2_soldIn 27 = .ok (.getfield 51, 3) := by decide +kernel
theorem dX2_soldIn_30 : decode cX2_soldIn 30 = .ok (.iload 4, 2) := by decide +kernel
theorem dX2_soldIn_32 : decode cX2_soldIn 32 = .ok (.ishr, 1) := by decide +kernel
theorem dX2_soldIn_33 : decode cX2_soldIn 33 = .ok (.iconst 1, 1) := by decide +kernel
theorem dX2_soldIn_34 : decode cX2_soldIn 34 = .ok (.iand, 1) := by decide +kernel
theorem dX2_soldIn_35 : decode cX2_soldIn 35 = .ok (.iconst 1, 1) := by decide +kernel
theorem dX2_soldIn_36 : decode cX2_soldIn 36 = .ok (.if_icmp .ne 45, 3) := by decide +kernel
theorem dX2_soldIn_39 : decode cX2_soldIn 39 = .ok (.aload_n 0, 1) := by decide +kernel
theorem dX2_soldIn_40 : decode cX2_soldIn 40 = .ok (.getfield 22, 3) := by decide +kernel
theorem dX2_soldIn_43 : decode cX2_soldIn 43 = .ok (.iload 4, 2) := by decide +kernel
theorem dX2_soldIn_45 : decode cX2_soldIn 45 = .ok (.iload_n 1, 1) := by decide +kernel
theorem dX2_soldIn_46 : decode cX2_soldIn 46 = .ok (.invokevirtual 74, 3) := by decide +kernel
theorem dX2_soldIn_49 : decode cX2_soldIn 49 = .ok (.aload_n 0, 1) := by decide +kernel
theorem dX2_soldIn_50 : decode cX2_soldIn 50 = .ok (.getfield 22, 3) := by decide +kernel
theorem dX2_soldIn_53 : decode cX2_soldIn 53 = .ok (.getfield 80, 3) := by decide +kernel
theorem dX2_soldIn_56 : decode cX2_soldIn 56 = .ok (.bipush 8, 2) := by decide +kernel
theorem dX2_soldIn_58 : decode cX2_soldIn 58 = .ok (.iload_n 2, 1) := by decide +kernel
theorem dX2_soldIn_59 : decode cX2_soldIn 59 = .ok (.iastore, 1) := by decide +kernel
theorem dX2_soldIn_60 : decode cX2_soldIn 60 = .ok (.aload_n 0, 1) := by decide +kernel
theorem dX2_soldIn_61 : decode cX2_soldIn 61 = .ok (.invokevirtual 85, 3) := by decide +kernel
theorem dX2_soldIn_64 : decode cX2_soldIn 64 = .ok (.aload_n 0, 1) := by decide +kernel
theorem dX2_soldIn_65 : decode cX2_soldIn 65 = .ok (.getfield 22, 3) := by decide +kernel
theorem dX2_soldIn_68 : decode cX2_soldIn 68 = .ok (.invokevirtual 89, 3) := by decide +kernel
theorem dX2_soldIn_71 : decode cX2_soldIn 71 = .ok (.if_icmp .ge 10, 3) := by decide +kernel
theorem dX2_soldIn_74 : decode cX2_soldIn 74 = .ok (.iload_n 3, 1) := by decide +kernel
theorem dX2_soldIn_75 : decode cX2_soldIn 75 = .ok (.iconst 1, 1) := by decide +kernel
theorem dX2_soldIn_76 : decode cX2_soldIn 76 = .ok (.iload 4, 2) := by decide +kernel
theorem dX2_soldIn_78 : decode cX2_soldIn 78 = .ok (.ishl, 1) := by decide +kernel
theorem dX2_soldIn_79 : decode cX2_soldIn 79 = .ok (.ior, 1) := by decide +kernel
theorem dX2_soldIn_80 : decode cX2_soldIn 80 = .ok (.istore_n 3, 1) := by decide +kernel
theorem dX2_soldIn_81 : decode cX2_soldIn 81 = .ok (.iinc 4 1, 3) := by decide +kernel
theorem dX2_soldIn_84 : decode cX2_soldIn 84 = .ok (.goto (-73), 3) := by decide +kernel
theorem dX2_soldIn_87 : decode cX2_soldIn 87 = .ok (.iload_n 3, 1) := by decide +kernel
theorem dX2_soldIn_88 : decode cX2_soldIn 88 = .ok (.ireturn, 1) := by decide +kernel
set_option maxHeartbeats 4000000 in
set_option maxRecDepth 100000 in
theorem x_X2_soldIn_11 {p : Program} {l : Launch} {e : Env} {s : State} {m : MethodId} {args : Array Value} {below : List Frame} {meth : Method} {c : Code} {D : va_G} {K : Nat → ClassId} {A : Nat → Prop} {ad la : Nat → Nat} {rest : va_W} (C : xC p s m args meth c D K A RX2 cX2_soldIn 5 (some .int)) (z : Int32 × xS) : ∀ (n : Nat) (y1 : Int32) (y2 : Int32) (y3 : Int32) (y4 : Int32) (σ : xS), F_X2_soldIn_11  n y1 y2 y3 y4 σ = some z → X p l e (xR 5 124) s m args below meth c D A 5 (xQi below D K A args s z.1 (CW K ad la rest z.2)) 0 0 11 [(0, .ref (ad 99)), (1, .int y1), (2, .int y2), (3, .int y3), (4, .int y4)] [] (CW K ad la rest σ) := by
  intro n
  induction n with
  | zero =>
    intro y1 y2 y3 y4 σ hF
    cases hF
  | succ n ih =>
    intro y1 y2 y3 y4 σ hF
    rw [F_X2_soldIn_11] at hF
    refine x_iload C 4 4 dX2_soldIn_11 rfl ?_
    refine x_aload_n C 0 0 dX2_soldIn_13 rfl rfl ?_
    refine x_get C 99 dX2_soldIn_14 fl_X2_18 (CW_99 K ad la rest σ) rfl ?_
    refine x_get C 5 dX2_soldIn_17 fl_X2_40 (CW_5 K ad la rest σ) rfl ?_
    refine x_get C 8 dX2_soldIn_20 fl_X2_46 (CW_8 K ad la rest σ) rfl ?_
    refine x_icmp_ge C 87 dX2_soldIn_23 (by decide) hF (fun hF => ?_) (fun hF => ?_)
    · refine x_iload_n C 3 3 dX2_soldIn_87 rfl rfl ?_
      exact x_iret C dX2_soldIn_88 rfl (congrArg Prod.fst (Option.some.inj hF)) (congrArg (fun q9 : Int32 × xS => CW K ad la rest q9.2) (Option.some.inj hF))
    · refine x_aload_n C 0 0 dX2_soldIn_26 rfl rfl ?_
      refine x_get C 99 dX2_soldIn_27 fl_X2_51 (CW_99 K ad la rest σ) rfl ?_
      refine x_iload C 4 4 dX2_soldIn_30 rfl ?_
      refine x_ishr C dX2_soldIn_32 ?_
      refine x_iconst C 1 dX2_soldIn_33 (by decide +kernel) ?_
      refine x_iand C dX2_soldIn_34 ?_
      refine x_iconst C 1 dX2_soldIn_35 (by decide +kernel) ?_
      refine x_icmp_ne C 81 dX2_soldIn_36 (by decide) hF (fun hF => ?_) (fun hF => ?_)
      · refine x_iincN C 1 4 (fun x5 => [(4, .int x5), (0, .ref (ad 99)), (1, .int y1), (2, .int y2), (3, .int y3)]) dX2_soldIn_81 rfl (by decide +kernel) (by decide) (fun _ => rfl) hF (fun x5 hF => ?_)
        refine x_goto C 11 dX2_soldIn_84 (by decide) ?_
        refine x_loc [(0, .ref (ad 99)), (1, .int y1), (2, .int y2), (3, .int y3), (4, .int x5)] [1, 2, 3, 4, 0] rfl ?_
        exact ih y1 y2 y3 x5 σ hF
      · refine x_aload_n C 0 0 dX2_soldIn_39 rfl rfl ?_
        refine x_get C 99 dX2_soldIn_40 fl_X2_22 (CW_99 K ad la rest σ) rfl ?_
        refine x_iload C 4 4 dX2_soldIn_43 rfl ?_
        refine x_iload_n C 1 1 dX2_soldIn_45 rfl rfl ?_
        refine x_callVV C (wf := CW K ad la rest) (As := [.int y4, .int y1]) (rest := []) dX2_soldIn_46 ml_X2_74 rfl rfl (Nat.le_of_ble_eq_true rfl) 44 (CW_44 K ad la rest σ) rfl ⟨Nat.le_of_ble_eq_true rfl, Nat.le_of_ble_eq_true rfl⟩ ⟨Nat.zero_le _, Nat.zero_le _⟩ (fun q9 hq9 => c_X0_about l D K ad la rest y4 y1 σ q9 hq9) hF (fun _ σ6 hF => ?_)
        refine x_aload_n C 0 0 dX2_soldIn_49 rfl rfl ?_
        refine x_get C 99 dX2_soldIn_50 fl_X2_22 (CW_99 K ad la rest σ6) rfl ?_
        refine x_get C 44 dX2_soldIn_53 fl_X2_80 (CW_44 K ad la rest σ6) rfl ?_
        refine x_bipush C 8 dX2_soldIn_56 (by decide +kernel) ?_
        refine x_iload_n C 2 2 dX2_soldIn_58 rfl rfl ?_
        refine x_iast C 45 dX2_soldIn_59 (CW_45 K ad la rest σ6) hF (CW_s45 K ad la rest σ6 _) (fun hF => ?_)
        refine x_st (wf := CW K ad la rest) hF (fun σ7 hF => ?_)
        refine x_aload_n C 0 0 dX2_soldIn_60 rfl rfl ?_
        refine x_callVI C (wf := CW K ad la rest) (As := []) (rest := []) dX2_soldIn_61 ml_X2_85 rfl rfl (Nat.le_of_ble_eq_true rfl) 99 (CW_99 K ad la rest σ7) rfl ⟨Nat.le_of_ble_eq_true rfl, Nat.le_of_ble_eq_true rfl⟩ ⟨Nat.zero_le _, Nat.zero_le _⟩ (fun q9 hq9 => c_X2_drawOfHundred l D K ad la rest σ7 q9 hq9) hF (fun v9 σ8 hF => ?_)
        refine x_aload_n C 0 0 dX2_soldIn_64 rfl rfl ?_
        refine x_get C 99 dX2_soldIn_65 fl_X2_22 (CW_99 K ad la rest σ8) rfl ?_
        refine x_callVI C (wf := CW K ad la rest) (As := []) (rest := [.int v9]) dX2_soldIn_68 ml_X2_89 rfl rfl (Nat.le_of_ble_eq_true rfl) 44 (CW_44 K ad la rest σ8) rfl ⟨Nat.le_of_ble_eq_true rfl, Nat.le_of_ble_eq_true rfl⟩ ⟨Nat.zero_le _, Nat.zero_le _⟩ (fun q9 hq9 => c_X0_sells l D K ad la rest σ8 q9 hq9) hF (fun v11 σ10 hF => ?_)
        refine x_icmp_ge C 81 dX2_soldIn_71 (by decide) hF (fun hF => ?_) (fun hF => ?_)
        · refine x_iincN C 1 4 (fun x12 => [(4, .int x12), (0, .ref (ad 99)), (1, .int y1), (2, .int y2), (3, .int y3)]) dX2_soldIn_81 rfl (by decide +kernel) (by decide) (fun _ => rfl) hF (fun x12 hF => ?_)
          refine x_goto C 11 dX2_soldIn_84 (by decide) ?_
          refine x_loc [(0, .ref (ad 99)), (1, .int y1), (2, .int y2), (3, .int y3), (4, .int x12)] [1, 2, 3, 4, 0] rfl ?_
          exact ih y1 y2 y3 x12 σ10 hF
        · refine x_iload_n C 3 3 dX2_soldIn_74 rfl rfl ?_
          refine x_iconst C 1 dX2_soldIn_75 (by decide +kernel) ?_
          refine x_iload C 4 4 dX2_soldIn_76 rfl ?_
          refine x_ishl C dX2_soldIn_78 ?_
          refine x_ior C dX2_soldIn_79 ?_
          refine x_topI hF (fun x13 hF => ?_)
          refine x_istore_n C [(3, .int x13), (0, .ref (ad 99)), (1, .int y1), (2, .int y2), (4, .int y4)] dX2_soldIn_80 rfl (by decide) rfl ?_
          refine x_iincN C 1 4 (fun x14 => [(4, .int x14), (3, .int x13), (0, .ref (ad 99)), (1, .int y1), (2, .int y2)]) dX2_soldIn_81 rfl (by decide +kernel) (by decide) (fun _ => rfl) hF (fun x14 hF => ?_)
          refine x_goto C 11 dX2_soldIn_84 (by decide) ?_
          refine x_loc [(0, .ref (ad 99)), (1, .int y1), (2, .int y2), (3, .int x13), (4, .int x14)] [2, 3, 4, 1, 0] rfl ?_
          exact ih y1 y2 x13 x14 σ10 hF
set_option maxHeartbeats 4000000 in
set_option maxRecDepth 100000 in
theorem c_X2_soldIn (l : Launch) (D : va_G) (K : Nat → ClassId) (ad la : Nat → Nat) (rest : va_W)  (a1 : Int32) (σ : xS) (z : Int32 × xS) (hF : F_X2_soldIn a1 σ = some z) : CI l D K yX2_soldIn cX2_soldIn 5 (some .int) 5 124 [.ref (ad 99), .int a1] (CW K ad la rest σ) z.1 (CW K ad la rest z.2) := by
  refine x_enterI [(0, .ref (ad 99)), (1, .int a1)] pnX2 (Nat.le_of_ble_eq_true rfl) rfl ?_
  intro p e s m args below meth c A C
  unfold F_X2_soldIn at hF
  refine x_aload_n C 0 0 dX2_soldIn_0 rfl rfl ?_
  refine x_iload_n C 1 1 dX2_soldIn_1 rfl rfl ?_
  refine x_callVI C (wf := CW K ad la rest) (As := [.int a1]) (rest := []) dX2_soldIn_2 ml_X2_71 rfl rfl (Nat.le_of_ble_eq_true rfl) 99 (CW_99 K ad la rest σ) rfl ⟨Nat.le_of_ble_eq_true rfl, Nat.le_of_ble_eq_true rfl⟩ ⟨Nat.zero_le _, Nat.zero_le _⟩ (fun q9 hq9 => c_X2_crowdIn l D K ad la rest a1 σ q9 hq9) hF (fun v2 σ1 hF => ?_)
  refine x_istore_n C [(2, .int v2), (0, .ref (ad 99)), (1, .int a1)] dX2_soldIn_5 rfl (by decide) rfl ?_
  refine x_iconst C 0 dX2_soldIn_6 (by decide +kernel) ?_
  refine x_topI hF (fun x3 hF => ?_)
  refine x_istore_n C [(3, .int x3), (2, .int v2), (0, .ref (ad 99)), (1, .int a1)] dX2_soldIn_7 rfl (by decide) rfl ?_
  refine x_iconst C 0 dX2_soldIn_8 (by decide +kernel) ?_
  refine x_topI hF (fun x4 hF => ?_)
  refine x_istore C [(4, .int x4), (3, .int x3), (2, .int v2), (0, .ref (ad 99)), (1, .int a1)] dX2_soldIn_9 (by decide) rfl ?_
  refine x_loc [(0, .ref (ad 99)), (1, .int a1), (2, .int v2), (3, .int x3), (4, .int x4)] [3, 4, 2, 1, 0] rfl ?_
  exact x_X2_soldIn_11 C z FU a1 v2 x3 x4 σ1 hF
theorem dX2_live_0 : decode cX2_live 0 = .ok (.aload_n 0, 1) := by decide +kernel
theorem dX2_live_1 : decode cX2_live 1 = .ok (.iload_n 1, 1) := by decide +kernel
theorem dX2_live_2 : decode cX2_live 2 = .ok (.putfield 36, 3) := by decide +kernel
theorem dX2_live_5 : decode cX2_live 5 = .ok (.aload_n 0, 1) := by decide +kernel
theorem dX2_live_6 : decode cX2_live 6 = .ok (.iconst 1, 1) := by decide +kernel
theorem dX2_live_7 : decode cX2_live 7 = .ok (.aload_n 0, 1) := by decide +kernel
theorem dX2_live_8 : decode cX2_live 8 = .ok (.getfield 18, 3) := by decide +kernel
theorem dX2_live_11 : decode cX2_live 11 = .ok (.getfield 40, 3) := by decide +kernel
theorem dX2_live_14 : decode cX2_live 14 = .ok (.getfield 46, 3) := by decide +kernel
theorem dX2_live_17 : decode cX2_live 17 = .ok (.ishl, 1) := by decide +kernel
theorem dX2_live_18 : decode cX2_live 18 = .ok (.iconst 1, 1) := by decide +kernel
theorem dX2_live_19 : decode cX2_live 19 = .ok (.isub, 1) := by decide +kernel
theorem dX2_live_20 : decode cX2_live 20 = .ok (.putfield 51, 3) := by decide +kernel
theorem dX2_live_23 : decode cX2_live 23 = .ok (.aload_n 0, 1) := by decide +kernel
theorem dX2_live_24 : decode cX2_live 24 = .ok (.getfield 9, 3) := by decide +kernel
theorem dX2_live_27 : decode cX2_live 27 = .ok (.iconst (-1), 1) := by decide +kernel
theorem dX2_live_28 : decode cX2_live 28 = .ok (.invokestatic 30, 3) := by decide +kernel
theorem dX2_live_31 : decode cX2_live 31 = .ok (.aload_n 0, 1) := by decide +kernel
theorem dX2_live_32 : decode cX2_live 32 = .ok (.getfield 15, 3) := by decide +kernel
theorem dX2_live_35 : decode cX2_live 35 = .ok (.iconst (-1), 1) := by decide +kernel
theorem dX2_live_36 : decode cX2_live 36 = .ok (.invokestatic 30, 3) := by decide +kernel
theorem dX2_live_39 : decode cX2_live 39 = .ok (.iconst 0, 1) := by decide +kernel
theorem dX2_live_40 : decode cX2_live 40 = .ok (.istore_n 3, 1) := by decide +kernel
theorem dX2_live_41 : decode cX2_live 41 = .ok (.iconst 0, 1) := by decide +kernel
theorem dX2_live_42 : decode cX2_live 42 = .ok (.istore 4, 2) := by decide +kernel
theorem dX2_live_44 : decode cX2_live 44 = .ok (.iload 4, 2) := by decide +kernel
theorem dX2_live_46 : decode cX2_live 46 = .ok (.iload_n 2, 1) := by decide +kernel
theorem dX2_live_47 : decode cX2_live 47 = .ok (.if_icmp .ge 65, 3) := by decide +kernel
theorem dX2_live_50 : decode cX2_live 50 = .ok (.aload_n 0, 1) := by decide +kernel
theorem dX2_live_51 : decode cX2_live 51 = .ok (.getfield 26, 3) := by decide +kernel
theorem dX2_live_54 : decode cX2_live 54 = .ok (.aload_n 0, 1) := by decide +kernel
theorem dX2_live_55 : decode cX2_live 55 = .ok (.getfield 51, 3) := by decide +kernel
theorem dX2_live_58 : decode cX2_live 58 = .ok (.iload 4, 2) := by decide +kernel
theorem dX2_live_60 : decode cX2_live 60 = .ok (.invokevirtual 54, 3) := by decide +kernel
theorem dX2_live_63 : decode cX2_live 63 = .ok (.istore 5, 2) := by decide +kernel
theorem dX2_live_65 : decode cX2_live 65 = .ok (.aload_n 0, 1) := by decide +kernel
theorem dX2_live_66 : decode cX2_live 66 = .ok (.iload 5, 2) := by decide +kernel
theorem dX2_live_68 : decode cX2_live 68 = .ok (.iload 4, 2) := by decide +kernel
theorem dX2_live_70 : decode cX2_live 70 = .ok (.iconst 0, 1) := by decide +kernel
theorem dX2_live_71 : decode cX2_live 71 = .ok (.invokevirtual 60, 3) := by decide +kernel
theorem dX2_live_74 : decode cX2_live 74 = .ok (.aload_n 0, 1) := by decide +kernel
theorem dX2_live_75 : decode cX2_live 75 = .ok (.iload 4, 2) := by decide +kernel
theorem dX2_live_77 : decode cX2_live 77 = .ok (.invokevirtual 64, 3) := by decide +kernel
theorem dX2_live_80 : decode cX2_live 80 = .ok (.istore 6, 2) := by decide +kernel
theorem dX2_live_82 : decode cX2_live 82 = .ok (.aload_n 0, 1) := by decide +kernel
theorem dX2_live_83 : decode cX2_live 83 = .ok (.iload 6, 2) := by decide +kernel
theorem dX2_live_85 : decode cX2_live 85 = .ok (.iload 4, 2) := by decide +kernel
theorem dX2_live_87 : decode cX2_live 87 = .ok (.iconst 1, 1) := by decide +kernel
theorem dX2_live_88 : decode cX2_live 88 = .ok (.invokevirtual 60, 3) := by decide +kernel
theorem dX2_live_91 : decode cX2_live 91 = .ok (.iload_n 3, 1) := by decide +kernel
theorem dX2_live_92 : decode cX2_live 92 = .ok (.aload_n 0, 1) := by decide +kernel
theorem dX2_live_93 : decode cX2_live 93 = .ok (.getfield 26, 3) := by decide +kernel
theorem dX2_live_96 : decode cX2_live 96 = .ok (.iload 5, 2) := by decide +kernel
theorem dX2_live_98 : decode cX2_live 98 = .ok (.iload 6, 2) := by decide +kernel
theorem dX2_live_100 : decode cX2_live 100 = .ok (.ior, 1) := by decide +kernel
theorem dX2_live_101 : decode cX2_live 101 = .ok (.invokevirtual 68, 3) := by decide +kernel
theorem dX2_live_104 : decode cX2_live 104 = .ok (.iadd, 1) := by decide +kernel
theorem dX2_live_105 : decode cX2_live 105 = .ok (.istore_n 3, 1) := by decide +kernel
theorem dX2_live_106 : decode cX2_live 106 = .ok (.iinc 4 1, 3) := by decide +kernel
theorem dX2_live_109 : decode cX2_live 109 = .ok (.goto (-65), 3) := by decide +kernel
theorem dX2_live_112 : decode cX2_live 112 = .ok (.iload_n 3, 1) := by decide +kernel
theorem dX2_live_113 : decode cX2_live 113 = .ok (.ireturn, 1) := by decide +kernel
set_option maxHeartbeats 4000000 in
set_option maxRecDepth 100000 in
theorem x_X2_live_44 {p : Program} {l : Launch} {e : Env} {s : State} {m : MethodId} {args : Array Value} {below : List Frame} {meth : Method} {c : Code} {D : va_G} {K : Nat → ClassId} {A : Nat → Prop} {ad la : Nat → Nat} {rest : va_W} (C : xC p s m args meth c D K A RX2 cX2_live 7 (some .int)) (z : Int32 × xS) : ∀ (n : Nat) (y2 : Int32) (y3 : Int32) (y4 : Int32) (σ : xS), F_X2_live_44  n y2 y3 y4 σ = some z → X p l e (xR 6 148) s m args below meth c D A 7 (xQi below D K A args s z.1 (CW K ad la rest z.2)) 0 0 44 [(0, .ref (ad 99)), (2, .int y2), (3, .int y3), (4, .int y4)] [] (CW K ad la rest σ) := by
  intro n
  induction n with
  | zero =>
    intro y2 y3 y4 σ hF
    cases hF
  | succ n ih =>
    intro y2 y3 y4 σ hF
    rw [F_X2_live_44] at hF
    refine x_iload C 3 4 dX2_live_44 rfl ?_
    refine x_iload_n C 1 2 dX2_live_46 rfl rfl ?_
    refine x_icmp_ge C 112 dX2_live_47 (by decide) hF (fun hF => ?_) (fun hF => ?_)
    · refine x_iload_n C 2 3 dX2_live_112 rfl rfl ?_
      exact x_iret C dX2_live_113 rfl (congrArg Prod.fst (Option.some.inj hF)) (congrArg (fun q9 : Int32 × xS => CW K ad la rest q9.2) (Option.some.inj hF))
    · refine x_aload_n C 0 0 dX2_live_50 rfl rfl ?_
      refine x_get C 99 dX2_live_51 fl_X2_26 (CW_99 K ad la rest σ) rfl ?_
      refine x_aload_n C 0 0 dX2_live_54 rfl rfl ?_
      refine x_get C 99 dX2_live_55 fl_X2_51 (CW_99 K ad la rest σ) rfl ?_
      refine x_iload C 3 4 dX2_live_58 rfl ?_
      refine x_callVI C (wf := CW K ad la rest) (As := [.int (sI σ 1589), .int y4]) (rest := []) dX2_live_60 ml_X2_54 rfl rfl (Nat.le_of_ble_eq_true rfl) 89 (CW_89 K ad la rest σ) rfl ⟨Nat.le_of_ble_eq_true rfl, Nat.le_of_ble_eq_true rfl⟩ ⟨Nat.zero_le _, Nat.zero_le _⟩ (fun q9 hq9 => c_X1_takes l D K ad la rest (sI σ 1589) y4 σ q9 hq9) hF (fun v8 σ7 hF => ?_)
      refine x_istore C [(5, .int v8), (0, .ref (ad 99)), (2, .int y2), (3, .int y3), (4, .int y4)] dX2_live_63 (by decide) rfl ?_
      refine x_aload_n C 1 0 dX2_live_65 rfl rfl ?_
      refine x_iload C 0 5 dX2_live_66 rfl ?_
      refine x_iload C 4 4 dX2_live_68 rfl ?_
      refine x_iconst C 0 dX2_live_70 (by decide +kernel) ?_
      refine x_callVV C (wf := CW K ad la rest) (As := [.int v8, .int y4, .int 0]) (rest := []) dX2_live_71 ml_X2_60 rfl rfl (Nat.le_of_ble_eq_true rfl) 99 (CW_99 K ad la rest σ7) rfl ⟨Nat.le_of_ble_eq_true rfl, Nat.le_of_ble_eq_true rfl⟩ ⟨Nat.zero_le _, Nat.zero_le _⟩ (fun q9 hq9 => c_X2_leave l D K ad la rest v8 y4 0 σ7 q9 hq9) hF (fun _ σ9 hF => ?_)
      refine x_aload_n C 1 0 dX2_live_74 rfl rfl ?_
      refine x_iload C 4 4 dX2_live_75 rfl ?_
      refine x_callVI C (wf := CW K ad la rest) (As := [.int y4]) (rest := []) dX2_live_77 ml_X2_64 rfl rfl (Nat.le_of_ble_eq_true rfl) 99 (CW_99 K ad la rest σ9) rfl ⟨Nat.le_of_ble_eq_true rfl, Nat.le_of_ble_eq_true rfl⟩ ⟨Nat.zero_le _, Nat.zero_le _⟩ (fun q9 hq9 => c_X2_soldIn l D K ad la rest y4 σ9 q9 hq9) hF (fun v11 σ10 hF => ?_)
      refine x_istore C [(6, .int v11), (5, .int v8), (0, .ref (ad 99)), (2, .int y2), (3, .int y3), (4, .int y4)] dX2_live_80 (by decide) rfl ?_
      refine x_aload_n C 2 0 dX2_live_82 rfl rfl ?_
      refine x_iload C 0 6 dX2_live_83 rfl ?_
      refine x_iload C 5 4 dX2_live_85 rfl ?_
      refine x_iconst C 1 dX2_live_87 (by decide +kernel) ?_
      refine x_callVV C (wf := CW K ad la rest) (As := [.int v11, .int y4, .int 1]) (rest := []) dX2_live_88 ml_X2_60 rfl rfl (Nat.le_of_ble_eq_true rfl) 99 (CW_99 K ad la rest σ10) rfl ⟨Nat.le_of_ble_eq_true rfl, Nat.le_of_ble_eq_true rfl⟩ ⟨Nat.zero_le _, Nat.zero_le _⟩ (fun q9 hq9 => c_X2_leave l D K ad la rest v11 y4 1 σ10 q9 hq9) hF (fun _ σ12 hF => ?_)
      refine x_iload_n C 4 3 dX2_live_91 rfl rfl ?_
      refine x_aload_n C 2 0 dX2_live_92 rfl rfl ?_
      refine x_get C 99 dX2_live_93 fl_X2_26 (CW_99 K ad la rest σ12) rfl ?_
      refine x_iload C 1 5 dX2_live_96 rfl ?_
      refine x_iload C 0 6 dX2_live_98 rfl ?_
      refine x_ior C dX2_live_100 ?_
      refine x_callVI C (wf := CW K ad la rest) (As := [.int (v8 ||| v11)]) (rest := [.int y3]) dX2_live_101 ml_X2_68 rfl rfl (Nat.le_of_ble_eq_true rfl) 89 (CW_89 K ad la rest σ12) rfl ⟨Nat.le_of_ble_eq_true rfl, Nat.le_of_ble_eq_true rfl⟩ ⟨Nat.zero_le _, Nat.zero_le _⟩ (fun q9 hq9 => c_X1_pays l D K ad la rest (v8 ||| v11) σ12 q9 hq9) hF (fun v14 σ13 hF => ?_)
      refine x_iadd C dX2_live_104 ?_
      refine x_topI hF (fun x15 hF => ?_)
      refine x_istore_n C [(3, .int x15), (6, .int v11), (5, .int v8), (0, .ref (ad 99)), (2, .int y2), (4, .int y4)] dX2_live_105 rfl (by decide) rfl ?_
      refine x_iincN C 1 5 (fun x16 => [(4, .int x16), (3, .int x15), (6, .int v11), (5, .int v8), (0, .ref (ad 99)), (2, .int y2)]) dX2_live_106 rfl (by decide +kernel) (by decide) (fun _ => rfl) hF (fun x16 hF => ?_)
      refine x_goto C 44 dX2_live_109 (by decide) ?_
      refine x_loc [(0, .ref (ad 99)), (2, .int y2), (3, .int x15), (4, .int x16)] [4, 5, 1, 0] rfl ?_
      exact ih y2 x15 x16 σ13 hF
set_option maxHeartbeats 4000000 in
set_option maxRecDepth 100000 in
theorem c_X2_live (l : Launch) (D : va_G) (K : Nat → ClassId) (ad la : Nat → Nat) (rest : va_W)  (a1 : Int32) (a2 : Int32) (σ : xS) (z : Int32 × xS) (hF : F_X2_live a1 a2 σ = some z) : CI l D K yX2_live cX2_live 7 (some .int) 6 148 [.ref (ad 99), .int a1, .int a2] (CW K ad la rest σ) z.1 (CW K ad la rest z.2) := by
  refine x_enterI [(0, .ref (ad 99)), (1, .int a1), (2, .int a2)] pnX2 (Nat.le_of_ble_eq_true rfl) rfl ?_
  intro p e s m args below meth c A C
  unfold F_X2_live at hF
  refine x_aload_n C 0 0 dX2_live_0 rfl rfl ?_
  refine x_iload_n C 1 1 dX2_live_1 rfl rfl ?_
  refine x_put C 99 dX2_live_2 fl_X2_36 fm_X2_6 rfl rfl (CW_99 K ad la rest σ) (Nat.le_of_ble_eq_true rfl) (CW_s99_6 K ad la rest σ _) ?_
  refine x_st (wf := CW K ad la rest) hF (fun σ1 hF => ?_)
  refine x_aload_n C 0 0 dX2_live_5 rfl rfl ?_
  refine x_iconst C 1 dX2_live_6 (by decide +kernel) ?_
  refine x_aload_n C 0 0 dX2_live_7 rfl rfl ?_
  refine x_get C 99 dX2_live_8 fl_X2_18 (CW_99 K ad la rest σ1) rfl ?_
  refine x_get C 5 dX2_live_11 fl_X2_40 (CW_5 K ad la rest σ1) rfl ?_
  refine x_get C 8 dX2_live_14 fl_X2_46 (CW_8 K ad la rest σ1) rfl ?_
  refine x_ishl C dX2_live_17 ?_
  refine x_iconst C 1 dX2_live_18 (by decide +kernel) ?_
  refine x_isub C dX2_live_19 ?_
  refine x_put C 99 dX2_live_20 fl_X2_51 fm_X2_5 rfl rfl (CW_99 K ad la rest σ1) (Nat.le_of_ble_eq_true rfl) (CW_s99_5 K ad la rest σ1 _) ?_
  refine x_st (wf := CW K ad la rest) hF (fun σ2 hF => ?_)
  refine x_aload_n C 0 0 dX2_live_23 rfl rfl ?_
  refine x_get C 99 dX2_live_24 fl_X2_9 (CW_99 K ad la rest σ2) rfl ?_
  refine x_iconst C (-1) dX2_live_27 (by decide +kernel) ?_
  refine x_fill2 C 100 dX2_live_28 wl_X2_30 ⟨Nat.le_of_ble_eq_true rfl, Nat.le_of_ble_eq_true rfl⟩ ⟨Nat.zero_le _, Nat.zero_le _⟩ (Nat.le_of_ble_eq_true rfl) (Nat.le_of_ble_eq_true rfl) (CW_100 K ad la rest σ2) (CW_s100 K ad la rest σ2 _) ?_
  refine x_st (wf := CW K ad la rest) hF (fun σ3 hF => ?_)
  refine x_aload_n C 0 0 dX2_live_31 rfl rfl ?_
  refine x_get C 99 dX2_live_32 fl_X2_15 (CW_99 K ad la rest σ3) rfl ?_
  refine x_iconst C (-1) dX2_live_35 (by decide +kernel) ?_
  refine x_fill2 C 101 dX2_live_36 wl_X2_30 ⟨Nat.le_of_ble_eq_true rfl, Nat.le_of_ble_eq_true rfl⟩ ⟨Nat.zero_le _, Nat.zero_le _⟩ (Nat.le_of_ble_eq_true rfl) (Nat.le_of_ble_eq_true rfl) (CW_101 K ad la rest σ3) (CW_s101 K ad la rest σ3 _) ?_
  refine x_st (wf := CW K ad la rest) hF (fun σ4 hF => ?_)
  refine x_iconst C 0 dX2_live_39 (by decide +kernel) ?_
  refine x_topI hF (fun x5 hF => ?_)
  refine x_istore_n C [(3, .int x5), (0, .ref (ad 99)), (1, .int a1), (2, .int a2)] dX2_live_40 rfl (by decide) rfl ?_
  refine x_iconst C 0 dX2_live_41 (by decide +kernel) ?_
  refine x_topI hF (fun x6 hF => ?_)
  refine x_istore C [(4, .int x6), (3, .int x5), (0, .ref (ad 99)), (1, .int a1), (2, .int a2)] dX2_live_42 (by decide) rfl ?_
  refine x_loc [(0, .ref (ad 99)), (2, .int a2), (3, .int x5), (4, .int x6)] [2, 4, 1, 0] rfl ?_
  exact x_X2_live_44 C z FU a2 x5 x6 σ4 hF
theorem dX3_askFor_0 : decode cX3_askFor 0 = .ok (.iconst 0, 1) := by decide +kernel
theorem dX3_askFor_1 : decode cX3_askFor 1 = .ok (.istore_n 2, 1) := by decide +kernel
theorem dX3_askFor_2 : decode cX3_askFor 2 = .ok (.iload_n 2, 1) := by decide +kernel
theorem dX3_askFor_3 : decode cX3_askFor 3 = .ok (.aload_n 0, 1) := by decide +kernel
theorem dX3_askFor_4 : decode cX3_askFor 4 = .ok (.getfield 19, 3) := by decide +kernel
theorem dX3_askFor_7 : decode cX3_askFor 7 = .ok (.getfield 27, 3) := by decide +kernel
theorem dX3_askFor_10 : decode cX3_askFor 10 = .ok (.getfield 33, 3) := by decide +kernel
theorem dX3_askFor_13 : decode cX3_askFor 13 = .ok (.if_icmp .ge 80, 3) := by decide +kernel
theorem dX3_askFor_16 : decode cX3_askFor 16 = .ok (.aload_n 0, 1) := by decide +kernel
theorem dX3_askFor_17 : decode cX3_askFor 17 = .ok (.getfield 19, 3) := by decide +kernel
theorem dX3_askFor_20 : decode cX3_askFor 20 = .ok (.getfield 27, 3) := by decide +kernel
theorem dX3_askFor_23 : decode cX3_askFor 23 = .ok (.iload_n 2, 1) := by decide +kernel
theorem dX3_askFor_24 : decode cX3_askFor 24 = .ok (.iconst 0, 1) := by decide +kernel
theorem dX3_askFor_25 : decode cX3_askFor 25 = .ok (.invokevirtual 62, 3) := by decide +kernel
theorem dX3_askFor_28 : decode cX3_askFor 28 = .ok (.aload_n 0, 1) := by decide +kernel
theorem dX3_askFor_29 : decode cX3_askFor 29 = .ok (.getfield 19, 3) := by decide +kernel
theorem dX3_askFor_32 : decode cX3_askFor 32 = .ok (.getfield 39, 3) := by decide +kernel
theorem dX3_askFor_35 : decode cX3_askFor 35 = .ok (.iload_n 1, 1) := by decide +kernel
theorem dX3_askFor_36 : decode cX3_askFor 36 = .ok (.iconst 0, 1) := by decide +kernel
theorem dX3_askFor_37 : decode cX3_askFor 37 = .ok (.invokevirtual 62, 3) := by decide +kernel
theorem dX3_askFor_40 : decode cX3_askFor 40 = .ok (.if_icmp .ne 7, 3) := by decide +kernel
theorem dX3_askFor_43 : decode cX3_askFor 43 = .ok (.iconst 1, 1) := by decide +kernel
theorem dX3_askFor_44 : decode cX3_askFor 44 = .ok (.goto 4, 3) := by decide +kernel
theorem dX3_askFor_47 : decode cX3_askFor 47 = .ok (.iconst 0, 1) := by decide +kernel
theorem dX3_askFor_48 : decode cX3_askFor 48 = .ok (.istore_n 3, 1) := by decide +kernel
theorem dX3_askFor_49 : decode cX3_askFor 49 = .ok (.aload_n 0, 1) := by decide +kernel
theorem dX3_askFor_50 : decode cX3_askFor 50 = .ok (.getfield 11, 3) := by decide +kernel
theorem dX3_askFor_53 : decode cX3_askFor 53 = .ok (.iload_n 1, 1) := by decide +kernel
theorem dX3_askFor_54 : decode cX3_askFor 54 = .ok (.aaload, 1) := by decide +kernel
theorem dX3_askFor_55 : decode cX3_askFor 55 = .ok (.iload_n 2, 1) := by decide +kernel
theorem dX3_askFor_56 : decode cX3_askFor 56 = .ok (.iload_n 3, 1) := by decide +kernel
theorem dX3_askFor_57 : decode cX3_askFor 57 = .ok (.ifCond .eq 28, 3) := by decide +kernel
theorem dX3_askFor_60 : decode cX3_askFor 60 = .ok (.aload_n 0, 1) := by decide +kernel
theorem dX3_askFor_61 : decode cX3_askFor 61 = .ok (.getfield 19, 3) := by decide +kernel
theorem dX3_askFor_64 : decode cX3_askFor 64 = .ok (.getfield 39, 3) := by decide +kernel
theorem dX3_askFor_67 : decode cX3_askFor 67 = .ok (.iload_n 1, 1) := by decide +kernel
theorem dX3_askFor_68 : decode cX3_askFor 68 = .ok (.iconst 2, 1) := by decide +kernel
theorem dX3_askFor_69 : decode cX3_askFor 69 = .ok (.invokevirtual 62, 3) := by decide +kernel
theorem dX3_askFor_72 : decode cX3_askFor 72 = .ok (.aload_n 0, 1) := by decide +kernel
theorem dX3_askFor_73 : decode cX3_askFor 73 = .ok (.getfield 23, 3) := by decide +kernel
theorem dX3_askFor_76 : decode cX3_askFor 76 = .ok (.iload_n 1, 1) := by decide +kernel
theorem dX3_askFor_77 : decode cX3_askFor 77 = .ok (.iload_n 2, 1) := by decide +kernel
theorem dX3_askFor_78 : decode cX3_askFor 78 = .ok (.invokevirtual 65, 3) := by decide +kernel
theorem dX3_askFor_81 : decode cX3_askFor 81 = .ok (.imul, 1) := by decide +kernel
theorem dX3_askFor_82 : decode cX3_askFor 82 = .ok (.goto 4, 3) := by decide +kernel
theorem dX3_askFor_85 : decode cX3_askFor 85 = .ok (.iconst (-1), 1) := by decide +kernel
theorem dX3_askFor_86 : decode cX3_askFor 86 = .ok (.iastore, 1) := by decide +kernel
theorem dX3_askFor_87 : decode cX3_askFor 87 = .ok (.iinc 2 1, 3) := by decide +kernel
theorem dX3_askFor_90 : decode cX3_askFor 90 = .ok (.goto (-88), 3) := by decide +kernel
theorem dX3_askFor_93 : decode cX3_askFor 93 = .ok (.return_, 1) := by decide +kernel
set_option maxHeartbeats 4000000 in
set_option maxRecDepth 100000 in
theorem x_X3_askFor_86 {p : Program} {l : Launch} {e : Env} {s : State} {m : MethodId} {args : Array Value} {below : List Frame} {meth : Method} {c : Code} {D : va_G} {K : Nat → ClassId} {A : Nat → Prop} {ad la : Nat → Nat} {rest : va_W} (C : xC p s m args meth c D K A RX3 cX3_askFor 4 none) (z : Unit × xS) (k_2 : Int32 → Int32 → xS → Option (Unit × xS)) (H_2 : ∀ (y1 : Int32) (y2 : Int32) (σ : xS), k_2 y1 y2 σ = some z → X p l e (xR 4 101) s m args below meth c D A 4 (xQv below D K A args s (CW K ad la rest z.2)) 0 0 2 [(0, .ref (ad 69)), (1, .int y1), (2, .int y2)] [] (CW K ad la rest σ)) : ∀ (y1 : Int32) (y2 : Int32) (t1x : Int32) (t2x : Int32) (σ : xS), y1.toNatClampNeg < 8 → F_X3_askFor_86 k_2 y1 y2 t1x t2x σ = some z → X p l e (xR 4 101) s m args below meth c D A 4 (xQv below D K A args s (CW K ad la rest z.2)) 0 0 86 [(0, .ref (ad 69)), (1, .int y1), (2, .int y2)] [.int t2x, .int t1x, .ref (ad (71 + y1.toNatClampNeg))] (CW K ad la rest σ) := by
  intro y1 y2 t1x t2x σ hj6 hF
  unfold F_X3_askFor_86 at hF
  refine x_iast C (71 + y1.toNatClampNeg) dX3_askFor_86 (CW_i70 K ad la rest σ (y1.toNatClampNeg) hj6) hF (CW_is70 K ad la rest σ _ (y1.toNatClampNeg) hj6) (fun hF => ?_)
  refine x_st (wf := CW K ad la rest) hF (fun σ11 hF => ?_)
  refine x_iincN C 1 2 (fun x12 => [(2, .int x12), (0, .ref (ad 69)), (1, .int y1)]) dX3_askFor_87 rfl (by decide +kernel) (by decide) (fun _ => rfl) hF (fun x12 hF => ?_)
  refine x_goto C 2 dX3_askFor_90 (by decide) ?_
  refine x_loc [(0, .ref (ad 69)), (1, .int y1), (2, .int x12)] [1, 2, 0] rfl ?_
  exact H_2 y1 x12 σ11 hF
set_option maxHeartbeats 4000000 in
set_option maxRecDepth 100000 in
theorem x_X3_askFor_48 {p : Program} {l : Launch} {e : Env} {s : State} {m : MethodId} {args : Array Value} {below : List Frame} {meth : Method} {c : Code} {D : va_G} {K : Nat → ClassId} {A : Nat → Prop} {ad la : Nat → Nat} {rest : va_W} (C : xC p s m args meth c D K A RX3 cX3_askFor 4 none) (z : Unit × xS) (k_2 : Int32 → Int32 → xS → Option (Unit × xS)) (H_2 : ∀ (y1 : Int32) (y2 : Int32) (σ : xS), k_2 y1 y2 σ = some z → X p l e (xR 4 101) s m args below meth c D A 4 (xQv below D K A args s (CW K ad la rest z.2)) 0 0 2 [(0, .ref (ad 69)), (1, .int y1), (2, .int y2)] [] (CW K ad la rest σ)) : ∀ (y1 : Int32) (y2 : Int32) (t0x : Int32) (σ : xS), F_X3_askFor_48 k_2 y1 y2 t0x σ = some z → X p l e (xR 4 101) s m args below meth c D A 4 (xQv below D K A args s (CW K ad la rest z.2)) 0 0 48 [(0, .ref (ad 69)), (1, .int y1), (2, .int y2)] [.int t0x] (CW K ad la rest σ) := by
  intro y1 y2 t0x σ hF
  unfold F_X3_askFor_48 at hF
  refine x_istore_n C [(3, .int t0x), (0, .ref (ad 69)), (1, .int y1), (2, .int y2)] dX3_askFor_48 rfl (by decide) rfl ?_
  refine x_aload_n C 1 0 dX3_askFor_49 rfl rfl ?_
  refine x_get C 69 dX3_askFor_50 fl_X3_11 (CW_69 K ad la rest σ) rfl ?_
  refine x_iload_n C 2 1 dX3_askFor_53 rfl rfl ?_
  refine x_aald C (t0 := 4) 70 dX3_askFor_54 (CW_70 K ad la rest σ) rfl rfl hF (fun hF hj6 => ?_)
  refine x_if_cast (st2 := [.ref (ad (71 + y1.toNatClampNeg))]) rfl ?_
  refine x_iload_n C 3 2 dX3_askFor_55 rfl rfl ?_
  refine x_iload_n C 0 3 dX3_askFor_56 rfl rfl ?_
  refine x_if_eq C 85 dX3_askFor_57 (by decide) hF (fun hF => ?_) (fun hF => ?_)
  · refine x_iconst C (-1) dX3_askFor_85 (by decide +kernel) ?_
    refine x_loc [(0, .ref (ad 69)), (1, .int y1), (2, .int y2)] [1, 2, 3] rfl ?_
    exact x_X3_askFor_86 C z k_2 H_2 y1 y2 y2 ((-1)) σ hj6 hF
  · refine x_aload_n C 1 0 dX3_askFor_60 rfl rfl ?_
    refine x_get C 69 dX3_askFor_61 fl_X3_19 (CW_69 K ad la rest σ) rfl ?_
    refine x_get C 5 dX3_askFor_64 fl_X3_39 (CW_5 K ad la rest σ) rfl ?_
    refine x_iload_n C 2 1 dX3_askFor_67 rfl rfl ?_
    refine x_iconst C 2 dX3_askFor_68 (by decide +kernel) ?_
    refine x_callVI C (wf := CW K ad la rest) (As := [.int y1, .int 2]) (rest := [.int y2, .ref (ad (71 + y1.toNatClampNeg))]) dX3_askFor_69 ml_X3_62 rfl rfl (Nat.le_of_ble_eq_true rfl) 12 (CW_12 K ad la rest σ) rfl ⟨Nat.le_of_ble_eq_true rfl, Nat.le_of_ble_eq_true rfl⟩ ⟨Nat.zero_le _, Nat.zero_le _⟩ (fun q9 hq9 => c_X6_get l D K ad la rest 2 (by decide) y1 2 σ q9 hq9) hF (fun v8 σ7 hF => ?_)
    refine x_aload_n C 1 0 dX3_askFor_72 rfl rfl ?_
    refine x_get C 69 dX3_askFor_73 fl_X3_23 (CW_69 K ad la rest σ7) rfl ?_
    refine x_iload_n C 2 1 dX3_askFor_76 rfl rfl ?_
    refine x_iload_n C 3 2 dX3_askFor_77 rfl rfl ?_
    refine x_callVI C (wf := CW K ad la rest) (As := [.int y1, .int y2]) (rest := [.int v8, .int y2, .ref (ad (71 + y1.toNatClampNeg))]) dX3_askFor_78 ml_X3_65 rfl rfl (Nat.le_of_ble_eq_true rfl) 44 (CW_44 K ad la rest σ7) rfl ⟨Nat.le_of_ble_eq_true rfl, Nat.le_of_ble_eq_true rfl⟩ ⟨Nat.zero_le _, Nat.zero_le _⟩ (fun q9 hq9 => c_X0_stillWanted l D K ad la rest y1 y2 σ7 q9 hq9) hF (fun v10 σ9 hF => ?_)
    refine x_imul C dX3_askFor_81 ?_
    refine x_goto C 86 dX3_askFor_82 (by decide) ?_
    refine x_loc [(0, .ref (ad 69)), (1, .int y1), (2, .int y2)] [1, 2, 3] rfl ?_
    exact x_X3_askFor_86 C z k_2 H_2 y1 y2 y2 (v8 * v10) σ9 hj6 hF
set_option maxHeartbeats 4000000 in
set_option maxRecDepth 100000 in
theorem x_X3_askFor_2 {p : Program} {l : Launch} {e : Env} {s : State} {m : MethodId} {args : Array Value} {below : List Frame} {meth : Method} {c : Code} {D : va_G} {K : Nat → ClassId} {A : Nat → Prop} {ad la : Nat → Nat} {rest : va_W} (C : xC p s m args meth c D K A RX3 cX3_askFor 4 none) (z : Unit × xS) : ∀ (n : Nat) (y1 : Int32) (y2 : Int32) (σ : xS), F_X3_askFor_2  n y1 y2 σ = some z → X p l e (xR 4 101) s m args below meth c D A 4 (xQv below D K A args s (CW K ad la rest z.2)) 0 0 2 [(0, .ref (ad 69)), (1, .int y1), (2, .int y2)] [] (CW K ad la rest σ) := by
  intro n
  induction n with
  | zero =>
    intro y1 y2 σ hF
    cases hF
  | succ n ih =>
    intro y1 y2 σ hF
    rw [F_X3_askFor_2] at hF
    refine x_iload_n C 2 2 dX3_askFor_2 rfl rfl ?_
    refine x_aload_n C 0 0 dX3_askFor_3 rfl rfl ?_
    refine x_get C 69 dX3_askFor_4 fl_X3_19 (CW_69 K ad la rest σ) rfl ?_
    refine x_get C 5 dX3_askFor_7 fl_X3_27 (CW_5 K ad la rest σ) rfl ?_
    refine x_get C 8 dX3_askFor_10 fl_X3_33 (CW_8 K ad la rest σ) rfl ?_
    refine x_icmp_ge C 93 dX3_askFor_13 (by decide) hF (fun hF => ?_) (fun hF => ?_)
    · exact x_vret C dX3_askFor_93 rfl (congrArg (fun q9 : Unit × xS => CW K ad la rest q9.2) (Option.some.inj hF))
    · refine x_aload_n C 0 0 dX3_askFor_16 rfl rfl ?_
      refine x_get C 69 dX3_askFor_17 fl_X3_19 (CW_69 K ad la rest σ) rfl ?_
      refine x_get C 5 dX3_askFor_20 fl_X3_27 (CW_5 K ad la rest σ) rfl ?_
      refine x_iload_n C 2 2 dX3_askFor_23 rfl rfl ?_
      refine x_iconst C 0 dX3_askFor_24 (by decide +kernel) ?_
      refine x_callVI C (wf := CW K ad la rest) (As := [.int y2, .int 0]) (rest := []) dX3_askFor_25 ml_X3_62 rfl rfl (Nat.le_of_ble_eq_true rfl) 8 (CW_8 K ad la rest σ) rfl ⟨Nat.le_of_ble_eq_true rfl, Nat.le_of_ble_eq_true rfl⟩ ⟨Nat.zero_le _, Nat.zero_le _⟩ (fun q9 hq9 => c_X6_get l D K ad la rest 0 (by decide) y2 0 σ q9 hq9) hF (fun v3 σ2 hF => ?_)
      refine x_aload_n C 0 0 dX3_askFor_28 rfl rfl ?_
      refine x_get C 69 dX3_askFor_29 fl_X3_19 (CW_69 K ad la rest σ2) rfl ?_
      refine x_get C 5 dX3_askFor_32 fl_X3_39 (CW_5 K ad la rest σ2) rfl ?_
      refine x_iload_n C 1 1 dX3_askFor_35 rfl rfl ?_
      refine x_iconst C 0 dX3_askFor_36 (by decide +kernel) ?_
      refine x_callVI C (wf := CW K ad la rest) (As := [.int y1, .int 0]) (rest := [.int v3]) dX3_askFor_37 ml_X3_62 rfl rfl (Nat.le_of_ble_eq_true rfl) 12 (CW_12 K ad la rest σ2) rfl ⟨Nat.le_of_ble_eq_true rfl, Nat.le_of_ble_eq_true rfl⟩ ⟨Nat.zero_le _, Nat.zero_le _⟩ (fun q9 hq9 => c_X6_get l D K ad la rest 2 (by decide) y1 0 σ2 q9 hq9) hF (fun v5 σ4 hF => ?_)
      refine x_icmp_ne C 47 dX3_askFor_40 (by decide) hF (fun hF => ?_) (fun hF => ?_)
      · refine x_iconst C 0 dX3_askFor_47 (by decide +kernel) ?_
        exact x_X3_askFor_48 C z ((F_X3_askFor_2 n)) ih y1 y2 0 σ4 hF
      · refine x_iconst C 1 dX3_askFor_43 (by decide +kernel) ?_
        refine x_goto C 48 dX3_askFor_44 (by decide) ?_
        exact x_X3_askFor_48 C z ((F_X3_askFor_2 n)) ih y1 y2 1 σ4 hF
set_option maxHeartbeats 4000000 in
set_option maxRecDepth 100000 in
theorem c_X3_askFor (l : Launch) (D : va_G) (K : Nat → ClassId) (ad la : Nat → Nat) (rest : va_W)  (a1 : Int32) (σ : xS) (z : Unit × xS) (hF : F_X3_askFor a1 σ = some z) : CV l D K yX3_askFor cX3_askFor 4 none 4 101 [.ref (ad 69), .int a1] (CW K ad la rest σ) (CW K ad la rest z.2) := by
  refine x_enterV [(0, .ref (ad 69)), (1, .int a1)] pnX3 (Nat.le_of_ble_eq_true rfl) rfl ?_
  intro p e s m args below meth c A C
  unfold F_X3_askFor at hF
  refine x_iconst C 0 dX3_askFor_0 (by decide +kernel) ?_
  refine x_topI hF (fun x1 hF => ?_)
  refine x_istore_n C [(2, .int x1), (0, .ref (ad 69)), (1, .int a1)] dX3_askFor_1 rfl (by decide) rfl ?_
  refine x_loc [(0, .ref (ad 69)), (1, .int a1), (2, .int x1)] [1, 2, 0] rfl ?_
  exact x_X3_askFor_2 C z FU a1 x1 σ hF
theorem dX3_canHave_0 : decode cX3_canHave 0 = .ok (.aload_n 0, 1) := by decide +kernel
theorem dX3_canHave_1 : decode cX3_canHave 1 = .ok (.getfield 11, 3) := by decide +kernel
theorem dX3_canHave_4 : decode cX3_canHave 4 = .ok (.iload_n 1, 1) := by decide +kernel
theorem dX3_canHave_5 : decode cX3_canHave 5 = .ok (.aaload, 1) := by decide +kernel
theorem dX3_canHave_6 : decode cX3_canHave 6 = .ok (.iload_n 2, 1) := by decide +kernel
theorem dX3_canHave_7 : decode cX3_canHave 7 = .ok (.iaload, 1) := by decide +kernel
theorem dX3_canHave_8 : decode cX3_canHave 8 = .ok (.iconst (-1), 1) := by decide +kernel
theorem dX3_canHave_9 : decode cX3_canHave 9 = .ok (.if_icmp .eq 15, 3) := by decide +kernel
theorem dX3_canHave_12 : decode cX3_canHave 12 = .ok (.iload_n 3, 1) := by decide +kernel
theorem dX3_canHave_13 : decode cX3_canHave 13 = .ok (.iload_n 2, 1) := by decide +kernel
theorem dX3_canHave_14 : decode cX3_canHave 14 = .ok (.ishr, 1) := by decide +kernel
theorem dX3_canHave_15 : decode cX3_canHave 15 = .ok (.iconst 1, 1) := by decide +kernel
theorem dX3_canHave_16 : decode cX3_canHave 16 = .ok (.iand, 1) := by decide +kernel
theorem dX3_canHave_17 : decode cX3_canHave 17 = .ok (.ifCond .ne 7, 3) := by decide +kernel
theorem dX3_canHave_20 : decode cX3_canHave 20 = .ok (.iconst 1, 1) := by decide +kernel
theorem dX3_canHave_21 : decode cX3_canHave 21 = .ok (.goto 4, 3) := by decide +kernel
theorem dX3_canHave_24 : decode cX3_canHave 24 = .ok (.iconst 0, 1) := by decide +kernel
theorem dX3_canHave_25 : decode cX3_canHave 25 = .ok (.ireturn, 1) := by decide +kernel
set_option maxHeartbeats 4000000 in
set_option maxRecDepth 100000 in
theorem c_X3_canHave (l : Launch) (D : va_G) (K : Nat → ClassId) (ad la : Nat → Nat) (rest : va_W)  (a1 : Int32) (a2 : Int32) (a3 : Int32) (σ : xS) (z : Int32 × xS) (hF : F_X3_canHave a1 a2 a3 σ = some z) : CI l D K yX3_canHave cX3_canHave 4 (some .boolean) 0 0 [.ref (ad 69), .int a1, .int a2, .int a3] (CW K ad la rest σ) z.1 (CW K ad la rest z.2) := by
  refine x_enterI [(0, .ref (ad 69)), (1, .int a1), (2, .int a2), (3, .int a3)] pnX3 (Nat.le_of_ble_eq_true rfl) rfl ?_
  intro p e s m args below meth c A C
  unfold F_X3_canHave at hF
  refine x_aload_n C 0 0 dX3_canHave_0 rfl rfl ?_
  refine x_get C 69 dX3_canHave_1 fl_X3_11 (CW_69 K ad la rest σ) rfl ?_
  refine x_iload_n C 1 1 dX3_canHave_4 rfl rfl ?_
  refine x_aald C (t0 := 4) 70 dX3_canHave_5 (CW_70 K ad la rest σ) rfl rfl hF (fun hF hj1 => ?_)
  refine x_if_cast (st2 := [.ref (ad (71 + a1.toNatClampNeg))]) rfl ?_
  refine x_iload_n C 2 2 dX3_canHave_6 rfl rfl ?_
  refine x_iald C (71 + a1.toNatClampNeg) dX3_canHave_7 (CW_i70 K ad la rest σ (a1.toNatClampNeg) hj1) hF (fun v2 hF => ?_)
  refine x_iconst C (-1) dX3_canHave_8 (by decide +kernel) ?_
  refine x_icmp_eq C 24 dX3_canHave_9 (by decide) hF (fun hF => ?_) (fun hF => ?_)
  · refine x_iconst C 0 dX3_canHave_24 (by decide +kernel) ?_
    have hz := (cz_some hF).1
    replace hF := (cz_some hF).2
    exact x_zret C dX3_canHave_25 rfl hz (congrArg Prod.fst (Option.some.inj hF)) (congrArg (fun q9 : Int32 × xS => CW K ad la rest q9.2) (Option.some.inj hF))
  · refine x_iload_n C 3 3 dX3_canHave_12 rfl rfl ?_
    refine x_iload_n C 2 2 dX3_canHave_13 rfl rfl ?_
    refine x_ishr C dX3_canHave_14 ?_
    refine x_iconst C 1 dX3_canHave_15 (by decide +kernel) ?_
    refine x_iand C dX3_canHave_16 ?_
    refine x_if_ne C 24 dX3_canHave_17 (by decide) hF (fun hF => ?_) (fun hF => ?_)
    · refine x_iconst C 0 dX3_canHave_24 (by decide +kernel) ?_
      have hz := (cz_some hF).1
      replace hF := (cz_some hF).2
      exact x_zret C dX3_canHave_25 rfl hz (congrArg Prod.fst (Option.some.inj hF)) (congrArg (fun q9 : Int32 × xS => CW K ad la rest q9.2) (Option.some.inj hF))
    · refine x_iconst C 1 dX3_canHave_20 (by decide +kernel) ?_
      refine x_goto C 25 dX3_canHave_21 (by decide) ?_
      have hz := (cz_some hF).1
      replace hF := (cz_some hF).2
      exact x_zret C dX3_canHave_25 rfl hz (congrArg Prod.fst (Option.some.inj hF)) (congrArg (fun q9 : Int32 × xS => CW K ad la rest q9.2) (Option.some.inj hF))
theorem dX3_with_0 : decode cX3_with 0 = .ok (.aload_n 0, 1) := by decide +kernel
theorem dX3_with_1 : decode cX3_with 1 = .ok (.getfield 11, 3) := by decide +kernel
theorem dX3_with_4 : decode cX3_with 4 = .ok (.iload_n 1, 1) := by decide +kernel
theorem dX3_with_5 : decode cX3_with 5 = .ok (.aaload, 1) := by decide +kernel
theorem dX3_with_6 : decode cX3_with 6 = .ok (.iload_n 2, 1) := by decide +kernel
theorem dX3_with_7 : decode cX3_with 7 = .ok (.iaload, 1) := by decide +kernel
theorem dX3_with_8 : decode cX3_with 8 = .ok (.aload_n 0, 1) := by decide +kernel
theorem dX3_with_9 : decode cX3_with 9 = .ok (.getfield 16, 3) := by decide +kernel
theorem dX3_with_12 : decode cX3_with 12 = .ok (.iload_n 1, 1) := by decide +kernel
theorem dX3_with_13 : decode cX3_with 13 = .ok (.iconst 1, 1) := by decide +kernel
theorem dX3_with_14 : decode cX3_with 14 = .ok (.iadd, 1) := by decide +kernel
theorem dX3_with_15 : decode cX3_with 15 = .ok (.aaload, 1) := by decide +kernel
theorem dX3_with_16 : decode cX3_with 16 = .ok (.iload_n 3, 1) := by decide +kernel
theorem dX3_with_17 : decode cX3_with 17 = .ok (.iconst 1, 1) := by decide +kernel
theorem dX3_with_18 : decode cX3_with 18 = .ok (.iload_n 2, 1) := by decide +kernel
theorem dX3_with_19 : decode cX3_with 19 = .ok (.ishl, 1) := by decide +kernel
theorem dX3_with_20 : decode cX3_with 20 = .ok (.ior, 1) := by decide +kernel
theorem dX3_with_21 : decode cX3_with 21 = .ok (.iaload, 1) := by decide +kernel
theorem dX3_with_22 : decode cX3_with 22 = .ok (.iadd, 1) := by decide +kernel
theorem dX3_with_23 : decode cX3_with 23 = .ok (.ireturn, 1) := by decide +kernel
set_option maxHeartbeats 4000000 in
set_option maxRecDepth 100000 in
theorem c_X3_with (l : Launch) (D : va_G) (K : Nat → ClassId) (ad la : Nat → Nat) (rest : va_W)  (a1 : Int32) (a2 : Int32) (a3 : Int32) (σ : xS) (z : Int32 × xS) (hF : F_X3_with a1 a2 a3 σ = some z) : CI l D K yX3_with cX3_with 4 (some .int) 0 0 [.ref (ad 69), .int a1, .int a2, .int a3] (CW K ad la rest σ) z.1 (CW K ad la rest z.2) := by
  refine x_enterI [(0, .ref (ad 69)), (1, .int a1), (2, .int a2), (3, .int a3)] pnX3 (Nat.le_of_ble_eq_true rfl) rfl ?_
  intro p e s m args below meth c A C
  unfold F_X3_with at hF
  refine x_aload_n C 0 0 dX3_with_0 rfl rfl ?_
  refine x_get C 69 dX3_with_1 fl_X3_11 (CW_69 K ad la rest σ) rfl ?_
  refine x_iload_n C 1 1 dX3_with_4 rfl rfl ?_
  refine x_aald C (t0 := 4) 70 dX3_with_5 (CW_70 K ad la rest σ) rfl rfl hF (fun hF hj1 => ?_)
  refine x_if_cast (st2 := [.ref (ad (71 + a1.toNatClampNeg))]) rfl ?_
  refine x_iload_n C 2 2 dX3_with_6 rfl rfl ?_
  refine x_iald C (71 + a1.toNatClampNeg) dX3_with_7 (CW_i70 K ad la rest σ (a1.toNatClampNeg) hj1) hF (fun v2 hF => ?_)
  refine x_aload_n C 0 0 dX3_with_8 rfl rfl ?_
  refine x_get C 69 dX3_with_9 fl_X3_16 (CW_69 K ad la rest σ) rfl ?_
  refine x_iload_n C 1 1 dX3_with_12 rfl rfl ?_
  refine x_iconst C 1 dX3_with_13 (by decide +kernel) ?_
  refine x_iadd C dX3_with_14 ?_
  refine x_aald C (t0 := 4) 79 dX3_with_15 (CW_79 K ad la rest σ) rfl rfl hF (fun hF hj3 => ?_)
  refine x_if_cast (st2 := [.ref (ad (80 + (a1 + 1).toNatClampNeg)), .int v2]) rfl ?_
  refine x_iload_n C 3 3 dX3_with_16 rfl rfl ?_
  refine x_iconst C 1 dX3_with_17 (by decide +kernel) ?_
  refine x_iload_n C 2 2 dX3_with_18 rfl rfl ?_
  refine x_ishl C dX3_with_19 ?_
  refine x_ior C dX3_with_20 ?_
  refine x_iald C (80 + (a1 + 1).toNatClampNeg) dX3_with_21 (CW_i79 K ad la rest σ ((a1 + 1).toNatClampNeg) hj3) hF (fun v4 hF => ?_)
  refine x_iadd C dX3_with_22 ?_
  exact x_iret C dX3_with_23 rfl (congrArg Prod.fst (Option.some.inj hF)) (congrArg (fun q9 : Int32 × xS => CW K ad la rest q9.2) (Option.some.inj hF))
theorem dX3_mostFrom_0 : decode cX3_mostFrom 0 = .ok (.aload_n 0, 1) := by decide +kernel
theorem dX3_mostFrom_1 : decode cX3_mostFrom 1 = .ok (.getfield 16, 3) := by decide +kernel
theorem dX3_mostFrom_4 : decode cX3_mostFrom 4 = .ok (.iload_n 1, 1) := by decide +kernel
theorem dX3_mostFrom_5 : decode cX3_mostFrom 5 = .ok (.iconst 1, 1) := by decide +kernel
theorem dX3_mostFrom_6 : decode cX3_mostFrom 6 = .ok (.iadd, 1) := by decide +kernel
theorem dX3_mostFrom_7 : decode cX3_mostFrom 7 = .ok (.aaload, 1) := by decide +kernel
theorem dX3_mostFrom_8 : decode cX3_mostFrom 8 = .ok (.iload_n 2, 1) := by decide +kernel
theorem dX3_mostFrom_9 : decode cX3_mostFrom 9 = .ok (.iaload, 1) := by decide +kernel
theorem dX3_mostFrom_10 : decode cX3_mostFrom 10 = .ok (.istore_n 3, 1) := by decide +kernel
theorem dX3_mostFrom_11 : decode cX3_mostFrom 11 = .ok (.iconst 0, 1) := by decide +kernel
theorem dX3_mostFrom_12 : decode cX3_mostFrom 12 = .ok (.istore 4, 2) := by decide +kernel
theorem dX3_mostFrom_14 : decode cX3_mostFrom 14 = .ok (.iload 4, 2) := by decide +kernel
theorem dX3_mostFrom_16 : decode cX3_mostFrom 16 = .ok (.aload_n 0, 1) := by decide +kernel
theorem dX3_mostFrom_17 : decode cX3_mostFrom 17 = .ok (.getfield 19, 3) := by decide +kernel
theorem dX3_mostFrom_20 : decode cX3_mostFrom 20 = .ok (.getfield 27, 3) := by decide +kernel
theorem dX3_mostFrom_23 : decode cX3_mostFrom 23 = .ok (.getfield 33, 3) := by decide +kernel
theorem dX3_mostFrom_26 : decode cX3_mostFrom 26 = .ok (.if_icmp .ge 33, 3) := by decide +kernel
theorem dX3_mostFrom_29 : decode cX3_mostFrom 29 = .ok (.aload_n 0, 1) := by decide +kernel
theorem dX3_mostFrom_30 : decode cX3_mostFrom 30 = .ok (.iload_n 1, 1) := by decide +kernel
theorem dX3_mostFrom_31 : decode cX3_mostFrom 31 = .ok (.iload 4, 2) := by decide +kernel
theorem dX3_mostFrom_33 : decode cX3_mostFrom 33 = .ok (.iload_n 2, 1) := by decide +kernel
theorem dX3_mostFrom_34 : decode cX3_mostFrom 34 = .ok (.invokevirtual 70, 3) := by decide +kernel
theorem dX3_mostFrom_37 : decode cX3_mostFrom 37 = .ok (.ifCond .eq 16, 3) := by decide +kernel
theorem dX3_mostFrom_40 : decode cX3_mostFrom 40 = .ok (.iload_n 3, 1) := by decide +kernel
theorem dX3_mostFrom_41 : decode cX3_mostFrom 41 = .ok (.aload_n 0, 1) := by decide +kernel
theorem dX3_mostFrom_42 : decode cX3_mostFrom 42 = .ok (.iload_n 1, 1) := by decide +kernel
theorem dX3_mostFrom_43 : decode cX3_mostFrom 43 = .ok (.iload 4, 2) := by decide +kernel
theorem dX3_mostFrom_45 : decode cX3_mostFrom 45 = .ok (.iload_n 2, 1) := by decide +kernel
theorem dX3_mostFrom_46 : decode cX3_mostFrom 46 = .ok (.invokevirtual 74, 3) := by decide +kernel
theorem dX3_mostFrom_49 : decode cX3_mostFrom 49 = .ok (.invokestatic 78, 3) := by decide +kernel
theorem dX3_mostFrom_52 : decode cX3_mostFrom 52 = .ok (.istore_n 3, 1) := by decide +kernel
theorem dX3_mostFrom_53 : decode cX3_mostFrom 53 = .ok (.iinc 4 1, 3) := by decide +kernel
theorem dX3_mostFrom_56 : decode cX3_mostFrom 56 = .ok (.goto (-42), 3) := by decide +kernel
theorem dX3_mostFrom_59 : decode cX3_mostFrom 59 = .ok (.iload_n 3, 1) := by decide +kernel
theorem dX3_mostFrom_60 : decode cX3_mostFrom 60 = .ok (.ireturn, 1) := by decide +kernel
set_option maxHeartbeats 4000000 in
set_option maxRecDepth 100000 in
theorem x_X3_mostFrom_14 {p : Program} {l : Launch} {e : Env} {s : State} {m : MethodId} {args : Array Value} {below : List Frame} {meth : Method} {c : Code} {D : va_G} {K : Nat → ClassId} {A : Nat → Prop} {ad la : Nat → Nat} {rest : va_W} (C : xC p s m args meth c D K A RX3 cX3_mostFrom 5 (some .int)) (z : Int32 × xS) : ∀ (n : Nat) (y1 : Int32) (y2 : Int32) (y3 : Int32) (y4 : Int32) (σ : xS), F_X3_mostFrom_14  n y1 y2 y3 y4 σ = some z → X p l e (xR 1 24) s m args below meth c D A 5 (xQi below D K A args s z.1 (CW K ad la rest z.2)) 0 0 14 [(0, .ref (ad 69)), (1, .int y1), (2, .int y2), (3, .int y3), (4, .int y4)] [] (CW K ad la rest σ) := by
  intro n
  induction n with
  | zero =>
    intro y1 y2 y3 y4 σ hF
    cases hF
  | succ n ih =>
    intro y1 y2 y3 y4 σ hF
    rw [F_X3_mostFrom_14] at hF
    refine x_iload C 4 4 dX3_mostFrom_14 rfl ?_
    refine x_aload_n C 0 0 dX3_mostFrom_16 rfl rfl ?_
    refine x_get C 69 dX3_mostFrom_17 fl_X3_19 (CW_69 K ad la rest σ) rfl ?_
    refine x_get C 5 dX3_mostFrom_20 fl_X3_27 (CW_5 K ad la rest σ) rfl ?_
    refine x_get C 8 dX3_mostFrom_23 fl_X3_33 (CW_8 K ad la rest σ) rfl ?_
    refine x_icmp_ge C 59 dX3_mostFrom_26 (by decide) hF (fun hF => ?_) (fun hF => ?_)
    · refine x_iload_n C 3 3 dX3_mostFrom_59 rfl rfl ?_
      exact x_iret C dX3_mostFrom_60 rfl (congrArg Prod.fst (Option.some.inj hF)) (congrArg (fun q9 : Int32 × xS => CW K ad la rest q9.2) (Option.some.inj hF))
    · refine x_aload_n C 0 0 dX3_mostFrom_29 rfl rfl ?_
      refine x_iload_n C 1 1 dX3_mostFrom_30 rfl rfl ?_
      refine x_iload C 4 4 dX3_mostFrom_31 rfl ?_
      refine x_iload_n C 2 2 dX3_mostFrom_33 rfl rfl ?_
      refine x_callVI C (wf := CW K ad la rest) (As := [.int y1, .int y4, .int y2]) (rest := []) dX3_mostFrom_34 ml_X3_70 rfl rfl (Nat.le_of_ble_eq_true rfl) 69 (CW_69 K ad la rest σ) rfl ⟨Nat.le_of_ble_eq_true rfl, Nat.le_of_ble_eq_true rfl⟩ ⟨Nat.zero_le _, Nat.zero_le _⟩ (fun q9 hq9 => c_X3_canHave l D K ad la rest y1 y4 y2 σ q9 hq9) hF (fun v5 σ4 hF => ?_)
      refine x_if_eq C 53 dX3_mostFrom_37 (by decide) hF (fun hF => ?_) (fun hF => ?_)
      · refine x_iincN C 1 4 (fun x6 => [(4, .int x6), (0, .ref (ad 69)), (1, .int y1), (2, .int y2), (3, .int y3)]) dX3_mostFrom_53 rfl (by decide +kernel) (by decide) (fun _ => rfl) hF (fun x6 hF => ?_)
        refine x_goto C 14 dX3_mostFrom_56 (by decide) ?_
        refine x_loc [(0, .ref (ad 69)), (1, .int y1), (2, .int y2), (3, .int y3), (4, .int x6)] [1, 2, 3, 4, 0] rfl ?_
        exact ih y1 y2 y3 x6 σ4 hF
      · refine x_iload_n C 3 3 dX3_mostFrom_40 rfl rfl ?_
        refine x_aload_n C 0 0 dX3_mostFrom_41 rfl rfl ?_
        refine x_iload_n C 1 1 dX3_mostFrom_42 rfl rfl ?_
        refine x_iload C 4 4 dX3_mostFrom_43 rfl ?_
        refine x_iload_n C 2 2 dX3_mostFrom_45 rfl rfl ?_
        refine x_callVI C (wf := CW K ad la rest) (As := [.int y1, .int y4, .int y2]) (rest := [.int y3]) dX3_mostFrom_46 ml_X3_74 rfl rfl (Nat.le_of_ble_eq_true rfl) 69 (CW_69 K ad la rest σ4) rfl ⟨Nat.le_of_ble_eq_true rfl, Nat.le_of_ble_eq_true rfl⟩ ⟨Nat.zero_le _, Nat.zero_le _⟩ (fun q9 hq9 => c_X3_with l D K ad la rest y1 y4 y2 σ4 q9 hq9) hF (fun v8 σ7 hF => ?_)
        refine x_mmax C dX3_mostFrom_49 wl_X3_78 jMaxI ⟨Nat.le_of_ble_eq_true rfl, Nat.le_of_ble_eq_true rfl⟩ ⟨Nat.zero_le _, Nat.zero_le _⟩ ?_
        refine x_topI hF (fun x9 hF => ?_)
        refine x_istore_n C [(3, .int x9), (0, .ref (ad 69)), (1, .int y1), (2, .int y2), (4, .int y4)] dX3_mostFrom_52 rfl (by decide) rfl ?_
        refine x_iincN C 1 4 (fun x10 => [(4, .int x10), (3, .int x9), (0, .ref (ad 69)), (1, .int y1), (2, .int y2)]) dX3_mostFrom_53 rfl (by decide +kernel) (by decide) (fun _ => rfl) hF (fun x10 hF => ?_)
        refine x_goto C 14 dX3_mostFrom_56 (by decide) ?_
        refine x_loc [(0, .ref (ad 69)), (1, .int y1), (2, .int y2), (3, .int x9), (4, .int x10)] [2, 3, 4, 1, 0] rfl ?_
        exact ih y1 y2 x9 x10 σ7 hF
set_option maxHeartbeats 4000000 in
set_option maxRecDepth 100000 in
theorem c_X3_mostFrom (l : Launch) (D : va_G) (K : Nat → ClassId) (ad la : Nat → Nat) (rest : va_W)  (a1 : Int32) (a2 : Int32) (σ : xS) (z : Int32 × xS) (hF : F_X3_mostFrom a1 a2 σ = some z) : CI l D K yX3_mostFrom cX3_mostFrom 5 (some .int) 1 24 [.ref (ad 69), .int a1, .int a2] (CW K ad la rest σ) z.1 (CW K ad la rest z.2) := by
  refine x_enterI [(0, .ref (ad 69)), (1, .int a1), (2, .int a2)] pnX3 (Nat.le_of_ble_eq_true rfl) rfl ?_
  intro p e s m args below meth c A C
  unfold F_X3_mostFrom at hF
  refine x_aload_n C 0 0 dX3_mostFrom_0 rfl rfl ?_
  refine x_get C 69 dX3_mostFrom_1 fl_X3_16 (CW_69 K ad la rest σ) rfl ?_
  refine x_iload_n C 1 1 dX3_mostFrom_4 rfl rfl ?_
  refine x_iconst C 1 dX3_mostFrom_5 (by decide +kernel) ?_
  refine x_iadd C dX3_mostFrom_6 ?_
  refine x_aald C (t0 := 4) 79 dX3_mostFrom_7 (CW_79 K ad la rest σ) rfl rfl hF (fun hF hj1 => ?_)
  refine x_if_cast (st2 := [.ref (ad (80 + (a1 + 1).toNatClampNeg))]) rfl ?_
  refine x_iload_n C 2 2 dX3_mostFrom_8 rfl rfl ?_
  refine x_iald C (80 + (a1 + 1).toNatClampNeg) dX3_mostFrom_9 (CW_i79 K ad la rest σ ((a1 + 1).toNatClampNeg) hj1) hF (fun v2 hF => ?_)
  refine x_istore_n C [(3, .int v2), (0, .ref (ad 69)), (1, .int a1), (2, .int a2)] dX3_mostFrom_10 rfl (by decide) rfl ?_
  refine x_iconst C 0 dX3_mostFrom_11 (by decide +kernel) ?_
  refine x_topI hF (fun x3 hF => ?_)
  refine x_istore C [(4, .int x3), (3, .int v2), (0, .ref (ad 69)), (1, .int a1), (2, .int a2)] dX3_mostFrom_12 (by decide) rfl ?_
  refine x_loc [(0, .ref (ad 69)), (1, .int a1), (2, .int a2), (3, .int v2), (4, .int x3)] [2, 3, 4, 1, 0] rfl ?_
  exact x_X3_mostFrom_14 C z FU a1 a2 v2 x3 σ hF
theorem dX3_plan_0 : decode cX3_plan 0 = .ok (.iconst 1, 1) := by decide +kernel
theorem dX3_plan_1 : decode cX3_plan 1 = .ok (.aload_n 0, 1) := by decide +kernel
theorem dX3_plan_2 : decode cX3_plan 2 = .ok (.getfield 19, 3) := by decide +kernel
theorem dX3_plan_5 : decode cX3_plan 5 = .ok (.getfield 27, 3) := by decide +kernel
theorem dX3_plan_8 : decode cX3_plan 8 = .ok (.getfield 33, 3) := by decide +kernel
theorem dX3_plan_11 : decode cX3_plan 11 = .ok (.ishl, 1) := by decide +kernel
theorem dX3_plan_12 : decode cX3_plan 12 = .ok (.istore_n 1, 1) := by decide +kernel
theorem dX3_plan_13 : decode cX3_plan 13 = .ok (.aload_n 0, 1) := by decide +kernel
theorem dX3_plan_14 : decode cX3_plan 14 = .ok (.getfield 19, 3) := by decide +kernel
theorem dX3_plan_17 : decode cX3_plan 17 = .ok (.getfield 39, 3) := by decide +kernel
theorem dX3_plan_20 : decode cX3_plan 20 = .ok (.getfield 33, 3) := by decide +kernel
theorem dX3_plan_23 : decode cX3_plan 23 = .ok (.istore_n 2, 1) := by decide +kernel
theorem dX3_plan_24 : decode cX3_plan 24 = .ok (.aload_n 0, 1) := by decide +kernel
theorem dX3_plan_25 : decode cX3_plan 25 = .ok (.getfield 16, 3) := by decide +kernel
theorem dX3_plan_28 : decode cX3_plan 28 = .ok (.iload_n 2, 1) := by decide +kernel
theorem dX3_plan_29 : decode cX3_plan 29 = .ok (.aaload, 1) := by decide +kernel
theorem dX3_plan_30 : decode cX3_plan 30 = .ok (.iconst 0, 1) := by decide +kernel
theorem dX3_plan_31 : decode cX3_plan 31 = .ok (.iload_n 1, 1) := by decide +kernel
theorem dX3_plan_32 : decode cX3_plan 32 = .ok (.iconst 0, 1) := by decide +kernel
theorem dX3_plan_33 : decode cX3_plan 33 = .ok (.invokestatic 42, 3) := by decide +kernel
theorem dX3_plan_36 : decode cX3_plan 36 = .ok (.iload_n 2, 1) := by decide +kernel
theorem dX3_plan_37 : decode cX3_plan 37 = .ok (.iconst 1, 1) := by decide +kernel
theorem dX3_plan_38 : decode cX3_plan 38 = .ok (.isub, 1) := by decide +kernel
theorem dX3_plan_39 : decode cX3_plan 39 = .ok (.istore_n 3, 1) := by decide +kernel
theorem dX3_plan_40 : decode cX3_plan 40 = .ok (.iload_n 3, 1) := by decide +kernel
theorem dX3_plan_41 : decode cX3_plan 41 = .ok (.ifCond .lt 54, 3) := by decide +kernel
theorem dX3_plan_44 : decode cX3_plan 44 = .ok (.aload_n 0, 1) := by decide +kernel
theorem dX3_plan_45 : decode cX3_plan 45 = .ok (.iload_n 3, 1) := by decide +kernel
theorem dX3_plan_46 : decode cX3_plan 46 = .ok (.invokevirtual 48, 3) := by decide +kernel
theorem dX3_plan_49 : decode cX3_plan 49 = .ok (.iconst 0, 1) := by decide +kernel
theorem dX3_plan_50 : decode cX3_plan 50 = .ok (.istore 4, 2) := by decide +kernel
theorem dX3_plan_52 : decode cX3_plan 52 = .ok (.iload 4, 2) := by decide +kernel
theorem dX3_plan_54 : decode cX3_plan 54 = .ok (.iload_n 1, 1) := by decide +kernel
theorem dX3_plan_55 : decode cX3_plan 55 = .ok (.if_icmp .ge 34, 3) := by decide +kernel
theorem dX3_plan_58 : decode cX3_plan 58 = .ok (.iload 4, 2) := by decide +kernel
theorem dX3_plan_60 : decode cX3_plan 60 = .ok (.invokestatic 52, 3) := by decide +kernel
theorem dX3_plan_63 : decode cX3_plan 63 = .ok (.iload_n 3, 1) := by decide +kernel
theorem dX3_plan_64 : decode cX3_plan 64 = .ok (.if_icmp .gt 19, 3) := by decide +kernel
theorem dX3_plan_67 : decode cX3_plan 67 = .ok (.aload_n 0, 1) := by decide +kernel
theorem dX3_plan_68 : decode cX3_plan 68 = .ok (.getfield 16, 3) := by decide +kernel
theorem dX3_plan_71 : decode cX3_plan 71 = .ok (.iload_n 3, 1) := by decide +kernel
theorem dX3_plan_72 : decode cX3_plan 72 = .ok (.aaload, 1) := by decide +kernel
theorem dX3_plan_73 : decode cX3_plan 73 = .ok (.iload 4, 2) := by decide +kernel
theorem dX3_plan_75 : decode cX3_plan 75 = .ok (.aload_n 0, 1) := by decide +kernel
theorem dX3_plan_76 : decode cX3_plan 76 = .ok (.iload_n 3, 1) := by decide +kernel
theorem dX3_plan_77 : decode cX3_plan 77 = .ok (.iload 4, 2) := by decide +kernel
theorem dX3_plan_79 : decode cX3_plan 79 = .ok (.invokevirtual 58, 3) := by decide +kernel
theorem dX3_plan_82 : decode cX3_plan 82 = .ok (.iastore, 1) := by decide +kernel
theorem dX3_plan_83 : decode cX3_plan 83 = .ok (.iinc 4 1, 3) := by decide +kernel
theorem dX3_plan_86 : decode cX3_plan 86 = .ok (.goto (-34), 3) := by decide +kernel
theorem dX3_plan_89 : decode cX3_plan 89 = .ok (.iinc 3 (-1), 3) := by decide +kernel
theorem dX3_plan_92 : decode cX3_plan 92 = .ok (.goto (-52), 3) := by decide +kernel
theorem dX3_plan_95 : decode cX3_plan 95 = .ok (.return_, 1) := by decide +kernel
set_option maxHeartbeats 4000000 in
set_option maxRecDepth 100000 in
theorem x_X3_plan_52 {p : Program} {l : Launch} {e : Env} {s : State} {m : MethodId} {args : Array Value} {below : List Frame} {meth : Method} {c : Code} {D : va_G} {K : Nat → ClassId} {A : Nat → Prop} {ad la : Nat → Nat} {rest : va_W} (C : xC p s m args meth c D K A RX3 cX3_plan 5 none) (z : Unit × xS) (k_40 : Int32 → Int32 → xS → Option (Unit × xS)) (H_40 : ∀ (y1 : Int32) (y3 : Int32) (σ : xS), k_40 y1 y3 σ = some z → X p l e (xR 5 124) s m args below meth c D A 5 (xQv below D K A args s (CW K ad la rest z.2)) 0 0 40 [(0, .ref (ad 69)), (1, .int y1), (3, .int y3)] [] (CW K ad la rest σ)) : ∀ (n : Nat) (y1 : Int32) (y3 : Int32) (y4 : Int32) (σ : xS), F_X3_plan_52 k_40 n y1 y3 y4 σ = some z → X p l e (xR 5 124) s m args below meth c D A 5 (xQv below D K A args s (CW K ad la rest z.2)) 0 0 52 [(0, .ref (ad 69)), (1, .int y1), (3, .int y3), (4, .int y4)] [] (CW K ad la rest σ) := by
  intro n
  induction n with
  | zero =>
    intro y1 y3 y4 σ hF
    cases hF
  | succ n ih =>
    intro y1 y3 y4 σ hF
    rw [F_X3_plan_52] at hF
    refine x_iload C 3 4 dX3_plan_52 rfl ?_
    refine x_iload_n C 1 1 dX3_plan_54 rfl rfl ?_
    refine x_icmp_ge C 89 dX3_plan_55 (by decide) hF (fun hF => ?_) (fun hF => ?_)
    · refine x_iincN C (-1) 2 (fun x8 => [(3, .int x8), (0, .ref (ad 69)), (1, .int y1), (4, .int y4)]) dX3_plan_89 rfl (by decide +kernel) (by decide) (fun _ => rfl) hF (fun x8 hF => ?_)
      refine x_goto C 40 dX3_plan_92 (by decide) ?_
      refine x_loc [(0, .ref (ad 69)), (1, .int y1), (3, .int x8)] [1, 2, 0] rfl ?_
      exact H_40 y1 x8 σ hF
    · refine x_iload C 3 4 dX3_plan_58 rfl ?_
      refine x_callSI C (wf := CW K ad la rest) (As := [.int y4]) (rest := []) dX3_plan_60 mj_X3_52 rfl rfl (Nat.le_of_ble_eq_true rfl) ⟨Nat.le_of_ble_eq_true rfl, Nat.le_of_ble_eq_true rfl⟩ ⟨Nat.zero_le _, Nat.zero_le _⟩ (fun q9 hq9 => c_JI_bitCount l D K ad la rest y4 σ q9 hq9) hF (fun v10 σ9 hF => ?_)
      refine x_iload_n C 2 3 dX3_plan_63 rfl rfl ?_
      refine x_icmp_gt C 83 dX3_plan_64 (by decide) hF (fun hF => ?_) (fun hF => ?_)
      · refine x_iincN C 1 3 (fun x11 => [(4, .int x11), (0, .ref (ad 69)), (1, .int y1), (3, .int y3)]) dX3_plan_83 rfl (by decide +kernel) (by decide) (fun _ => rfl) hF (fun x11 hF => ?_)
        refine x_goto C 52 dX3_plan_86 (by decide) ?_
        refine x_loc [(0, .ref (ad 69)), (1, .int y1), (3, .int y3), (4, .int x11)] [1, 2, 3, 0] rfl ?_
        exact ih y1 y3 x11 σ9 hF
      · refine x_aload_n C 0 0 dX3_plan_67 rfl rfl ?_
        refine x_get C 69 dX3_plan_68 fl_X3_16 (CW_69 K ad la rest σ9) rfl ?_
        refine x_iload_n C 2 3 dX3_plan_71 rfl rfl ?_
        refine x_aald C (t0 := 4) 79 dX3_plan_72 (CW_79 K ad la rest σ9) rfl rfl hF (fun hF hj12 => ?_)
        refine x_if_cast (st2 := [.ref (ad (80 + y3.toNatClampNeg))]) rfl ?_
        refine x_iload C 3 4 dX3_plan_73 rfl ?_
        refine x_aload_n C 0 0 dX3_plan_75 rfl rfl ?_
        refine x_iload_n C 2 3 dX3_plan_76 rfl rfl ?_
        refine x_iload C 3 4 dX3_plan_77 rfl ?_
        refine x_callVI C (wf := CW K ad la rest) (As := [.int y3, .int y4]) (rest := [.int y4, .ref (ad (80 + y3.toNatClampNeg))]) dX3_plan_79 ml_X3_58 rfl rfl (Nat.le_of_ble_eq_true rfl) 69 (CW_69 K ad la rest σ9) rfl ⟨Nat.le_of_ble_eq_true rfl, Nat.le_of_ble_eq_true rfl⟩ ⟨Nat.zero_le _, Nat.zero_le _⟩ (fun q9 hq9 => c_X3_mostFrom l D K ad la rest y3 y4 σ9 q9 hq9) hF (fun v14 σ13 hF => ?_)
        refine x_iast C (80 + y3.toNatClampNeg) dX3_plan_82 (CW_i79 K ad la rest σ13 (y3.toNatClampNeg) hj12) hF (CW_is79 K ad la rest σ13 _ (y3.toNatClampNeg) hj12) (fun hF => ?_)
        refine x_st (wf := CW K ad la rest) hF (fun σ15 hF => ?_)
        refine x_iincN C 1 3 (fun x16 => [(4, .int x16), (0, .ref (ad 69)), (1, .int y1), (3, .int y3)]) dX3_plan_83 rfl (by decide +kernel) (by decide) (fun _ => rfl) hF (fun x16 hF => ?_)
        refine x_goto C 52 dX3_plan_86 (by decide) ?_
        refine x_loc [(0, .ref (ad 69)), (1, .int y1), (3, .int y3), (4, .int x16)] [1, 2, 3, 0] rfl ?_
        exact ih y1 y3 x16 σ15 hF
set_option maxHeartbeats 4000000 in
set_option maxRecDepth 100000 in
theorem x_X3_plan_40 {p : Program} {l : Launch} {e : Env} {s : State} {m : MethodId} {args : Array Value} {below : List Frame} {meth : Method} {c : Code} {D : va_G} {K : Nat → ClassId} {A : Nat → Prop} {ad la : Nat → Nat} {rest : va_W} (C : xC p s m args meth c D K A RX3 cX3_plan 5 none) (z : Unit × xS) : ∀ (n : Nat) (y1 : Int32) (y3 : Int32) (σ : xS), F_X3_plan_40  n y1 y3 σ = some z → X p l e (xR 5 124) s m args below meth c D A 5 (xQv below D K A args s (CW K ad la rest z.2)) 0 0 40 [(0, .ref (ad 69)), (1, .int y1), (3, .int y3)] [] (CW K ad la rest σ) := by
  intro n
  induction n with
  | zero =>
    intro y1 y3 σ hF
    cases hF
  | succ n ih =>
    intro y1 y3 σ hF
    rw [F_X3_plan_40] at hF
    refine x_iload_n C 2 3 dX3_plan_40 rfl rfl ?_
    refine x_if_lt C 95 dX3_plan_41 (by decide) hF (fun hF => ?_) (fun hF => ?_)
    · exact x_vret C dX3_plan_95 rfl (congrArg (fun q9 : Unit × xS => CW K ad la rest q9.2) (Option.some.inj hF))
    · refine x_aload_n C 0 0 dX3_plan_44 rfl rfl ?_
      refine x_iload_n C 2 3 dX3_plan_45 rfl rfl ?_
      refine x_callVV C (wf := CW K ad la rest) (As := [.int y3]) (rest := []) dX3_plan_46 ml_X3_48 rfl rfl (Nat.le_of_ble_eq_true rfl) 69 (CW_69 K ad la rest σ) rfl ⟨Nat.le_of_ble_eq_true rfl, Nat.le_of_ble_eq_true rfl⟩ ⟨Nat.zero_le _, Nat.zero_le _⟩ (fun q9 hq9 => c_X3_askFor l D K ad la rest y3 σ q9 hq9) hF (fun _ σ6 hF => ?_)
      refine x_iconst C 0 dX3_plan_49 (by decide +kernel) ?_
      refine x_topI hF (fun x7 hF => ?_)
      refine x_istore C [(4, .int x7), (0, .ref (ad 69)), (1, .int y1), (3, .int y3)] dX3_plan_50 (by decide) rfl ?_
      refine x_loc [(0, .ref (ad 69)), (1, .int y1), (3, .int y3), (4, .int x7)] [1, 2, 3, 0] rfl ?_
      exact x_X3_plan_52 C z ((F_X3_plan_40 n)) ih FU y1 y3 x7 σ6 hF
set_option maxHeartbeats 4000000 in
set_option maxRecDepth 100000 in
theorem c_X3_plan (l : Launch) (D : va_G) (K : Nat → ClassId) (ad la : Nat → Nat) (rest : va_W)   (σ : xS) (z : Unit × xS) (hF : F_X3_plan σ = some z) : CV l D K yX3_plan cX3_plan 5 none 5 124 [.ref (ad 69)] (CW K ad la rest σ) (CW K ad la rest z.2) := by
  refine x_enterV [(0, .ref (ad 69))] pnX3 (Nat.le_of_ble_eq_true rfl) rfl ?_
  intro p e s m args below meth c A C
  unfold F_X3_plan at hF
  refine x_iconst C 1 dX3_plan_0 (by decide +kernel) ?_
  refine x_aload_n C 0 0 dX3_plan_1 rfl rfl ?_
  refine x_get C 69 dX3_plan_2 fl_X3_19 (CW_69 K ad la rest σ) rfl ?_
  refine x_get C 5 dX3_plan_5 fl_X3_27 (CW_5 K ad la rest σ) rfl ?_
  refine x_get C 8 dX3_plan_8 fl_X3_33 (CW_8 K ad la rest σ) rfl ?_
  refine x_ishl C dX3_plan_11 ?_
  refine x_topI hF (fun x1 hF => ?_)
  refine x_istore_n C [(1, .int x1), (0, .ref (ad 69))] dX3_plan_12 rfl (by decide) rfl ?_
  refine x_aload_n C 1 0 dX3_plan_13 rfl rfl ?_
  refine x_get C 69 dX3_plan_14 fl_X3_19 (CW_69 K ad la rest σ) rfl ?_
  refine x_get C 5 dX3_plan_17 fl_X3_39 (CW_5 K ad la rest σ) rfl ?_
  refine x_get C 12 dX3_plan_20 fl_X3_33 (CW_12 K ad la rest σ) rfl ?_
  refine x_topI hF (fun x2 hF => ?_)
  refine x_istore_n C [(2, .int x2), (1, .int x1), (0, .ref (ad 69))] dX3_plan_23 rfl (by decide) rfl ?_
  refine x_aload_n C 2 0 dX3_plan_24 rfl rfl ?_
  refine x_get C 69 dX3_plan_25 fl_X3_16 (CW_69 K ad la rest σ) rfl ?_
  refine x_iload_n C 0 2 dX3_plan_28 rfl rfl ?_
  refine x_aald C (t0 := 4) 79 dX3_plan_29 (CW_79 K ad la rest σ) rfl rfl hF (fun hF hj3 => ?_)
  refine x_if_cast (st2 := [.ref (ad (80 + x2.toNatClampNeg))]) rfl ?_
  refine x_iconst C 0 dX3_plan_30 (by decide +kernel) ?_
  refine x_iload_n C 1 1 dX3_plan_31 rfl rfl ?_
  refine x_iconst C 0 dX3_plan_32 (by decide +kernel) ?_
  refine x_fill4 C (80 + x2.toNatClampNeg) dX3_plan_33 wl_X3_42 ⟨Nat.le_of_ble_eq_true rfl, Nat.le_of_ble_eq_true rfl⟩ ⟨Nat.zero_le _, Nat.zero_le _⟩ (Nat.le_of_ble_eq_true rfl) (Nat.le_of_ble_eq_true rfl) (CW_i79 K ad la rest σ (x2.toNatClampNeg) hj3) hF (CW_is79 K ad la rest σ _ (x2.toNatClampNeg) hj3) (fun hF => ?_)
  refine x_st (wf := CW K ad la rest) hF (fun σ4 hF => ?_)
  refine x_iload_n C 0 2 dX3_plan_36 rfl rfl ?_
  refine x_iconst C 1 dX3_plan_37 (by decide +kernel) ?_
  refine x_isub C dX3_plan_38 ?_
  refine x_topI hF (fun x5 hF => ?_)
  refine x_istore_n C [(3, .int x5), (2, .int x2), (1, .int x1), (0, .ref (ad 69))] dX3_plan_39 rfl (by decide) rfl ?_
  refine x_loc [(0, .ref (ad 69)), (1, .int x1), (3, .int x5)] [3, 2, 0] rfl ?_
  exact x_X3_plan_40 C z FU x1 x5 σ4 hF
theorem dX3_total_0 : decode cX3_total 0 = .ok (.aload_n 0, 1) := by decide +kernel
theorem dX3_total_1 : decode cX3_total 1 = .ok (.getfield 16, 3) := by decide +kernel
theorem dX3_total_4 : decode cX3_total 4 = .ok (.iconst 0, 1) := by decide +kernel
theorem dX3_total_5 : decode cX3_total 5 = .ok (.aaload, 1) := by decide +kernel
theorem dX3_total_6 : decode cX3_total 6 = .ok (.iconst 0, 1) := by decide +kernel
theorem dX3_total_7 : decode cX3_total 7 = .ok (.iaload, 1) := by decide +kernel
theorem dX3_total_8 : decode cX3_total 8 = .ok (.ireturn, 1) := by decide +kernel
set_option maxHeartbeats 4000000 in
set_option maxRecDepth 100000 in
theorem c_X3_total (l : Launch) (D : va_G) (K : Nat → ClassId) (ad la : Nat → Nat) (rest : va_W)   (σ : xS) (z : Int32 × xS) (hF : F_X3_total σ = some z) : CI l D K yX3_total cX3_total 1 (some .int) 0 0 [.ref (ad 69)] (CW K ad la rest σ) z.1 (CW K ad la rest z.2) := by
  refine x_enterI [(0, .ref (ad 69))] pnX3 (Nat.le_of_ble_eq_true rfl) rfl ?_
  intro p e s m args below meth c A C
  unfold F_X3_total at hF
  refine x_aload_n C 0 0 dX3_total_0 rfl rfl ?_
  refine x_get C 69 dX3_total_1 fl_X3_16 (CW_69 K ad la rest σ) rfl ?_
  refine x_iconst C 0 dX3_total_4 (by decide +kernel) ?_
  refine x_aald C (t0 := 4) 79 dX3_total_5 (CW_79 K ad la rest σ) rfl rfl hF (fun hF hj1 => ?_)
  refine x_if_cast (st2 := [.ref (ad (80 + (0 : Int32).toNatClampNeg))]) rfl ?_
  refine x_iconst C 0 dX3_total_6 (by decide +kernel) ?_
  refine x_iald C (80 + (0 : Int32).toNatClampNeg) dX3_total_7 (CW_i79 K ad la rest σ ((0 : Int32).toNatClampNeg) hj1) hF (fun v2 hF => ?_)
  exact x_iret C dX3_total_8 rfl (congrArg Prod.fst (Option.some.inj hF)) (congrArg (fun q9 : Int32 × xS => CW K ad la rest q9.2) (Option.some.inj hF))
theorem dX3_firstBest_0 : decode cX3_firstBest 0 = .ok (.aload_n 0, 1) := by decide +kernel
theorem dX3_firstBest_1 : decode cX3_firstBest 1 = .ok (.getfield 16, 3) := by decide +kernel
theorem dX3_firstBest_4 : decode cX3_firstBest 4 = .ok (.iload_n 1, 1) := by decide +kernel
theorem dX3_firstBest_5 : decode cX3_firstBest 5 = .ok (.iconst 1, 1) := by decide +kernel
theorem dX3_firstBest_6 : decode cX3_firstBest 6 = .ok (.iadd, 1) := by decide +kernel
theorem dX3_firstBest_7 : decode cX3_firstBest 7 = .ok (.aaload, 1) := by decide +kernel
theorem dX3_firstBest_8 : decode cX3_firstBest 8 = .ok (.iload_n 2, 1) := by decide +kernel
theorem dX3_firstBest_9 : decode cX3_firstBest 9 = .ok (.iaload, 1) := by decide +kernel
theorem dX3_firstBest_10 : decode cX3_firstBest 10 = .ok (.aload_n 0, 1) := by decide +kernel
theorem dX3_firstBest_11 : decode cX3_firstBest 11 = .ok (.getfield 16, 3) := by decide +kernel
theorem dX3_firstBest_14 : decode cX3_firstBest 14 = .ok (.iload_n 1, 1) := by decide +kernel
theorem dX3_firstBest_15 : decode cX3_firstBest 15 = .ok (.aaload, 1) := by decide +kernel
theorem dX3_firstBest_16 : decode cX3_firstBest 16 = .ok (.iload_n 2, 1) := by decide +kernel
theorem dX3_firstBest_17 : decode cX3_firstBest 17 = .ok (.iaload, 1) := by decide +kernel
theorem dX3_firstBest_18 : decode cX3_firstBest 18 = .ok (.if_icmp .ne 5, 3) := by decide +kernel
theorem dX3_firstBest_21 : decode cX3_firstBest 21 = .ok (.iconst (-1), 1) := by decide +kernel
theorem dX3_firstBest_22 : decode cX3_firstBest 22 = .ok (.ireturn, 1) := by decide +kernel
theorem dX3_firstBest_23 : decode cX3_firstBest 23 = .ok (.iconst 0, 1) := by decide +kernel
theorem dX3_firstBest_24 : decode cX3_firstBest 24 = .ok (.istore_n 3, 1) := by decide +kernel
theorem dX3_firstBest_25 : decode cX3_firstBest 25 = .ok (.iload_n 3, 1) := by decide +kernel
theorem dX3_firstBest_26 : decode cX3_firstBest 26 = .ok (.aload_n 0, 1) := by decide +kernel
theorem dX3_firstBest_27 : decode cX3_firstBest 27 = .ok (.getfield 19, 3) := by decide +kernel
theorem dX3_firstBest_30 : decode cX3_firstBest 30 = .ok (.getfield 27, 3) := by decide +kernel
theorem dX3_firstBest_33 : decode cX3_firstBest 33 = .ok (.getfield 33, 3) := by decide +kernel
theorem dX3_firstBest_36 : decode cX3_firstBest 36 = .ok (.if_icmp .ge 39, 3) := by decide +kernel
theorem dX3_firstBest_39 : decode cX3_firstBest 39 = .ok (.aload_n 0, 1) := by decide +kernel
theorem dX3_firstBest_40 : decode cX3_firstBest 40 = .ok (.iload_n 1, 1) := by decide +kernel
theorem dX3_firstBest_41 : decode cX3_firstBest 41 = .ok (.iload_n 3, 1) := by decide +kernel
theorem dX3_firstBest_42 : decode cX3_firstBest 42 = .ok (.iload_n 2, 1) := by decide +kernel
theorem dX3_firstBest_43 : decode cX3_firstBest 43 = .ok (.invokevirtual 70, 3) := by decide +kernel
theorem dX3_firstBest_46 : decode cX3_firstBest 46 = .ok (.ifCond .eq 23, 3) := by decide +kernel
theorem dX3_firstBest_49 : decode cX3_firstBest 49 = .ok (.aload_n 0, 1) := by decide +kernel
theorem dX3_firstBest_50 : decode cX3_firstBest 50 = .ok (.iload_n 1, 1) := by decide +kernel
theorem dX3_firstBest_51 : decode cX3_firstBest 51 = .ok (.iload_n 3, 1) := by decide +kernel
theorem dX3_firstBest_52 : decode cX3_firstBest 52 = .ok (.iload_n 2, 1) := by decide +kernel
theorem dX3_firstBest_53 : decode cX3_firstBest 53 = .ok (.invokevirtual 74, 3) := by decide +kernel
theorem dX3_firstBest_56 : decode cX3_firstBest 56 = .ok (.aload_n 0, 1) := by decide +kernel
theorem dX3_firstBest_57 : decode cX3_firstBest 57 = .ok (.getfield 16, 3) := by decide +kernel
theorem dX3_firstBest_60 : decode cX3_firstBest 60 = .ok (.iload_n 1, 1) := by decide +kernel
theorem dX3_firstBest_61 : decode cX3_firstBest 61 = .ok (.aaload, 1) := by decide +kernel
theorem dX3_firstBest_62 : decode cX3_firstBest 62 = .ok (.iload_n 2, 1) := by decide +kernel
theorem dX3_firstBest_63 : decode cX3_firstBest 63 = .ok (.iaload, 1) := by decide +kernel
theorem dX3_firstBest_64 : decode cX3_firstBest 64 = .ok (.if_icmp .ne 5, 3) := by decide +kernel
theorem dX3_firstBest_67 : decode cX3_firstBest 67 = .ok (.iload_n 3, 1) := by decide +kernel
theorem dX3_firstBest_68 : decode cX3_firstBest 68 = .ok (.ireturn, 1) := by decide +kernel
theorem dX3_firstBest_69 : decode cX3_firstBest 69 = .ok (.iinc 3 1, 3) := by decide +kernel
theorem dX3_firstBest_72 : decode cX3_firstBest 72 = .ok (.goto (-47), 3) := by decide +kernel
theorem dX3_firstBest_75 : decode cX3_firstBest 75 = .ok (.iconst (-1), 1) := by decide +kernel
theorem dX3_firstBest_76 : decode cX3_firstBest 76 = .ok (.ireturn, 1) := by decide +kernel
set_option maxHeartbeats 4000000 in
set_option maxRecDepth 100000 in
theorem x_X3_firstBest_25 {p : Program} {l : Launch} {e : Env} {s : State} {m : MethodId} {args : Array Value} {below : List Frame} {meth : Method} {c : Code} {D : va_G} {K : Nat → ClassId} {A : Nat → Prop} {ad la : Nat → Nat} {rest : va_W} (C : xC p s m args meth c D K A RX3 cX3_firstBest 4 (some .int)) (z : Int32 × xS) : ∀ (n : Nat) (y1 : Int32) (y2 : Int32) (y3 : Int32) (σ : xS), F_X3_firstBest_25  n y1 y2 y3 σ = some z → X p l e (xR 1 23) s m args below meth c D A 4 (xQi below D K A args s z.1 (CW K ad la rest z.2)) 0 0 25 [(0, .ref (ad 69)), (1, .int y1), (2, .int y2), (3, .int y3)] [] (CW K ad la rest σ) := by
  intro n
  induction n with
  | zero =>
    intro y1 y2 y3 σ hF
    cases hF
  | succ n ih =>
    intro y1 y2 y3 σ hF
    rw [F_X3_firstBest_25] at hF
    refine x_iload_n C 3 3 dX3_firstBest_25 rfl rfl ?_
    refine x_aload_n C 0 0 dX3_firstBest_26 rfl rfl ?_
    refine x_get C 69 dX3_firstBest_27 fl_X3_19 (CW_69 K ad la rest σ) rfl ?_
    refine x_get C 5 dX3_firstBest_30 fl_X3_27 (CW_5 K ad la rest σ) rfl ?_
    refine x_get C 8 dX3_firstBest_33 fl_X3_33 (CW_8 K ad la rest σ) rfl ?_
    refine x_icmp_ge C 75 dX3_firstBest_36 (by decide) hF (fun hF => ?_) (fun hF => ?_)
    · refine x_iconst C (-1) dX3_firstBest_75 (by decide +kernel) ?_
      exact x_iret C dX3_firstBest_76 rfl (congrArg Prod.fst (Option.some.inj hF)) (congrArg (fun q9 : Int32 × xS => CW K ad la rest q9.2) (Option.some.inj hF))
    · refine x_aload_n C 0 0 dX3_firstBest_39 rfl rfl ?_
      refine x_iload_n C 1 1 dX3_firstBest_40 rfl rfl ?_
      refine x_iload_n C 3 3 dX3_firstBest_41 rfl rfl ?_
      refine x_iload_n C 2 2 dX3_firstBest_42 rfl rfl ?_
      refine x_callVI C (wf := CW K ad la rest) (As := [.int y1, .int y3, .int y2]) (rest := []) dX3_firstBest_43 ml_X3_70 rfl rfl (Nat.le_of_ble_eq_true rfl) 69 (CW_69 K ad la rest σ) rfl ⟨Nat.le_of_ble_eq_true rfl, Nat.le_of_ble_eq_true rfl⟩ ⟨Nat.zero_le _, Nat.zero_le _⟩ (fun q9 hq9 => c_X3_canHave l D K ad la rest y1 y3 y2 σ q9 hq9) hF (fun v7 σ6 hF => ?_)
      refine x_if_eq C 69 dX3_firstBest_46 (by decide) hF (fun hF => ?_) (fun hF => ?_)
      · refine x_iincN C 1 3 (fun x8 => [(3, .int x8), (0, .ref (ad 69)), (1, .int y1), (2, .int y2)]) dX3_firstBest_69 rfl (by decide +kernel) (by decide) (fun _ => rfl) hF (fun x8 hF => ?_)
        refine x_goto C 25 dX3_firstBest_72 (by decide) ?_
        refine x_loc [(0, .ref (ad 69)), (1, .int y1), (2, .int y2), (3, .int x8)] [1, 2, 3, 0] rfl ?_
        exact ih y1 y2 x8 σ6 hF
      · refine x_aload_n C 0 0 dX3_firstBest_49 rfl rfl ?_
        refine x_iload_n C 1 1 dX3_firstBest_50 rfl rfl ?_
        refine x_iload_n C 3 3 dX3_firstBest_51 rfl rfl ?_
        refine x_iload_n C 2 2 dX3_firstBest_52 rfl rfl ?_
        refine x_callVI C (wf := CW K ad la rest) (As := [.int y1, .int y3, .int y2]) (rest := []) dX3_firstBest_53 ml_X3_74 rfl rfl (Nat.le_of_ble_eq_true rfl) 69 (CW_69 K ad la rest σ6) rfl ⟨Nat.le_of_ble_eq_true rfl, Nat.le_of_ble_eq_true rfl⟩ ⟨Nat.zero_le _, Nat.zero_le _⟩ (fun q9 hq9 => c_X3_with l D K ad la rest y1 y3 y2 σ6 q9 hq9) hF (fun v10 σ9 hF => ?_)
        refine x_aload_n C 0 0 dX3_firstBest_56 rfl rfl ?_
        refine x_get C 69 dX3_firstBest_57 fl_X3_16 (CW_69 K ad la rest σ9) rfl ?_
        refine x_iload_n C 1 1 dX3_firstBest_60 rfl rfl ?_
        refine x_aald C (t0 := 4) 79 dX3_firstBest_61 (CW_79 K ad la rest σ9) rfl rfl hF (fun hF hj11 => ?_)
        refine x_if_cast (st2 := [.ref (ad (80 + y1.toNatClampNeg)), .int v10]) rfl ?_
        refine x_iload_n C 2 2 dX3_firstBest_62 rfl rfl ?_
        refine x_iald C (80 + y1.toNatClampNeg) dX3_firstBest_63 (CW_i79 K ad la rest σ9 (y1.toNatClampNeg) hj11) hF (fun v12 hF => ?_)
        refine x_icmp_ne C 69 dX3_firstBest_64 (by decide) hF (fun hF => ?_) (fun hF => ?_)
        · refine x_iincN C 1 3 (fun x13 => [(3, .int x13), (0, .ref (ad 69)), (1, .int y1), (2, .int y2)]) dX3_firstBest_69 rfl (by decide +kernel) (by decide) (fun _ => rfl) hF (fun x13 hF => ?_)
          refine x_goto C 25 dX3_firstBest_72 (by decide) ?_
          refine x_loc [(0, .ref (ad 69)), (1, .int y1), (2, .int y2), (3, .int x13)] [1, 2, 3, 0] rfl ?_
          exact ih y1 y2 x13 σ9 hF
        · refine x_iload_n C 3 3 dX3_firstBest_67 rfl rfl ?_
          exact x_iret C dX3_firstBest_68 rfl (congrArg Prod.fst (Option.some.inj hF)) (congrArg (fun q9 : Int32 × xS => CW K ad la rest q9.2) (Option.some.inj hF))
set_option maxHeartbeats 4000000 in
set_option maxRecDepth 100000 in
theorem c_X3_firstBest (l : Launch) (D : va_G) (K : Nat → ClassId) (ad la : Nat → Nat) (rest : va_W)  (a1 : Int32) (a2 : Int32) (σ : xS) (z : Int32 × xS) (hF : F_X3_firstBest a1 a2 σ = some z) : CI l D K yX3_firstBest cX3_firstBest 4 (some .int) 1 23 [.ref (ad 69), .int a1, .int a2] (CW K ad la rest σ) z.1 (CW K ad la rest z.2) := by
  refine x_enterI [(0, .ref (ad 69)), (1, .int a1), (2, .int a2)] pnX3 (Nat.le_of_ble_eq_true rfl) rfl ?_
  intro p e s m args below meth c A C
  unfold F_X3_firstBest at hF
  refine x_aload_n C 0 0 dX3_firstBest_0 rfl rfl ?_
  refine x_get C 69 dX3_firstBest_1 fl_X3_16 (CW_69 K ad la rest σ) rfl ?_
  refine x_iload_n C 1 1 dX3_firstBest_4 rfl rfl ?_
  refine x_iconst C 1 dX3_firstBest_5 (by decide +kernel) ?_
  refine x_iadd C dX3_firstBest_6 ?_
  refine x_aald C (t0 := 4) 79 dX3_firstBest_7 (CW_79 K ad la rest σ) rfl rfl hF (fun hF hj1 => ?_)
  refine x_if_cast (st2 := [.ref (ad (80 + (a1 + 1).toNatClampNeg))]) rfl ?_
  refine x_iload_n C 2 2 dX3_firstBest_8 rfl rfl ?_
  refine x_iald C (80 + (a1 + 1).toNatClampNeg) dX3_firstBest_9 (CW_i79 K ad la rest σ ((a1 + 1).toNatClampNeg) hj1) hF (fun v2 hF => ?_)
  refine x_aload_n C 0 0 dX3_firstBest_10 rfl rfl ?_
  refine x_get C 69 dX3_firstBest_11 fl_X3_16 (CW_69 K ad la rest σ) rfl ?_
  refine x_iload_n C 1 1 dX3_firstBest_14 rfl rfl ?_
  refine x_aald C (t0 := 4) 79 dX3_firstBest_15 (CW_79 K ad la rest σ) rfl rfl hF (fun hF hj3 => ?_)
  refine x_if_cast (st2 := [.ref (ad (80 + a1.toNatClampNeg)), .int v2]) rfl ?_
  refine x_iload_n C 2 2 dX3_firstBest_16 rfl rfl ?_
  refine x_iald C (80 + a1.toNatClampNeg) dX3_firstBest_17 (CW_i79 K ad la rest σ (a1.toNatClampNeg) hj3) hF (fun v4 hF => ?_)
  refine x_icmp_ne C 23 dX3_firstBest_18 (by decide) hF (fun hF => ?_) (fun hF => ?_)
  · refine x_iconst C 0 dX3_firstBest_23 (by decide +kernel) ?_
    refine x_topI hF (fun x5 hF => ?_)
    refine x_istore_n C [(3, .int x5), (0, .ref (ad 69)), (1, .int a1), (2, .int a2)] dX3_firstBest_24 rfl (by decide) rfl ?_
    refine x_loc [(0, .ref (ad 69)), (1, .int a1), (2, .int a2), (3, .int x5)] [1, 2, 3, 0] rfl ?_
    exact x_X3_firstBest_25 C z FU a1 a2 x5 σ hF
  · refine x_iconst C (-1) dX3_firstBest_21 (by decide +kernel) ?_
    exact x_iret C dX3_firstBest_22 rfl (congrArg Prod.fst (Option.some.inj hF)) (congrArg (fun q9 : Int32 × xS => CW K ad la rest q9.2) (Option.some.inj hF))
