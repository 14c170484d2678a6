theorem fl_X11_36 : xF RX11 36 11 4 (.object "PencilPrice$Reader") := ⟨RX11, TX11, 16, tyX11, rfl, by decide, inX11, Or.inl (xT_mem (List.mem_append_right _ (List.mem_of_getElem? (i := 353) (by decide +kernel))) (by decide +kernel)), rfl, tyX11_ok, nmX11, rfl⟩
theorem fl_X11_163 : xF RX11 163 5 7 .int := ⟨RX5, TX5, 8, tyX5, rfl, by decide, inX5, Or.inr ⟨"PencilPrice", xTN_mem (List.mem_append_right _ (List.mem_of_getElem? (i := 178) (by decide +kernel))) (by decide +kernel)⟩, rfl, tyX5_ok, nmX5, rfl⟩
theorem fl_X11_166 : xF RX11 166 7 6 (.array (.object "PencilPrice$Law")) := ⟨RX7, TX7, 9, tyX7, rfl, by decide, inX7, Or.inr ⟨"PencilPrice", xTN_mem (List.mem_append_right _ (List.mem_of_getElem? (i := 87) (by decide +kernel))) (by decide +kernel)⟩, rfl, tyX7_ok, nmX7, rfl⟩
theorem ml_X11_159 : xMV RX11 159 yX5_read cX5_read 4 (some (.object "PencilPrice$Law")) 2 := ⟨⟨Or.inr ⟨"PencilPrice", xTN_mem (List.mem_append_right _ (List.mem_of_getElem? (i := 498) (by decide +kernel))) (by decide +kernel)⟩, xT_mem (List.mem_append_right _ (List.mem_of_getElem? (i := 5) (by decide +kernel))) (by decide +kernel), xT_mem (List.mem_append_right _ (List.mem_of_getElem? (i := 501) (by decide +kernel))) (by decide +kernel), ⟨by decide +kernel, by decide +kernel⟩, by decide +kernel⟩, xT_mem (List.mem_append_right _ (List.mem_of_getElem? (i := 500) (by decide +kernel))) (by decide +kernel), xT_mem (List.mem_append_left _ (List.mem_of_getElem? (i := 11) (by decide +kernel))) (by decide +kernel)⟩
theorem ml_X5_32 : xMV RX5 32 yX9_cut cX9_cut 7 none 2 := ⟨⟨Or.inr ⟨"PencilPrice", xTN_mem (List.mem_append_right _ (List.mem_of_getElem? (i := 502) (by decide +kernel))) (by decide +kernel)⟩, xT_mem (List.mem_append_right _ (List.mem_of_getElem? (i := 6) (by decide +kernel))) (by decide +kernel), xT_mem (List.mem_append_right _ (List.mem_of_getElem? (i := 505) (by decide +kernel))) (by decide +kernel), ⟨by decide +kernel, by decide +kernel⟩, by decide +kernel⟩, xT_mem (List.mem_append_right _ (List.mem_of_getElem? (i := 504) (by decide +kernel))) (by decide +kernel), xT_mem (List.mem_append_left _ (List.mem_of_getElem? (i := 12) (by decide +kernel))) (by decide +kernel)⟩
theorem ml_X5_45 : xMV RX5 45 yX5_readClause cX5_readClause 3 (some .boolean) 1 := ⟨⟨Or.inl (xT_mem (List.mem_append_right _ (List.mem_of_getElem? (i := 575) (by decide +kernel))) (by decide +kernel)), xT_mem (List.mem_append_right _ (List.mem_of_getElem? (i := 5) (by decide +kernel))) (by decide +kernel), xT_mem (List.mem_append_right _ (List.mem_of_getElem? (i := 578) (by decide +kernel))) (by decide +kernel), ⟨by decide +kernel, by decide +kernel⟩, by decide +kernel⟩, xT_mem (List.mem_append_right _ (List.mem_of_getElem? (i := 577) (by decide +kernel))) (by decide +kernel), xT_mem (List.mem_append_left _ (List.mem_of_getElem? (i := 14) (by decide +kernel))) (by decide +kernel)⟩
theorem ml_X5_53 : xMV RX5 53 yX5_made cX5_made 2 (some (.object "PencilPrice$Law")) 1 := ⟨⟨Or.inl (xT_mem (List.mem_append_right _ (List.mem_of_getElem? (i := 643) (by decide +kernel))) (by decide +kernel)), xT_mem (List.mem_append_right _ (List.mem_of_getElem? (i := 5) (by decide +kernel))) (by decide +kernel), xT_mem (List.mem_append_right _ (List.mem_of_getElem? (i := 646) (by decide +kernel))) (by decide +kernel), ⟨by decide +kernel, by decide +kernel⟩, by decide +kernel⟩, xT_mem (List.mem_append_right _ (List.mem_of_getElem? (i := 645) (by decide +kernel))) (by decide +kernel), xT_mem (List.mem_append_left _ (List.mem_of_getElem? (i := 31) (by decide +kernel))) (by decide +kernel)⟩
noncomputable def F_X5_read_31   : Nat → Int32 → xS → Option (Option Nat × xS)
  | 0, _, _ => none
  | n + 1, y3, σ => if 12 ≤ y3 then (bd (F_X5_fails σ) fun v8 σ7 => some (none, σ7)) else (bd (F_X5_readClause y3 σ) fun v10 σ9 => if v10 = 0 then (some (none, σ9)) else (bd (F_X5_token σ9) fun v12 σ11 => if v12 = 276 then (bd (F_X5_made (y3 + 1) σ11) fun v20 σ19 => some (v20, σ19)) else (bd (F_X5_token σ11) fun v14 σ13 => if v14 = 59 then (bd (F_X5_next σ13) fun _ σ15 => nm (y3 + 1) fun x16 => (F_X5_read_31 n) x16 σ15) else (bd (F_X5_fails σ13) fun v18 σ17 => some (none, σ17)))))
noncomputable def F_X5_read  (a2 : Int32) (σ : xS) : Option (Option Nat × xS) := bd (F_X9_cut a2 σ) fun _ σ1 => nm (uI σ1 756 0) fun σ2 => nm (uI σ2 757 0) fun σ3 => nm (uI σ3 758 0) fun σ4 => nm (uI σ4 759 ((-1))) fun σ5 => nm (0 : Int32) fun x6 => F_X5_read_31 FU x6 σ5
set_option maxHeartbeats 4000000 in
set_option maxRecDepth 100000 in
theorem x_X5_read_31 {p : Program} {l : Launch} {e : Env} {s : State} {m : MethodId} {args : Array Value} {below : List Frame} {meth : Method} {c : Code} {D : va_G} {K : Nat → ClassId} {A : Nat → Prop} {ad la : Nat → Nat} {rest : va_W} (C : xC p s m args meth c D K A RX5 cX5_read 4 (some (.object "PencilPrice$Law"))) (z : Option Nat × xS) : ∀ (n : Nat) (y3 : Int32) (σ : xS), F_X5_read_31  n y3 σ = some z → X p l e ({ frames := 1222, cells := 4, slots := 429, locals := 50845 }) s m args below meth c D A 4 (xQqn below D K A args s 4 429 (fun la2 => z.1.map (fun i => la2 (4 * i))) (fun la2 => CW K ad la2 rest z.2)) 0 0 31 [(0, .ref (ad 47)), (3, .int y3)] [] (CW K ad la rest σ) := by
  intro n
  induction n with
  | zero =>
    intro y3 σ hF
    cases hF
  | succ n ih =>
    intro y3 σ hF
    rw [F_X5_read_31] at hF
    refine x_iload_n C 1 3 dX5_read_31 rfl rfl ?_
    refine x_bipush C 12 dX5_read_32 (by decide +kernel) ?_
    refine x_icmp_ge C 91 dX5_read_34 (by decide) hF (fun hF => ?_) (fun hF => ?_)
    · refine x_aload_n C 0 0 dX5_read_91 rfl rfl ?_
      refine x_callVI C (wf := CW K ad la rest) (As := []) (rest := []) dX5_read_92 ml_X5_57 rfl rfl (Nat.le_of_ble_eq_true rfl) 47 (CW_47 K ad la rest σ) rfl ⟨Nat.le_of_ble_eq_true rfl, Nat.le_of_ble_eq_true rfl⟩ ⟨Nat.zero_le _, Nat.zero_le _⟩ (fun q9 hq9 => c_X5_fails l D K ad la rest σ q9 hq9) hF (fun v8 σ7 hF => ?_)
      refine x_pop C rfl dX5_read_95 ?_
      refine x_null C dX5_read_96 ?_
      refine x_widen (k' := 4) (n' := 429) (Nat.le_of_ble_eq_true rfl) (Nat.le_of_ble_eq_true rfl) ?_
      cases hF
      exact x_aretn C la rfl dX5_read_97 rfl rfl
    · refine x_aload_n C 0 0 dX5_read_37 rfl rfl ?_
      refine x_iload_n C 1 3 dX5_read_38 rfl rfl ?_
      refine x_callVI C (wf := CW K ad la rest) (As := [.int y3]) (rest := []) dX5_read_39 ml_X5_45 rfl rfl (Nat.le_of_ble_eq_true rfl) 47 (CW_47 K ad la rest σ) rfl ⟨Nat.le_of_ble_eq_true rfl, Nat.le_of_ble_eq_true rfl⟩ ⟨Nat.zero_le _, Nat.zero_le _⟩ (fun q9 hq9 => c_X5_readClause l D K ad la rest y3 σ q9 hq9) hF (fun v10 σ9 hF => ?_)
      refine x_if_ne C 47 dX5_read_42 (by decide) hF (fun hF => ?_) (fun hF => ?_)
      · refine x_aload_n C 0 0 dX5_read_47 rfl rfl ?_
        refine x_callVI C (wf := CW K ad la rest) (As := []) (rest := []) dX5_read_48 ml_X5_49 rfl rfl (Nat.le_of_ble_eq_true rfl) 47 (CW_47 K ad la rest σ9) rfl ⟨Nat.le_of_ble_eq_true rfl, Nat.le_of_ble_eq_true rfl⟩ ⟨Nat.zero_le _, Nat.zero_le _⟩ (fun q9 hq9 => c_X5_token l D K ad la rest σ9 q9 hq9) hF (fun v12 σ11 hF => ?_)
        refine x_sipush C 276 dX5_read_51 (by decide +kernel) ?_
        refine x_icmp_ne C 65 dX5_read_54 (by decide) hF (fun hF => ?_) (fun hF => ?_)
        · refine x_aload_n C 0 0 dX5_read_65 rfl rfl ?_
          refine x_callVI C (wf := CW K ad la rest) (As := []) (rest := []) dX5_read_66 ml_X5_49 rfl rfl (Nat.le_of_ble_eq_true rfl) 47 (CW_47 K ad la rest σ11) rfl ⟨Nat.le_of_ble_eq_true rfl, Nat.le_of_ble_eq_true rfl⟩ ⟨Nat.zero_le _, Nat.zero_le _⟩ (fun q9 hq9 => c_X5_token l D K ad la rest σ11 q9 hq9) hF (fun v14 σ13 hF => ?_)
          refine x_bipush C 59 dX5_read_69 (by decide +kernel) ?_
          refine x_icmp_eq C 81 dX5_read_71 (by decide) hF (fun hF => ?_) (fun hF => ?_)
          · refine x_aload_n C 0 0 dX5_read_81 rfl rfl ?_
            refine x_callVV C (wf := CW K ad la rest) (As := []) (rest := []) dX5_read_82 ml_X5_61 rfl rfl (Nat.le_of_ble_eq_true rfl) 47 (CW_47 K ad la rest σ13) rfl ⟨Nat.le_of_ble_eq_true rfl, Nat.le_of_ble_eq_true rfl⟩ ⟨Nat.zero_le _, Nat.zero_le _⟩ (fun q9 hq9 => c_X5_next l D K ad la rest σ13 q9 hq9) hF (fun _ σ15 hF => ?_)
            refine x_iincN C 1 1 (fun x16 => [(3, .int x16), (0, .ref (ad 47))]) dX5_read_85 rfl (by decide +kernel) (by decide) (fun _ => rfl) hF (fun x16 hF => ?_)
            refine x_goto C 31 dX5_read_88 (by decide) ?_
            refine x_loc [(0, .ref (ad 47)), (3, .int x16)] [1, 0] rfl ?_
            exact ih x16 σ15 hF
          · refine x_aload_n C 0 0 dX5_read_74 rfl rfl ?_
            refine x_callVI C (wf := CW K ad la rest) (As := []) (rest := []) dX5_read_75 ml_X5_57 rfl rfl (Nat.le_of_ble_eq_true rfl) 47 (CW_47 K ad la rest σ13) rfl ⟨Nat.le_of_ble_eq_true rfl, Nat.le_of_ble_eq_true rfl⟩ ⟨Nat.zero_le _, Nat.zero_le _⟩ (fun q9 hq9 => c_X5_fails l D K ad la rest σ13 q9 hq9) hF (fun v18 σ17 hF => ?_)
            refine x_pop C rfl dX5_read_78 ?_
            refine x_null C dX5_read_79 ?_
            refine x_widen (k' := 4) (n' := 429) (Nat.le_of_ble_eq_true rfl) (Nat.le_of_ble_eq_true rfl) ?_
            cases hF
            exact x_aretn C la rfl dX5_read_80 rfl rfl
        · refine x_aload_n C 0 0 dX5_read_57 rfl rfl ?_
          refine x_iload_n C 1 3 dX5_read_58 rfl rfl ?_
          refine x_iconst C 1 dX5_read_59 (by decide +kernel) ?_
          refine x_iadd C dX5_read_60 ?_
          obtain ⟨⟨v20, σ19⟩, hov20, hF⟩ := bd_some hF
          replace hF : _ = some z := hF
          refine x_callVn C (As := [.int (y3 + 1)]) (rest := []) dX5_read_61 ml_X5_53 rfl rfl (Nat.le_of_ble_eq_true rfl) 47 (CW_47 K ad la rest σ11) rfl ⟨Nat.le_of_ble_eq_true rfl, Nat.le_of_ble_eq_true rfl⟩ ⟨Nat.le_of_ble_eq_true rfl, Nat.le_of_ble_eq_true rfl⟩ (c_X5_made l D K ad la rest (y3 + 1) σ11 (v20, σ19) hov20) (fun la21 => ?_)
          cases hF
          exact x_aretn C la21 rfl dX5_read_64 rfl rfl
      · refine x_null C dX5_read_45 ?_
        refine x_widen (k' := 4) (n' := 429) (Nat.le_of_ble_eq_true rfl) (Nat.le_of_ble_eq_true rfl) ?_
        cases hF
        exact x_aretn C la rfl dX5_read_46 rfl rfl
set_option maxHeartbeats 4000000 in
set_option maxRecDepth 100000 in
theorem c_X5_read (l : Launch) (D : va_G) (K : Nat → ClassId) (ad la : Nat → Nat) (rest : va_W)  (a2 : Int32) (σ : xS) (z : Option Nat × xS) (hF : F_X5_read a2 σ = some z) : CQn l D K yX5_read cX5_read 4 (some (.object "PencilPrice$Law")) 1222 50845 4 429 [.ref (ad 47), .ref (ad 3), .int a2] (CW K ad la rest σ) (fun la2 => z.1.map (fun i => la2 (4 * i))) (fun la2 => CW K ad la2 rest z.2) := by
  refine x_enterqn [(0, .ref (ad 47)), (1, .ref (ad 3)), (2, .int a2)] pnX5 (Nat.le_of_ble_eq_true rfl) rfl ?_
  intro p e s m args below meth c A C
  unfold F_X5_read at hF
  refine x_aload_n C 0 0 dX5_read_0 rfl rfl ?_
  refine x_get C 47 dX5_read_1 fl_X5_12 (CW_47 K ad la rest σ) rfl ?_
  refine x_aload_n C 1 1 dX5_read_4 rfl rfl ?_
  refine x_iload_n C 2 2 dX5_read_5 rfl rfl ?_
  refine x_callVV C (wf := CW K ad la rest) (As := [.ref (ad 3), .int a2]) (rest := []) dX5_read_6 ml_X5_32 rfl rfl (Nat.le_of_ble_eq_true rfl) 51 (CW_51 K ad la rest σ) rfl ⟨Nat.le_of_ble_eq_true rfl, Nat.le_of_ble_eq_true rfl⟩ ⟨Nat.zero_le _, Nat.zero_le _⟩ (fun q9 hq9 => c_X9_cut l D K ad la rest a2 σ q9 hq9) hF (fun _ σ1 hF => ?_)
  refine x_aload_n C 0 0 dX5_read_9 rfl rfl ?_
  refine x_iconst C 0 dX5_read_10 (by decide +kernel) ?_
  refine x_put C 47 dX5_read_11 fl_X5_36 fm_X5_4 rfl rfl (CW_47 K ad la rest σ1) (Nat.le_of_ble_eq_true rfl) (CW_s47_4 K ad la rest σ1 _) ?_
  refine x_st (wf := CW K ad la rest) hF (fun σ2 hF => ?_)
  refine x_aload_n C 0 0 dX5_read_14 rfl rfl ?_
  refine x_iconst C 0 dX5_read_15 (by decide +kernel) ?_
  refine x_put C 47 dX5_read_16 fl_X5_39 fm_X5_5 rfl rfl (CW_47 K ad la rest σ2) (Nat.le_of_ble_eq_true rfl) (CW_s47_5 K ad la rest σ2 _) ?_
  refine x_st (wf := CW K ad la rest) hF (fun σ3 hF => ?_)
  refine x_aload_n C 0 0 dX5_read_19 rfl rfl ?_
  refine x_iconst C 0 dX5_read_20 (by decide +kernel) ?_
  refine x_put C 47 dX5_read_21 fl_X5_42 fm_X5_6 rfl rfl (CW_47 K ad la rest σ3) (Nat.le_of_ble_eq_true rfl) (CW_s47_6 K ad la rest σ3 _) ?_
  refine x_st (wf := CW K ad la rest) hF (fun σ4 hF => ?_)
  refine x_aload_n C 0 0 dX5_read_24 rfl rfl ?_
  refine x_iconst C (-1) dX5_read_25 (by decide +kernel) ?_
  refine x_put C 47 dX5_read_26 fl_X5_28 fm_X5_7 rfl rfl (CW_47 K ad la rest σ4) (Nat.le_of_ble_eq_true rfl) (CW_s47_7 K ad la rest σ4 _) ?_
  refine x_st (wf := CW K ad la rest) hF (fun σ5 hF => ?_)
  refine x_iconst C 0 dX5_read_29 (by decide +kernel) ?_
  refine x_topI hF (fun x6 hF => ?_)
  refine x_istore_n C [(3, .int x6), (0, .ref (ad 47)), (1, .ref (ad 3)), (2, .int a2)] dX5_read_30 rfl (by decide) rfl ?_
  refine x_loc [(0, .ref (ad 47)), (3, .int x6)] [1, 0] rfl ?_
  exact x_X5_read_31 C z FU x6 σ5 hF
noncomputable def F_X11_law   (σ : xS) : Option (Int32 × xS) := nm (sI σ 11) fun x1 => nm (uI σ 11 0) fun σ2 => if (sI σ2 87) < 6 then (bd (F_X5_read x1 σ2) fun v4 σ3 => mo v4 (nm (uI σ3 12 (sI σ3 759)) fun σ7 => bd (F_X11_refused ((-6)) σ7) fun v9 σ8 => some (v9, σ8)) (fun i6 => nm (uI σ3 12 (sI σ3 759)) fun σ10 => lw σ10 i6 fun p12 => ck 6 (sI σ10 87) (nm (uQ σ10 41 (va_up (sQ σ10 41) (sI σ10 87).toNatClampNeg (some i6))) fun σ11 => nm (uI σ11 87 ((sI σ11 87) + 1)) fun σ13 => bd (F_X11_accepted ((sI σ13 87) - 1) σ13) fun v15 σ14 => some (v15, σ14)))) else (bd (F_X11_refused ((-5)) σ2) fun v17 σ16 => some (v17, σ16))
set_option maxHeartbeats 4000000 in
set_option maxRecDepth 100000 in
theorem c_X11_law (l : Launch) (D : va_G) (K : Nat → ClassId) (ad la : Nat → Nat) (rest : va_W)   (σ : xS) (z : Int32 × xS) (hF : F_X11_law σ = some z) : CIn l D K yX11_law cX11_law 3 (some .int) 1223 50868 4 429 [.ref (ad 0)] (CW K ad la rest σ) z.1 (fun la2 => CW K ad la2 rest z.2) := by
  refine x_enterin [(0, .ref (ad 0))] pnX11 (Nat.le_of_ble_eq_true rfl) rfl ?_
  intro p e s m args below meth c A C
  unfold F_X11_law at hF
  refine x_aload_n C 0 0 dX11_law_0 rfl rfl ?_
  refine x_get C 0 dX11_law_1 fl_X11_143 (CW_0 K ad la rest σ) rfl ?_
  refine x_topI hF (fun x1 hF => ?_)
  refine x_istore_n C [(1, .int x1), (0, .ref (ad 0))] dX11_law_4 rfl (by decide) rfl ?_
  refine x_aload_n C 1 0 dX11_law_5 rfl rfl ?_
  refine x_iconst C 0 dX11_law_6 (by decide +kernel) ?_
  refine x_put C 0 dX11_law_7 fl_X11_143 fm_X11_11 rfl rfl (CW_0 K ad la rest σ) (Nat.le_of_ble_eq_true rfl) (CW_s0_11 K ad la rest σ _) ?_
  refine x_st (wf := CW K ad la rest) hF (fun σ2 hF => ?_)
  refine x_aload_n C 1 0 dX11_law_10 rfl rfl ?_
  refine x_get C 0 dX11_law_11 fl_X11_10 (CW_0 K ad la rest σ2) rfl ?_
  refine x_get C 5 dX11_law_14 fl_X11_156 (CW_5 K ad la rest σ2) rfl ?_
  refine x_bipush C 6 dX11_law_17 (by decide +kernel) ?_
  refine x_icmp_lt C 29 dX11_law_19 (by decide) hF (fun hF => ?_) (fun hF => ?_)
  · refine x_aload_n C 1 0 dX11_law_29 rfl rfl ?_
    refine x_get C 0 dX11_law_30 fl_X11_36 (CW_0 K ad la rest σ2) rfl ?_
    refine x_aload_n C 1 0 dX11_law_33 rfl rfl ?_
    refine x_get C 0 dX11_law_34 fl_X11_79 (CW_0 K ad la rest σ2) rfl ?_
    refine x_iload_n C 0 1 dX11_law_37 rfl rfl ?_
    obtain ⟨⟨v4, σ3⟩, hov4, hF⟩ := bd_some hF
    replace hF : _ = some z := hF
    refine x_callVn C (As := [.ref (ad 3), .int x1]) (rest := []) dX11_law_38 ml_X11_159 rfl rfl (Nat.le_of_ble_eq_true rfl) 47 (CW_47 K ad la rest σ2) rfl ⟨Nat.le_of_ble_eq_true rfl, Nat.le_of_ble_eq_true rfl⟩ ⟨Nat.le_of_ble_eq_true rfl, Nat.le_of_ble_eq_true rfl⟩ (c_X5_read l D K ad la rest x1 σ2 (v4, σ3) hov4) (fun la5 => ?_)
    cases v4 with
    | none =>
      replace hF : _ = some z := hF
      rw [mo_none] at hF
      refine x_if_cast (st2 := .null :: []) rfl ?_
      refine x_astore_nN C [(2, .null), (1, .int x1), (0, .ref (ad 0))] dX11_law_41 rfl (by decide) rfl ?_
      refine x_aload_n C 2 0 dX11_law_42 rfl rfl ?_
      refine x_aload_n C 2 0 dX11_law_43 rfl rfl ?_
      refine x_get C 0 dX11_law_44 fl_X11_36 (CW_0 K ad la5 rest σ3) rfl ?_
      refine x_get C 47 dX11_law_47 fl_X11_163 (CW_47 K ad la5 rest σ3) rfl ?_
      refine x_put C 0 dX11_law_50 fl_X11_83 fm_X11_12 rfl rfl (CW_0 K ad la5 rest σ3) (Nat.le_of_ble_eq_true rfl) (CW_s0_12 K ad la5 rest σ3 _) ?_
      refine x_st (wf := CW K ad la5 rest) hF (fun σ7 hF => ?_)
      refine x_aload_nN C 0 2 dX11_law_53 rfl rfl ?_
      refine x_ifnnN C dX11_law_54 ?_
      refine x_aload_n C 2 0 dX11_law_57 rfl rfl ?_
      refine x_bipush C (-6) dX11_law_58 (by decide +kernel) ?_
      refine x_callVI C (wf := CW K ad la5 rest) (As := [.int ((-6))]) (rest := []) dX11_law_60 ml_X11_94 rfl rfl (Nat.le_of_ble_eq_true rfl) 0 (CW_0 K ad la5 rest σ7) rfl ⟨Nat.le_of_ble_eq_true rfl, Nat.le_of_ble_eq_true rfl⟩ ⟨Nat.le_of_ble_eq_true rfl, Nat.le_of_ble_eq_true rfl⟩ (fun q9 hq9 => c_X11_refused l D K ad la5 rest ((-6)) σ7 q9 hq9) hF (fun v9 σ8 hF => ?_)
      refine x_widen (k' := 4) (n' := 429) (Nat.le_of_ble_eq_true rfl) (Nat.le_of_ble_eq_true rfl) ?_
      exact x_iretn C la5 dX11_law_63 rfl (congrArg Prod.fst (Option.some.inj hF)) (congrArg (fun q9 : Int32 × xS => CW K ad la5 rest q9.2) (Option.some.inj hF))
    | some i6 =>
      rw [mo_some] at hF
      refine x_if_cast (st2 := .ref (la5 (4 * i6)) :: []) rfl ?_
      refine x_astore_n C [(2, .ref (la5 (4 * i6))), (1, .int x1), (0, .ref (ad 0))] dX11_law_41 rfl (by decide) rfl ?_
      refine x_aload_n C 2 0 dX11_law_42 rfl rfl ?_
      refine x_aload_n C 2 0 dX11_law_43 rfl rfl ?_
      refine x_get C 0 dX11_law_44 fl_X11_36 (CW_0 K ad la5 rest σ3) rfl ?_
      refine x_get C 47 dX11_law_47 fl_X11_163 (CW_47 K ad la5 rest σ3) rfl ?_
      refine x_put C 0 dX11_law_50 fl_X11_83 fm_X11_12 rfl rfl (CW_0 K ad la5 rest σ3) (Nat.le_of_ble_eq_true rfl) (CW_s0_12 K ad la5 rest σ3 _) ?_
      refine x_st (wf := CW K ad la5 rest) hF (fun σ10 hF => ?_)
      refine x_aload_n C 0 2 dX11_law_53 rfl rfl ?_
      refine x_ifnnS C 64 dX11_law_54 (by decide) ?_
      refine x_aload_n C 2 0 dX11_law_64 rfl rfl ?_
      refine x_get C 0 dX11_law_65 fl_X11_10 (CW_0 K ad la5 rest σ10) rfl ?_
      refine x_get C 5 dX11_law_68 fl_X11_166 (CW_5 K ad la5 rest σ10) rfl ?_
      refine x_aload_n C 2 0 dX11_law_71 rfl rfl ?_
      refine x_get C 0 dX11_law_72 fl_X11_10 (CW_0 K ad la5 rest σ10) rfl ?_
      refine x_get C 5 dX11_law_75 fl_X11_156 (CW_5 K ad la5 rest σ10) rfl ?_
      refine x_aload_n C 0 2 dX11_law_78 rfl rfl ?_
      obtain ⟨p12, hp12, hF⟩ := lw_some hF
      refine x_astq C (b := 0) (t0 := 3) (gh := fun i => la5 (4 * i)) 41 ((rest.length + (4 * i6 + 0)) + 102) dX11_law_79 (CW_41 K ad la5 rest σ10) rfl (CW_law0 K ad la5 rest σ10 hp12) rfl hF (CW_q41 K ad la5 rest σ10 _) (fun hF => ?_)
      refine x_st (wf := CW K ad la5 rest) hF (fun σ11 hF => ?_)
      refine x_aload_n C 2 0 dX11_law_80 rfl rfl ?_
      refine x_get C 0 dX11_law_81 fl_X11_10 (CW_0 K ad la5 rest σ11) rfl ?_
      refine x_dup C rfl dX11_law_84 ?_
      refine x_get C 5 dX11_law_85 fl_X11_156 (CW_5 K ad la5 rest σ11) rfl ?_
      refine x_iconst C 1 dX11_law_88 (by decide +kernel) ?_
      refine x_iadd C dX11_law_89 ?_
      refine x_put C 5 dX11_law_90 fl_X11_156 fm_X7_7 rfl rfl (CW_5 K ad la5 rest σ11) (Nat.le_of_ble_eq_true rfl) (CW_s5_7 K ad la5 rest σ11 _) ?_
      refine x_st (wf := CW K ad la5 rest) hF (fun σ13 hF => ?_)
      refine x_aload_n C 2 0 dX11_law_93 rfl rfl ?_
      refine x_aload_n C 2 0 dX11_law_94 rfl rfl ?_
      refine x_get C 0 dX11_law_95 fl_X11_10 (CW_0 K ad la5 rest σ13) rfl ?_
      refine x_get C 5 dX11_law_98 fl_X11_156 (CW_5 K ad la5 rest σ13) rfl ?_
      refine x_iconst C 1 dX11_law_101 (by decide +kernel) ?_
      refine x_isub C dX11_law_102 ?_
      refine x_callVI C (wf := CW K ad la5 rest) (As := [.int ((sI σ13 87) - 1)]) (rest := []) dX11_law_103 ml_X11_102 rfl rfl (Nat.le_of_ble_eq_true rfl) 0 (CW_0 K ad la5 rest σ13) rfl ⟨Nat.le_of_ble_eq_true rfl, Nat.le_of_ble_eq_true rfl⟩ ⟨Nat.le_of_ble_eq_true rfl, Nat.le_of_ble_eq_true rfl⟩ (fun q9 hq9 => c_X11_accepted l D K ad la5 rest ((sI σ13 87) - 1) σ13 q9 hq9) hF (fun v15 σ14 hF => ?_)
      refine x_widen (k' := 4) (n' := 429) (Nat.le_of_ble_eq_true rfl) (Nat.le_of_ble_eq_true rfl) ?_
      exact x_iretn C la5 dX11_law_106 rfl (congrArg Prod.fst (Option.some.inj hF)) (congrArg (fun q9 : Int32 × xS => CW K ad la5 rest q9.2) (Option.some.inj hF))
  · refine x_aload_n C 1 0 dX11_law_22 rfl rfl ?_
    refine x_bipush C (-5) dX11_law_23 (by decide +kernel) ?_
    refine x_callVI C (wf := CW K ad la rest) (As := [.int ((-5))]) (rest := []) dX11_law_25 ml_X11_94 rfl rfl (Nat.le_of_ble_eq_true rfl) 0 (CW_0 K ad la rest σ2) rfl ⟨Nat.le_of_ble_eq_true rfl, Nat.le_of_ble_eq_true rfl⟩ ⟨Nat.zero_le _, Nat.zero_le _⟩ (fun q9 hq9 => c_X11_refused l D K ad la rest ((-5)) σ2 q9 hq9) hF (fun v17 σ16 hF => ?_)
    refine x_widen (k' := 4) (n' := 429) (Nat.le_of_ble_eq_true rfl) (Nat.le_of_ble_eq_true rfl) ?_
    exact x_iretn C la dX11_law_28 rfl (congrArg Prod.fst (Option.some.inj hF)) (congrArg (fun q9 : Int32 × xS => CW K ad la rest q9.2) (Option.some.inj hF))
