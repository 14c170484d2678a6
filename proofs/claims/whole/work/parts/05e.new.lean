theorem xObj : Cond.instanceMethod Lib.objectInit ∈ xT ∧ Cond.code Lib.objectInit ⟨#[0xb1]⟩ 1 none ∈ xT := ⟨xT_mem (List.mem_append_right _ (List.mem_of_getElem? (i := 28) (by decide +kernel))) (by decide +kernel), xT_mem (List.mem_append_right _ (List.mem_of_getElem? (i := 29) (by decide +kernel))) (by decide +kernel)⟩
def nestF : Cond → Bool
  | .fieldLinkNest own _ ref _ _ _ => own != ref
  | _ => true
theorem nestF_all : ∀ w ∈ xTN, nestF w = true := List.all_eq_true.mp (by decide +kernel)
theorem noNestF (own : String) (idx : Nat) (ref nm dd host : String) (e : ref = own) : Cond.fieldLinkNest own idx ref nm dd host ∉ xTN := fun h => by
  have h1 := nestF_all _ h
  simp [nestF, e] at h1
section XNew
variable {p : Program} {l : Launch} {e : Env} {R : Room} {s : State} {m : MethodId} {args : Array Value} {below : List Frame} {meth : Method} {c : Code} {D : va_G} {K : Nat → ClassId} {A : Nat → Prop} {own : String} {cc : ByteArray} {nL : Nat} {ret : Option FieldType} {Q : State → Prop} {k n pc : Nat} {loc : List (Nat × Value)} {st : List Value} {ws : va_W}
theorem x_widen {k' n' : Nat} (h1 : k ≤ k') (h2 : n ≤ n') (h : X p l e R s m args below meth c D A nL Q k' n' pc loc st ws) : X p l e R s m args below meth c D A nL Q k n pc loc st ws :=
  fun H locs ls hP hD hS hl => W.widen h1 h2 (h H locs ls hP hD hS hl)
theorem x_new (C : xC p s m args meth c D K A own cc nL ret) {idx ci N : Nat} {C1 : String} {T : u_T} {ty : Nat → FieldType} {fs : List Value} (hd : decode cc pc = .ok (.new idx, 3)) (hcl : Cond.classLink own idx C1 ∈ xT) (hinst : Cond.instantiable C1 N ∈ xT) (hini : Cond.initialized C1 ∈ xT) (hin : ∀ w ∈ u_ws C1 T N, w ∈ xT) (hty : ∀ k, k < N → parseFieldDescriptor (T k).2.2.1 = some (ty k)) (hc : vwCl[ci]? = some (C1, T, N)) (hfs : ∀ j, j < N → defaultValue (ty j) = vp_V fs j) (hcs : k + 1 ≤ R.cells ∧ n + N ≤ R.slots) (h : ∀ q : Nat, X p l e R s m args below meth c D A nL Q (k + 1) (n + N) (pc + 3) loc (.ref q :: st) (ws ++ [(q, .inr (ci, fs))])) : X p l e R s m args below meth c D A nL Q k n pc loc st ws :=
  fun H locs ls hP hD hS hl => va_new (ci := ci) (fs := fs) (C := C1) (T := T) (N := N) C.1 C.2.1 C.2.2.2.2.1 hin ty hty C.2.2.2.1 (C.2.2.2.2.1 _ hcl) (C.2.2.2.2.1 _ hinst) (C.2.2.2.2.1 _ hini) C.2.2.2.2.2.1 hP hD hS C.2.2.2.2.2.2.2.2.1 hc hfs hcs.1 hcs.2 hd (fun q H1 hP1 hD1 hS1 => h q H1 locs ls hP1 hD1 hS1 hl)
theorem x_same {cA cB : ClassId} {ty : FieldType} (ho : ∀ Cn, ty ≠ .object Cn) (h1 : va_RA s cA ty) (h2 : va_RA s cB ty) : cA = cB := by
  cases ty with
  | object Cn => exact absurd rfl (ho Cn)
  | _ => exact Option.some.inj (h1.symm.trans h2)
theorem x_sameO {cA cB : ClassId} {Cn : String} (h1 : va_RA s cA (.object Cn)) (h2 : va_RA s cB (.object Cn)) : cA = cB := by
  obtain ⟨_, _, _, _, _, a4⟩ := h1
  obtain ⟨_, _, _, _, _, b4⟩ := h2
  exact Option.some.inj (a4.symm.trans b4)
theorem x_newaI (C : xC p s m args meth c D K A own cc nL ret) {i : Int32} (N : Nat) (hd : decode cc pc = .ok (.newarray .int, 2)) (harr : Cond.arrayClass .int ∈ xT) (hi : ¬ i < 0) (hN : i.toNatClampNeg = N) (hb : N ≤ 60000000) (hcs : k + 1 ≤ R.cells ∧ n + N ≤ R.slots) (h : ∀ q : Nat, X p l e R s m args below meth c D A nL Q (k + 1) (n + N) (pc + 2) loc (.ref q :: st) (ws ++ [(q, .inl (K 0, (N, .inl (fun _ => 0))))])) : X p l e R s m args below meth c D A nL Q k n pc loc (.int i :: st) ws := by
  intro H locs ls hP hD hS hl
  refine va_newa (atype := .int) (a0 := (N, .inl (fun _ => 0))) C.1 C.2.1 (C.2.2.2.2.1 _ harr) (ty := .int) rfl C.2.2.2.2.2.1 hP hD hS C.2.2.2.2.2.2.2.2.1 (fun _ => rfl) hi hN (by show N * _ ≤ _; simp only [componentBytes]; omega) hcs.1 hcs.2 hd (fun q cA H1 hK1 hP1 hD1 hS1 => ?_)
  have e1 : cA = K 0 := x_same (fun _ hh => by cases hh) (hK1.2 7 (cA, .int) rfl).2 (C.2.2.2.2.2.1.2 0 (K 0, .int) rfl).2
  subst e1
  exact h q H1 locs ls hP1 hD1 hS1 hl
theorem x_newaJ (C : xC p s m args meth c D K A own cc nL ret) {i : Int32} (N : Nat) (hd : decode cc pc = .ok (.newarray .long, 2)) (harr : Cond.arrayClass .long ∈ xT) (hi : ¬ i < 0) (hN : i.toNatClampNeg = N) (hb : N ≤ 60000000) (hcs : k + 1 ≤ R.cells ∧ n + N ≤ R.slots) (h : ∀ q : Nat, X p l e R s m args below meth c D A nL Q (k + 1) (n + N) (pc + 2) loc (.ref q :: st) (ws ++ [(q, .inl (K 1, (N, .inr (.inl (fun _ => 0)))))])) : X p l e R s m args below meth c D A nL Q k n pc loc (.int i :: st) ws := by
  intro H locs ls hP hD hS hl
  refine va_newa (atype := .long) (a0 := (N, .inr (.inl (fun _ => 0)))) C.1 C.2.1 (C.2.2.2.2.1 _ harr) (ty := .long) rfl C.2.2.2.2.2.1 hP hD hS C.2.2.2.2.2.2.2.2.1 (fun _ => rfl) hi hN (by show N * _ ≤ _; simp only [componentBytes]; omega) hcs.1 hcs.2 hd (fun q cA H1 hK1 hP1 hD1 hS1 => ?_)
  have e1 : cA = K 1 := x_same (fun _ hh => by cases hh) (hK1.2 7 (cA, .long) rfl).2 (C.2.2.2.2.2.1.2 1 (K 1, .long) rfl).2
  subst e1
  exact h q H1 locs ls hP1 hD1 hS1 hl
theorem x_newaZ (C : xC p s m args meth c D K A own cc nL ret) {i : Int32} (N : Nat) (hd : decode cc pc = .ok (.newarray .boolean, 2)) (harr : Cond.arrayClass .boolean ∈ xT) (hi : ¬ i < 0) (hN : i.toNatClampNeg = N) (hb : N ≤ 60000000) (hcs : k + 1 ≤ R.cells ∧ n + N ≤ R.slots) (h : ∀ q : Nat, X p l e R s m args below meth c D A nL Q (k + 1) (n + N) (pc + 2) loc (.ref q :: st) (ws ++ [(q, .inl (K 2, (N, .inl (fun _ => 0))))])) : X p l e R s m args below meth c D A nL Q k n pc loc (.int i :: st) ws := by
  intro H locs ls hP hD hS hl
  refine va_newa (atype := .boolean) (a0 := (N, .inl (fun _ => 0))) C.1 C.2.1 (C.2.2.2.2.1 _ harr) (ty := .boolean) rfl C.2.2.2.2.2.1 hP hD hS C.2.2.2.2.2.2.2.2.1 (fun _ => rfl) hi hN (by show N * _ ≤ _; simp only [componentBytes]; omega) hcs.1 hcs.2 hd (fun q cA H1 hK1 hP1 hD1 hS1 => ?_)
  have e1 : cA = K 2 := x_same (fun _ hh => by cases hh) (hK1.2 7 (cA, .boolean) rfl).2 (C.2.2.2.2.2.1.2 2 (K 2, .boolean) rfl).2
  subst e1
  exact h q H1 locs ls hP1 hD1 hS1 hl
theorem x_newqLaw (C : xC p s m args meth c D K A own cc nL ret) {idx : Nat} {i : Int32} (N : Nat) (hd : decode cc pc = .ok (.anewarray idx, 3)) (hcl : Cond.classLink own idx "PencilPrice$Law" ∈ xT) (hi : ¬ i < 0) (hN : i.toNatClampNeg = N) (hb : N ≤ 60000000) (hcs : k + 1 ≤ R.cells ∧ n + N ≤ R.slots) (h : ∀ q : Nat, X p l e R s m args below meth c D A nL Q (k + 1) (n + N) (pc + 3) loc (.ref q :: st) (ws ++ [(q, .inl (K 3, (N, .inr (.inr (.inr (.inr (fun _ => none)))))))])) : X p l e R s m args below meth c D A nL Q k n pc loc (.int i :: st) ws := by
  intro H locs ls hP hD hS hl
  obtain ⟨aK, aV, -, -, hO⟩ := C.2.2.2.2.2.2.2.2.2.2.2.2.2.2.2
  refine va_newq (C := "PencilPrice$Law") C.1 C.2.1 C.2.2.2.1 (C.2.2.2.2.1 _ hcl) hO.1 C.2.2.2.2.2.1 hP hD hS C.2.2.2.2.2.2.2.2.1 hi hN (by omega) hcs.1 hcs.2 hd (fun q cA H1 hK1 hP1 hD1 hS1 => ?_)
  have e1 : cA = K 3 := x_sameO (hK1.2 7 (cA, .object "PencilPrice$Law") rfl).2 (C.2.2.2.2.2.1.2 3 (K 3, .object "PencilPrice$Law") rfl).2
  subst e1
  exact h q H1 locs ls hP1 hD1 hS1 hl
theorem x_newqStock (C : xC p s m args meth c D K A own cc nL ret) {idx : Nat} {i : Int32} (N : Nat) (hd : decode cc pc = .ok (.anewarray idx, 3)) (hcl : Cond.classLink own idx "PencilPrice$Stock" ∈ xT) (hi : ¬ i < 0) (hN : i.toNatClampNeg = N) (hb : N ≤ 60000000) (hcs : k + 1 ≤ R.cells ∧ n + N ≤ R.slots) (h : ∀ q : Nat, X p l e R s m args below meth c D A nL Q (k + 1) (n + N) (pc + 3) loc (.ref q :: st) (ws ++ [(q, .inl (K 6, (N, .inr (.inr (.inr (.inr (fun _ => none)))))))])) : X p l e R s m args below meth c D A nL Q k n pc loc (.int i :: st) ws := by
  intro H locs ls hP hD hS hl
  obtain ⟨aK, aV, -, -, hO⟩ := C.2.2.2.2.2.2.2.2.2.2.2.2.2.2.2
  refine va_newq (C := "PencilPrice$Stock") C.1 C.2.1 C.2.2.2.1 (C.2.2.2.2.1 _ hcl) hO.2.1 C.2.2.2.2.2.1 hP hD hS C.2.2.2.2.2.2.2.2.1 hi hN (by omega) hcs.1 hcs.2 hd (fun q cA H1 hK1 hP1 hD1 hS1 => ?_)
  have e1 : cA = K 6 := x_sameO (hK1.2 7 (cA, .object "PencilPrice$Stock") rfl).2 (C.2.2.2.2.2.1.2 6 (K 6, .object "PencilPrice$Stock") rfl).2
  subst e1
  exact h q H1 locs ls hP1 hD1 hS1 hl
theorem x_mnaI (C : xC p s m args meth c D K A own cc nL ret) {idx : Nat} {i j : Int32} (N M : Nat) (hd : decode cc pc = .ok (.multianewarray idx 2, 4)) (hcl : Cond.classLink own idx "[[I" ∈ xT) (harr : Cond.arrayClass .int ∈ xT) (hi : ¬ i < 0) (hj : ¬ j < 0) (hN : i.toNatClampNeg = N) (hM : j.toNatClampNeg = M) (hb1 : N ≤ 60000000) (hb2 : M ≤ 60000000) (hcs : k + (1 + N) ≤ R.cells ∧ n + (N + N * M) ≤ R.slots) (h : ∀ (q : Nat) (r : Nat → Nat), X p l e R s m args below meth c D A nL Q (k + 1 + N) (n + N + N * M) (pc + 4) loc (.ref q :: st) (ws ++ ((q, .inl (K 4, (N, .inr (.inr (.inr (.inr (fun i => if i < N then some (r i) else none))))))) :: (List.range N).map (fun i => (r i, .inl (K 0, (M, .inl (fun _ => 0)))))))) : X p l e R s m args below meth c D A nL Q k n pc loc (.int j :: .int i :: st) ws := by
  intro H locs ls hP hD hS hl
  obtain ⟨aK, aV, -, -, hO⟩ := C.2.2.2.2.2.2.2.2.2.2.2.2.2.2.2
  have e0 : ws = ws ++ va_pl [] (fun _ => .inr (0, [])) := (List.append_nil ws).symm
  rw [e0] at hP hD
  refine va_mna (X := ws) (L := []) (f := fun _ => .inr (0, [])) (ty := .int) (cy := K 0) (z := (M, .inl (fun _ => 0))) C.1 C.2.1 C.2.2.2.1 (C.2.2.2.2.1 _ hcl) hO.2.2.1 (C.2.2.2.2.1 _ harr) (C.2.2.2.2.2.1.2 0 (K 0, .int) rfl).2 C.2.2.2.2.2.1 hP hD hS C.2.2.2.2.2.2.2.2.1 hi hj hN hM (by omega) (by simp only [componentBytes]; omega) (by omega) rfl rfl hcs.1 hcs.2 (fun c9 => by exact arrV_new c9 M _) hd (fun q r cA H1 hr1 hr2 hK1 hP1 hD1 hS1 => ?_)
  have e1 : cA = K 4 := x_same (fun _ hh => by cases hh) (hK1.2 7 (cA, .array .int) rfl).2 (C.2.2.2.2.2.1.2 4 (K 4, .array .int) rfl).2
  subst e1
  have e2 : (ws ++ [(q, .inl (K 4, N, .inr (.inr (.inr (.inr (fun i => if i < N then some (r i) else none))))))]) ++ va_pl ([] ++ (List.range N).map r) (vr_up (fun _ => .inr (0, [])) ((List.range N).map r) (.inl (K 0, (M, .inl (fun _ => 0))))) = ws ++ ((q, .inl (K 4, (N, .inr (.inr (.inr (.inr (fun i => if i < N then some (r i) else none))))))) :: (List.range N).map (fun i => (r i, .inl (K 0, (M, .inl (fun _ => 0)))))) := by
    rw [List.append_assoc]
    refine congrArg (fun x => ws ++ x) ?_
    show _ :: ([] ++ va_pl ([] ++ (List.range N).map r) _) = _ :: _
    refine congrArg (List.cons _) ?_
    unfold va_pl
    rw [List.nil_append, List.nil_append, List.map_map]
    apply List.map_congr_left
    intro a ha
    show (r a, vr_up _ _ _ (r a)) = _
    rw [vr_up_in (List.mem_map.mpr ⟨a, ha, rfl⟩)]
  rw [e2] at hP1 hD1
  exact h q r H1 locs ls hP1 hD1 hS1 hl
theorem x_mnaJ (C : xC p s m args meth c D K A own cc nL ret) {idx : Nat} {i j : Int32} (N M : Nat) (hd : decode cc pc = .ok (.multianewarray idx 2, 4)) (hcl : Cond.classLink own idx "[[J" ∈ xT) (harr : Cond.arrayClass .long ∈ xT) (hi : ¬ i < 0) (hj : ¬ j < 0) (hN : i.toNatClampNeg = N) (hM : j.toNatClampNeg = M) (hb1 : N ≤ 60000000) (hb2 : M ≤ 60000000) (hcs : k + (1 + N) ≤ R.cells ∧ n + (N + N * M) ≤ R.slots) (h : ∀ (q : Nat) (r : Nat → Nat), X p l e R s m args below meth c D A nL Q (k + 1 + N) (n + N + N * M) (pc + 4) loc (.ref q :: st) (ws ++ ((q, .inl (K 5, (N, .inr (.inr (.inr (.inr (fun i => if i < N then some (r i) else none))))))) :: (List.range N).map (fun i => (r i, .inl (K 1, (M, .inr (.inl (fun _ => 0))))))))) : X p l e R s m args below meth c D A nL Q k n pc loc (.int j :: .int i :: st) ws := by
  intro H locs ls hP hD hS hl
  obtain ⟨aK, aV, -, -, hO⟩ := C.2.2.2.2.2.2.2.2.2.2.2.2.2.2.2
  have e0 : ws = ws ++ va_pl [] (fun _ => .inr (0, [])) := (List.append_nil ws).symm
  rw [e0] at hP hD
  refine va_mna (X := ws) (L := []) (f := fun _ => .inr (0, [])) (ty := .long) (cy := K 1) (z := (M, .inr (.inl (fun _ => 0)))) C.1 C.2.1 C.2.2.2.1 (C.2.2.2.2.1 _ hcl) hO.2.2.2 (C.2.2.2.2.1 _ harr) (C.2.2.2.2.2.1.2 1 (K 1, .long) rfl).2 C.2.2.2.2.2.1 hP hD hS C.2.2.2.2.2.2.2.2.1 hi hj hN hM (by omega) (by simp only [componentBytes]; omega) (by omega) rfl rfl hcs.1 hcs.2 (fun c9 => by exact arrV_new c9 M _) hd (fun q r cA H1 hr1 hr2 hK1 hP1 hD1 hS1 => ?_)
  have e1 : cA = K 5 := x_same (fun _ hh => by cases hh) (hK1.2 7 (cA, .array .long) rfl).2 (C.2.2.2.2.2.1.2 5 (K 5, .array .long) rfl).2
  subst e1
  have e2 : (ws ++ [(q, .inl (K 5, N, .inr (.inr (.inr (.inr (fun i => if i < N then some (r i) else none))))))]) ++ va_pl ([] ++ (List.range N).map r) (vr_up (fun _ => .inr (0, [])) ((List.range N).map r) (.inl (K 1, (M, .inr (.inl (fun _ => 0)))))) = ws ++ ((q, .inl (K 5, (N, .inr (.inr (.inr (.inr (fun i => if i < N then some (r i) else none))))))) :: (List.range N).map (fun i => (r i, .inl (K 1, (M, .inr (.inl (fun _ => 0))))))) := by
    rw [List.append_assoc]
    refine congrArg (fun x => ws ++ x) ?_
    show _ :: ([] ++ va_pl ([] ++ (List.range N).map r) _) = _ :: _
    refine congrArg (List.cons _) ?_
    unfold va_pl
    rw [List.nil_append, List.nil_append, List.map_map]
    apply List.map_congr_left
    intro a ha
    show (r a, vr_up _ _ _ (r a)) = _
    rw [vr_up_in (List.mem_map.mpr ⟨a, ha, rfl⟩)]
  rw [e2] at hP1 hD1
  exact h q r H1 locs ls hP1 hD1 hS1 hl
theorem x_putF (C : xC p s m args meth c D K A own cc nL ret) {idx a ci k0 : Nat} {ty : FieldType} {fs : List Value} {v : Value} {ws' : va_W} (hin : meth.name = "<init>") (q : Nat) (hd : decode cc pc = .ok (.putfield idx, 3)) (hf : xF own idx ci k0 ty) (hm : ∃ (C2 : String) (T2 : u_T) (N2 : Nat), vwCl[ci]? = some (C2, T2, N2) ∧ (T2 k0).2.2.2 = true ∧ C2 = own) (hn : narrow ty v = v) (hfit : fits ty v = true) (hq : ws[q]? = some (a, .inr (ci, fs))) (hkl : k0 < fs.length) (hw : ws.set q (a, .inr (ci, fs.set k0 v)) = ws') (h : X p l e R s m args below meth c D A nL Q k n (pc + 3) loc st ws') : X p l e R s m args below meth c D A nL Q k n pc loc (v :: .ref a :: st) ws := by
  obtain ⟨C1, T, N, ty0, hc, hk, hin1, hlk, e1, hty, hnm, ety⟩ := hf
  obtain ⟨C2, T2, N2, hc2, hmut, eown⟩ := hm
  rw [hc] at hc2
  cases hc2
  subst hw
  intro H locs ls hP hD hS hl
  have hpd : parseFieldDescriptor (T k0).2.2.1 = some ty := by rw [← ety]; exact hty k0 hk
  rcases hlk with hlk | ⟨host, hlk⟩
  · exact va_putF C.1 C.2.1 C.2.2.2.2.1 hin1 ty0 hty hnm C.2.2.2.1 C.2.2.2.2.2.1 hP hD hS q hq hc k0 hk (C.2.2.2.2.1 _ hlk) (fun x hx => by rw [e1] at hx; exact hx) hmut hin (e1.trans eown) hpd hn hfit hkl hd (fun H1 locs1 hP1 hD1 hS1 => h H1 locs1 ls hP1 hD1 hS1 hl)
  · exact absurd hlk (noNestF _ _ _ _ _ _ (by rw [eown]))
theorem x_objInit (C : xC p s m args meth c D K A own cc nL ret) {idx a : Nat} (hd : decode cc pc = .ok (.invokespecial idx, 3)) (hlk : Cond.methodLink own idx Lib.objectInit ∈ xT) (hroom : 1 ≤ R.frames ∧ (st.map fun v => v.category).sum + 12 ≤ R.locals) (h : X p l e R s m args below meth c D A nL Q k n (pc + 3) loc st ws) : X p l e R s m args below meth c D A nL Q k n pc loc (.ref a :: st) ws := by
  intro H locs ls hP hD hS hl
  refine W.objInit C.1 C.2.1 C.2.2.2.1 (C.2.2.2.2.1 _ hlk) (C.2.2.2.2.1 _ xObj.1) (C.2.2.2.2.1 _ xObj.2) rfl (by rw [C.2.2.1]; exact hl.1) rfl hd hroom.1 (by show 2 * 0 + _ + 12 ≤ _; omega) ?_
  exact h H locs ls hP hD hS hl
end XNew
def CVw (l : Launch) (D : va_G) (K : Nat → ClassId) (y : MethodName) (cc : ByteArray) (maxL : Nat) (fr lo mc ms : Nat) (av : List Value) (w0 : va_W) (P : va_W → Prop) : Prop :=
  ∀ sz : Nat, Met l y (xW y cc maxL none) ({ frames := fr, cells := mc, slots := ms, locals := lo }) (va_Pc av (xA D K w0 sz)) (va_Qv P (fun w1 t => xB D K w1 (va_A w0 sz) t) (va_A w0 sz)) mc ms (va_A w0 sz)
def xQw (below : List Frame) (D : va_G) (K : Nat → ClassId) (A : Nat → Prop) (args : Array Value) (s : State) (mc ms : Nat) (P : va_W → Prop) : State → Prop := MQ below (va_Qv P (fun w1 t => xB D K w1 A t) A) args s mc ms A
section XNew2
variable {p : Program} {l : Launch} {e : Env} {R : Room} {s : State} {m : MethodId} {args : Array Value} {below : List Frame} {meth : Method} {c : Code} {D : va_G} {K : Nat → ClassId} {A : Nat → Prop} {own : String} {cc : ByteArray} {nL : Nat} {ret : Option FieldType} {Q : State → Prop} {k n pc : Nat} {loc : List (Nat × Value)} {st : List Value} {ws : va_W}
theorem x_vretw (C : xC p s m args meth c D K A own cc nL ret) {P : va_W → Prop} (hd : decode cc pc = .ok (.return_, 1)) (hr : ret = none) (hw : P ws) : X p l e R s m args below meth c D A nL (xQw below D K A args s k n P) k n pc loc [] ws := by
  have hlocks : meth.locks = false := C.2.2.2.2.2.2.2.1
  exact fun H locs ls hP hD hS hl => W.vret C.1 C.2.1 (C.2.2.2.2.2.2.1.trans hr) (fun t ht hW => ⟨⟨ws, rfl, hw, by rw [ht]; exact hP, va_K.moved hW.alike C.2.2.2.2.2.1, hD⟩, hS.F ht⟩) hS.2.2 hd hlocks
end XNew2
def xMI (own : String) (idx : Nat) (y : MethodName) (bytes : ByteArray) (maxL : Nat) (n : Nat) : Prop := xM own idx y bytes maxL none n ∧ Cond.instanceMethod y ∈ xT ∧ y.name = "<init>"
section XNew3
variable {p : Program} {l : Launch} {e : Env} {R : Room} {s : State} {m : MethodId} {args : Array Value} {below : List Frame} {meth : Method} {c : Code} {D : va_G} {K : Nat → ClassId} {A : Nat → Prop} {own : String} {cc : ByteArray} {nL : Nat} {ret : Option FieldType} {Q : State → Prop} {k n pc : Nat} {loc : List (Nat × Value)} {st : List Value} {ws : va_W}
theorem x_callIw (C : xC p s m args meth c D K A own cc nL ret) {idx maxL1 n1 fr lo : Nat} {b : Nat} {y : MethodName} {bytes : ByteArray} {As rest : List Value} {mc ms : Nat} {P : va_W → Prop} (hd : decode cc pc = .ok (.invokespecial idx, 3)) (hm : xMI own idx y bytes maxL1 n1) (hn : As.length = n1) (hst : st = As.reverse ++ .ref b :: rest) (hcat : (rest.map fun v => v.category).sum ≤ 8) (hroom : fr + 1 ≤ R.frames ∧ 8 + (maxL1 + 11) + lo ≤ R.locals) (hcs : k + mc ≤ R.cells ∧ n + ms ≤ R.slots) (hM : CVw l D K y bytes maxL1 fr lo mc ms (.ref b :: As) ws P) (h : ∀ w1 : va_W, P w1 → X p l e R s m args below meth c D A nL Q (k + mc) (n + ms) (pc + 3) loc (rest) w1) : X p l e R s m args below meth c D A nL Q k n pc loc st ws := by
  subst hst
  intro H locs ls hP hD hS hl
  have hfree := va_A_sub hD hS C.2.2.2.2.2.2.2.2.1
  have hZ : zS (va_A ws H.size) s H := (C.2.2.2.2.2.2.2.2.2.kept hS.2.1).narrow hfree
  have hK := C.2.2.2.2.2.1
  have hts := C.2.2.2.2.1
  obtain ⟨⟨hlk, hin, hco, hne, hdesc⟩, hinst, hyn⟩ := hm
  have hpar : ∀ sig, parseMethodDescriptor y.desc = some sig → n1 = sig.parameters.length := fun sig hs => by
    rw [hs] at hdesc
    exact (Option.some.inj hdesc).symm
  have hrun : va_Run p l e R s m args below meth c H locs k n mc ms (F0 m pc ls (As.reverse ++ .ref b :: rest)) rest ((va_Qv P (fun w1 t => xB D K w1 (va_A ws H.size) t) (va_A ws H.size)) ((.ref b :: As)).toArray) (va_A ws H.size) := by
    rcases hlk with hlk | ⟨host, hlk⟩
    · exact va_runI (Ts := xT) ⟨C.1, C.2.1, C.2.2.1, C.2.2.2.1, hts⟩ (hM H.size) ⟨⟨rfl, rfl, hroom.1, hroom.2, pay_in hts (xW_good hco), List.mem_cons_self, hts _ hco, hts _ hin, hne, hpar, hts _ hlk⟩, hyn, hts _ hinst⟩ ⟨xA_blind, fun U hU hW => ⟨rfl, by rw [hU], by rw [hU]; exact hP, va_K.moved hW.alike hK, hD.weaken (fun _ _ _ _ => trivial), by rw [hU]; exact hZ.warm hW⟩⟩ rfl hn hl.1 rfl (lv_room hcat) hd hcs
    · exact va_runIN (Ts := xT) ⟨C.1, C.2.1, C.2.2.1, C.2.2.2.1, hts⟩ (hM H.size) ⟨⟨⟨rfl, rfl, hroom.1, hroom.2, pay_in hts (xW_good hco), List.mem_cons_self⟩, hts _ hco, hts _ hin, hne, hpar, va_Nw.use rfl (C.2.2.2.2.2.2.2.2.2.2.2.2.1 _ hlk)⟩, hyn, hts _ hinst⟩ ⟨xA_blind, fun U hU hW => ⟨rfl, by rw [hU], by rw [hU]; exact hP, va_K.moved hW.alike hK, hD.weaken (fun _ _ _ _ => trivial), by rw [hU]; exact hZ.warm hW⟩⟩ rfl hn hl.1 rfl (lv_room hcat) hd hcs
  refine va_callv hrun hS (fun q _ h => hfree q h) hfree (fun u t H1 locs1 ht hvm hw hB hz1 hk1 hS1 => ?_)
  obtain ⟨hP1, hK1, hD1⟩ := hB
  rw [ht] at hP1
  exact h u hw H1 locs1 ls hP1 (hD1.weaken (fun _ q _ hq9 => hfree q.1 hq9)) hS1 hl
end XNew3
theorem x_enterw {l : Launch} {D : va_G} {K : Nat → ClassId} {y : MethodName} {cc : ByteArray} {maxL : Nat} {fr lo mc ms : Nat} {av : List Value} {w0 : va_W} {P : va_W → Prop} (loc : List (Nat × Value)) (hy : plainName y.cls = true) (hav : (lg_sl av).length ≤ maxL) (hloc : lv_args 0 av = loc)
    (body : ∀ (p : Program) (e : Env) (s : State) (m : MethodId) (args : Array Value) (below : List Frame) (meth : Method) (c : Code) (A : Nat → Prop), xC p s m args meth c D K A y.cls cc maxL none → meth.name = y.name → X p l e ({ frames := fr, cells := mc, slots := ms, locals := lo }) s m args below meth c D A maxL (xQw below D K A args s mc ms P) 0 0 0 loc [] w0) : CVw l D K y cc maxL fr lo mc ms av w0 P := by
  intro sz
  refine Met.ofW (cc := cc) (maxL := maxL) (ret := none) hy rfl ?_
  intro p e s m args below meth c s₁ B hml hv
  obtain ⟨rfl, hsz, hP, hK, hD0, hZ0⟩ := hv
  have hts := atoms_spec (ws := xW y cc maxL none) B.pre
  subst hsz
  subst hloc
  have hD := hD0.self (sz := s.heap.size)
  have hl := lv_entry av (n := maxL) hav
  rw [lg_entry_eq]
  exact body p e s m _ below meth c (va_A w0 s.heap.size) ⟨B.exec, B.bytes, hml, findClass_of_methodNamed B.named, fun w hw => hts w (List.mem_cons_of_mem _ hw), hK, B.returns, B.notSynchronized, fun q h => Or.inr h, hZ0⟩ (name_of_methodNamed B.named B.method).1 s.heap [] _ hP hD va_S.rf hl
theorem nw_at {ws tail : va_W} {k : Nat} {x0 x : Nat × va_E} (h : ws[k]? = some x0) : (ws.set k x ++ tail)[k]? = some x := by
  have hk := (List.getElem?_eq_some_iff.mp h).1
  rw [List.getElem?_append_left (by rw [List.length_set]; exact hk)]
  exact set_at h
theorem nw_set {ws tail : va_W} {k : Nat} {x0 x y : Nat × va_E} (h : ws[k]? = some x0) : (ws.set k x ++ tail).set k y = ws.set k y ++ tail := by
  have hk := (List.getElem?_eq_some_iff.mp h).1
  rw [List.set_append_left _ _ (by rw [List.length_set]; exact hk), List.set_set]
theorem nw_tl {ws tail : va_W} {k j : Nat} {x y : Nat × va_E} (h : tail[j]? = some y) : (ws.set k x ++ tail)[ws.length + j]? = some y := by
  rw [List.getElem?_append_right (by rw [List.length_set]; omega), List.length_set, show ws.length + j - ws.length = j by omega, h]
theorem nw_tlset {ws tail : va_W} {k j : Nat} {x y : Nat × va_E} : (ws.set k x ++ tail).set (ws.length + j) y = ws.set k x ++ tail.set j y := by
  rw [List.set_append_right _ _ (by rw [List.length_set]; omega), List.length_set, show ws.length + j - ws.length = j by omega]
