theorem lw_good : ∀ w ∈ xT, goodWord w = true := fun _ h => (List.mem_filter.mp h).2
theorem xW_good {y : MethodName} {cc : ByteArray} {maxL : Nat} {ret : Option FieldType} (h : Cond.code y cc maxL ret ∈ xT) : GoodIn xT (xW y cc maxL ret) := by
  intro w hw
  rcases List.mem_cons.mp hw with rfl | hw
  · exact ⟨h, good_of_word (lw_good _ h)⟩
  · exact ⟨hw, good_of_word (lw_good _ hw)⟩
theorem va_A_sub {A : Nat → Prop} {ws : va_W} {H0 H : Heap} {locs : List Loc} (hD : va_D A ws) (hS : va_S A H0 H locs) (hA : ∀ q : Nat, H0.size ≤ q → A q) : ∀ q : Nat, va_A ws H.size q → A q := by
  intro q h
  rcases h with ⟨k, e, h⟩ | h
  · exact hD.2 k (q, e) h
  · exact hA q (Nat.le_trans hS.1 h)
section XCalls
variable {p : Program} {l : Launch} {e : Env} {R : Room} {s : State} {m : MethodId} {args : Array Value} {below : List Frame} {meth : Method} {c : Code} {D : va_G} {K : Nat → ClassId} {A : Nat → Prop} {own : String} {cc : ByteArray} {nL : Nat} {ret : Option FieldType} {Q : State → Prop} {k n pc : Nat} {loc : List (Nat × Value)} {st : List Value} {ws : va_W}
theorem x_callVI {α : Type} (C : xC p s m args meth c D K A own cc nL ret) {idx maxL1 n1 fr lo : Nat} {b ci : Nat} {fs : List Value} {y : MethodName} {bytes : ByteArray} {ret1 : Option FieldType} {As rest : List Value} {o : Option (Int32 × xS)} {kf : Int32 → xS → Option α} {z : α} {wf : xS → va_W} (hd : decode cc pc = .ok (.invokevirtual idx, 3)) (hm : xMV own idx y bytes maxL1 ret1 n1) (hn : As.length = n1) (hst : st = As.reverse ++ .ref b :: rest) (hcat : (rest.map fun v => v.category).sum ≤ 8) (q : Nat) (hq : ws[q]? = some (b, .inr (ci, fs))) (hc : (vwCl[ci]?).map (fun q => q.1) = some y.cls) (hroom : fr + 1 ≤ R.frames ∧ 8 + (maxL1 + 11) + lo ≤ R.locals) (hcs : k ≤ R.cells ∧ n ≤ R.slots) (hM : ∀ x, o = some x → CI l D K y bytes maxL1 ret1 fr lo (.ref b :: As) ws x.1 (wf x.2)) (hF : bd o kf = some z) (h : ∀ (r : Int32) (σ : xS), kf r σ = some z → X p l e R s m args below meth c D A nL Q k n (pc + 3) loc (.int r :: rest) (wf σ)) : X p l e R s m args below meth c D A nL Q k n pc loc st ws := by
  obtain ⟨x, ho, hk⟩ := bd_some hF
  subst hst
  intro H locs ls hP hD hS hl
  have hfree := va_A_sub hD hS C.2.2.2.2.2.2.2.2.1
  have hZ : zS (va_A ws H.size) s H := (C.2.2.2.2.2.2.2.2.2.kept hS.2.1).narrow hfree
  have hK := C.2.2.2.2.2.1
  have hts := C.2.2.2.2.1
  obtain ⟨⟨hlk, hin, hco, hne, hdesc⟩, hinst, hsel⟩ := hm
  have hpar : ∀ sig, parseMethodDescriptor y.desc = some sig → n1 = sig.parameters.length := fun sig hs => by
    rw [hs] at hdesc
    exact (Option.some.inj hdesc).symm
  have hrun : va_Run p l e R s m args below meth c H locs k n 0 0 (F0 m pc ls (As.reverse ++ .ref b :: rest)) rest ((va_Qi (fun (r : Int32) (_ : Unit) => r = x.1) (fun _ t => xB D K (wf x.2) (va_A ws H.size) t) (va_A ws H.size)) ((.ref b :: As)).toArray) (va_A ws H.size) := by
    rcases hlk with hlk | ⟨host, hlk⟩
    · have hrec : ∃ cell : Cell, H[b]? = some cell ∧ cell.vm.isStatics = false ∧ s.vm.findClass y.cls = some cell.cls := by
        cases hci : vwCl[ci]? with
        | none => rw [hci] at hc; cases hc
        | some qq =>
          rw [hci] at hc
          rw [← Option.some.inj hc]
          exact va_recv hK hP hci hq
      exact va_runV (C := y.cls) (Ts := xT) ⟨C.1, C.2.1, C.2.2.1, C.2.2.2.1, hts⟩ (hM x ho H.size) ⟨⟨rfl, rfl, hroom.1, hroom.2, pay_in hts (xW_good hco), List.mem_cons_self, hts _ hco, hts _ hin, hne, hpar, hts _ hlk⟩, hts _ hinst, hts _ hsel⟩ ⟨xA_blind, hrec, fun U hU hW => ⟨rfl, by rw [hU], by rw [hU]; exact hP, va_K.moved hW.alike hK, hD.weaken (fun _ _ _ _ => trivial), by rw [hU]; exact hZ.warm hW⟩⟩ rfl hn hl.1 rfl (lv_room hcat) hd hcs
    · have hrec : ∃ cell : Cell, H[b]? = some cell ∧ cell.vm.isStatics = false ∧ s.vm.findClass y.cls = some cell.cls := by
        cases hci : vwCl[ci]? with
        | none => rw [hci] at hc; cases hc
        | some qq =>
          rw [hci] at hc
          rw [← Option.some.inj hc]
          exact va_recv hK hP hci hq
      exact va_runVN (C := y.cls) (Ts := xT) ⟨C.1, C.2.1, C.2.2.1, C.2.2.2.1, hts⟩ (hM x ho H.size) ⟨⟨⟨rfl, rfl, hroom.1, hroom.2, pay_in hts (xW_good hco), List.mem_cons_self⟩, hts _ hco, hts _ hin, hne, hpar, va_Nw.use rfl (C.2.2.2.2.2.2.2.2.2.2.2.2.1 _ hlk)⟩, hts _ hinst, hts _ hsel⟩ ⟨xA_blind, hrec, fun U hU hW => ⟨rfl, by rw [hU], by rw [hU]; exact hP, va_K.moved hW.alike hK, hD.weaken (fun _ _ _ _ => trivial), by rw [hU]; exact hZ.warm hW⟩⟩ rfl hn hl.1 rfl (lv_room hcat) hd hcs
  refine va_calli hrun hS (fun q _ h => hfree q h) hfree (fun r u t H1 locs1 ht hvm hw hB hz1 hk1 hS1 => ?_)
  obtain ⟨hP1, hK1, hD1⟩ := hB
  rw [ht] at hP1
  subst hw
  exact h _ x.2 hk H1 locs1 ls hP1 (hD1.weaken (fun _ q _ hq9 => hfree q.1 hq9)) hS1 hl
theorem x_callSI {α : Type} (C : xC p s m args meth c D K A own cc nL ret) {idx maxL1 n1 fr lo : Nat} {y : MethodName} {bytes : ByteArray} {ret1 : Option FieldType} {As rest : List Value} {o : Option (Int32 × xS)} {kf : Int32 → xS → Option α} {z : α} {wf : xS → va_W} (hd : decode cc pc = .ok (.invokestatic idx, 3)) (hm : xMS own idx y bytes maxL1 ret1 n1) (hn : As.length = n1) (hst : st = As.reverse ++ rest) (hcat : (rest.map fun v => v.category).sum ≤ 8) (hroom : fr + 1 ≤ R.frames ∧ 8 + (maxL1 + 11) + lo ≤ R.locals) (hcs : k ≤ R.cells ∧ n ≤ R.slots) (hM : ∀ x, o = some x → CI l D K y bytes maxL1 ret1 fr lo As ws x.1 (wf x.2)) (hF : bd o kf = some z) (h : ∀ (r : Int32) (σ : xS), kf r σ = some z → X p l e R s m args below meth c D A nL Q k n (pc + 3) loc (.int r :: rest) (wf σ)) : X p l e R s m args below meth c D A nL Q k n pc loc st ws := by
  obtain ⟨x, ho, hk⟩ := bd_some hF
  subst hst
  intro H locs ls hP hD hS hl
  have hfree := va_A_sub hD hS C.2.2.2.2.2.2.2.2.1
  have hZ : zS (va_A ws H.size) s H := (C.2.2.2.2.2.2.2.2.2.kept hS.2.1).narrow hfree
  have hK := C.2.2.2.2.2.1
  have hts := C.2.2.2.2.1
  obtain ⟨⟨hlk, hin, hco, hne, hdesc⟩, hstat⟩ := hm
  have hpar : ∀ sig, parseMethodDescriptor y.desc = some sig → n1 = sig.parameters.length := fun sig hs => by
    rw [hs] at hdesc
    exact (Option.some.inj hdesc).symm
  have hrun : va_Run p l e R s m args below meth c H locs k n 0 0 (F0 m pc ls (As.reverse ++ rest)) rest ((va_Qi (fun (r : Int32) (_ : Unit) => r = x.1) (fun _ t => xB D K (wf x.2) (va_A ws H.size) t) (va_A ws H.size)) (As).toArray) (va_A ws H.size) := by
    rcases hlk with hlk | ⟨host, hlk⟩
    · exact va_runS (Ts := xT) ⟨C.1, C.2.1, C.2.2.1, C.2.2.2.1, hts⟩ (hM x ho H.size) ⟨⟨rfl, rfl, hroom.1, hroom.2, pay_in hts (xW_good hco), List.mem_cons_self, hts _ hco, hts _ hin, hne, hpar, hts _ hlk⟩, hts _ hstat⟩ ⟨xA_blind, fun U hU hW => ⟨rfl, by rw [hU], by rw [hU]; exact hP, va_K.moved hW.alike hK, hD.weaken (fun _ _ _ _ => trivial), by rw [hU]; exact hZ.warm hW⟩⟩ rfl hn hl.1 rfl (lv_room hcat) hd hcs
    · exact va_runSN (Ts := xT) ⟨C.1, C.2.1, C.2.2.1, C.2.2.2.1, hts⟩ (hM x ho H.size) ⟨⟨⟨rfl, rfl, hroom.1, hroom.2, pay_in hts (xW_good hco), List.mem_cons_self⟩, hts _ hco, hts _ hin, hne, hpar, va_Nw.use rfl (C.2.2.2.2.2.2.2.2.2.2.2.2.1 _ hlk)⟩, hts _ hstat, trivial⟩ ⟨xA_blind, fun U hU hW => ⟨rfl, by rw [hU], by rw [hU]; exact hP, va_K.moved hW.alike hK, hD.weaken (fun _ _ _ _ => trivial), by rw [hU]; exact hZ.warm hW⟩⟩ rfl hn hl.1 rfl (lv_room hcat) hd hcs
  refine va_calli hrun hS (fun q _ h => hfree q h) hfree (fun r u t H1 locs1 ht hvm hw hB hz1 hk1 hS1 => ?_)
  obtain ⟨hP1, hK1, hD1⟩ := hB
  rw [ht] at hP1
  subst hw
  exact h _ x.2 hk H1 locs1 ls hP1 (hD1.weaken (fun _ q _ hq9 => hfree q.1 hq9)) hS1 hl
theorem x_callVL {α : Type} (C : xC p s m args meth c D K A own cc nL ret) {idx maxL1 n1 fr lo : Nat} {b ci : Nat} {fs : List Value} {y : MethodName} {bytes : ByteArray} {ret1 : Option FieldType} {As rest : List Value} {o : Option (Int64 × xS)} {kf : Int64 → xS → Option α} {z : α} {wf : xS → va_W} (hd : decode cc pc = .ok (.invokevirtual idx, 3)) (hm : xMV own idx y bytes maxL1 ret1 n1) (hn : As.length = n1) (hst : st = As.reverse ++ .ref b :: rest) (hcat : (rest.map fun v => v.category).sum ≤ 8) (q : Nat) (hq : ws[q]? = some (b, .inr (ci, fs))) (hc : (vwCl[ci]?).map (fun q => q.1) = some y.cls) (hroom : fr + 1 ≤ R.frames ∧ 8 + (maxL1 + 11) + lo ≤ R.locals) (hcs : k ≤ R.cells ∧ n ≤ R.slots) (hM : ∀ x, o = some x → CL l D K y bytes maxL1 ret1 fr lo (.ref b :: As) ws x.1 (wf x.2)) (hF : bd o kf = some z) (h : ∀ (r : Int64) (σ : xS), kf r σ = some z → X p l e R s m args below meth c D A nL Q k n (pc + 3) loc (.long r :: rest) (wf σ)) : X p l e R s m args below meth c D A nL Q k n pc loc st ws := by
  obtain ⟨x, ho, hk⟩ := bd_some hF
  subst hst
  intro H locs ls hP hD hS hl
  have hfree := va_A_sub hD hS C.2.2.2.2.2.2.2.2.1
  have hZ : zS (va_A ws H.size) s H := (C.2.2.2.2.2.2.2.2.2.kept hS.2.1).narrow hfree
  have hK := C.2.2.2.2.2.1
  have hts := C.2.2.2.2.1
  obtain ⟨⟨hlk, hin, hco, hne, hdesc⟩, hinst, hsel⟩ := hm
  have hpar : ∀ sig, parseMethodDescriptor y.desc = some sig → n1 = sig.parameters.length := fun sig hs => by
    rw [hs] at hdesc
    exact (Option.some.inj hdesc).symm
  have hrun : va_Run p l e R s m args below meth c H locs k n 0 0 (F0 m pc ls (As.reverse ++ .ref b :: rest)) rest ((va_Ql (fun (r : Int64) (_ : Unit) => r = x.1) (fun _ t => xB D K (wf x.2) (va_A ws H.size) t) (va_A ws H.size)) ((.ref b :: As)).toArray) (va_A ws H.size) := by
    rcases hlk with hlk | ⟨host, hlk⟩
    · have hrec : ∃ cell : Cell, H[b]? = some cell ∧ cell.vm.isStatics = false ∧ s.vm.findClass y.cls = some cell.cls := by
        cases hci : vwCl[ci]? with
        | none => rw [hci] at hc; cases hc
        | some qq =>
          rw [hci] at hc
          rw [← Option.some.inj hc]
          exact va_recv hK hP hci hq
      exact va_runV (C := y.cls) (Ts := xT) ⟨C.1, C.2.1, C.2.2.1, C.2.2.2.1, hts⟩ (hM x ho H.size) ⟨⟨rfl, rfl, hroom.1, hroom.2, pay_in hts (xW_good hco), List.mem_cons_self, hts _ hco, hts _ hin, hne, hpar, hts _ hlk⟩, hts _ hinst, hts _ hsel⟩ ⟨xA_blind, hrec, fun U hU hW => ⟨rfl, by rw [hU], by rw [hU]; exact hP, va_K.moved hW.alike hK, hD.weaken (fun _ _ _ _ => trivial), by rw [hU]; exact hZ.warm hW⟩⟩ rfl hn hl.1 rfl (lv_room hcat) hd hcs
    · have hrec : ∃ cell : Cell, H[b]? = some cell ∧ cell.vm.isStatics = false ∧ s.vm.findClass y.cls = some cell.cls := by
        cases hci : vwCl[ci]? with
        | none => rw [hci] at hc; cases hc
        | some qq =>
          rw [hci] at hc
          rw [← Option.some.inj hc]
          exact va_recv hK hP hci hq
      exact va_runVN (C := y.cls) (Ts := xT) ⟨C.1, C.2.1, C.2.2.1, C.2.2.2.1, hts⟩ (hM x ho H.size) ⟨⟨⟨rfl, rfl, hroom.1, hroom.2, pay_in hts (xW_good hco), List.mem_cons_self⟩, hts _ hco, hts _ hin, hne, hpar, va_Nw.use rfl (C.2.2.2.2.2.2.2.2.2.2.2.2.1 _ hlk)⟩, hts _ hinst, hts _ hsel⟩ ⟨xA_blind, hrec, fun U hU hW => ⟨rfl, by rw [hU], by rw [hU]; exact hP, va_K.moved hW.alike hK, hD.weaken (fun _ _ _ _ => trivial), by rw [hU]; exact hZ.warm hW⟩⟩ rfl hn hl.1 rfl (lv_room hcat) hd hcs
  refine va_calll hrun hS (fun q _ h => hfree q h) hfree (fun r u t H1 locs1 ht hvm hw hB hz1 hk1 hS1 => ?_)
  obtain ⟨hP1, hK1, hD1⟩ := hB
  rw [ht] at hP1
  subst hw
  exact h _ x.2 hk H1 locs1 ls hP1 (hD1.weaken (fun _ q _ hq9 => hfree q.1 hq9)) hS1 hl
theorem x_callSL {α : Type} (C : xC p s m args meth c D K A own cc nL ret) {idx maxL1 n1 fr lo : Nat} {y : MethodName} {bytes : ByteArray} {ret1 : Option FieldType} {As rest : List Value} {o : Option (Int64 × xS)} {kf : Int64 → xS → Option α} {z : α} {wf : xS → va_W} (hd : decode cc pc = .ok (.invokestatic idx, 3)) (hm : xMS own idx y bytes maxL1 ret1 n1) (hn : As.length = n1) (hst : st = As.reverse ++ rest) (hcat : (rest.map fun v => v.category).sum ≤ 8) (hroom : fr + 1 ≤ R.frames ∧ 8 + (maxL1 + 11) + lo ≤ R.locals) (hcs : k ≤ R.cells ∧ n ≤ R.slots) (hM : ∀ x, o = some x → CL l D K y bytes maxL1 ret1 fr lo As ws x.1 (wf x.2)) (hF : bd o kf = some z) (h : ∀ (r : Int64) (σ : xS), kf r σ = some z → X p l e R s m args below meth c D A nL Q k n (pc + 3) loc (.long r :: rest) (wf σ)) : X p l e R s m args below meth c D A nL Q k n pc loc st ws := by
  obtain ⟨x, ho, hk⟩ := bd_some hF
  subst hst
  intro H locs ls hP hD hS hl
  have hfree := va_A_sub hD hS C.2.2.2.2.2.2.2.2.1
  have hZ : zS (va_A ws H.size) s H := (C.2.2.2.2.2.2.2.2.2.kept hS.2.1).narrow hfree
  have hK := C.2.2.2.2.2.1
  have hts := C.2.2.2.2.1
  obtain ⟨⟨hlk, hin, hco, hne, hdesc⟩, hstat⟩ := hm
  have hpar : ∀ sig, parseMethodDescriptor y.desc = some sig → n1 = sig.parameters.length := fun sig hs => by
    rw [hs] at hdesc
    exact (Option.some.inj hdesc).symm
  have hrun : va_Run p l e R s m args below meth c H locs k n 0 0 (F0 m pc ls (As.reverse ++ rest)) rest ((va_Ql (fun (r : Int64) (_ : Unit) => r = x.1) (fun _ t => xB D K (wf x.2) (va_A ws H.size) t) (va_A ws H.size)) (As).toArray) (va_A ws H.size) := by
    rcases hlk with hlk | ⟨host, hlk⟩
    · exact va_runS (Ts := xT) ⟨C.1, C.2.1, C.2.2.1, C.2.2.2.1, hts⟩ (hM x ho H.size) ⟨⟨rfl, rfl, hroom.1, hroom.2, pay_in hts (xW_good hco), List.mem_cons_self, hts _ hco, hts _ hin, hne, hpar, hts _ hlk⟩, hts _ hstat⟩ ⟨xA_blind, fun U hU hW => ⟨rfl, by rw [hU], by rw [hU]; exact hP, va_K.moved hW.alike hK, hD.weaken (fun _ _ _ _ => trivial), by rw [hU]; exact hZ.warm hW⟩⟩ rfl hn hl.1 rfl (lv_room hcat) hd hcs
    · exact va_runSN (Ts := xT) ⟨C.1, C.2.1, C.2.2.1, C.2.2.2.1, hts⟩ (hM x ho H.size) ⟨⟨⟨rfl, rfl, hroom.1, hroom.2, pay_in hts (xW_good hco), List.mem_cons_self⟩, hts _ hco, hts _ hin, hne, hpar, va_Nw.use rfl (C.2.2.2.2.2.2.2.2.2.2.2.2.1 _ hlk)⟩, hts _ hstat, trivial⟩ ⟨xA_blind, fun U hU hW => ⟨rfl, by rw [hU], by rw [hU]; exact hP, va_K.moved hW.alike hK, hD.weaken (fun _ _ _ _ => trivial), by rw [hU]; exact hZ.warm hW⟩⟩ rfl hn hl.1 rfl (lv_room hcat) hd hcs
  refine va_calll hrun hS (fun q _ h => hfree q h) hfree (fun r u t H1 locs1 ht hvm hw hB hz1 hk1 hS1 => ?_)
  obtain ⟨hP1, hK1, hD1⟩ := hB
  rw [ht] at hP1
  subst hw
  exact h _ x.2 hk H1 locs1 ls hP1 (hD1.weaken (fun _ q _ hq9 => hfree q.1 hq9)) hS1 hl
theorem x_callVV {α : Type} (C : xC p s m args meth c D K A own cc nL ret) {idx maxL1 n1 fr lo : Nat} {b ci : Nat} {fs : List Value} {y : MethodName} {bytes : ByteArray} {ret1 : Option FieldType} {As rest : List Value} {o : Option (Unit × xS)} {kf : Unit → xS → Option α} {z : α} {wf : xS → va_W} (hd : decode cc pc = .ok (.invokevirtual idx, 3)) (hm : xMV own idx y bytes maxL1 ret1 n1) (hn : As.length = n1) (hst : st = As.reverse ++ .ref b :: rest) (hcat : (rest.map fun v => v.category).sum ≤ 8) (q : Nat) (hq : ws[q]? = some (b, .inr (ci, fs))) (hc : (vwCl[ci]?).map (fun q => q.1) = some y.cls) (hroom : fr + 1 ≤ R.frames ∧ 8 + (maxL1 + 11) + lo ≤ R.locals) (hcs : k ≤ R.cells ∧ n ≤ R.slots) (hM : ∀ x, o = some x → CV l D K y bytes maxL1 ret1 fr lo (.ref b :: As) ws (wf x.2)) (hF : bd o kf = some z) (h : ∀ (r : Unit) (σ : xS), kf r σ = some z → X p l e R s m args below meth c D A nL Q k n (pc + 3) loc (rest) (wf σ)) : X p l e R s m args below meth c D A nL Q k n pc loc st ws := by
  obtain ⟨x, ho, hk⟩ := bd_some hF
  subst hst
  intro H locs ls hP hD hS hl
  have hfree := va_A_sub hD hS C.2.2.2.2.2.2.2.2.1
  have hZ : zS (va_A ws H.size) s H := (C.2.2.2.2.2.2.2.2.2.kept hS.2.1).narrow hfree
  have hK := C.2.2.2.2.2.1
  have hts := C.2.2.2.2.1
  obtain ⟨⟨hlk, hin, hco, hne, hdesc⟩, hinst, hsel⟩ := hm
  have hpar : ∀ sig, parseMethodDescriptor y.desc = some sig → n1 = sig.parameters.length := fun sig hs => by
    rw [hs] at hdesc
    exact (Option.some.inj hdesc).symm
  have hrun : va_Run p l e R s m args below meth c H locs k n 0 0 (F0 m pc ls (As.reverse ++ .ref b :: rest)) rest ((va_Qv (fun (_ : Unit) => True) (fun _ t => xB D K (wf x.2) (va_A ws H.size) t) (va_A ws H.size)) ((.ref b :: As)).toArray) (va_A ws H.size) := by
    rcases hlk with hlk | ⟨host, hlk⟩
    · have hrec : ∃ cell : Cell, H[b]? = some cell ∧ cell.vm.isStatics = false ∧ s.vm.findClass y.cls = some cell.cls := by
        cases hci : vwCl[ci]? with
        | none => rw [hci] at hc; cases hc
        | some qq =>
          rw [hci] at hc
          rw [← Option.some.inj hc]
          exact va_recv hK hP hci hq
      exact va_runV (C := y.cls) (Ts := xT) ⟨C.1, C.2.1, C.2.2.1, C.2.2.2.1, hts⟩ (hM x ho H.size) ⟨⟨rfl, rfl, hroom.1, hroom.2, pay_in hts (xW_good hco), List.mem_cons_self, hts _ hco, hts _ hin, hne, hpar, hts _ hlk⟩, hts _ hinst, hts _ hsel⟩ ⟨xA_blind, hrec, fun U hU hW => ⟨rfl, by rw [hU], by rw [hU]; exact hP, va_K.moved hW.alike hK, hD.weaken (fun _ _ _ _ => trivial), by rw [hU]; exact hZ.warm hW⟩⟩ rfl hn hl.1 rfl (lv_room hcat) hd hcs
    · have hrec : ∃ cell : Cell, H[b]? = some cell ∧ cell.vm.isStatics = false ∧ s.vm.findClass y.cls = some cell.cls := by
        cases hci : vwCl[ci]? with
        | none => rw [hci] at hc; cases hc
        | some qq =>
          rw [hci] at hc
          rw [← Option.some.inj hc]
          exact va_recv hK hP hci hq
      exact va_runVN (C := y.cls) (Ts := xT) ⟨C.1, C.2.1, C.2.2.1, C.2.2.2.1, hts⟩ (hM x ho H.size) ⟨⟨⟨rfl, rfl, hroom.1, hroom.2, pay_in hts (xW_good hco), List.mem_cons_self⟩, hts _ hco, hts _ hin, hne, hpar, va_Nw.use rfl (C.2.2.2.2.2.2.2.2.2.2.2.2.1 _ hlk)⟩, hts _ hinst, hts _ hsel⟩ ⟨xA_blind, hrec, fun U hU hW => ⟨rfl, by rw [hU], by rw [hU]; exact hP, va_K.moved hW.alike hK, hD.weaken (fun _ _ _ _ => trivial), by rw [hU]; exact hZ.warm hW⟩⟩ rfl hn hl.1 rfl (lv_room hcat) hd hcs
  refine va_callv hrun hS (fun q _ h => hfree q h) hfree (fun u t H1 locs1 ht hvm hw hB hz1 hk1 hS1 => ?_)
  obtain ⟨hP1, hK1, hD1⟩ := hB
  rw [ht] at hP1
  exact h x.1 x.2 hk H1 locs1 ls hP1 (hD1.weaken (fun _ q _ hq9 => hfree q.1 hq9)) hS1 hl
theorem x_callSV {α : Type} (C : xC p s m args meth c D K A own cc nL ret) {idx maxL1 n1 fr lo : Nat} {y : MethodName} {bytes : ByteArray} {ret1 : Option FieldType} {As rest : List Value} {o : Option (Unit × xS)} {kf : Unit → xS → Option α} {z : α} {wf : xS → va_W} (hd : decode cc pc = .ok (.invokestatic idx, 3)) (hm : xMS own idx y bytes maxL1 ret1 n1) (hn : As.length = n1) (hst : st = As.reverse ++ rest) (hcat : (rest.map fun v => v.category).sum ≤ 8) (hroom : fr + 1 ≤ R.frames ∧ 8 + (maxL1 + 11) + lo ≤ R.locals) (hcs : k ≤ R.cells ∧ n ≤ R.slots) (hM : ∀ x, o = some x → CV l D K y bytes maxL1 ret1 fr lo As ws (wf x.2)) (hF : bd o kf = some z) (h : ∀ (r : Unit) (σ : xS), kf r σ = some z → X p l e R s m args below meth c D A nL Q k n (pc + 3) loc (rest) (wf σ)) : X p l e R s m args below meth c D A nL Q k n pc loc st ws := by
  obtain ⟨x, ho, hk⟩ := bd_some hF
  subst hst
  intro H locs ls hP hD hS hl
  have hfree := va_A_sub hD hS C.2.2.2.2.2.2.2.2.1
  have hZ : zS (va_A ws H.size) s H := (C.2.2.2.2.2.2.2.2.2.kept hS.2.1).narrow hfree
  have hK := C.2.2.2.2.2.1
  have hts := C.2.2.2.2.1
  obtain ⟨⟨hlk, hin, hco, hne, hdesc⟩, hstat⟩ := hm
  have hpar : ∀ sig, parseMethodDescriptor y.desc = some sig → n1 = sig.parameters.length := fun sig hs => by
    rw [hs] at hdesc
    exact (Option.some.inj hdesc).symm
  have hrun : va_Run p l e R s m args below meth c H locs k n 0 0 (F0 m pc ls (As.reverse ++ rest)) rest ((va_Qv (fun (_ : Unit) => True) (fun _ t => xB D K (wf x.2) (va_A ws H.size) t) (va_A ws H.size)) (As).toArray) (va_A ws H.size) := by
    rcases hlk with hlk | ⟨host, hlk⟩
    · exact va_runS (Ts := xT) ⟨C.1, C.2.1, C.2.2.1, C.2.2.2.1, hts⟩ (hM x ho H.size) ⟨⟨rfl, rfl, hroom.1, hroom.2, pay_in hts (xW_good hco), List.mem_cons_self, hts _ hco, hts _ hin, hne, hpar, hts _ hlk⟩, hts _ hstat⟩ ⟨xA_blind, fun U hU hW => ⟨rfl, by rw [hU], by rw [hU]; exact hP, va_K.moved hW.alike hK, hD.weaken (fun _ _ _ _ => trivial), by rw [hU]; exact hZ.warm hW⟩⟩ rfl hn hl.1 rfl (lv_room hcat) hd hcs
    · exact va_runSN (Ts := xT) ⟨C.1, C.2.1, C.2.2.1, C.2.2.2.1, hts⟩ (hM x ho H.size) ⟨⟨⟨rfl, rfl, hroom.1, hroom.2, pay_in hts (xW_good hco), List.mem_cons_self⟩, hts _ hco, hts _ hin, hne, hpar, va_Nw.use rfl (C.2.2.2.2.2.2.2.2.2.2.2.2.1 _ hlk)⟩, hts _ hstat, trivial⟩ ⟨xA_blind, fun U hU hW => ⟨rfl, by rw [hU], by rw [hU]; exact hP, va_K.moved hW.alike hK, hD.weaken (fun _ _ _ _ => trivial), by rw [hU]; exact hZ.warm hW⟩⟩ rfl hn hl.1 rfl (lv_room hcat) hd hcs
  refine va_callv hrun hS (fun q _ h => hfree q h) hfree (fun u t H1 locs1 ht hvm hw hB hz1 hk1 hS1 => ?_)
  obtain ⟨hP1, hK1, hD1⟩ := hB
  rw [ht] at hP1
  exact h x.1 x.2 hk H1 locs1 ls hP1 (hD1.weaken (fun _ q _ hq9 => hfree q.1 hq9)) hS1 hl
end XCalls
theorem x_enterI {l : Launch} {D : va_G} {K : Nat → ClassId} {y : MethodName} {cc : ByteArray} {maxL : Nat} {ret : Option FieldType} {fr lo : Nat} {av : List Value} {w0 w1 : va_W} {r0 : Int32} (loc : List (Nat × Value)) (hy : plainName y.cls = true) (hav : (lg_sl av).length ≤ maxL) (hloc : lv_args 0 av = loc)
    (body : ∀ (p : Program) (e : Env) (s : State) (m : MethodId) (args : Array Value) (below : List Frame) (meth : Method) (c : Code) (A : Nat → Prop), xC p s m args meth c D K A y.cls cc maxL ret → X p l e (xR fr lo) s m args below meth c D A maxL (xQi below D K A args s r0 w1) 0 0 0 loc [] w0) : CI l D K y cc maxL ret fr lo av w0 r0 w1 := by
  intro sz
  refine Met.ofW (cc := cc) (maxL := maxL) (ret := ret) hy rfl ?_
  intro p e s m args below meth c s₁ B hml hv
  obtain ⟨rfl, hsz, hP, hK, hD0, hZ0⟩ := hv
  have hts := atoms_spec (ws := xW y cc maxL ret) B.pre
  subst hsz
  subst hloc
  have hD := hD0.self (sz := s.heap.size)
  have hl := lv_entry av (n := maxL) hav
  rw [lg_entry_eq]
  exact body p e s m _ below meth c (va_A w0 s.heap.size) ⟨B.exec, B.bytes, hml, findClass_of_methodNamed B.named, fun w hw => hts w (List.mem_cons_of_mem _ hw), hK, B.returns, B.notSynchronized, fun q h => Or.inr h, hZ0⟩ s.heap [] _ hP hD va_S.rf hl
theorem x_enterL {l : Launch} {D : va_G} {K : Nat → ClassId} {y : MethodName} {cc : ByteArray} {maxL : Nat} {ret : Option FieldType} {fr lo : Nat} {av : List Value} {w0 w1 : va_W} {r0 : Int64} (loc : List (Nat × Value)) (hy : plainName y.cls = true) (hav : (lg_sl av).length ≤ maxL) (hloc : lv_args 0 av = loc)
    (body : ∀ (p : Program) (e : Env) (s : State) (m : MethodId) (args : Array Value) (below : List Frame) (meth : Method) (c : Code) (A : Nat → Prop), xC p s m args meth c D K A y.cls cc maxL ret → X p l e (xR fr lo) s m args below meth c D A maxL (xQl below D K A args s r0 w1) 0 0 0 loc [] w0) : CL l D K y cc maxL ret fr lo av w0 r0 w1 := by
  intro sz
  refine Met.ofW (cc := cc) (maxL := maxL) (ret := ret) hy rfl ?_
  intro p e s m args below meth c s₁ B hml hv
  obtain ⟨rfl, hsz, hP, hK, hD0, hZ0⟩ := hv
  have hts := atoms_spec (ws := xW y cc maxL ret) B.pre
  subst hsz
  subst hloc
  have hD := hD0.self (sz := s.heap.size)
  have hl := lv_entry av (n := maxL) hav
  rw [lg_entry_eq]
  exact body p e s m _ below meth c (va_A w0 s.heap.size) ⟨B.exec, B.bytes, hml, findClass_of_methodNamed B.named, fun w hw => hts w (List.mem_cons_of_mem _ hw), hK, B.returns, B.notSynchronized, fun q h => Or.inr h, hZ0⟩ s.heap [] _ hP hD va_S.rf hl
theorem x_enterV {l : Launch} {D : va_G} {K : Nat → ClassId} {y : MethodName} {cc : ByteArray} {maxL : Nat} {ret : Option FieldType} {fr lo : Nat} {av : List Value} {w0 w1 : va_W} (loc : List (Nat × Value)) (hy : plainName y.cls = true) (hav : (lg_sl av).length ≤ maxL) (hloc : lv_args 0 av = loc)
    (body : ∀ (p : Program) (e : Env) (s : State) (m : MethodId) (args : Array Value) (below : List Frame) (meth : Method) (c : Code) (A : Nat → Prop), xC p s m args meth c D K A y.cls cc maxL ret → X p l e (xR fr lo) s m args below meth c D A maxL (xQv below D K A args s w1) 0 0 0 loc [] w0) : CV l D K y cc maxL ret fr lo av w0 w1 := by
  intro sz
  refine Met.ofW (cc := cc) (maxL := maxL) (ret := ret) hy rfl ?_
  intro p e s m args below meth c s₁ B hml hv
  obtain ⟨rfl, hsz, hP, hK, hD0, hZ0⟩ := hv
  have hts := atoms_spec (ws := xW y cc maxL ret) B.pre
  subst hsz
  subst hloc
  have hD := hD0.self (sz := s.heap.size)
  have hl := lv_entry av (n := maxL) hav
  rw [lg_entry_eq]
  exact body p e s m _ below meth c (va_A w0 s.heap.size) ⟨B.exec, B.bytes, hml, findClass_of_methodNamed B.named, fun w hw => hts w (List.mem_cons_of_mem _ hw), hK, B.returns, B.notSynchronized, fun q h => Or.inr h, hZ0⟩ s.heap [] _ hP hD va_S.rf hl
