theorem jClone : Cond.sameMethod "[I" "java/lang/Object" "clone" "()Ljava/lang/Object;" ∈ xT ∧ Cond.native ⟨"java/lang/Object", "clone", "()Ljava/lang/Object;"⟩ ∈ xT ∧ Cond.instanceMethod ⟨"java/lang/Object", "clone", "()Ljava/lang/Object;"⟩ ∈ xT ∧ Cond.selects "[I" ⟨"[I", "clone", "()Ljava/lang/Object;"⟩ ⟨"java/lang/Object", "clone", "()Ljava/lang/Object;"⟩ ∈ xT ∧ Cond.castable "[I" "java/lang/Cloneable" ∈ xTN := ⟨xT_mem (List.mem_append_right _ (List.mem_of_getElem? (i := 653) (by decide +kernel))) (by decide +kernel), xT_mem (List.mem_append_right _ (List.mem_of_getElem? (i := 654) (by decide +kernel))) (by decide +kernel), xT_mem (List.mem_append_right _ (List.mem_of_getElem? (i := 655) (by decide +kernel))) (by decide +kernel), xT_mem (List.mem_append_right _ (List.mem_of_getElem? (i := 656) (by decide +kernel))) (by decide +kernel), xTN_mem (List.mem_append_right _ (List.mem_of_getElem? (i := 657) (by decide +kernel))) (by decide +kernel)⟩
section XMade
variable {p : Program} {l : Launch} {e : Env} {R : Room} {s : State} {m : MethodId} {args : Array Value} {below : List Frame} {meth : Method} {c : Code} {D : va_G} {K : Nat → ClassId} {A : Nat → Prop} {own : String} {cc : ByteArray} {nL : Nat} {ret : Option FieldType} {Q : State → Prop} {k n pc : Nat} {loc : List (Nat × Value)} {st : List Value} {ws : va_W}
theorem x_cell {a N q : Nat} {cA : ClassId} {f g : Nat → Int32} {ws' : va_W} (hq : ws[q]? = some (a, .inl (cA, (N, .inl f)))) (he : ∀ j, j < N → f j = g j) (hw : ws.set q (a, .inl (cA, (N, .inl g))) = ws') (h : X p l e R s m args below meth c D A nL Q k n pc loc st ws') : X p l e R s m args below meth c D A nL Q k n pc loc st ws := by
  subst hw
  intro H locs ls hP hD hS hl
  refine h H locs ls (va_P.set hP hD hq ?_ (fun _ _ => rfl)) (hD.set hq) hS hl
  have h1 : va_at D vwCl (a, .inl (cA, (N, .inl f))) H := hP q _ hq
  have h2 : vp_cell cA (N, .inl f) = vp_cell cA (N, .inl g) := by
    rw [vp_cell_i, vp_cell_i]
    unfold arrV
    congr 1
    congr 1
    funext j
    exact congrArg Value.int (he j.1 j.2)
  show H[a]? = some (vp_cell cA (N, .inl g))
  rw [← h2]
  exact h1
theorem x_cloneI (C : xC p s m args meth c D K A own cc nL ret) {idx a N q : Nat} {f : Nat → Int32} (hd : decode cc pc = .ok (.invokevirtual idx, 3)) (hlk : Cond.methodLink own idx ⟨"[I", "clone", "()Ljava/lang/Object;"⟩ ∈ xT) (hq : ws[q]? = some (a, .inl (K 0, (N, .inl f)))) (hroom : 1 ≤ R.frames ∧ (st.map fun v => v.category).sum + 14 ≤ R.locals) (hcs : k + 1 ≤ R.cells ∧ n + N ≤ R.slots) (h : ∀ b : Nat, X p l e R s m args below meth c D A nL Q (k + 1) (n + N) (pc + 3) loc (.ref b :: st) (ws ++ [(b, .inl (K 0, (N, .inl f)))])) : X p l e R s m args below meth c D A nL Q k n pc loc (.ref a :: st) ws := by
  intro H locs ls hP hD hS hl
  have hra : va_RA s (K 0) .int := (C.2.2.2.2.2.1.2 0 (K 0, .int) rfl).2
  exact va_clone C.1 C.2.1 (C.2.2.1.trans hl.1.symm) C.2.2.2.1 (C.2.2.2.2.1 _ hlk) (C.2.2.2.2.1 _ jClone.1) (C.2.2.2.2.1 _ jClone.2.1) (C.2.2.2.2.1 _ jClone.2.2.1) (C.2.2.2.2.1 _ jClone.2.2.2.1) (C.2.2.2.2.2.2.2.2.2.2.2.2.1 _ jClone.2.2.2.2) C.2.2.2.2.2.1 hP hD hS C.2.2.2.2.2.2.2.2.1 q 0 hq rfl hra (fun i w hw => by
    have hw2 : (arrV (K 0) N (fun j => .int (f j))).slots[i]? = some w := hw
    have hlt : i < N := by
      have := (Array.getElem?_eq_some_iff.mp hw2).1
      rwa [arrV_size] at this
    rw [arrV_read _ _ hlt] at hw2
    cases hw2
    rfl) hroom.1 hroom.2 hcs.1 hcs.2 hd (fun b H1 _ hP1 hD1 hS1 => h b H1 locs ls hP1 hD1 hS1 hl)
theorem x_castI (C : xC p s m args meth c D K A own cc nL ret) {idx a N q : Nat} {f : Nat → Int32} (hd : decode cc pc = .ok (.checkcast idx, 3)) (hlk : Cond.classLink own idx "[I" ∈ xT) (hq : ws[q]? = some (a, .inl (K 0, (N, .inl f)))) (h : X p l e R s m args below meth c D A nL Q k n (pc + 3) loc (.ref a :: st) ws) : X p l e R s m args below meth c D A nL Q k n pc loc (.ref a :: st) ws := by
  intro H locs ls hP hD hS hl
  have hra : va_RA s (K 0) .int := (C.2.2.2.2.2.1.2 0 (K 0, .int) rfl).2
  exact va_castA C.1 C.2.1 C.2.2.2.1 (C.2.2.2.2.1 _ hlk) hP q hq hra hd (h H locs ls hP hD hS hl)
end XMade
theorem wl_JA_316 : Cond.methodLink RJA 316 ⟨"[I", "clone", "()Ljava/lang/Object;"⟩ ∈ xT := xT_mem (List.mem_append_right _ (List.mem_of_getElem? (i := 652) (by decide +kernel))) (by decide +kernel)
theorem wl_JA_317 : Cond.classLink RJA 317 "[I" ∈ xT := xT_mem (List.mem_append_right _ (List.mem_of_getElem? (i := 658) (by decide +kernel))) (by decide +kernel)
theorem wl_JA_304 : Cond.methodLink RJA 304 Lib.Math.min.name ∈ xT := xT_mem (List.mem_append_right _ (List.mem_of_getElem? (i := 659) (by decide +kernel))) (by decide +kernel)
theorem wl_JA_150 : Cond.methodLink RJA 150 arraycopyName ∈ xT := xT_mem (List.mem_append_right _ (List.mem_of_getElem? (i := 660) (by decide +kernel))) (by decide +kernel)
theorem jAI : Cond.arrayClass .int ∈ xT := xT_mem (List.mem_append_right _ (List.mem_of_getElem? (i := 60) (by decide +kernel))) (by decide +kernel)
theorem dJA_copyOf_0 : decode cJA_copyOf 0 = .ok (.iload_n 1, 1) := by decide +kernel
theorem dJA_copyOf_1 : decode cJA_copyOf 1 = .ok (.aload_n 0, 1) := by decide +kernel
theorem dJA_copyOf_2 : decode cJA_copyOf 2 = .ok (.arraylength, 1) := by decide +kernel
theorem dJA_copyOf_3 : decode cJA_copyOf 3 = .ok (.if_icmp .ne 11, 3) := by decide +kernel
theorem dJA_copyOf_6 : decode cJA_copyOf 6 = .ok (.aload_n 0, 1) := by decide +kernel
theorem dJA_copyOf_7 : decode cJA_copyOf 7 = .ok (.invokevirtual 316, 3) := by decide +kernel
theorem dJA_copyOf_10 : decode cJA_copyOf 10 = .ok (.checkcast 317, 3) := by decide +kernel
theorem dJA_copyOf_13 : decode cJA_copyOf 13 = .ok (.areturn, 1) := by decide +kernel
theorem dJA_copyOf_14 : decode cJA_copyOf 14 = .ok (.iload_n 1, 1) := by decide +kernel
theorem dJA_copyOf_15 : decode cJA_copyOf 15 = .ok (.newarray .int, 2) := by decide +kernel
theorem dJA_copyOf_17 : decode cJA_copyOf 17 = .ok (.astore_n 2, 1) := by decide +kernel
theorem dJA_copyOf_18 : decode cJA_copyOf 18 = .ok (.aload_n 0, 1) := by decide +kernel
theorem dJA_copyOf_19 : decode cJA_copyOf 19 = .ok (.iconst 0, 1) := by decide +kernel
theorem dJA_copyOf_20 : decode cJA_copyOf 20 = .ok (.aload_n 2, 1) := by decide +kernel
theorem dJA_copyOf_21 : decode cJA_copyOf 21 = .ok (.iconst 0, 1) := by decide +kernel
theorem dJA_copyOf_22 : decode cJA_copyOf 22 = .ok (.aload_n 0, 1) := by decide +kernel
theorem dJA_copyOf_23 : decode cJA_copyOf 23 = .ok (.arraylength, 1) := by decide +kernel
theorem dJA_copyOf_24 : decode cJA_copyOf 24 = .ok (.iload_n 1, 1) := by decide +kernel
theorem dJA_copyOf_25 : decode cJA_copyOf 25 = .ok (.invokestatic 304, 3) := by decide +kernel
theorem dJA_copyOf_28 : decode cJA_copyOf 28 = .ok (.invokestatic 150, 3) := by decide +kernel
theorem dJA_copyOf_31 : decode cJA_copyOf 31 = .ok (.aload_n 2, 1) := by decide +kernel
theorem dJA_copyOf_32 : decode cJA_copyOf 32 = .ok (.areturn, 1) := by decide +kernel
/-- a contract that makes cells and gives back a reference to a new one -/
def CRn (l : Launch) (D : va_G) (K : Nat → ClassId) (y : MethodName) (cc : ByteArray) (maxL : Nat) (ret : Option FieldType) (fr lo mc ms : Nat) (av : List Value) (w0 : va_W) (P : Nat → va_W → Prop) : Prop :=
  ∀ sz : Nat, Met l y (xW y cc maxL ret) ({ frames := fr, cells := mc, slots := ms, locals := lo }) (va_Pc av (xA D K w0 sz)) (va_Qr (S := va_W) (fun _ => True) (fun w1 b t => P b w1 ∧ xB D K w1 (va_A w0 sz) t) (va_A w0 sz)) mc ms (va_A w0 sz)
def xQr (below : List Frame) (D : va_G) (K : Nat → ClassId) (A : Nat → Prop) (args : Array Value) (s : State) (mc ms : Nat) (P : Nat → va_W → Prop) : State → Prop := MQ below (va_Qr (S := va_W) (fun _ => True) (fun w1 b t => P b w1 ∧ xB D K w1 A t) A) args s mc ms A
section XMade2
variable {p : Program} {l : Launch} {e : Env} {R : Room} {s : State} {m : MethodId} {args : Array Value} {below : List Frame} {meth : Method} {c : Code} {D : va_G} {K : Nat → ClassId} {A : Nat → Prop} {own : String} {cc : ByteArray} {nL : Nat} {ret : Option FieldType} {Q : State → Prop} {k n pc : Nat} {loc : List (Nat × Value)} {st : List Value} {ws : va_W}
theorem x_aretr (C : xC p s m args meth c D K A own cc nL ret) {b : Nat} {P : Nat → va_W → Prop} (hd : decode cc pc = .ok (.areturn, 1)) {rt : FieldType} (hr : ret = some rt) (hrt : (∃ n, rt = .object n) ∨ ∃ t, rt = .array t) (hw : P b ws) : X p l e R s m args below meth c D A nL (xQr below D K A args s k n P) k n pc loc (.ref b :: []) ws := by
  have hlocks : meth.locks = false := C.2.2.2.2.2.2.2.1
  exact fun H locs ls hP hD hS hl => W.aret C.1 C.2.1 (C.2.2.2.2.2.2.1.trans hr) hrt (Or.inr ⟨b, rfl⟩) (fun t ht hW => ⟨⟨ws, b, rfl, trivial, ⟨hw, by rw [ht]; exact hP, va_K.moved hW.alike C.2.2.2.2.2.1, hD⟩⟩, hS.F ht⟩) hS.2.2 hd hlocks
end XMade2
/-- contracts that make laws: the pool's addresses behind it are new ones -/
def CQn (l : Launch) (D : va_G) (K : Nat → ClassId) (y : MethodName) (cc : ByteArray) (maxL : Nat) (ret : Option FieldType) (fr lo mc ms : Nat) (av : List Value) (w0 : va_W) (gh : (Nat → Nat) → Option Nat) (P : (Nat → Nat) → va_W) : Prop :=
  ∀ sz : Nat, Met l y (xW y cc maxL ret) ({ frames := fr, cells := mc, slots := ms, locals := lo }) (va_Pc av (xA D K w0 sz)) (va_Qq (S := Nat → Nat) (fun r la2 => r = gh la2) (fun la2 t => xB D K (P la2) (va_A w0 sz) t) (va_A w0 sz)) mc ms (va_A w0 sz)
def xQqn (below : List Frame) (D : va_G) (K : Nat → ClassId) (A : Nat → Prop) (args : Array Value) (s : State) (mc ms : Nat) (gh : (Nat → Nat) → Option Nat) (P : (Nat → Nat) → va_W) : State → Prop := MQ below (va_Qq (S := Nat → Nat) (fun r la2 => r = gh la2) (fun la2 t => xB D K (P la2) A t) A) args s mc ms A
def CIn (l : Launch) (D : va_G) (K : Nat → ClassId) (y : MethodName) (cc : ByteArray) (maxL : Nat) (ret : Option FieldType) (fr lo mc ms : Nat) (av : List Value) (w0 : va_W) (r0 : Int32) (P : (Nat → Nat) → va_W) : Prop :=
  ∀ sz : Nat, Met l y (xW y cc maxL ret) ({ frames := fr, cells := mc, slots := ms, locals := lo }) (va_Pc av (xA D K w0 sz)) (va_Qi (S := Nat → Nat) (fun r _ => r = r0) (fun la2 t => xB D K (P la2) (va_A w0 sz) t) (va_A w0 sz)) mc ms (va_A w0 sz)
def xQin (below : List Frame) (D : va_G) (K : Nat → ClassId) (A : Nat → Prop) (args : Array Value) (s : State) (mc ms : Nat) (r0 : Int32) (P : (Nat → Nat) → va_W) : State → Prop := MQ below (va_Qi (S := Nat → Nat) (fun r _ => r = r0) (fun la2 t => xB D K (P la2) A t) A) args s mc ms A
section XMade3
variable {p : Program} {l : Launch} {e : Env} {R : Room} {s : State} {m : MethodId} {args : Array Value} {below : List Frame} {meth : Method} {c : Code} {D : va_G} {K : Nat → ClassId} {A : Nat → Prop} {own : String} {cc : ByteArray} {nL : Nat} {ret : Option FieldType} {Q : State → Prop} {k n pc : Nat} {loc : List (Nat × Value)} {st : List Value} {ws : va_W}
theorem x_callSr (C : xC p s m args meth c D K A own cc nL ret) {idx maxL1 n1 fr lo : Nat} {y : MethodName} {bytes : ByteArray} {ret1 : Option FieldType} {As rest : List Value} {mc ms : Nat} {P : Nat → va_W → Prop} (hd : decode cc pc = .ok (.invokestatic idx, 3)) (hm : xMS own idx y bytes maxL1 ret1 n1) (hn : As.length = n1) (hst : st = As.reverse ++ rest) (hcat : (rest.map fun v => v.category).sum ≤ 8) (hroom : fr + 1 ≤ R.frames ∧ 8 + (maxL1 + 11) + lo ≤ R.locals) (hcs : k + mc ≤ R.cells ∧ n + ms ≤ R.slots) (hM : CRn l D K y bytes maxL1 ret1 fr lo mc ms As ws P) (h : ∀ (b : Nat) (w1 : va_W), P b w1 → X p l e R s m args below meth c D A nL Q (k + mc) (n + ms) (pc + 3) loc (.ref b :: rest) w1) : X p l e R s m args below meth c D A nL Q k n pc loc st ws := by
  subst hst
  intro H locs ls hP hD hS hl
  have hfree := va_A_sub hD hS C.2.2.2.2.2.2.2.2.1
  have hZ : zS (va_A ws H.size) s H := (C.2.2.2.2.2.2.2.2.2.kept hS.2.1).narrow hfree
  have hK := C.2.2.2.2.2.1
  have hts := C.2.2.2.2.1
  obtain ⟨⟨hlk, hin, hco, hne, hdesc⟩, hstat⟩ := hm
  have hpar : ∀ sig, parseMethodDescriptor y.desc = some sig → n1 = sig.parameters.length := fun sig hs => by
    rw [hs] at hdesc
    exact (Option.some.inj hdesc).symm
  have hrun : va_Run p l e R s m args below meth c H locs k n mc ms (F0 m pc ls (As.reverse ++ rest)) rest ((va_Qr (S := va_W) (fun _ => True) (fun w1 b t => P b w1 ∧ xB D K w1 (va_A ws H.size) t) (va_A ws H.size)) (As).toArray) (va_A ws H.size) := by
    rcases hlk with hlk | ⟨host, hlk⟩
    · exact va_runS (Ts := xT) ⟨C.1, C.2.1, C.2.2.1, C.2.2.2.1, hts⟩ (hM H.size) ⟨⟨rfl, rfl, hroom.1, hroom.2, pay_in hts (xW_good hco), List.mem_cons_self, hts _ hco, hts _ hin, hne, hpar, hts _ hlk⟩, hts _ hstat⟩ ⟨xA_blind, fun U hU hW => ⟨rfl, by rw [hU], by rw [hU]; exact hP, va_K.moved hW.alike hK, hD.weaken (fun _ _ _ _ => trivial), by rw [hU]; exact hZ.warm hW⟩⟩ rfl hn hl.1 rfl (lv_room hcat) hd hcs
    · exact va_runSN (Ts := xT) ⟨C.1, C.2.1, C.2.2.1, C.2.2.2.1, hts⟩ (hM H.size) ⟨⟨⟨rfl, rfl, hroom.1, hroom.2, pay_in hts (xW_good hco), List.mem_cons_self⟩, hts _ hco, hts _ hin, hne, hpar, va_Nw.use rfl (C.2.2.2.2.2.2.2.2.2.2.2.2.1 _ hlk)⟩, hts _ hstat, trivial⟩ ⟨xA_blind, fun U hU hW => ⟨rfl, by rw [hU], by rw [hU]; exact hP, va_K.moved hW.alike hK, hD.weaken (fun _ _ _ _ => trivial), by rw [hU]; exact hZ.warm hW⟩⟩ rfl hn hl.1 rfl (lv_room hcat) hd hcs
  refine va_callr hrun hS (fun q _ h => hfree q h) hfree (fun u b t H1 locs1 ht hvm hw hB hz1 hk1 hS1 => ?_)
  obtain ⟨hPb, hP1, hK1, hD1⟩ := hB
  rw [ht] at hP1
  exact h b u hPb H1 locs1 ls hP1 (hD1.weaken (fun _ q _ hq9 => hfree q.1 hq9)) hS1 hl
theorem x_callVn (C : xC p s m args meth c D K A own cc nL ret) {idx maxL1 n1 fr lo : Nat} {b ci : Nat} {fs : List Value} {y : MethodName} {bytes : ByteArray} {ret1 : Option FieldType} {As rest : List Value} {mc ms : Nat} {gh : (Nat → Nat) → Option Nat} {P : (Nat → Nat) → va_W} (hd : decode cc pc = .ok (.invokevirtual idx, 3)) (hm : xMV own idx y bytes maxL1 ret1 n1) (hn : As.length = n1) (hst : st = As.reverse ++ .ref b :: rest) (hcat : (rest.map fun v => v.category).sum ≤ 8) (q : Nat) (hq : ws[q]? = some (b, .inr (ci, fs))) (hc : (vwCl[ci]?).map (fun q => q.1) = some y.cls) (hroom : fr + 1 ≤ R.frames ∧ 8 + (maxL1 + 11) + lo ≤ R.locals) (hcs : k + mc ≤ R.cells ∧ n + ms ≤ R.slots) (hM : CQn l D K y bytes maxL1 ret1 fr lo mc ms (.ref b :: As) ws gh P) (h : ∀ la2 : Nat → Nat, X p l e R s m args below meth c D A nL Q (k + mc) (n + ms) (pc + 3) loc (va_rf (gh la2) :: rest) (P la2)) : X p l e R s m args below meth c D A nL Q k n pc loc st ws := by
  subst hst
  intro H locs ls hP hD hS hl
  have hfree := va_A_sub hD hS C.2.2.2.2.2.2.2.2.1
  have hZ : zS (va_A ws H.size) s H := (C.2.2.2.2.2.2.2.2.2.kept hS.2.1).narrow hfree
  have hK := C.2.2.2.2.2.1
  have hts := C.2.2.2.2.1
  obtain ⟨⟨hlk, hin, hco, hne, hdesc⟩, hinst, hsel⟩ := hm
  have hpar : ∀ sig, parseMethodDescriptor y.desc = some sig → n1 = sig.parameters.length := fun sig hs => by
    rw [hs] at hdesc
    exact (Option.some.inj hdesc).symm
  have hrun : va_Run p l e R s m args below meth c H locs k n mc ms (F0 m pc ls (As.reverse ++ .ref b :: rest)) rest ((va_Qq (S := Nat → Nat) (fun r la2 => r = gh la2) (fun la2 t => xB D K (P la2) (va_A ws H.size) t) (va_A ws H.size)) ((.ref b :: As)).toArray) (va_A ws H.size) := by
    rcases hlk with hlk | ⟨host, hlk⟩
    · have hrec : ∃ cell : Cell, H[b]? = some cell ∧ cell.vm.isStatics = false ∧ s.vm.findClass y.cls = some cell.cls := by
        cases hci : vwCl[ci]? with
        | none => rw [hci] at hc; cases hc
        | some qq =>
          rw [hci] at hc
          rw [← Option.some.inj hc]
          exact va_recv hK hP hci hq
      exact va_runV (C := y.cls) (Ts := xT) ⟨C.1, C.2.1, C.2.2.1, C.2.2.2.1, hts⟩ (hM H.size) ⟨⟨rfl, rfl, hroom.1, hroom.2, pay_in hts (xW_good hco), List.mem_cons_self, hts _ hco, hts _ hin, hne, hpar, hts _ hlk⟩, hts _ hinst, hts _ hsel⟩ ⟨xA_blind, hrec, fun U hU hW => ⟨rfl, by rw [hU], by rw [hU]; exact hP, va_K.moved hW.alike hK, hD.weaken (fun _ _ _ _ => trivial), by rw [hU]; exact hZ.warm hW⟩⟩ rfl hn hl.1 rfl (lv_room hcat) hd hcs
    · have hrec : ∃ cell : Cell, H[b]? = some cell ∧ cell.vm.isStatics = false ∧ s.vm.findClass y.cls = some cell.cls := by
        cases hci : vwCl[ci]? with
        | none => rw [hci] at hc; cases hc
        | some qq =>
          rw [hci] at hc
          rw [← Option.some.inj hc]
          exact va_recv hK hP hci hq
      exact va_runVN (C := y.cls) (Ts := xT) ⟨C.1, C.2.1, C.2.2.1, C.2.2.2.1, hts⟩ (hM H.size) ⟨⟨⟨rfl, rfl, hroom.1, hroom.2, pay_in hts (xW_good hco), List.mem_cons_self⟩, hts _ hco, hts _ hin, hne, hpar, va_Nw.use rfl (C.2.2.2.2.2.2.2.2.2.2.2.2.1 _ hlk)⟩, hts _ hinst, hts _ hsel⟩ ⟨xA_blind, hrec, fun U hU hW => ⟨rfl, by rw [hU], by rw [hU]; exact hP, va_K.moved hW.alike hK, hD.weaken (fun _ _ _ _ => trivial), by rw [hU]; exact hZ.warm hW⟩⟩ rfl hn hl.1 rfl (lv_room hcat) hd hcs
  refine va_callq hrun hS (fun q _ h => hfree q h) hfree (fun r u t H1 locs1 ht hvm hw hB hz1 hk1 hS1 => ?_)
  obtain ⟨hP1, hK1, hD1⟩ := hB
  rw [ht] at hP1
  subst hw
  exact h u H1 locs1 ls hP1 (hD1.weaken (fun _ q _ hq9 => hfree q.1 hq9)) hS1 hl
theorem x_aretn (C : xC p s m args meth c D K A own cc nL ret) {vv : Value} {gh : (Nat → Nat) → Option Nat} {P : (Nat → Nat) → va_W} {Cn : String} (la2 : Nat → Nat) (hvv : vv = va_rf (gh la2)) (hd : decode cc pc = .ok (.areturn, 1)) (hr : ret = some (.object Cn)) (hw : ws = P la2) : X p l e R s m args below meth c D A nL (xQqn below D K A args s k n gh P) k n pc loc (vv :: []) ws := by
  subst hw; subst hvv
  have hlocks : meth.locks = false := C.2.2.2.2.2.2.2.1
  exact fun H locs ls hP hD hS hl => W.aret C.1 C.2.1 (C.2.2.2.2.2.2.1.trans hr) (Or.inl ⟨_, rfl⟩) (by cases gh la2 with | none => exact Or.inl rfl | some a => exact Or.inr ⟨a, rfl⟩) (fun t ht hW => ⟨⟨gh la2, la2, rfl, rfl, by rw [ht]; exact hP, va_K.moved hW.alike C.2.2.2.2.2.1, hD⟩, hS.F ht⟩) hS.2.2 hd hlocks
theorem x_iretn (C : xC p s m args meth c D K A own cc nL ret) {v r0 : Int32} {P : (Nat → Nat) → va_W} (la2 : Nat → Nat) (hd : decode cc pc = .ok (.ireturn, 1)) (hr : ret = some .int) (hv : v = r0) (hw : ws = P la2) : X p l e R s m args below meth c D A nL (xQin below D K A args s k n r0 P) k n pc loc (.int v :: []) ws := by
  subst hv; subst hw
  have hlocks : meth.locks = false := C.2.2.2.2.2.2.2.1
  exact fun H locs ls hP hD hS hl => W.iret C.1 C.2.1 (C.2.2.2.2.2.2.1.trans hr) (fun t ht hW => ⟨⟨v, la2, rfl, rfl, by rw [ht]; exact hP, va_K.moved hW.alike C.2.2.2.2.2.1, hD⟩, hS.F ht⟩) hS.2.2 hd hlocks
end XMade3
theorem x_enterr {l : Launch} {D : va_G} {K : Nat → ClassId} {y : MethodName} {cc : ByteArray} {maxL : Nat} {ret : Option FieldType} {fr lo mc ms : Nat} {av : List Value} {w0 : va_W} {P : Nat → va_W → Prop} (loc : List (Nat × Value)) (hy : plainName y.cls = true) (hav : (lg_sl av).length ≤ maxL) (hloc : lv_args 0 av = loc)
    (body : ∀ (p : Program) (e : Env) (s : State) (m : MethodId) (args : Array Value) (below : List Frame) (meth : Method) (c : Code) (A : Nat → Prop), xC p s m args meth c D K A y.cls cc maxL ret → X p l e ({ frames := fr, cells := mc, slots := ms, locals := lo }) s m args below meth c D A maxL (xQr below D K A args s mc ms P) 0 0 0 loc [] w0) : CRn l D K y cc maxL ret fr lo mc ms av w0 P := by
  intro sz
  refine Met.ofW (cc := cc) (maxL := maxL) (ret := ret) hy rfl ?_
  intro p e s m args below meth c s₁ B hml hv
  obtain ⟨rfl, hsz, hP, hK, hD0, hZ0⟩ := hv
  have hts := atoms_spec (ws := xW y cc maxL ret) B.pre
  subst hsz
  subst hloc
  have hD := hD0.self (sz := s.heap.size)
  have hl := lv_entry av (n := maxL) hav
  rw [lg_entry_eq]
  exact body p e s m _ below meth c (va_A w0 s.heap.size) ⟨B.exec, B.bytes, hml, findClass_of_methodNamed B.named, fun w hw => hts w (List.mem_cons_of_mem _ hw), hK, B.returns, B.notSynchronized, fun q h => Or.inr h, hZ0⟩ s.heap [] _ hP hD va_S.rf hl
theorem x_enterqn {l : Launch} {D : va_G} {K : Nat → ClassId} {y : MethodName} {cc : ByteArray} {maxL : Nat} {ret : Option FieldType} {fr lo mc ms : Nat} {av : List Value} {w0 : va_W} {gh : (Nat → Nat) → Option Nat} {P : (Nat → Nat) → va_W} (loc : List (Nat × Value)) (hy : plainName y.cls = true) (hav : (lg_sl av).length ≤ maxL) (hloc : lv_args 0 av = loc)
    (body : ∀ (p : Program) (e : Env) (s : State) (m : MethodId) (args : Array Value) (below : List Frame) (meth : Method) (c : Code) (A : Nat → Prop), xC p s m args meth c D K A y.cls cc maxL ret → X p l e ({ frames := fr, cells := mc, slots := ms, locals := lo }) s m args below meth c D A maxL (xQqn below D K A args s mc ms gh P) 0 0 0 loc [] w0) : CQn l D K y cc maxL ret fr lo mc ms av w0 gh P := by
  intro sz
  refine Met.ofW (cc := cc) (maxL := maxL) (ret := ret) hy rfl ?_
  intro p e s m args below meth c s₁ B hml hv
  obtain ⟨rfl, hsz, hP, hK, hD0, hZ0⟩ := hv
  have hts := atoms_spec (ws := xW y cc maxL ret) B.pre
  subst hsz
  subst hloc
  have hD := hD0.self (sz := s.heap.size)
  have hl := lv_entry av (n := maxL) hav
  rw [lg_entry_eq]
  exact body p e s m _ below meth c (va_A w0 s.heap.size) ⟨B.exec, B.bytes, hml, findClass_of_methodNamed B.named, fun w hw => hts w (List.mem_cons_of_mem _ hw), hK, B.returns, B.notSynchronized, fun q h => Or.inr h, hZ0⟩ s.heap [] _ hP hD va_S.rf hl
theorem x_enterin {l : Launch} {D : va_G} {K : Nat → ClassId} {y : MethodName} {cc : ByteArray} {maxL : Nat} {ret : Option FieldType} {fr lo mc ms : Nat} {av : List Value} {w0 : va_W} {r0 : Int32} {P : (Nat → Nat) → va_W} (loc : List (Nat × Value)) (hy : plainName y.cls = true) (hav : (lg_sl av).length ≤ maxL) (hloc : lv_args 0 av = loc)
    (body : ∀ (p : Program) (e : Env) (s : State) (m : MethodId) (args : Array Value) (below : List Frame) (meth : Method) (c : Code) (A : Nat → Prop), xC p s m args meth c D K A y.cls cc maxL ret → X p l e ({ frames := fr, cells := mc, slots := ms, locals := lo }) s m args below meth c D A maxL (xQin below D K A args s mc ms r0 P) 0 0 0 loc [] w0) : CIn l D K y cc maxL ret fr lo mc ms av w0 r0 P := by
  intro sz
  refine Met.ofW (cc := cc) (maxL := maxL) (ret := ret) hy rfl ?_
  intro p e s m args below meth c s₁ B hml hv
  obtain ⟨rfl, hsz, hP, hK, hD0, hZ0⟩ := hv
  have hts := atoms_spec (ws := xW y cc maxL ret) B.pre
  subst hsz
  subst hloc
  have hD := hD0.self (sz := s.heap.size)
  have hl := lv_entry av (n := maxL) hav
  rw [lg_entry_eq]
  exact body p e s m _ below meth c (va_A w0 s.heap.size) ⟨B.exec, B.bytes, hml, findClass_of_methodNamed B.named, fun w hw => hts w (List.mem_cons_of_mem _ hw), hK, B.returns, B.notSynchronized, fun q h => Or.inr h, hZ0⟩ s.heap [] _ hP hD va_S.rf hl
theorem c_JA_copyOf (l : Launch) (D : va_G) (K : Nat → ClassId) {ws : va_W} {a N : Nat} (n q : Nat) {f : Nat → Int32} (hq : ws[q]? = some (a, .inl (K 0, (N, .inl f)))) (hN : N < 1000000) (hn : n ≤ N) : CRn l D K yJA_copyOf cJA_copyOf 3 (some (.array .int)) 1 40 1 n [.ref a, .int (nI n)] ws (fun b w1 => w1 = ws ++ [(b, .inl (K 0, (n, .inl f)))]) := by
  refine x_enterr [(0, .ref a), (1, .int (nI n))] pnJA (Nat.le_of_ble_eq_true rfl) rfl ?_
  intro p e s m args below meth c A C
  refine x_iload_n C 1 1 dJA_copyOf_0 rfl rfl ?_
  refine x_aload_n C 0 0 dJA_copyOf_1 rfl rfl ?_
  refine x_alen C (t0 := 0) (nI N) q dJA_copyOf_2 hq rfl rfl ?_
  by_cases hnN : n = N
  · subst hnN
    refine x_icmp_ne C (fa := none) (fb := some ()) (z := ()) 14 dJA_copyOf_3 (by decide) (if_pos rfl) (fun h => by cases h) (fun _ => ?_)
    refine x_aload_n C 0 0 dJA_copyOf_6 rfl rfl ?_
    refine x_cloneI C dJA_copyOf_7 wl_JA_316 hq ⟨Nat.le_of_ble_eq_true rfl, Nat.le_of_ble_eq_true rfl⟩ ⟨Nat.le_refl _, by show 0 + n ≤ n; omega⟩ (fun b => ?_)
    refine x_castI C (q := ws.length) (N := n) (f := f) dJA_copyOf_10 wl_JA_317 (by rw [List.getElem?_append_right (Nat.le_refl _), Nat.sub_self]; rfl) ?_
    refine x_widen (k' := 1) (n' := n) (Nat.le_refl _) (by omega) ?_
    exact x_aretr C dJA_copyOf_13 rfl (Or.inr ⟨_, rfl⟩) rfl
  · refine x_icmp_ne C (fa := some ()) (fb := none) (z := ()) 14 dJA_copyOf_3 (by decide) (if_neg (fun h => hnN ((nI_eq (by omega) (by omega)).mp h))) (fun _ => ?_) (fun h => by cases h)
    refine x_iload_n C 1 1 dJA_copyOf_14 rfl rfl ?_
    refine x_newaI C n dJA_copyOf_15 jAI (nI_pos (by omega)) (nI_clamp (by omega)) (by omega) ⟨Nat.le_refl _, by show 0 + n ≤ n; omega⟩ (fun b => ?_)
    refine x_astore_n C [(2, .ref b), (0, .ref a), (1, .int (nI n))] dJA_copyOf_17 rfl (by decide) rfl ?_
    refine x_aload_n C 1 0 dJA_copyOf_18 rfl rfl ?_
    refine x_iconst C (nI 0) dJA_copyOf_19 (by decide +kernel) ?_
    refine x_aload_n C 0 2 dJA_copyOf_20 rfl rfl ?_
    refine x_iconst C (nI 0) dJA_copyOf_21 (by decide +kernel) ?_
    refine x_aload_n C 1 0 dJA_copyOf_22 rfl rfl ?_
    have hq2 : (ws ++ [(b, (.inl (K 0, (n, .inl (fun _ => 0))) : va_E))])[q]? = some (a, .inl (K 0, (N, .inl f))) := by
      rw [List.getElem?_append_left (List.getElem?_eq_some_iff.mp hq).1]
      exact hq
    have hb2 : ∀ g : Nat → Int32, (ws ++ [(b, (.inl (K 0, (n, .inl g)) : va_E))])[ws.length]? = some (b, .inl (K 0, (n, .inl g))) := fun g => by
      rw [List.getElem?_append_right (Nat.le_refl _), Nat.sub_self]
      rfl
    refine x_alen C (t0 := 0) (nI N) q dJA_copyOf_23 hq2 rfl rfl ?_
    refine x_iload_n C 2 1 dJA_copyOf_24 rfl rfl ?_
    refine x_mmin C dJA_copyOf_25 wl_JA_304 jMinI ⟨Nat.le_of_ble_eq_true rfl, Nat.le_of_ble_eq_true rfl⟩ ⟨Nat.le_refl _, by show 0 + n ≤ n; omega⟩ ?_
    have em : mnI (nI N) (nI n) = nI n := if_pos (nI_lt (by omega) (by omega))
    rw [em]
    refine x_copyi C (z := ()) q ws.length dJA_copyOf_28 wl_JA_150 jCopy ⟨Nat.le_of_ble_eq_true rfl, Nat.le_of_ble_eq_true rfl⟩ hq2 (hb2 _) (kf := some ()) (if_neg ?_) rfl (fun _ => ?_)
    · rintro (h | h | h | h | h)
      · exact nI_pos (by omega) h
      · exact nI_pos (by omega) h
      · exact nI_pos (by omega) h
      · rw [nI_clamp (by omega), nI_clamp (by omega)] at h
        omega
      · rw [nI_clamp (by omega), nI_clamp (by omega)] at h
        omega
    · have es : ∀ g : Nat → Int32, (ws ++ [(b, (.inl (K 0, (n, .inl (fun _ => 0))) : va_E))]).set ws.length (b, .inl (K 0, (n, .inl g))) = ws ++ [(b, .inl (K 0, (n, .inl g)))] := fun g => by
        rw [List.set_append_right _ _ (Nat.le_refl _), Nat.sub_self]
        rfl
      rw [es]
      refine x_cell (g := f) (hb2 _) (fun j hj => ?_) (by rw [List.set_append_right _ _ (Nat.le_refl _), Nat.sub_self]) ?_
      · rw [nI_clamp (by omega), nI_clamp (by omega)]
        unfold va_cpy
        rw [if_pos (by omega)]
        congr 1
        omega
      · refine x_aload_n C 0 2 dJA_copyOf_31 rfl rfl ?_
        refine x_widen (k' := 1) (n' := n) (Nat.le_refl _) (by omega) ?_
        exact x_aretr C dJA_copyOf_32 rfl (Or.inr ⟨_, rfl⟩) rfl
theorem dX5_read_0 : decode cX5_read 0 = .ok (.aload_n 0, 1) := by decide +kernel
theorem dX5_read_1 : decode cX5_read 1 = .ok (.getfield 12, 3) := by decide +kernel
theorem dX5_read_4 : decode cX5_read 4 = .ok (.aload_n 1, 1) := by decide +kernel
theorem dX5_read_5 : decode cX5_read 5 = .ok (.iload_n 2, 1) := by decide +kernel
theorem dX5_read_6 : decode cX5_read 6 = .ok (.invokevirtual 32, 3) := by decide +kernel
theorem dX5_read_9 : decode cX5_read 9 = .ok (.aload_n 0, 1) := by decide +kernel
theorem dX5_read_10 : decode cX5_read 10 = .ok (.iconst 0, 1) := by decide +kernel
theorem dX5_read_11 : decode cX5_read 11 = .ok (.putfield 36, 3) := by decide +kernel
theorem dX5_read_14 : decode cX5_read 14 = .ok (.aload_n 0, 1) := by decide +kernel
theorem dX5_read_15 : decode cX5_read 15 = .ok (.iconst 0, 1) := by decide +kernel
theorem dX5_read_16 : decode cX5_read 16 = .ok (.putfield 39, 3) := by decide +kernel
theorem dX5_read_19 : decode cX5_read 19 = .ok (.aload_n 0, 1) := by decide +kernel
theorem dX5_read_20 : decode cX5_read 20 = .ok (.iconst 0, 1) := by decide +kernel
theorem dX5_read_21 : decode cX5_read 21 = .ok (.putfield 42, 3) := by decide +kernel
theorem dX5_read_24 : decode cX5_read 24 = .ok (.aload_n 0, 1) := by decide +kernel
theorem dX5_read_25 : decode cX5_read 25 = .ok (.iconst (-1), 1) := by decide +kernel
theorem dX5_read_26 : decode cX5_read 26 = .ok (.putfield 28, 3) := by decide +kernel
theorem dX5_read_29 : decode cX5_read 29 = .ok (.iconst 0, 1) := by decide +kernel
theorem dX5_read_30 : decode cX5_read 30 = .ok (.istore_n 3, 1) := by decide +kernel
theorem dX5_read_31 : decode cX5_read 31 = .ok (.iload_n 3, 1) := by decide +kernel
theorem dX5_read_32 : decode cX5_read 32 = .ok (.bipush 12, 2) := by decide +kernel
theorem dX5_read_34 : decode cX5_read 34 = .ok (.if_icmp .ge 57, 3) := by decide +kernel
theorem dX5_read_37 : decode cX5_read 37 = .ok (.aload_n 0, 1) := by decide +kernel
theorem dX5_read_38 : decode cX5_read 38 = .ok (.iload_n 3, 1) := by decide +kernel
theorem dX5_read_39 : decode cX5_read 39 = .ok (.invokevirtual 45, 3) := by decide +kernel
theorem dX5_read_42 : decode cX5_read 42 = .ok (.ifCond .ne 5, 3) := by decide +kernel
theorem dX5_read_45 : decode cX5_read 45 = .ok (.aconst_null, 1) := by decide +kernel
theorem dX5_read_46 : decode cX5_read 46 = .ok (.areturn, 1) := by decide +kernel
theorem dX5_read_47 : decode cX5_read 47 = .ok (.aload_n 0, 1) := by decide +kernel
theorem dX5_read_48 : decode cX5_read 48 = .ok (.invokevirtual 49, 3) := by decide +kernel
theorem dX5_read_51 : decode cX5_read 51 = .ok (.sipush 276, 3) := by decide +kernel
theorem dX5_read_54 : decode cX5_read 54 = .ok (.if_icmp .ne 11, 3) := by decide +kernel
theorem dX5_read_57 : decode cX5_read 57 = .ok (.aload_n 0, 1) := by decide +kernel
theorem dX5_read_58 : decode cX5_read 58 = .ok (.iload_n 3, 1) := by decide +kernel
theorem dX5_read_59 : decode cX5_read 59 = .ok (.iconst 1, 1) := by decide +kernel
theorem dX5_read_60 : decode cX5_read 60 = .ok (.iadd, 1) := by decide +kernel
theorem dX5_read_61 : decode cX5_read 61 = .ok (.invokevirtual 53, 3) := by decide +kernel
theorem dX5_read_64 : decode cX5_read 64 = .ok (.areturn, 1) := by decide +kernel
theorem dX5_read_65 : decode cX5_read 65 = .ok (.aload_n 0, 1) := by decide +kernel
theorem dX5_read_66 : decode cX5_read 66 = .ok (.invokevirtual 49, 3) := by decide +kernel
theorem dX5_read_69 : decode cX5_read 69 = .ok (.bipush 59, 2) := by decide +kernel
theorem dX5_read_71 : decode cX5_read 71 = .ok (.if_icmp .eq 10, 3) := by decide +kernel
theorem dX5_read_74 : decode cX5_read 74 = .ok (.aload_n 0, 1) := by decide +kernel
theorem dX5_read_75 : decode cX5_read 75 = .ok (.invokevirtual 57, 3) := by decide +kernel
theorem dX5_read_78 : decode cX5_read 78 = .ok (.pop, 1) := by decide +kernel
theorem dX5_read_79 : decode cX5_read 79 = .ok (.aconst_null, 1) := by decide +kernel
theorem dX5_read_80 : decode cX5_read 80 = .ok (.areturn, 1) := by decide +kernel
theorem dX5_read_81 : decode cX5_read 81 = .ok (.aload_n 0, 1) := by decide +kernel
theorem dX5_read_82 : decode cX5_read 82 = .ok (.invokevirtual 61, 3) := by decide +kernel
theorem dX5_read_85 : decode cX5_read 85 = .ok (.iinc 3 1, 3) := by decide +kernel
theorem dX5_read_88 : decode cX5_read 88 = .ok (.goto (-57), 3) := by decide +kernel
theorem dX5_read_91 : decode cX5_read 91 = .ok (.aload_n 0, 1) := by decide +kernel
theorem dX5_read_92 : decode cX5_read 92 = .ok (.invokevirtual 57, 3) := by decide +kernel
theorem dX5_read_95 : decode cX5_read 95 = .ok (.pop, 1) := by decide +kernel
theorem dX5_read_96 : decode cX5_read 96 = .ok (.aconst_null, 1) := by decide +kernel
theorem dX5_read_97 : decode cX5_read 97 = .ok (.areturn, 1) := by decide +kernel
theorem dX5_made_0 : decode cX5_made 0 = .ok (.aload_n 0, 1) := by decide +kernel
theorem dX5_made_1 : decode cX5_made 1 = .ok (.getfield 22, 3) := by decide +kernel
theorem dX5_made_4 : decode cX5_made 4 = .ok (.iload_n 1, 1) := by decide +kernel
theorem dX5_made_5 : decode cX5_made 5 = .ok (.aload_n 0, 1) := by decide +kernel
theorem dX5_made_6 : decode cX5_made 6 = .ok (.getfield 42, 3) := by decide +kernel
theorem dX5_made_9 : decode cX5_made 9 = .ok (.iastore, 1) := by decide +kernel
theorem dX5_made_10 : decode cX5_made 10 = .ok (.new 64, 3) := by decide +kernel
theorem dX5_made_13 : decode cX5_made 13 = .ok (.dup, 1) := by decide +kernel
theorem dX5_made_14 : decode cX5_made 14 = .ok (.iload_n 1, 1) := by decide +kernel
theorem dX5_made_15 : decode cX5_made 15 = .ok (.aload_n 0, 1) := by decide +kernel
theorem dX5_made_16 : decode cX5_made 16 = .ok (.getfield 18, 3) := by decide +kernel
theorem dX5_made_19 : decode cX5_made 19 = .ok (.iload_n 1, 1) := by decide +kernel
theorem dX5_made_20 : decode cX5_made 20 = .ok (.invokestatic 66, 3) := by decide +kernel
theorem dX5_made_23 : decode cX5_made 23 = .ok (.aload_n 0, 1) := by decide +kernel
theorem dX5_made_24 : decode cX5_made 24 = .ok (.getfield 22, 3) := by decide +kernel
theorem dX5_made_27 : decode cX5_made 27 = .ok (.iload_n 1, 1) := by decide +kernel
theorem dX5_made_28 : decode cX5_made 28 = .ok (.iconst 1, 1) := by decide +kernel
theorem dX5_made_29 : decode cX5_made 29 = .ok (.iadd, 1) := by decide +kernel
theorem dX5_made_30 : decode cX5_made 30 = .ok (.invokestatic 66, 3) := by decide +kernel
theorem dX5_made_33 : decode cX5_made 33 = .ok (.aload_n 0, 1) := by decide +kernel
theorem dX5_made_34 : decode cX5_made 34 = .ok (.getfield 25, 3) := by decide +kernel
theorem dX5_made_37 : decode cX5_made 37 = .ok (.aload_n 0, 1) := by decide +kernel
theorem dX5_made_38 : decode cX5_made 38 = .ok (.getfield 42, 3) := by decide +kernel
theorem dX5_made_41 : decode cX5_made 41 = .ok (.invokestatic 66, 3) := by decide +kernel
theorem dX5_made_44 : decode cX5_made 44 = .ok (.invokespecial 72, 3) := by decide +kernel
theorem dX5_made_47 : decode cX5_made 47 = .ok (.areturn, 1) := by decide +kernel
theorem dX11_law_0 : decode cX11_law 0 = .ok (.aload_n 0, 1) := by decide +kernel
theorem dX11_law_1 : decode cX11_law 1 = .ok (.getfield 143, 3) := by decide +kernel
theorem dX11_law_4 : decode cX11_law 4 = .ok (.istore_n 1, 1) := by decide +kernel
theorem dX11_law_5 : decode cX11_law 5 = .ok (.aload_n 0, 1) := by decide +kernel
theorem dX11_law_6 : decode cX11_law 6 = .ok (.iconst 0, 1) := by decide +kernel
theorem dX11_law_7 : decode cX11_law 7 = .ok (.putfield 143, 3) := by decide +kernel
theorem dX11_law_10 : decode cX11_law 10 = .ok (.aload_n 0, 1) := by decide +kernel
theorem dX11_law_11 : decode cX11_law 11 = .ok (.getfield 10, 3) := by decide +kernel
theorem dX11_law_14 : decode cX11_law 14 = .ok (.getfield 156, 3) := by decide +kernel
theorem dX11_law_17 : decode cX11_law 17 = .ok (.bipush 6, 2) := by decide +kernel
theorem dX11_law_19 : decode cX11_law 19 = .ok (.if_icmp .lt 10, 3) := by decide +kernel
theorem dX11_law_22 : decode cX11_law 22 = .ok (.aload_n 0, 1) := by decide +kernel
theorem dX11_law_23 : decode cX11_law 23 = .ok (.bipush (-5), 2) := by decide +kernel
theorem dX11_law_25 : decode cX11_law 25 = .ok (.invokevirtual 94, 3) := by decide +kernel
theorem dX11_law_28 : decode cX11_law 28 = .ok (.ireturn, 1) := by decide +kernel
theorem dX11_law_29 : decode cX11_law 29 = .ok (.aload_n 0, 1) := by decide +kernel
theorem dX11_law_30 : decode cX11_law 30 = .ok (.getfield 36, 3) := by decide +kernel
theorem dX11_law_33 : decode cX11_law 33 = .ok (.aload_n 0, 1) := by decide +kernel
theorem dX11_law_34 : decode cX11_law 34 = .ok (.getfield 79, 3) := by decide +kernel
theorem dX11_law_37 : decode cX11_law 37 = .ok (.iload_n 1, 1) := by decide +kernel
theorem dX11_law_38 : decode cX11_law 38 = .ok (.invokevirtual 159, 3) := by decide +kernel
theorem dX11_law_41 : decode cX11_law 41 = .ok (.astore_n 2, 1) := by decide +kernel
theorem dX11_law_42 : decode cX11_law 42 = .ok (.aload_n 0, 1) := by decide +kernel
theorem dX11_law_43 : decode cX11_law 43 = .ok (.aload_n 0, 1) := by decide +kernel
theorem dX11_law_44 : decode cX11_law 44 = .ok (.getfield 36, 3) := by decide +kernel
theorem dX11_law_47 : decode cX11_law 47 = .ok (.getfield 163, 3) := by decide +kernel
theorem dX11_law_50 : decode cX11_law 50 = .ok (.putfield 83, 3) := by decide +kernel
theorem dX11_law_53 : decode cX11_law 53 = .ok (.aload_n 2, 1) := by decide +kernel
theorem dX11_law_54 : decode cX11_law 54 = .ok (.ifnonnull 10, 3) := by decide +kernel
theorem dX11_law_57 : decode cX11_law 57 = .ok (.aload_n 0, 1) := by decide +kernel
theorem dX11_law_58 : decode cX11_law 58 = .ok (.bipush (-6), 2) := by decide +kernel
theorem dX11_law_60 : decode cX11_law 60 = .ok (.invokevirtual 94, 3) := by decide +kernel
theorem dX11_law_63 : decode cX11_law 63 = .ok (.ireturn, 1) := by decide +kernel
theorem dX11_law_64 : decode cX11_law 64 = .ok (.aload_n 0, 1) := by decide +kernel
theorem dX11_law_65 : decode cX11_law 65 = .ok (.getfield 10, 3) := by decide +kernel
theorem dX11_law_68 : decode cX11_law 68 = .ok (.getfield 166, 3) := by decide +kernel
theorem dX11_law_71 : decode cX11_law 71 = .ok (.aload_n 0, 1) := by decide +kernel
theorem dX11_law_72 : decode cX11_law 72 = .ok (.getfield 10, 3) := by decide +kernel
theorem dX11_law_75 : decode cX11_law 75 = .ok (.getfield 156, 3) := by decide +kernel
theorem dX11_law_78 : decode cX11_law 78 = .ok (.aload_n 2, 1) := by decide +kernel
theorem dX11_law_79 : decode cX11_law 79 = .ok (.aastore, 1) := by decide +kernel
theorem dX11_law_80 : decode cX11_law 80 = .ok (.aload_n 0, 1) := by decide +kernel
theorem dX11_law_81 : decode cX11_law 81 = .ok (.getfield 10, 3) := by decide +kernel
theorem dX11_law_84 : decode cX11_law 84 = .ok (.dup, 1) := by decide +kernel
theorem dX11_law_85 : decode cX11_law 85 = .ok (.getfield 156, 3) := by decide +kernel
theorem dX11_law_88 : decode cX11_law 88 = .ok (.iconst 1, 1) := by decide +kernel
theorem dX11_law_89 : decode cX11_law 89 = .ok (.iadd, 1) := by decide +kernel
theorem dX11_law_90 : decode cX11_law 90 = .ok (.putfield 156, 3) := by decide +kernel
theorem dX11_law_93 : decode cX11_law 93 = .ok (.aload_n 0, 1) := by decide +kernel
theorem dX11_law_94 : decode cX11_law 94 = .ok (.aload_n 0, 1) := by decide +kernel
theorem dX11_law_95 : decode cX11_law 95 = .ok (.getfield 10, 3) := by decide +kernel
theorem dX11_law_98 : decode cX11_law 98 = .ok (.getfield 156, 3) := by decide +kernel
theorem dX11_law_101 : decode cX11_law 101 = .ok (.iconst 1, 1) := by decide +kernel
theorem dX11_law_102 : decode cX11_law 102 = .ok (.isub, 1) := by decide +kernel
theorem dX11_law_103 : decode cX11_law 103 = .ok (.invokevirtual 102, 3) := by decide +kernel
theorem dX11_law_106 : decode cX11_law 106 = .ok (.ireturn, 1) := by decide +kernel
theorem fi_X4_7 : xF RX4 7 4 0 .int := ⟨RX4, TX4, 4, tyX4, rfl, by decide, inX4, Or.inl (xT_mem (List.mem_append_right _ (List.mem_of_getElem? (i := 665) (by decide +kernel))) (by decide +kernel)), rfl, tyX4_ok, nmX4, rfl⟩
theorem fi_X4_13 : xF RX4 13 4 1 (.array .int) := ⟨RX4, TX4, 4, tyX4, rfl, by decide, inX4, Or.inl (xT_mem (List.mem_append_right _ (List.mem_of_getElem? (i := 667) (by decide +kernel))) (by decide +kernel)), rfl, tyX4_ok, nmX4, rfl⟩
theorem fi_X4_17 : xF RX4 17 4 2 (.array .int) := ⟨RX4, TX4, 4, tyX4, rfl, by decide, inX4, Or.inl (xT_mem (List.mem_append_right _ (List.mem_of_getElem? (i := 669) (by decide +kernel))) (by decide +kernel)), rfl, tyX4_ok, nmX4, rfl⟩
theorem fi_X4_20 : xF RX4 20 4 3 (.array .int) := ⟨RX4, TX4, 4, tyX4, rfl, by decide, inX4, Or.inl (xT_mem (List.mem_append_right _ (List.mem_of_getElem? (i := 671) (by decide +kernel))) (by decide +kernel)), rfl, tyX4_ok, nmX4, rfl⟩
theorem pnX4 : plainName RX4 = true := by decide +kernel
theorem oi_X4_1 : Cond.methodLink RX4 1 Lib.objectInit ∈ xT := xT_mem (List.mem_append_right _ (List.mem_of_getElem? (i := 664) (by decide +kernel))) (by decide +kernel)
theorem c_X4_init (l : Launch) (D : va_G) (K : Nat → ClassId) {ws : va_W} {a kq : Nat} (v : Int32) (b1 b2 b3 : Nat) (hq : ws[kq]? = some (a, .inr (4, [.int 0, .null, .null, .null]))) : CVw l D K yX4_init cX4_init 5 1 30 0 0 [.ref a, .int v, .ref b1, .ref b2, .ref b3] ws (fun w1 => w1 = ws.set kq (a, .inr (4, [.int v, .ref b1, .ref b2, .ref b3]))) := by
  refine x_enterw [(0, .ref a), (1, .int v), (2, .ref b1), (3, .ref b2), (4, .ref b3)] pnX4 (Nat.le_of_ble_eq_true rfl) rfl ?_
  intro p e s m args below meth c A C hin
  refine x_aload_n C 0 0 dX4_init_0 rfl rfl ?_
  refine x_objInit C dX4_init_1 oi_X4_1 ⟨Nat.le_of_ble_eq_true rfl, Nat.le_of_ble_eq_true rfl⟩ ?_
  refine x_aload_n C 0 0 dX4_init_4 rfl rfl ?_
  refine x_iload_n C 1 1 dX4_init_5 rfl rfl ?_
  refine x_putF C hin kq dX4_init_6 fi_X4_7 ⟨_, _, _, rfl, rfl, rfl⟩ rfl rfl hq (Nat.le_of_ble_eq_true rfl) rfl ?_
  refine x_aload_n C 0 0 dX4_init_9 rfl rfl ?_
  refine x_aload_n C 2 2 dX4_init_10 rfl rfl ?_
  refine x_putF C hin kq dX4_init_11 fi_X4_13 ⟨_, _, _, rfl, rfl, rfl⟩ rfl rfl (set_at hq) (Nat.le_of_ble_eq_true rfl) (List.set_set ..) ?_
  refine x_aload_n C 0 0 dX4_init_14 rfl rfl ?_
  refine x_aload_n C 3 3 dX4_init_15 rfl rfl ?_
  refine x_putF C hin kq dX4_init_16 fi_X4_17 ⟨_, _, _, rfl, rfl, rfl⟩ rfl rfl (set_at hq) (Nat.le_of_ble_eq_true rfl) (List.set_set ..) ?_
  refine x_aload_n C 0 0 dX4_init_19 rfl rfl ?_
  refine x_aload C 4 4 dX4_init_20 rfl ?_
  refine x_putF C hin kq dX4_init_22 fi_X4_20 ⟨_, _, _, rfl, rfl, rfl⟩ rfl rfl (set_at hq) (Nat.le_of_ble_eq_true rfl) (List.set_set ..) ?_
  exact x_vretw C dX4_init_25 rfl rfl
