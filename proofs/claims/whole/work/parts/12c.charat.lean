def RJS : String := "java/lang/String"
def RJL : String := "java/lang/StringLatin1"
def RJP : String := "jdk/internal/util/Preconditions"
def yJS_charAt : MethodName := ⟨RJS, "charAt", "(I)C"⟩
def yJS_isLatin1 : MethodName := ⟨RJS, "isLatin1", "()Z"⟩
def yJS_checkIndex : MethodName := ⟨RJS, "checkIndex", "(II)V"⟩
def yJL_charAt : MethodName := ⟨RJL, "charAt", "([BI)C"⟩
def yJP_checkIndex : MethodName := ⟨RJP, "checkIndex", "(IILjava/util/function/BiFunction;)I"⟩
abbrev cJS_charAt : ByteArray := prog_18_method_56_code
abbrev cJS_isLatin1 : ByteArray := prog_18_method_154_code
abbrev cJS_checkIndex : ByteArray := prog_18_method_155_code
abbrev cJL_charAt : ByteArray := prog_19_method_2_code
abbrev cJP_checkIndex : ByteArray := prog_23_method_11_code
theorem pnJS : plainName RJS = true := by decide +kernel
theorem pnJL : plainName RJL = true := by decide +kernel
theorem pnJP : plainName RJP = true := by decide +kernel
theorem dJS_charAt_0 : decode cJS_charAt 0 = .ok (.aload_n 0, 1) := by decide +kernel
theorem dJS_charAt_1 : decode cJS_charAt 1 = .ok (.invokevirtual 492, 3) := by decide +kernel
theorem dJS_charAt_4 : decode cJS_charAt 4 = .ok (.ifCond .eq 12, 3) := by decide +kernel
theorem dJS_charAt_7 : decode cJS_charAt 7 = .ok (.aload_n 0, 1) := by decide +kernel
theorem dJS_charAt_8 : decode cJS_charAt 8 = .ok (.getfield 9, 3) := by decide +kernel
theorem dJS_charAt_11 : decode cJS_charAt 11 = .ok (.iload_n 1, 1) := by decide +kernel
theorem dJS_charAt_12 : decode cJS_charAt 12 = .ok (.invokestatic 495, 3) := by decide +kernel
theorem dJS_charAt_15 : decode cJS_charAt 15 = .ok (.ireturn, 1) := by decide +kernel
theorem dJS_isLatin1_0 : decode cJS_isLatin1 0 = .ok (.getstatic 38, 3) := by decide +kernel
theorem dJS_isLatin1_3 : decode cJS_isLatin1 3 = .ok (.ifCond .eq 14, 3) := by decide +kernel
theorem dJS_isLatin1_6 : decode cJS_isLatin1 6 = .ok (.aload_n 0, 1) := by decide +kernel
theorem dJS_isLatin1_7 : decode cJS_isLatin1 7 = .ok (.getfield 15, 3) := by decide +kernel
theorem dJS_isLatin1_10 : decode cJS_isLatin1 10 = .ok (.ifCond .ne 7, 3) := by decide +kernel
theorem dJS_isLatin1_13 : decode cJS_isLatin1 13 = .ok (.iconst 1, 1) := by decide +kernel
theorem dJS_isLatin1_14 : decode cJS_isLatin1 14 = .ok (.goto 4, 3) := by decide +kernel
theorem dJS_isLatin1_17 : decode cJS_isLatin1 17 = .ok (.iconst 0, 1) := by decide +kernel
theorem dJS_isLatin1_18 : decode cJS_isLatin1 18 = .ok (.ireturn, 1) := by decide +kernel
theorem dJS_checkIndex_0 : decode cJS_checkIndex 0 = .ok (.iload_n 0, 1) := by decide +kernel
theorem dJS_checkIndex_1 : decode cJS_checkIndex 1 = .ok (.iload_n 1, 1) := by decide +kernel
theorem dJS_checkIndex_2 : decode cJS_checkIndex 2 = .ok (.getstatic 1053, 3) := by decide +kernel
theorem dJS_checkIndex_5 : decode cJS_checkIndex 5 = .ok (.invokestatic 1059, 3) := by decide +kernel
theorem dJS_checkIndex_8 : decode cJS_checkIndex 8 = .ok (.pop, 1) := by decide +kernel
theorem dJS_checkIndex_9 : decode cJS_checkIndex 9 = .ok (.return_, 1) := by decide +kernel
theorem dJL_charAt_0 : decode cJL_charAt 0 = .ok (.iload_n 1, 1) := by decide +kernel
theorem dJL_charAt_1 : decode cJL_charAt 1 = .ok (.aload_n 0, 1) := by decide +kernel
theorem dJL_charAt_2 : decode cJL_charAt 2 = .ok (.arraylength, 1) := by decide +kernel
theorem dJL_charAt_3 : decode cJL_charAt 3 = .ok (.invokestatic 9, 3) := by decide +kernel
theorem dJL_charAt_6 : decode cJL_charAt 6 = .ok (.aload_n 0, 1) := by decide +kernel
theorem dJL_charAt_7 : decode cJL_charAt 7 = .ok (.iload_n 1, 1) := by decide +kernel
theorem dJL_charAt_8 : decode cJL_charAt 8 = .ok (.baload, 1) := by decide +kernel
theorem dJL_charAt_9 : decode cJL_charAt 9 = .ok (.sipush 255, 3) := by decide +kernel
theorem dJL_charAt_12 : decode cJL_charAt 12 = .ok (.iand, 1) := by decide +kernel
theorem dJL_charAt_13 : decode cJL_charAt 13 = .ok (.i2c, 1) := by decide +kernel
theorem dJL_charAt_14 : decode cJL_charAt 14 = .ok (.ireturn, 1) := by decide +kernel
theorem dJP_checkIndex_0 : decode cJP_checkIndex 0 = .ok (.iload_n 0, 1) := by decide +kernel
theorem dJP_checkIndex_1 : decode cJP_checkIndex 1 = .ok (.ifCond .lt 8, 3) := by decide +kernel
theorem dJP_checkIndex_4 : decode cJP_checkIndex 4 = .ok (.iload_n 0, 1) := by decide +kernel
theorem dJP_checkIndex_5 : decode cJP_checkIndex 5 = .ok (.iload_n 1, 1) := by decide +kernel
theorem dJP_checkIndex_6 : decode cJP_checkIndex 6 = .ok (.if_icmp .lt 10, 3) := by decide +kernel
theorem dJP_checkIndex_16 : decode cJP_checkIndex 16 = .ok (.iload_n 0, 1) := by decide +kernel
theorem dJP_checkIndex_17 : decode cJP_checkIndex 17 = .ok (.ireturn, 1) := by decide +kernel
theorem mj_RJS_492 : xMV RJS 492 yJS_isLatin1 cJS_isLatin1 1 (some .boolean) 0 := ⟨⟨Or.inl (xT_mem (List.mem_append_right _ (List.mem_of_getElem? (i := 532) (by decide +kernel))) (by decide +kernel)), xT_mem (List.mem_append_right _ (List.mem_of_getElem? (i := 16) (by decide +kernel))) (by decide +kernel), xT_mem (List.mem_append_right _ (List.mem_of_getElem? (i := 535) (by decide +kernel))) (by decide +kernel), ⟨by decide +kernel, by decide +kernel⟩, by decide +kernel⟩, xT_mem (List.mem_append_right _ (List.mem_of_getElem? (i := 533) (by decide +kernel))) (by decide +kernel), xT_mem (List.mem_append_right _ (List.mem_of_getElem? (i := 534) (by decide +kernel))) (by decide +kernel)⟩
theorem mj_RJS_495 : xMS RJS 495 yJL_charAt cJL_charAt 2 (some .char) 2 := ⟨⟨Or.inl (xT_mem (List.mem_append_right _ (List.mem_of_getElem? (i := 538) (by decide +kernel))) (by decide +kernel)), xT_mem (List.mem_append_right _ (List.mem_of_getElem? (i := 17) (by decide +kernel))) (by decide +kernel), xT_mem (List.mem_append_right _ (List.mem_of_getElem? (i := 540) (by decide +kernel))) (by decide +kernel), ⟨by decide +kernel, by decide +kernel⟩, by decide +kernel⟩, xT_mem (List.mem_append_right _ (List.mem_of_getElem? (i := 539) (by decide +kernel))) (by decide +kernel)⟩
theorem mj_RJL_9 : xMS RJL 9 yJS_checkIndex cJS_checkIndex 2 none 2 := ⟨⟨Or.inl (xT_mem (List.mem_append_right _ (List.mem_of_getElem? (i := 541) (by decide +kernel))) (by decide +kernel)), xT_mem (List.mem_append_right _ (List.mem_of_getElem? (i := 16) (by decide +kernel))) (by decide +kernel), xT_mem (List.mem_append_right _ (List.mem_of_getElem? (i := 543) (by decide +kernel))) (by decide +kernel), ⟨by decide +kernel, by decide +kernel⟩, by decide +kernel⟩, xT_mem (List.mem_append_right _ (List.mem_of_getElem? (i := 542) (by decide +kernel))) (by decide +kernel)⟩
theorem mj_RJS_1059 : xMS RJS 1059 yJP_checkIndex cJP_checkIndex 3 (some .int) 3 := ⟨⟨Or.inl (xT_mem (List.mem_append_right _ (List.mem_of_getElem? (i := 546) (by decide +kernel))) (by decide +kernel)), xT_mem (List.mem_append_right _ (List.mem_of_getElem? (i := 18) (by decide +kernel))) (by decide +kernel), xT_mem (List.mem_append_right _ (List.mem_of_getElem? (i := 548) (by decide +kernel))) (by decide +kernel), ⟨by decide +kernel, by decide +kernel⟩, by decide +kernel⟩, xT_mem (List.mem_append_right _ (List.mem_of_getElem? (i := 547) (by decide +kernel))) (by decide +kernel)⟩
theorem mj_X9_61 : xMV RX9 61 yJS_charAt cJS_charAt 2 (some .char) 1 := ⟨⟨Or.inl (xT_mem (List.mem_append_right _ (List.mem_of_getElem? (i := 528) (by decide +kernel))) (by decide +kernel)), xT_mem (List.mem_append_right _ (List.mem_of_getElem? (i := 16) (by decide +kernel))) (by decide +kernel), xT_mem (List.mem_append_right _ (List.mem_of_getElem? (i := 531) (by decide +kernel))) (by decide +kernel), ⟨by decide +kernel, by decide +kernel⟩, by decide +kernel⟩, xT_mem (List.mem_append_right _ (List.mem_of_getElem? (i := 529) (by decide +kernel))) (by decide +kernel), xT_mem (List.mem_append_right _ (List.mem_of_getElem? (i := 530) (by decide +kernel))) (by decide +kernel)⟩
abbrev zE (aK aV : Nat → Nat) (A : Nat → Prop) (U : State) (H : Heap) : Prop := vk_S 1 [90] [wBy] aK aV A U H
def CIe (l : Launch) (D : va_G) (K : Nat → ClassId) (aK aV : Nat → Nat) (y : MethodName) (cc : ByteArray) (maxL : Nat) (ret : Option FieldType) (fr lo : Nat) (av : List Value) (w0 : va_W) (r0 : Int32) : Prop :=
  ∀ sz : Nat, Met l y (xW y cc maxL ret) (xR fr lo) (va_Pc av (fun U => xA D K w0 sz U ∧ zE aK aV (va_A w0 sz) U U.heap)) (va_Qi (fun (r : Int32) (_ : Unit) => r = r0) (fun _ t => xB D K w0 (va_A w0 sz) t) (va_A w0 sz)) 0 0 (va_A w0 sz)
theorem zE_blind {D : va_G} {K : Nat → ClassId} {aK aV : Nat → Nat} {ws : va_W} {sz : Nat} {av : List Value} : FrameBlind (va_Pc av (fun U => xA D K ws sz U ∧ zE aK aV (va_A ws sz) U U.heap)) := by
  intro a U g mk q
  obtain ⟨q0, q1, q2⟩ := q
  have h := xA_blind (D := D) (K := K) (ws := ws) (sz := sz) (av := av) a U g mk ⟨q0, q1⟩
  exact ⟨h.1, h.2, vk_S.moved (u := U) (U := U.calling g mk a) (Vm.Alike.refl U.vm) q2⟩
theorem x_enterIe {l : Launch} {D : va_G} {K : Nat → ClassId} {aK aV : Nat → Nat} {y : MethodName} {cc : ByteArray} {maxL : Nat} {ret : Option FieldType} {fr lo : Nat} {av : List Value} {w0 : va_W} {r0 : Int32} (loc : List (Nat × Value)) (hy : plainName y.cls = true) (hav : (lg_sl av).length ≤ maxL) (hloc : lv_args 0 av = loc)
    (body : ∀ (p : Program) (e : Env) (s : State) (m : MethodId) (args : Array Value) (below : List Frame) (meth : Method) (c : Code) (A : Nat → Prop), xC p s m args meth c D K A y.cls cc maxL ret → zE aK aV A s s.heap → X p l e (xR fr lo) s m args below meth c D A maxL (xQi below D K A args s r0 w0) 0 0 0 loc [] w0) : CIe l D K aK aV y cc maxL ret fr lo av w0 r0 := by
  intro sz
  refine Met.ofW (cc := cc) (maxL := maxL) (ret := ret) hy rfl ?_
  intro p e s m args below meth c s₁ B hml hv
  obtain ⟨rfl, ⟨hsz, hP, hK, hD0, hZ0⟩, hE0⟩ := hv
  have hts := atoms_spec (ws := xW y cc maxL ret) B.pre
  subst hsz
  subst hloc
  have hD := hD0.self (sz := s.heap.size)
  have hl := lv_entry av (n := maxL) hav
  rw [lg_entry_eq]
  exact body p e s m _ below meth c (va_A w0 s.heap.size) ⟨B.exec, B.bytes, hml, findClass_of_methodNamed B.named, fun w hw => hts w (List.mem_cons_of_mem _ hw), hK, B.returns, B.notSynchronized, fun q h => Or.inr h, hZ0⟩ hE0 s.heap [] _ hP hD va_S.rf hl
section XStr
variable {p : Program} {l : Launch} {e : Env} {R : Room} {s : State} {m : MethodId} {args : Array Value} {below : List Frame} {meth : Method} {c : Code} {D : va_G} {K : Nat → ClassId} {A : Nat → Prop} {own : String} {cc : ByteArray} {nL : Nat} {ret : Option FieldType} {Q : State → Prop} {k n pc : Nat} {loc : List (Nat × Value)} {st : List Value} {ws : va_W}
theorem x_callVIe (C : xC p s m args meth c D K A own cc nL ret) {aK aV : Nat → Nat} {idx maxL1 n1 fr lo : Nat} {y : MethodName} {bytes : ByteArray} {ret1 : Option FieldType} {As rest : List Value} {r0 : Int32} (hE : zE aK aV A s s.heap) (hd : decode cc pc = .ok (.invokevirtual idx, 3)) (hm : xMV own idx y bytes maxL1 ret1 n1) (hno : ∀ host : String, Cond.methodLinkNest own idx y host ∉ xTN) (hyc : y.cls = "java/lang/String") (hn : As.length = n1) (hst : st = As.reverse ++ .ref (aK 0) :: rest) (hcat : (rest.map fun v => v.category).sum ≤ 8) (hroom : fr + 1 ≤ R.frames ∧ 8 + (maxL1 + 11) + lo ≤ R.locals) (hcs : k ≤ R.cells ∧ n ≤ R.slots) (hM : CIe l D K aK aV y bytes maxL1 ret1 fr lo (.ref (aK 0) :: As) ws r0) (h : X p l e R s m args below meth c D A nL Q k n (pc + 3) loc (.int r0 :: rest) ws) : X p l e R s m args below meth c D A nL Q k n pc loc st ws := by
  subst hst
  intro H locs ls hP hD hS hl
  have hfree := va_A_sub hD hS C.2.2.2.2.2.2.2.2.1
  have hZ : zS (va_A ws H.size) s H := (C.2.2.2.2.2.2.2.2.2.kept hS.2.1).narrow hfree
  have hE2 : zE aK aV (va_A ws H.size) s H := (vk_S.kept hE hS.2.1).narrow hfree
  have hK := C.2.2.2.2.2.1
  have hts := C.2.2.2.2.1
  obtain ⟨⟨hlk, hin, hco, hne, hdesc⟩, hinst, hsel⟩ := hm
  have hpar : ∀ sig, parseMethodDescriptor y.desc = some sig → n1 = sig.parameters.length := fun sig hs => by
    rw [hs] at hdesc
    exact (Option.some.inj hdesc).symm
  rcases hlk with hlk | ⟨host, hlk⟩
  · have hrun : va_Run p l e R s m args below meth c H locs k n 0 0 (F0 m pc ls (As.reverse ++ .ref (aK 0) :: rest)) rest ((va_Qi (fun (r : Int32) (_ : Unit) => r = r0) (fun _ t => xB D K ws (va_A ws H.size) t) (va_A ws H.size)) ((.ref (aK 0) :: As)).toArray) (va_A ws H.size) := va_runV (C := y.cls) (Ts := xT) ⟨C.1, C.2.1, C.2.2.1, C.2.2.2.1, hts⟩ (hM H.size) ⟨⟨rfl, rfl, hroom.1, hroom.2, pay_in hts (xW_good hco), List.mem_cons_self, hts _ hco, hts _ hin, hne, hpar, hts _ hlk⟩, hts _ hinst, hts _ hsel⟩ ⟨zE_blind, (by rw [hyc]; exact vk_recv hE (by decide) hS), fun U hU hW => ⟨rfl, ⟨by rw [hU], by rw [hU]; exact hP, va_K.moved hW.alike hK, hD.weaken (fun _ _ _ _ => trivial), by rw [hU]; exact hZ.warm hW⟩, by rw [hU]; exact vk_S.moved hW.alike hE2⟩⟩ rfl hn hl.1 rfl (lv_room hcat) hd hcs
    refine va_calli hrun hS (fun q _ h => hfree q h) hfree (fun r u t H1 locs1 ht hvm hw hB hz1 hk1 hS1 => ?_)
    obtain ⟨hP1, hK1, hD1⟩ := hB
    rw [ht] at hP1
    subst hw
    exact h H1 locs1 ls hP1 (hD1.weaken (fun _ q _ hq9 => hfree q.1 hq9)) hS1 hl
  · exact absurd hlk (hno host)
theorem x_callSIe (C : xC p s m args meth c D K A own cc nL ret) {aK aV : Nat → Nat} {idx maxL1 n1 fr lo : Nat} {y : MethodName} {bytes : ByteArray} {ret1 : Option FieldType} {As rest : List Value} {r0 : Int32} (hE : zE aK aV A s s.heap) (hd : decode cc pc = .ok (.invokestatic idx, 3)) (hm : xMS own idx y bytes maxL1 ret1 n1) (hno : ∀ host : String, Cond.methodLinkNest own idx y host ∉ xTN) (hn : As.length = n1) (hst : st = As.reverse ++ rest) (hcat : (rest.map fun v => v.category).sum ≤ 8) (hroom : fr + 1 ≤ R.frames ∧ 8 + (maxL1 + 11) + lo ≤ R.locals) (hcs : k ≤ R.cells ∧ n ≤ R.slots) (hM : CIe l D K aK aV y bytes maxL1 ret1 fr lo As ws r0) (h : X p l e R s m args below meth c D A nL Q k n (pc + 3) loc (.int r0 :: rest) ws) : X p l e R s m args below meth c D A nL Q k n pc loc st ws := by
  subst hst
  intro H locs ls hP hD hS hl
  have hfree := va_A_sub hD hS C.2.2.2.2.2.2.2.2.1
  have hZ : zS (va_A ws H.size) s H := (C.2.2.2.2.2.2.2.2.2.kept hS.2.1).narrow hfree
  have hE2 : zE aK aV (va_A ws H.size) s H := (vk_S.kept hE hS.2.1).narrow hfree
  have hK := C.2.2.2.2.2.1
  have hts := C.2.2.2.2.1
  obtain ⟨⟨hlk, hin, hco, hne, hdesc⟩, hstat⟩ := hm
  have hpar : ∀ sig, parseMethodDescriptor y.desc = some sig → n1 = sig.parameters.length := fun sig hs => by
    rw [hs] at hdesc
    exact (Option.some.inj hdesc).symm
  rcases hlk with hlk | ⟨host, hlk⟩
  · have hrun : va_Run p l e R s m args below meth c H locs k n 0 0 (F0 m pc ls (As.reverse ++ rest)) rest ((va_Qi (fun (r : Int32) (_ : Unit) => r = r0) (fun _ t => xB D K ws (va_A ws H.size) t) (va_A ws H.size)) (As).toArray) (va_A ws H.size) := va_runS (Ts := xT) ⟨C.1, C.2.1, C.2.2.1, C.2.2.2.1, hts⟩ (hM H.size) ⟨⟨rfl, rfl, hroom.1, hroom.2, pay_in hts (xW_good hco), List.mem_cons_self, hts _ hco, hts _ hin, hne, hpar, hts _ hlk⟩, hts _ hstat⟩ ⟨zE_blind, fun U hU hW => ⟨rfl, ⟨by rw [hU], by rw [hU]; exact hP, va_K.moved hW.alike hK, hD.weaken (fun _ _ _ _ => trivial), by rw [hU]; exact hZ.warm hW⟩, by rw [hU]; exact vk_S.moved hW.alike hE2⟩⟩ rfl hn hl.1 rfl (lv_room hcat) hd hcs
    refine va_calli hrun hS (fun q _ h => hfree q h) hfree (fun r u t H1 locs1 ht hvm hw hB hz1 hk1 hS1 => ?_)
    obtain ⟨hP1, hK1, hD1⟩ := hB
    rw [ht] at hP1
    subst hw
    exact h H1 locs1 ls hP1 (hD1.weaken (fun _ q _ hq9 => hfree q.1 hq9)) hS1 hl
  · exact absurd hlk (hno host)
theorem x_getStr (C : xC p s m args meth c D K A own cc nL ret) {aK aV : Nat → Nat} {idx : Nat} {nm dd : String} {v : Value} {q : Nat} (hd : decode cc pc = .ok (.getfield idx, 3)) (hE : va_OF "java/lang/String" nm dd v q A s s.heap) (hlk : Cond.fieldLink own idx "java/lang/String" nm dd ∈ xT) (h : X p l e R s m args below meth c D A nL Q k n (pc + 3) loc (v :: st) ws) : X p l e R s m args below meth c D A nL Q k n pc loc (.ref q :: st) ws :=
  fun H locs ls hP hD hS hl => vk_getf C.1 C.2.1 hE hS C.2.2.2.1 (C.2.2.2.2.1 _ hlk) (fun _ h => h) hd (h H locs ls hP hD hS hl)
theorem x_gets (C : xC p s m args meth c D K A own cc nL ret) {idx : Nat} {cn nm dd : String} {v : Value} (hd : decode cc pc = .ok (.getstatic idx, 3)) (hZ : va_Z cn nm dd v A s s.heap) (hlk : Cond.fieldLink own idx cn nm dd ∈ xT) (h : X p l e R s m args below meth c D A nL Q k n (pc + 3) loc (v :: st) ws) : X p l e R s m args below meth c D A nL Q k n pc loc st ws :=
  fun H locs ls hP hD hS hl => va_gets C.1 C.2.1 hZ hS C.2.2.2.1 (C.2.2.2.2.1 _ hlk) (fun _ h => h) hd (h H locs ls hP hD hS hl)
theorem x_tlen (C : xC p s m args meth c D K A own cc nL ret) {t N : Nat} {f : Nat → Value} {ty : FieldType} (v : Int32) (hT : va_T ty t N f A s s.heap) (hd : decode cc pc = .ok (.arraylength, 1)) (hv : Int32.ofNat N = v) (h : X p l e R s m args below meth c D A nL Q k n (pc + 1) loc (.int v :: st) ws) : X p l e R s m args below meth c D A nL Q k n pc loc (.ref t :: st) ws :=
  fun H locs ls hP hD hS hl => va_tlen C.1 C.2.1 hT hS hv hd (h H locs ls hP hD hS hl)
theorem x_tb (C : xC p s m args meth c D K A own cc nL ret) {t N : Nat} {f : Nat → Value} {i : Int32} {v : Value} (hT : va_T .byte t N f A s s.heap) (hd : decode cc pc = .ok (.baload, 1)) (hin : vp_in i N) (hv : f i.toNatClampNeg = v) (h : X p l e R s m args below meth c D A nL Q k n (pc + 1) loc (v :: st) ws) : X p l e R s m args below meth c D A nL Q k n pc loc (.int i :: .ref t :: st) ws :=
  fun H locs ls hP hD hS hl => va_tb C.1 C.2.1 hT hS hin hv hd (h H locs ls hP hD hS hl)
theorem x_i2c (C : xC p s m args meth c D K A own cc nL ret) {x : Int32} (v : Int32) (hd : decode cc pc = .ok (.i2c, 1)) (hv : (x.toUInt32 % 65536).toInt32 = v) (h : X p l e R s m args below meth c D A nL Q k n (pc + 1) loc (.int v :: st) ws) : X p l e R s m args below meth c D A nL Q k n pc loc (.int x :: st) ws :=
  fun H locs ls hP hD hS hl => lv_i2c C.1 C.2.1 hd hv (h H locs ls hP hD hS hl)
theorem x_ldcS (C : xC p s m args meth c D K A own cc nL ret) {idx q : Nat} {tx : String} (hd : decode cc pc = .ok (.ldc idx, 2)) (hR : vk_R own idx tx q s) (h : X p l e R s m args below meth c D A nL Q k n (pc + 2) loc (.ref q :: st) ws) : X p l e R s m args below meth c D A nL Q k n pc loc st ws :=
  fun H locs ls hP hD hS hl => va_ldcS C.1 C.2.1 C.2.2.2.1 hR hd (h H locs ls hP hD hS hl)
theorem x_cret (C : xC p s m args meth c D K A own cc nL ret) {v r0 : Int32} {w1 : va_W} (hd : decode cc pc = .ok (.ireturn, 1)) (hr : ret = some .char) (hz : narrow .char (.int v) = .int v) (hv : v = r0) (hw : ws = w1) : X p l e R s m args below meth c D A nL (xQi below D K A args s r0 w1) 0 0 pc loc (.int v :: []) ws := by
  subst hv; subst hw
  have hlocks : meth.locks = false := C.2.2.2.2.2.2.2.1
  exact fun H locs ls hP hD hS hl => W.zret C.1 C.2.1 (C.2.2.2.2.2.2.1.trans hr) hz (fun t ht hW => ⟨⟨v, (), rfl, rfl, by rw [ht]; exact hP, va_K.moved hW.alike C.2.2.2.2.2.1, hD⟩, hS.F ht⟩) hS.2.2 hd hlocks
theorem x_aload_any (C : xC p s m args meth c D K A own cc nL ret) {j : Fin 4} {f : Option Nat} (q i : Nat) (hd : decode cc pc = .ok (.aload_n j, 1)) (hj : (j : Nat) = i) (hq : loc[q]? = some (i, va_rf f)) (h : X p l e R s m args below meth c D A nL Q k n (pc + 1) loc (va_rf f :: st) ws) : X p l e R s m args below meth c D A nL Q k n pc loc st ws := by
  cases f with
  | none => exact x_aload_nN C q i hd hj hq h
  | some a => exact x_aload_n C q i hd hj hq h
end XStr
/-- the nest links' own classes and names: none of the JDK's -/
def nestKey : Cond → Bool
  | .methodLinkNest own _ y _ => own != "java/lang/String" && y.cls != "java/lang/String"
  | _ => true
theorem nest_all : ∀ w ∈ xTN, nestKey w = true := List.all_eq_true.mp (by decide +kernel)
theorem noNestS (idx : Nat) (y : MethodName) (host : String) : Cond.methodLinkNest RJS idx y host ∉ xTN := fun h => by
  have h1 := nest_all _ h
  simp [nestKey, RJS] at h1
theorem noNestT (own : String) (idx : Nat) (host : String) : Cond.methodLinkNest own idx yJS_charAt host ∉ xTN := fun h => by
  have h1 := nest_all _ h
  simp [nestKey, yJS_charAt, RJS] at h1
theorem c_JP_checkIndex (l : Launch) (D : va_G) (K : Nat → ClassId) (ws : va_W) (i N : Int32) (f : Option Nat) (h1 : ¬ i < 0) (h2 : i < N) : CI l D K yJP_checkIndex cJP_checkIndex 3 (some .int) 0 0 [.int i, .int N, va_rf f] ws i ws := by
  refine x_enterI [(0, .int i), (1, .int N), (2, va_rf f)] pnJP (by cases f <;> exact Nat.le_of_ble_eq_true rfl) (by cases f <;> rfl) ?_
  intro p e s m args below meth c A C
  refine x_iload_n C 0 0 dJP_checkIndex_0 rfl rfl ?_
  refine x_if_lt C (fa := none) (fb := some ()) (z := ()) 9 dJP_checkIndex_1 (by decide) (if_neg h1) (fun h => by cases h) (fun _ => ?_)
  refine x_iload_n C 0 0 dJP_checkIndex_4 rfl rfl ?_
  refine x_iload_n C 1 1 dJP_checkIndex_5 rfl rfl ?_
  refine x_icmp_lt C (fa := some ()) (fb := none) (z := ()) 16 dJP_checkIndex_6 (by decide) (if_pos h2) (fun _ => ?_) (fun h => by cases h)
  refine x_iload_n C 0 0 dJP_checkIndex_16 rfl rfl ?_
  exact x_iret C dJP_checkIndex_17 rfl rfl rfl
theorem c_JS_checkIndex (l : Launch) (D : va_G) (K : Nat → ClassId) (ws : va_W) (i N : Int32) (h1 : ¬ i < 0) (h2 : i < N) : CV l D K yJS_checkIndex cJS_checkIndex 2 none 1 22 [.int i, .int N] ws ws := by
  refine x_enterV [(0, .int i), (1, .int N)] pnJS (Nat.le_of_ble_eq_true rfl) rfl ?_
  intro p e s m args below meth c A C
  refine x_iload_n C 0 0 dJS_checkIndex_0 rfl rfl ?_
  refine x_iload_n C 1 1 dJS_checkIndex_1 rfl rfl ?_
  have hq := C.2.2.2.2.2.2.2.2.2.2.2.2.2.2.1
  have key : ∀ f : Option Nat, va_Z "jdk/internal/util/Preconditions" "SIOOBE_FORMATTER" "Ljava/util/function/BiFunction;" (va_rf f) A s s.heap → X p l e (xR 1 22) s m args below meth c D A 2 (xQv below D K A args s ws) 0 0 2 [(0, .int i), (1, .int N)] [.int N, .int i] ws := by
    intro f hZ
    refine x_gets C dJS_checkIndex_2 hZ (xT_mem (List.mem_append_right _ (List.mem_of_getElem? (i := 544) (by decide +kernel))) (by decide +kernel)) ?_
    refine x_callSI C (wf := fun _ => ws) (As := [.int i, .int N, va_rf f]) (rest := []) (o := some (i, (default : xS))) (kf := fun _ _ => some ()) (z := ()) dJS_checkIndex_5 mj_RJS_1059 rfl rfl (Nat.le_of_ble_eq_true rfl) ⟨Nat.le_of_ble_eq_true rfl, Nat.le_of_ble_eq_true rfl⟩ ⟨Nat.zero_le _, Nat.zero_le _⟩ (fun q9 hq9 => by cases hq9; exact c_JP_checkIndex l D K ws i N f h1 h2) rfl (fun _ _ _ => ?_)
    refine x_pop C rfl dJS_checkIndex_8 ?_
    exact x_vret C dJS_checkIndex_9 rfl rfl
  rcases hq with hq | ⟨t, hq⟩
  · exact key none hq
  · exact key (some t) hq
theorem c_JS_isLatin1 (l : Launch) (D : va_G) (K : Nat → ClassId) (aK aV : Nat → Nat) (ws : va_W) : CIe l D K aK aV yJS_isLatin1 cJS_isLatin1 1 (some .boolean) 0 0 [.ref (aK 0)] ws 1 := by
  refine x_enterIe [(0, .ref (aK 0))] pnJS (Nat.le_of_ble_eq_true rfl) rfl ?_
  intro p e s m args below meth c A C hE
  refine x_gets C dJS_isLatin1_0 C.2.2.2.2.2.2.2.2.2.2.2.2.2.1 (xT_mem (List.mem_append_right _ (List.mem_of_getElem? (i := 536) (by decide +kernel))) (by decide +kernel)) ?_
  refine x_if_eq C (fa := none) (fb := some ()) (z := ()) 17 dJS_isLatin1_3 (by decide) (if_neg (by decide)) (fun h => by cases h) (fun _ => ?_)
  refine x_aload_n C 0 0 dJS_isLatin1_6 rfl rfl ?_
  refine x_getStr (aK := aK) (aV := aV) C dJS_isLatin1_7 (hE.1 0 (by decide)).2.1 (xT_mem (List.mem_append_right _ (List.mem_of_getElem? (i := 1722) (by decide +kernel))) (by decide +kernel)) ?_
  refine x_if_ne C (fa := none) (fb := some ()) (z := ()) 17 dJS_isLatin1_10 (by decide) (if_pos rfl) (fun h => by cases h) (fun _ => ?_)
  refine x_iconst C 1 dJS_isLatin1_13 (by decide +kernel) ?_
  refine x_goto C 18 dJS_isLatin1_14 (by decide) ?_
  exact x_zret C dJS_isLatin1_18 rfl (Or.inr rfl) rfl rfl
theorem wCh_all : ∀ j, j < 90 → (((wBy.getD j 0) &&& 255).toUInt32 % 65536).toInt32 = wCh j ∧ narrow .char (.int (wCh j)) = .int (wCh j) := by decide +kernel
theorem c_JL_charAt (l : Launch) (D : va_G) (K : Nat → ClassId) (aK aV : Nat → Nat) (ws : va_W) (i : Int32) (hi : vp_in i 90) : CIe l D K aK aV yJL_charAt cJL_charAt 2 (some .char) 2 43 [.ref (aV 0), .int i] ws (wCh i.toNatClampNeg) := by
  refine x_enterIe [(0, .ref (aV 0)), (1, .int i)] pnJL (Nat.le_of_ble_eq_true rfl) rfl ?_
  intro p e s m args below meth c A C hE
  have hT := (hE.1 0 (by decide)).2.2.2
  have hlt : i.toNatClampNeg < 90 := Nat.not_le.mp fun q => hi (Or.inr q)
  obtain ⟨j, hj, rfl⟩ := vp_in_of hi (by decide)
  refine x_iload_n C 1 1 dJL_charAt_0 rfl rfl ?_
  refine x_aload_n C 0 0 dJL_charAt_1 rfl rfl ?_
  refine x_tlen C (nI 90) hT dJL_charAt_2 rfl ?_
  refine x_callSV C (wf := fun _ => ws) (As := [.int (nI j), .int (nI 90)]) (rest := []) (o := some ((), (default : xS))) (kf := fun _ _ => some ()) (z := ()) dJL_charAt_3 mj_RJL_9 rfl rfl (Nat.le_of_ble_eq_true rfl) ⟨Nat.le_of_ble_eq_true rfl, Nat.le_of_ble_eq_true rfl⟩ ⟨Nat.zero_le _, Nat.zero_le _⟩ (fun q9 hq9 => c_JS_checkIndex l D K ws (nI j) (nI 90) (nI_pos (by omega)) (nI_lt hj (by decide))) rfl (fun _ _ _ => ?_)
  refine x_aload_n C 0 0 dJL_charAt_6 rfl rfl ?_
  refine x_iload_n C 1 1 dJL_charAt_7 rfl rfl ?_
  refine x_tb C hT dJL_charAt_8 hi rfl ?_
  refine x_sipush C 255 dJL_charAt_9 (by decide +kernel) ?_
  refine x_iand C dJL_charAt_12 ?_
  refine x_i2c C (wCh (nI j).toNatClampNeg) dJL_charAt_13 (wCh_all _ hlt).1 ?_
  exact x_cret C dJL_charAt_14 rfl (wCh_all _ hlt).2 rfl rfl
theorem c_JS_charAt (l : Launch) (D : va_G) (K : Nat → ClassId) (aK aV : Nat → Nat) (ws : va_W) (i : Int32) (hi : vp_in i 90) : CIe l D K aK aV yJS_charAt cJS_charAt 2 (some .char) 3 64 [.ref (aK 0), .int i] ws (wCh i.toNatClampNeg) := by
  refine x_enterIe [(0, .ref (aK 0)), (1, .int i)] pnJS (Nat.le_of_ble_eq_true rfl) rfl ?_
  intro p e s m args below meth c A C hE
  have hlt : i.toNatClampNeg < 90 := Nat.not_le.mp fun q => hi (Or.inr q)
  refine x_aload_n C 0 0 dJS_charAt_0 rfl rfl ?_
  refine x_callVIe C (As := []) (rest := []) hE dJS_charAt_1 mj_RJS_492 (by intro host h; exact noNestS _ _ _ h) rfl rfl rfl (Nat.le_of_ble_eq_true rfl) ⟨Nat.le_of_ble_eq_true rfl, Nat.le_of_ble_eq_true rfl⟩ ⟨Nat.zero_le _, Nat.zero_le _⟩ (c_JS_isLatin1 l D K aK aV ws) ?_
  refine x_if_eq C (fa := none) (fb := some ()) (z := ()) 16 dJS_charAt_4 (by decide) (if_neg (by decide)) (fun h => by cases h) (fun _ => ?_)
  refine x_aload_n C 0 0 dJS_charAt_7 rfl rfl ?_
  refine x_getStr (aK := aK) (aV := aV) C dJS_charAt_8 (hE.1 0 (by decide)).2.2.1 (xT_mem (List.mem_append_right _ (List.mem_of_getElem? (i := 1723) (by decide +kernel))) (by decide +kernel)) ?_
  refine x_iload_n C 1 1 dJS_charAt_11 rfl rfl ?_
  refine x_callSIe C (As := [.ref (aV 0), .int i]) (rest := []) hE dJS_charAt_12 mj_RJS_495 (by intro host h; exact noNestS _ _ _ h) rfl rfl (Nat.le_of_ble_eq_true rfl) ⟨Nat.le_of_ble_eq_true rfl, Nat.le_of_ble_eq_true rfl⟩ ⟨Nat.zero_le _, Nat.zero_le _⟩ (c_JL_charAt l D K aK aV ws i hi) ?_
  exact x_cret C dJS_charAt_15 rfl (wCh_all _ hlt).2 rfl rfl
theorem dX9_isWord_0 : decode cX9_isWord 0 = .ok (.iconst 0, 1) := by decide +kernel
theorem dX9_isWord_1 : decode cX9_isWord 1 = .ok (.istore 4, 2) := by decide +kernel
theorem dX9_isWord_3 : decode cX9_isWord 3 = .ok (.iload 4, 2) := by decide +kernel
theorem dX9_isWord_5 : decode cX9_isWord 5 = .ok (.iconst 5, 1) := by decide +kernel
theorem dX9_isWord_6 : decode cX9_isWord 6 = .ok (.if_icmp .ge 48, 3) := by decide +kernel
theorem dX9_isWord_9 : decode cX9_isWord 9 = .ok (.iload_n 2, 1) := by decide +kernel
theorem dX9_isWord_10 : decode cX9_isWord 10 = .ok (.iload 4, 2) := by decide +kernel
theorem dX9_isWord_12 : decode cX9_isWord 12 = .ok (.iadd, 1) := by decide +kernel
theorem dX9_isWord_13 : decode cX9_isWord 13 = .ok (.iload_n 3, 1) := by decide +kernel
theorem dX9_isWord_14 : decode cX9_isWord 14 = .ok (.if_icmp .ge 12, 3) := by decide +kernel
theorem dX9_isWord_17 : decode cX9_isWord 17 = .ok (.aload_n 1, 1) := by decide +kernel
theorem dX9_isWord_18 : decode cX9_isWord 18 = .ok (.iload_n 2, 1) := by decide +kernel
theorem dX9_isWord_19 : decode cX9_isWord 19 = .ok (.iload 4, 2) := by decide +kernel
theorem dX9_isWord_21 : decode cX9_isWord 21 = .ok (.iadd, 1) := by decide +kernel
theorem dX9_isWord_22 : decode cX9_isWord 22 = .ok (.iaload, 1) := by decide +kernel
theorem dX9_isWord_23 : decode cX9_isWord 23 = .ok (.goto 5, 3) := by decide +kernel
theorem dX9_isWord_26 : decode cX9_isWord 26 = .ok (.bipush 32, 2) := by decide +kernel
theorem dX9_isWord_28 : decode cX9_isWord 28 = .ok (.istore 5, 2) := by decide +kernel
theorem dX9_isWord_30 : decode cX9_isWord 30 = .ok (.iload 5, 2) := by decide +kernel
theorem dX9_isWord_32 : decode cX9_isWord 32 = .ok (.ldc 59, 2) := by decide +kernel
theorem dX9_isWord_34 : decode cX9_isWord 34 = .ok (.iload_n 0, 1) := by decide +kernel
theorem dX9_isWord_35 : decode cX9_isWord 35 = .ok (.iconst 5, 1) := by decide +kernel
theorem dX9_isWord_36 : decode cX9_isWord 36 = .ok (.imul, 1) := by decide +kernel
theorem dX9_isWord_37 : decode cX9_isWord 37 = .ok (.iload 4, 2) := by decide +kernel
theorem dX9_isWord_39 : decode cX9_isWord 39 = .ok (.iadd, 1) := by decide +kernel
theorem dX9_isWord_40 : decode cX9_isWord 40 = .ok (.invokevirtual 61, 3) := by decide +kernel
theorem dX9_isWord_43 : decode cX9_isWord 43 = .ok (.if_icmp .eq 5, 3) := by decide +kernel
theorem dX9_isWord_46 : decode cX9_isWord 46 = .ok (.iconst 0, 1) := by decide +kernel
theorem dX9_isWord_47 : decode cX9_isWord 47 = .ok (.ireturn, 1) := by decide +kernel
theorem dX9_isWord_48 : decode cX9_isWord 48 = .ok (.iinc 4 1, 3) := by decide +kernel
theorem dX9_isWord_51 : decode cX9_isWord 51 = .ok (.goto (-48), 3) := by decide +kernel
theorem dX9_isWord_54 : decode cX9_isWord 54 = .ok (.iconst 1, 1) := by decide +kernel
theorem dX9_isWord_55 : decode cX9_isWord 55 = .ok (.ireturn, 1) := by decide +kernel
theorem x_X9_isWord_tail {p : Program} {l : Launch} {e : Env} {s : State} {m : MethodId} {args : Array Value} {below : List Frame} {meth : Method} {c : Code} {D : va_G} {K : Nat → ClassId} {A : Nat → Prop} {ad la : Nat → Nat} {rest : va_W} (C : xC p s m args meth c D K A RX9 cX9_isWord 6 (some .boolean)) (z : Int32 × xS) (kk : Int32 → Int32 → Int32 → Int32 → xS → Option (Int32 × xS)) (ih : ∀ (y0 y2 y3 y4 : Int32) (σ : xS), kk y0 y2 y3 y4 σ = some z → X p l e (xR 6 150) s m args below meth c D A 6 (xQi below D K A args s z.1 (CW K ad la rest z.2)) 0 0 3 [(0, .int y0), (1, .ref (ad 3)), (2, .int y2), (3, .int y3), (4, .int y4)] [] (CW K ad la rest σ)) (y0 y2 y3 y4 y5 : Int32) (σ : xS) (hF : rd 90 wCh (y0 * 5 + y4) (fun v2 => if y5 = v2 then (nm (y4 + 1) fun x3 => kk y0 y2 y3 x3 σ) else (cz 0 (some (0, σ)))) = some z) : X p l e (xR 6 150) s m args below meth c D A 6 (xQi below D K A args s z.1 (CW K ad la rest z.2)) 0 0 30 [(5, .int y5), (0, .int y0), (1, .ref (ad 3)), (2, .int y2), (3, .int y3), (4, .int y4)] [] (CW K ad la rest σ) := by
  obtain ⟨hin, hF⟩ := rd_some hF
  obtain ⟨aK, aV, hR, hE, -⟩ := C.2.2.2.2.2.2.2.2.2.2.2.2.2.2.2
  refine x_iload C 0 5 dX9_isWord_30 rfl ?_
  refine x_ldcS C dX9_isWord_32 hR ?_
  refine x_iload_n C 1 0 dX9_isWord_34 rfl rfl ?_
  refine x_iconst C 5 dX9_isWord_35 (by decide +kernel) ?_
  refine x_imul C dX9_isWord_36 ?_
  refine x_iload C 5 4 dX9_isWord_37 rfl ?_
  refine x_iadd C dX9_isWord_39 ?_
  refine x_callVIe C (As := [.int (y0 * 5 + y4)]) (rest := [.int y5]) hE dX9_isWord_40 mj_X9_61 (by intro host h; exact noNestT _ _ _ h) rfl rfl rfl (Nat.le_of_ble_eq_true rfl) ⟨Nat.le_of_ble_eq_true rfl, Nat.le_of_ble_eq_true rfl⟩ ⟨Nat.zero_le _, Nat.zero_le _⟩ (c_JS_charAt l D K aK aV _ (y0 * 5 + y4) hin) ?_
  refine x_icmp_eq C 48 dX9_isWord_43 (by decide) hF (fun hF => ?_) (fun hF => ?_)
  · refine x_iincN C 1 5 (fun x => [(4, .int x), (5, .int y5), (0, .int y0), (1, .ref (ad 3)), (2, .int y2), (3, .int y3)]) dX9_isWord_48 rfl (by decide +kernel) (by decide) (fun _ => rfl) hF (fun x hF => ?_)
    refine x_goto C 3 dX9_isWord_51 (by decide) ?_
    refine x_loc [(0, .int y0), (1, .ref (ad 3)), (2, .int y2), (3, .int y3), (4, .int x)] [2, 3, 4, 5, 0] rfl ?_
    exact ih y0 y2 y3 x σ hF
  · refine x_iconst C 0 dX9_isWord_46 (by decide +kernel) ?_
    have hz := (cz_some hF).1
    replace hF := (cz_some hF).2
    exact x_zret C dX9_isWord_47 rfl hz (congrArg Prod.fst (Option.some.inj hF)) (congrArg (fun q9 : Int32 × xS => CW K ad la rest q9.2) (Option.some.inj hF))
theorem x_X9_isWord_loop {p : Program} {l : Launch} {e : Env} {s : State} {m : MethodId} {args : Array Value} {below : List Frame} {meth : Method} {c : Code} {D : va_G} {K : Nat → ClassId} {A : Nat → Prop} {ad la : Nat → Nat} {rest : va_W} (C : xC p s m args meth c D K A RX9 cX9_isWord 6 (some .boolean)) (z : Int32 × xS) : ∀ (n : Nat) (y0 y2 y3 y4 : Int32) (σ : xS), F_X9_isWord_2 n y0 y2 y3 y4 σ = some z → X p l e (xR 6 150) s m args below meth c D A 6 (xQi below D K A args s z.1 (CW K ad la rest z.2)) 0 0 3 [(0, .int y0), (1, .ref (ad 3)), (2, .int y2), (3, .int y3), (4, .int y4)] [] (CW K ad la rest σ) := by
  intro n
  induction n with
  | zero =>
    intro y0 y2 y3 y4 σ hF
    cases hF
  | succ n ih =>
    intro y0 y2 y3 y4 σ hF
    rw [F_X9_isWord_2] at hF
    refine x_iload C 4 4 dX9_isWord_3 rfl ?_
    refine x_iconst C 5 dX9_isWord_5 (by decide +kernel) ?_
    refine x_icmp_ge C 54 dX9_isWord_6 (by decide) hF (fun hF => ?_) (fun hF => ?_)
    · refine x_iconst C 1 dX9_isWord_54 (by decide +kernel) ?_
      have hz := (cz_some hF).1
      replace hF := (cz_some hF).2
      exact x_zret C dX9_isWord_55 rfl hz (congrArg Prod.fst (Option.some.inj hF)) (congrArg (fun q9 : Int32 × xS => CW K ad la rest q9.2) (Option.some.inj hF))
    · refine x_iload_n C 2 2 dX9_isWord_9 rfl rfl ?_
      refine x_iload C 4 4 dX9_isWord_10 rfl ?_
      refine x_iadd C dX9_isWord_12 ?_
      refine x_iload_n C 3 3 dX9_isWord_13 rfl rfl ?_
      refine x_icmp_ge C 26 dX9_isWord_14 (by decide) hF (fun hF => ?_) (fun hF => ?_)
      · refine x_bipush C 32 dX9_isWord_26 (by decide +kernel) ?_
        refine x_istore C [(5, .int 32), (0, .int y0), (1, .ref (ad 3)), (2, .int y2), (3, .int y3), (4, .int y4)] dX9_isWord_28 (by decide) rfl ?_
        exact x_X9_isWord_tail C z (F_X9_isWord_2 n) ih y0 y2 y3 y4 32 σ hF
      · refine x_aload_n C 1 1 dX9_isWord_17 rfl rfl ?_
        refine x_iload_n C 2 2 dX9_isWord_18 rfl rfl ?_
        refine x_iload C 4 4 dX9_isWord_19 rfl ?_
        refine x_iadd C dX9_isWord_21 ?_
        refine x_iald C 3 dX9_isWord_22 (CW_3 K ad la rest σ) hF (fun v hF => ?_)
        refine x_goto C 28 dX9_isWord_23 (by decide) ?_
        refine x_istore C [(5, .int v), (0, .int y0), (1, .ref (ad 3)), (2, .int y2), (3, .int y3), (4, .int y4)] dX9_isWord_28 (by decide) rfl ?_
        exact x_X9_isWord_tail C z (F_X9_isWord_2 n) ih y0 y2 y3 y4 v σ hF
theorem c_X9_isWord (l : Launch) (D : va_G) (K : Nat → ClassId) (ad la : Nat → Nat) (rest : va_W) (a1 a3 a4 : Int32) (σ : xS) (z : Int32 × xS) (hF : F_X9_isWord a1 a3 a4 σ = some z) : CI l D K yX9_isWord cX9_isWord 6 (some .boolean) 6 150 [.int a1, .ref (ad 3), .int a3, .int a4] (CW K ad la rest σ) z.1 (CW K ad la rest z.2) := by
  refine x_enterI [(0, .int a1), (1, .ref (ad 3)), (2, .int a3), (3, .int a4)] pnX9 (Nat.le_of_ble_eq_true rfl) rfl ?_
  intro p e s m args below meth c A C
  refine x_iconst C 0 dX9_isWord_0 (by decide +kernel) ?_
  refine x_istore C [(4, .int 0), (0, .int a1), (1, .ref (ad 3)), (2, .int a3), (3, .int a4)] dX9_isWord_1 (by decide) rfl ?_
  refine x_loc [(0, .int a1), (1, .ref (ad 3)), (2, .int a3), (3, .int a4), (4, .int 0)] [1, 2, 3, 4, 0] rfl ?_
  exact x_X9_isWord_loop C z FU a1 a3 a4 0 σ hF
