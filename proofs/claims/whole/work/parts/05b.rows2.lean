/-- a Law by its number in the pool, or null -/
def mo {β : Type} (v : Option Nat) (a : Option β) (b : Nat → Option β) : Option β := match v with
  | none => a
  | some i => b i
theorem mo_none {β : Type} (a : Option β) (b : Nat → Option β) : mo none a b = a := rfl
theorem mo_some {β : Type} (i : Nat) (a : Option β) (b : Nat → Option β) : mo (some i) a b = b i := rfl
def lw {β : Type} (σ : xS) (i : Nat) (k : xP → Option β) : Option β := match (sP σ)[i]? with
  | none => none
  | some p => k p
theorem lw_some {β : Type} {σ : xS} {i : Nat} {k : xP → Option β} {z : β} (h : lw σ i k = some z) : ∃ p, (sP σ)[i]? = some p ∧ k p = some z := by
  unfold lw at h
  cases hp : (sP σ)[i]? with
  | none => rw [hp] at h; cases h
  | some p => rw [hp] at h; exact ⟨p, rfl, h⟩
/-- System.arraycopy: the copy's bounds -/
def cp {β : Type} (n0 n1 : Nat) (sp dp n : Int32) (k : Option β) : Option β := if sp < 0 ∨ dp < 0 ∨ n < 0 ∨ n0 < sp.toNatClampNeg + n.toNatClampNeg ∨ n1 < dp.toNatClampNeg + n.toNatClampNeg then none else k
theorem cp_some {β : Type} {n0 n1 : Nat} {sp dp n : Int32} {k : Option β} {z : β} (h : cp n0 n1 sp dp n k = some z) : ¬ sp < 0 ∧ ¬ dp < 0 ∧ ¬ n < 0 ∧ sp.toNatClampNeg + n.toNatClampNeg ≤ n0 ∧ dp.toNatClampNeg + n.toNatClampNeg ≤ n1 ∧ k = some z := by
  unfold cp at h
  split at h
  · cases h
  · rename_i hn
    exact ⟨fun q => hn (Or.inl q), fun q => hn (Or.inr (Or.inl q)), fun q => hn (Or.inr (Or.inr (Or.inl q))), Nat.not_lt.mp fun q => hn (Or.inr (Or.inr (Or.inr (Or.inl q)))), Nat.not_lt.mp fun q => hn (Or.inr (Or.inr (Or.inr (Or.inr q)))), h⟩
def mnI (a b : Int32) : Int32 := if b < a then b else a
def mxI (a b : Int32) : Int32 := if a < b then b else a
def mnL (a b : Int64) : Int64 := if b < a then b else a
def mxL (a b : Int64) : Int64 := if b < a then a else b
section XR3
variable {p : Program} {l : Launch} {e : Env} {R : Room} {s : State} {m : MethodId} {args : Array Value} {below : List Frame} {meth : Method} {c : Code} {D : va_G} {K : Nat → ClassId} {A : Nat → Prop} {own : String} {cc : ByteArray} {nL : Nat} {ret : Option FieldType} {Q : State → Prop} {k n pc : Nat} {loc : List (Nat × Value)} {st : List Value} {ws : va_W}
theorem x_mmin (C : xC p s m args meth c D K A own cc nL ret) {idx : Nat} {a b : Int32} (hd : decode cc pc = .ok (.invokestatic idx, 3)) (hw : Cond.methodLink own idx Lib.Math.min.name ∈ xT) (hw2 : Cond.static Lib.Math.min.name ∈ xT ∧ Cond.initialized "java/lang/Math" ∈ xT ∧ Cond.code Lib.Math.min.name Lib.Math.min.code 2 (some .int) ∈ xT) (hroom : 1 ≤ R.frames ∧ (st.map fun v => v.category).sum + 13 ≤ R.locals) (hcs : k ≤ R.cells ∧ n ≤ R.slots) (h : X p l e R s m args below meth c D A nL Q k n (pc + 3) loc (.int (mnI a b) :: st) ws) : X p l e R s m args below meth c D A nL Q k n pc loc (.int b :: .int a :: st) ws :=
  fun H locs ls hP hD hS hl => va_mmin C.1 C.2.1 (C.2.2.1.trans hl.1.symm) C.2.2.2.1 (C.2.2.2.2.1 _ hw) (C.2.2.2.2.1 _ hw2.1) (C.2.2.2.2.1 _ hw2.2.1) (C.2.2.2.2.1 _ hw2.2.2) hroom.1 hroom.2 hcs.1 hcs.2 hd (h H locs ls hP hD hS hl)
theorem x_mmax (C : xC p s m args meth c D K A own cc nL ret) {idx : Nat} {a b : Int32} (hd : decode cc pc = .ok (.invokestatic idx, 3)) (hw : Cond.methodLink own idx Lib.Math.max.name ∈ xT) (hw2 : Cond.static Lib.Math.max.name ∈ xT ∧ Cond.initialized "java/lang/Math" ∈ xT ∧ Cond.code Lib.Math.max.name Lib.Math.max.code 2 (some .int) ∈ xT) (hroom : 1 ≤ R.frames ∧ (st.map fun v => v.category).sum + 13 ≤ R.locals) (hcs : k ≤ R.cells ∧ n ≤ R.slots) (h : X p l e R s m args below meth c D A nL Q k n (pc + 3) loc (.int (mxI a b) :: st) ws) : X p l e R s m args below meth c D A nL Q k n pc loc (.int b :: .int a :: st) ws :=
  fun H locs ls hP hD hS hl => va_mmax C.1 C.2.1 (C.2.2.1.trans hl.1.symm) C.2.2.2.1 (C.2.2.2.2.1 _ hw) (C.2.2.2.2.1 _ hw2.1) (C.2.2.2.2.1 _ hw2.2.1) (C.2.2.2.2.1 _ hw2.2.2) hroom.1 hroom.2 hcs.1 hcs.2 hd (h H locs ls hP hD hS hl)
theorem x_mminl (C : xC p s m args meth c D K A own cc nL ret) {idx : Nat} {a b : Int64} (hd : decode cc pc = .ok (.invokestatic idx, 3)) (hw : Cond.methodLink own idx Lib.MathLoose.min_long.x ∈ xT) (hw2 : Cond.static Lib.MathLoose.min_long.x ∈ xT ∧ Cond.initialized "java/lang/Math" ∈ xT ∧ Cond.code Lib.MathLoose.min_long.x Lib.MathLoose.min_long.code 4 (some .long) ∈ xT) (hroom : 1 ≤ R.frames ∧ (st.map fun v => v.category).sum + 15 ≤ R.locals) (hcs : k ≤ R.cells ∧ n ≤ R.slots) (h : X p l e R s m args below meth c D A nL Q k n (pc + 3) loc (.long (mnL a b) :: st) ws) : X p l e R s m args below meth c D A nL Q k n pc loc (.long b :: .long a :: st) ws :=
  fun H locs ls hP hD hS hl => va_mmin_long C.1 C.2.1 (C.2.2.1.trans hl.1.symm) C.2.2.2.1 (C.2.2.2.2.1 _ hw) (C.2.2.2.2.1 _ hw2.1) (C.2.2.2.2.1 _ hw2.2.1) (C.2.2.2.2.1 _ hw2.2.2) hroom.1 hroom.2 hcs.1 hcs.2 hd (h H locs ls hP hD hS hl)
theorem x_mmaxl (C : xC p s m args meth c D K A own cc nL ret) {idx : Nat} {a b : Int64} (hd : decode cc pc = .ok (.invokestatic idx, 3)) (hw : Cond.methodLink own idx Lib.MathLoose.max_long.x ∈ xT) (hw2 : Cond.static Lib.MathLoose.max_long.x ∈ xT ∧ Cond.initialized "java/lang/Math" ∈ xT ∧ Cond.code Lib.MathLoose.max_long.x Lib.MathLoose.max_long.code 4 (some .long) ∈ xT) (hroom : 1 ≤ R.frames ∧ (st.map fun v => v.category).sum + 15 ≤ R.locals) (hcs : k ≤ R.cells ∧ n ≤ R.slots) (h : X p l e R s m args below meth c D A nL Q k n (pc + 3) loc (.long (mxL a b) :: st) ws) : X p l e R s m args below meth c D A nL Q k n pc loc (.long b :: .long a :: st) ws :=
  fun H locs ls hP hD hS hl => va_mmax_long C.1 C.2.1 (C.2.2.1.trans hl.1.symm) C.2.2.2.1 (C.2.2.2.2.1 _ hw) (C.2.2.2.2.1 _ hw2.1) (C.2.2.2.2.1 _ hw2.2.1) (C.2.2.2.2.1 _ hw2.2.2) hroom.1 hroom.2 hcs.1 hcs.2 hd (h H locs ls hP hD hS hl)
theorem x_copyi {α : Type} (C : xC p s m args meth c D K A own cc nL ret) {idx a0 a1 n0 n1 : Nat} {f g : Nat → Int32} {sp dp nn : Int32} {kf : Option α} {z : α} {ws' : va_W} (q0 q1 : Nat) (hd : decode cc pc = .ok (.invokestatic idx, 3)) (hw : Cond.methodLink own idx arraycopyName ∈ xT) (hw2 : Cond.native arraycopyName ∈ xT ∧ Cond.static arraycopyName ∈ xT ∧ Cond.initialized "java/lang/System" ∈ xT) (hroom : 1 ≤ R.frames ∧ (st.map fun v => v.category).sum + (nativeFrameWords "java/lang/System" "arraycopy" 5 + 11) ≤ R.locals) (hq0 : ws[q0]? = some (a0, .inl (K 0, (n0, .inl f)))) (hq1 : ws[q1]? = some (a1, .inl (K 0, (n1, .inl g)))) (hF : cp n0 n1 sp dp nn kf = some z) (hw' : ws.set q1 (a1, .inl (K 0, (n1, .inl (va_cpy f g sp.toNatClampNeg dp.toNatClampNeg nn.toNatClampNeg)))) = ws') (h : kf = some z → X p l e R s m args below meth c D A nL Q k n (pc + 3) loc st ws') : X p l e R s m args below meth c D A nL Q k n pc loc (.int nn :: .int dp :: .ref a1 :: .int sp :: .ref a0 :: st) ws := by
  subst hw'
  obtain ⟨h1, h2, h3, h4, h5, h6⟩ := cp_some hF
  exact fun H locs ls hP hD hS hl => va_copyi C.1 C.2.1 (C.2.2.1.trans hl.1.symm) C.2.2.2.1 (C.2.2.2.2.1 _ hw) (C.2.2.2.2.1 _ hw2.1) (C.2.2.2.2.1 _ hw2.2.1) (C.2.2.2.2.1 _ hw2.2.2) C.2.2.2.2.2.1 hP hD hS q0 q1 0 0 hq0 hq1 rfl rfl rfl h1 h2 h3 h4 h5 (fun _ _ => rfl) hroom.1 hroom.2 hd (fun H1 locs1 hP1 hD1 hS1 => h h6 H1 locs1 ls hP1 hD1 hS1 hl)
theorem x_aald {α : Type} (C : xC p s m args meth c D K A own cc nL ret) {a N t0 : Nat} {cA : ClassId} {ty : FieldType} {f : Nat → Option Nat} {i : Int32} {kf : Option α} {z : α} (q : Nat) (hd : decode cc pc = .ok (.aaload, 1)) (hq : ws[q]? = some (a, .inl (cA, (N, .inr (.inr (.inr (.inr f))))))) (ht : (xTys K)[t0]? = some (cA, ty)) (hty : ty.isReference = true) (hF : ck N i kf = some z) (h : kf = some z → i.toNatClampNeg < N → X p l e R s m args below meth c D A nL Q k n (pc + 1) loc (va_rf (f i.toNatClampNeg) :: st) ws) : X p l e R s m args below meth c D A nL Q k n pc loc (.int i :: .ref a :: st) ws := by
  intro H locs ls hP hD hS hl
  have hin := (ck_some hF).1
  have hlt : i.toNatClampNeg < N := Nat.not_le.mp fun q => hin (Or.inr q)
  exact W.aald (v := va_rf (f i.toNatClampNeg)) (ty := ty) C.1 C.2.1 (hP q _ hq) ((C.2.2.2.2.2.1.2 t0 _ ht).1 N (fun j => va_rf (f j))) hty (fun q => by cases q) (by show ¬ (i < 0 ∨ (arrV _ _ _).slots.size ≤ _); rw [arrV_size]; exact hin) (by show (arrV _ _ _).slots[_]? = _; rw [arrV_read _ _ hlt]) rfl rfl hd (h (ck_some hF).2 hlt H locs ls hP hD hS hl)
theorem x_ifnnS (C : xC p s m args meth c D K A own cc nL ret) {x : Nat} {off : Int} (tgt : Nat) (hd : decode cc pc = .ok (.ifnonnull off, 3)) (ht : (pc : Int) + off = (tgt : Int)) (h : X p l e R s m args below meth c D A nL Q k n tgt loc st ws) : X p l e R s m args below meth c D A nL Q k n pc loc (.ref x :: st) ws :=
  fun H locs ls hP hD hS hl => lv_ifnonnull C.1 C.2.1 hd ht (h H locs ls hP hD hS hl)
theorem x_ifnnN (C : xC p s m args meth c D K A own cc nL ret) {off : Int} (hd : decode cc pc = .ok (.ifnonnull off, 3)) (h : X p l e R s m args below meth c D A nL Q k n (pc + 3) loc st ws) : X p l e R s m args below meth c D A nL Q k n pc loc (.null :: st) ws :=
  fun H locs ls hP hD hS hl => lv_ifnonnullN C.1 C.2.1 hd (h H locs ls hP hD hS hl)
theorem x_null (C : xC p s m args meth c D K A own cc nL ret) (hd : decode cc pc = .ok (.aconst_null, 1)) (h : X p l e R s m args below meth c D A nL Q k n (pc + 1) loc (.null :: st) ws) : X p l e R s m args below meth c D A nL Q k n pc loc st ws :=
  fun H locs ls hP hD hS hl => lv_null C.1 C.2.1 hd (h H locs ls hP hD hS hl)
theorem x_tabZ (C : xC p s m args meth c D K A own cc nL ret) {idx : Nat} {nm : String} {N : Nat} {f : Nat → Int32} (hz : zTab nm N f A s s.heap) (hd : decode cc pc = .ok (.getstatic idx, 3)) (hlk : Cond.fieldLink own idx "PencilPrice" nm "[I" ∈ xT) (h : ∀ t : Nat, va_T .int t N (fun j => .int (f j)) A s s.heap → X p l e R s m args below meth c D A nL Q k n (pc + 3) loc (.ref t :: st) ws) : X p l e R s m args below meth c D A nL Q k n pc loc st ws := by
  obtain ⟨t, h1, h2⟩ := hz
  exact fun H locs ls hP hD hS hl => va_gets C.1 C.2.1 h1 hS C.2.2.2.1 (C.2.2.2.2.1 _ hlk) (fun _ h => h) hd (h t h2 H locs ls hP hD hS hl)
theorem x_tabI {α : Type} (C : xC p s m args meth c D K A own cc nL ret) {t N : Nat} {f : Nat → Int32} {i : Int32} {kf : Int32 → Option α} {z : α} (hT : va_T .int t N (fun j => .int (f j)) A s s.heap) (hd : decode cc pc = .ok (.iaload, 1)) (hF : rd N f i kf = some z) (h : ∀ v : Int32, kf v = some z → X p l e R s m args below meth c D A nL Q k n (pc + 1) loc (.int v :: st) ws) : X p l e R s m args below meth c D A nL Q k n pc loc (.int i :: .ref t :: st) ws :=
  fun H locs ls hP hD hS hl => va_ti C.1 C.2.1 hT hS (rd_some hF).1 rfl hd (h _ (rd_some hF).2 H locs ls hP hD hS hl)
theorem x_if_cast {st2 : List Value} (he : st = st2) (h : X p l e R s m args below meth c D A nL Q k n pc loc st2 ws) : X p l e R s m args below meth c D A nL Q k n pc loc st ws := he ▸ h
theorem x_loc_cast {loc2 : List (Nat × Value)} (he : loc = loc2) (h : X p l e R s m args below meth c D A nL Q k n pc loc2 st ws) : X p l e R s m args below meth c D A nL Q k n pc loc st ws := he ▸ h
theorem x_tabG (C : xC p s m args meth c D K A own cc nL ret) {a : Int32} {dflt lo hi : Int} {offs : Array Int} {len : Nat} (tgt : Nat) (hd : decode cc pc = .ok (.tableswitch dflt lo hi offs, len)) (hg : (∃ off : Int, (¬ a.toInt < lo ∧ ¬ hi < a.toInt) ∧ offs[(a.toInt - lo).toNat]? = some off ∧ (pc : Int) + off = (tgt : Int)) ∨ ((a.toInt < lo ∨ hi < a.toInt) ∧ (pc : Int) + dflt = (tgt : Int))) (h : X p l e R s m args below meth c D A nL Q k n tgt loc st ws) : X p l e R s m args below meth c D A nL Q k n pc loc (.int a :: st) ws := by
  rcases hg with ⟨off, h1, h2, h3⟩ | ⟨h1, h2⟩
  · exact x_tabIn C tgt hd h1.1 h1.2 h2 h3 h
  · exact x_tabOut C tgt hd h1 h2 h
theorem x_lkp (C : xC p s m args meth c D K A own cc nL ret) {a : Int32} {dflt off : Int} {ps : Array (Int × Int)} {len : Nat} (tgt : Nat) (hd : decode cc pc = .ok (.lookupswitch dflt ps, len)) (hp : (ps.toList.zip (ps.toList.drop 1)).all (fun (a, next) => a.1 < next.1) = true) (ho : Op.lookupswitch.offset ps.toList dflt a.toInt = off) (ht : (pc : Int) + off = (tgt : Int)) (h : X p l e R s m args below meth c D A nL Q k n tgt loc st ws) : X p l e R s m args below meth c D A nL Q k n pc loc (.int a :: st) ws :=
  fun H locs ls hP hD hS hl => lv_lookup C.1 C.2.1 hd hp ho ht (h H locs ls hP hD hS hl)
theorem x_astore_nN (C : xC p s m args meth c D K A own cc nL ret) {j : Fin 4} {i : Nat} (loc' : List (Nat × Value)) (hd : decode cc pc = .ok (.astore_n j, 1)) (hj : (j : Nat) = i) (hn : i < nL) (hl' : (i, Value.null) :: loc.filter (fun q => !(q.1 == i) && !(q.1 + 1 == i && q.2.category == 2)) = loc') (h : X p l e R s m args below meth c D A nL Q k n (pc + 1) loc' st ws) : X p l e R s m args below meth c D A nL Q k n pc loc (.null :: st) ws :=
  fun H locs ls hP hD hS hl => lv_astore_nN C.1 C.2.1 hd hj hl hn hl' (fun ls' hl2 => h H locs ls' hP hD hS hl2)
theorem x_aload_nN (C : xC p s m args meth c D K A own cc nL ret) {j : Fin 4} (q i : Nat) (hd : decode cc pc = .ok (.aload_n j, 1)) (hj : (j : Nat) = i) (hq : loc[q]? = some (i, .null)) (h : X p l e R s m args below meth c D A nL Q k n (pc + 1) loc (.null :: st) ws) : X p l e R s m args below meth c D A nL Q k n pc loc st ws :=
  fun H locs ls hP hD hS hl => lv_aload_nN C.1 C.2.1 hd hj (lv_at hl q hq) (h H locs ls hP hD hS hl)
theorem x_astq {α : Type} (C : xC p s m args meth c D K A own cc nL ret) {a N t0 b ci : Nat} {cA : ClassId} {r : vw_C} {vs : List Value} {g : Nat → Option Nat} {gh : Nat → Nat} {v : Nat} {i : Int32} {kf : Option α} {z : α} {ws' : va_W} (q qk : Nat) (hd : decode cc pc = .ok (.aastore, 1)) (hq : ws[q]? = some (a, .inl (cA, (N, .inr (.inr (.inr (.inr (fun j => (g j).map gh)))))))) (ht : (xTys K)[t0]? = some (cA, .object r.1)) (hv : ws[qk]? = some (gh v, .inr (ci, vs))) (hc : vwCl[ci]? = some r) (hF : ck N i kf = some z) (hw : ws.set q (a, .inl (cA, (N, .inr (.inr (.inr (.inr (fun j => (va_up g i.toNatClampNeg (some v) j).map gh))))))) = ws') (h : kf = some z → X p l e R s m args below meth c D A nL Q k n (pc + 1) loc st ws') : X p l e R s m args below meth c D A nL Q k n pc loc (.ref (gh v) :: .int i :: .ref a :: st) ws := by
  subst hw
  have e : va_up (fun j => (g j).map gh) i.toNatClampNeg (some (gh v)) = fun j => (va_up g i.toNatClampNeg (some v) j).map gh := by
    funext j
    unfold va_up
    split <;> rfl
  exact fun H locs ls hP hD hS hl => va_astq C.1 C.2.1 C.2.2.2.2.2.1 hP hD hS q t0 qk ci hq ht hv hc (ck_some hF).1 hd (fun H1 locs1 hP1 hD1 hS1 => by rw [e] at hP1 hD1; exact h (ck_some hF).2 H1 locs1 ls hP1 hD1 hS1 hl)
theorem x_astqN {α : Type} (C : xC p s m args meth c D K A own cc nL ret) {a N t0 : Nat} {cA : ClassId} {Cn : String} {g : Nat → Option Nat} {gh : Nat → Nat} {i : Int32} {kf : Option α} {z : α} {ws' : va_W} (q : Nat) (hd : decode cc pc = .ok (.aastore, 1)) (hq : ws[q]? = some (a, .inl (cA, (N, .inr (.inr (.inr (.inr (fun j => (g j).map gh)))))))) (ht : (xTys K)[t0]? = some (cA, .object Cn)) (hF : ck N i kf = some z) (hw : ws.set q (a, .inl (cA, (N, .inr (.inr (.inr (.inr (fun j => (va_up g i.toNatClampNeg none j).map gh))))))) = ws') (h : kf = some z → X p l e R s m args below meth c D A nL Q k n (pc + 1) loc st ws') : X p l e R s m args below meth c D A nL Q k n pc loc (.null :: .int i :: .ref a :: st) ws := by
  subst hw
  have e : va_up (fun j => (g j).map gh) i.toNatClampNeg none = fun j => (va_up g i.toNatClampNeg none j).map gh := by
    funext j
    unfold va_up
    split <;> rfl
  exact fun H locs ls hP hD hS hl => va_astqN C.1 C.2.1 C.2.2.2.2.2.1 hP hD hS q t0 hq ht (ck_some hF).1 hd (fun H1 locs1 hP1 hD1 hS1 => by rw [e] at hP1 hD1; exact h (ck_some hF).2 H1 locs1 ls hP1 hD1 hS1 hl)
end XR3
def CQ (l : Launch) (D : va_G) (K : Nat → ClassId) (y : MethodName) (cc : ByteArray) (maxL : Nat) (ret : Option FieldType) (fr lo : Nat) (av : List Value) (w0 : va_W) (r0 : Option Nat) (w1 : va_W) : Prop :=
  ∀ sz : Nat, Met l y (xW y cc maxL ret) (xR fr lo) (va_Pc av (xA D K w0 sz)) (va_Qq (fun (r : Option Nat) (_ : Unit) => r = r0) (fun _ t => xB D K w1 (va_A w0 sz) t) (va_A w0 sz)) 0 0 (va_A w0 sz)
def xQq (below : List Frame) (D : va_G) (K : Nat → ClassId) (A : Nat → Prop) (args : Array Value) (s : State) (r0 : Option Nat) (w1 : va_W) : State → Prop := MQ below (va_Qq (fun (r : Option Nat) (_ : Unit) => r = r0) (fun _ t => xB D K w1 A t) A) args s 0 0 A
section XR4
variable {p : Program} {l : Launch} {e : Env} {R : Room} {s : State} {m : MethodId} {args : Array Value} {below : List Frame} {meth : Method} {c : Code} {D : va_G} {K : Nat → ClassId} {A : Nat → Prop} {own : String} {cc : ByteArray} {nL : Nat} {ret : Option FieldType} {Q : State → Prop} {k n pc : Nat} {loc : List (Nat × Value)} {st : List Value} {ws : va_W}
theorem x_aret (C : xC p s m args meth c D K A own cc nL ret) {v : Option Nat} {vv : Value} {r0 : Option Nat} {w1 : va_W} {Cn : String} (hvv : vv = va_rf v) (hd : decode cc pc = .ok (.areturn, 1)) (hr : ret = some (.object Cn)) (hv : v = r0) (hw : ws = w1) : X p l e R s m args below meth c D A nL (xQq below D K A args s r0 w1) 0 0 pc loc (vv :: []) ws := by
  subst hv; subst hw; subst hvv
  have hlocks : meth.locks = false := C.2.2.2.2.2.2.2.1
  exact fun H locs ls hP hD hS hl => W.aret C.1 C.2.1 (C.2.2.2.2.2.2.1.trans hr) (Or.inl ⟨_, rfl⟩) (by cases v with | none => exact Or.inl rfl | some a => exact Or.inr ⟨a, rfl⟩) (fun t ht hW => ⟨⟨v, (), rfl, rfl, by rw [ht]; exact hP, va_K.moved hW.alike C.2.2.2.2.2.1, hD⟩, hS.F ht⟩) hS.2.2 hd hlocks
end XR4
