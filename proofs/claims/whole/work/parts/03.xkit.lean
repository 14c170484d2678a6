/-! ===== the pure states, and the pure steps ===== -/
abbrev xP : Type := Int32 × (Nat × (Nat → Int32)) × (Nat × (Nat → Int32)) × (Nat × (Nat → Int32))
abbrev xS : Type := (Nat → Nat → Int32) × (Nat → Nat → Int64) × (Nat → Int32) × (Nat → Int64) × (Nat → Nat → Option Nat) × List xP
def sA (σ : xS) (k : Nat) : Nat → Int32 := σ.1 k
def sL (σ : xS) (k : Nat) : Nat → Int64 := σ.2.1 k
def sI (σ : xS) (k : Nat) : Int32 := σ.2.2.1 k
def sJ (σ : xS) (k : Nat) : Int64 := σ.2.2.2.1 k
def sQ (σ : xS) (k : Nat) : Nat → Option Nat := σ.2.2.2.2.1 k
def sP (σ : xS) : List xP := σ.2.2.2.2.2
def uA (σ : xS) (k : Nat) (f : Nat → Int32) : xS := (va_up σ.1 k f, σ.2)
def uL (σ : xS) (k : Nat) (f : Nat → Int64) : xS := (σ.1, va_up σ.2.1 k f, σ.2.2)
def uI (σ : xS) (k : Nat) (v : Int32) : xS := (σ.1, σ.2.1, va_up σ.2.2.1 k v, σ.2.2.2)
def uJ (σ : xS) (k : Nat) (v : Int64) : xS := (σ.1, σ.2.1, σ.2.2.1, va_up σ.2.2.2.1 k v, σ.2.2.2.2)
def uQ (σ : xS) (k : Nat) (f : Nat → Option Nat) : xS := (σ.1, σ.2.1, σ.2.2.1, σ.2.2.2.1, va_up σ.2.2.2.2.1 k f, σ.2.2.2.2.2)
def uP (σ : xS) (f : List xP) : xS := (σ.1, σ.2.1, σ.2.2.1, σ.2.2.2.1, σ.2.2.2.2.1, f)
def nm {α β : Type} (a : α) (k : α → β) : β := k a
def bd {ρ β : Type} (o : Option (ρ × xS)) (k : ρ → xS → Option β) : Option β := match o with
  | none => none
  | some q => k q.1 q.2
def ck {β : Type} (n : Nat) (i : Int32) (k : Option β) : Option β := if i < 0 ∨ n ≤ i.toNatClampNeg then none else k
def rd {α β : Type} (n : Nat) (f : Nat → α) (i : Int32) (k : α → Option β) : Option β := if i < 0 ∨ n ≤ i.toNatClampNeg then none else k (f i.toNatClampNeg)
def nz {β : Type} (y : Int32) (k : Option β) : Option β := if y = 0 then none else k
def nzL {β : Type} (y : Int64) (k : Option β) : Option β := if y = 0 then none else k
def cz {β : Type} (y : Int32) (k : Option β) : Option β := if y = 0 ∨ y = 1 then k else none
def FU : Nat := 100000
theorem bd_some {ρ β : Type} {o : Option (ρ × xS)} {k : ρ → xS → Option β} {z : β} (h : bd o k = some z) : ∃ q, o = some q ∧ k q.1 q.2 = some z := by
  cases o with
  | none => cases h
  | some q => exact ⟨q, rfl, h⟩
theorem ck_some {β : Type} {n : Nat} {i : Int32} {k : Option β} {z : β} (h : ck n i k = some z) : vp_in i n ∧ k = some z := by
  unfold ck at h
  split at h
  · cases h
  · exact ⟨‹_›, h⟩
theorem rd_some {α β : Type} {n : Nat} {f : Nat → α} {i : Int32} {k : α → Option β} {z : β} (h : rd n f i k = some z) : vp_in i n ∧ k (f i.toNatClampNeg) = some z := by
  unfold rd at h
  split at h
  · cases h
  · exact ⟨‹_›, h⟩
theorem nz_some {β : Type} {y : Int32} {k : Option β} {z : β} (h : nz y k = some z) : ¬ y = 0 ∧ k = some z := by
  unfold nz at h
  split at h
  · cases h
  · exact ⟨‹_›, h⟩
theorem nzL_some {β : Type} {y : Int64} {k : Option β} {z : β} (h : nzL y k = some z) : ¬ y = 0 ∧ k = some z := by
  unfold nzL at h
  split at h
  · cases h
  · exact ⟨‹_›, h⟩
theorem cz_some {β : Type} {y : Int32} {k : Option β} {z : β} (h : cz y k = some z) : (y = 0 ∨ y = 1) ∧ k = some z := by
  unfold cz at h
  split at h
  · exact ⟨‹_›, h⟩
  · cases h
theorem cz_nar {y : Int32} (h : y = 0 ∨ y = 1) : narrow .boolean (.int y) = .int y ∧ fits .boolean (.int y) = true := by
  rcases h with rfl | rfl <;> exact ⟨by decide +kernel, by decide +kernel⟩
/-- the tables' words that stay -/
def xT : List Cond := lw_tbl.filter goodWord
theorem xT_mem {w : Cond} (h : w ∈ lw_tbl) (g : goodWord w = true) : w ∈ xT := List.mem_filter.mpr ⟨h, g⟩
/-! ===== the judgement: pure locals, a pure stack, a world ===== -/
def xTys (K : Nat → ClassId) : List (ClassId × FieldType) := [(K 0, .int), (K 1, .long), (K 2, .boolean), (K 3, .object "PencilPrice$Law"), (K 4, .array .int), (K 5, .array .long), (K 6, .object "PencilPrice$Stock")]
def xC (p : Program) (s : State) (m : MethodId) (args : Array Value) (meth : Method) (c : Code) (D : va_G) (K : Nat → ClassId) (A : Nat → Prop) (own : String) (cc : ByteArray) (nL : Nat) (ret : Option FieldType) : Prop :=
  p.tables.exec = Jvm.exec ∧ c.code = cc ∧ c.maxLocals = nL ∧ s.vm.findClass own = some m.cls ∧ (∀ w ∈ xT, w.before args s = true) ∧ va_K D vwCl (xTys K) s ∧ meth.sig.returnType = ret ∧ meth.locks = false ∧ ∀ q : Nat, s.heap.size ≤ q → A q
def X (p : Program) (l : Launch) (e : Env) (R : Room) (s : State) (m : MethodId) (args : Array Value) (below : List Frame) (meth : Method) (c : Code) (D : va_G) (A : Nat → Prop) (nL : Nat) (Q : State → Prop) (k n : Nat) (pc : Nat) (loc : List (Nat × Value)) (st : List Value) (ws : va_W) : Prop :=
  ∀ (H : Heap) (locs : List Loc) (ls : Array Slot), va_P D vwCl ws H → va_D A ws → va_S A s.heap H locs → lv_has ls nL loc → W p l e R s m args below meth c H locs k n Q (F0 m pc ls st)
def xA (D : va_G) (K : Nat → ClassId) (ws : va_W) (sz : Nat) : State → Prop := fun U => U.heap.size = sz ∧ va_P D vwCl ws U.heap ∧ va_K D vwCl (xTys K) U ∧ va_D (fun _ => True) ws
def xB (D : va_G) (K : Nat → ClassId) (ws : va_W) (A : Nat → Prop) : State → Prop := fun t => va_P D vwCl ws t.heap ∧ va_K D vwCl (xTys K) t ∧ va_D A ws
def xW (y : MethodName) (cc : ByteArray) (maxL : Nat) (ret : Option FieldType) : List Cond := .code y cc maxL ret :: xT
abbrev xR (fr lo : Nat) : Room := { frames := fr, cells := 0, slots := 0, locals := lo }
def CI (l : Launch) (D : va_G) (K : Nat → ClassId) (y : MethodName) (cc : ByteArray) (maxL : Nat) (ret : Option FieldType) (fr lo : Nat) (av : List Value) (w0 : va_W) (r0 : Int32) (w1 : va_W) : Prop :=
  ∀ sz : Nat, Met l y (xW y cc maxL ret) (xR fr lo) (va_Pc av (xA D K w0 sz)) (va_Qi (fun (r : Int32) (_ : Unit) => r = r0) (fun _ t => xB D K w1 (va_A w0 sz) t) (va_A w0 sz)) 0 0 (va_A w0 sz)
def CL (l : Launch) (D : va_G) (K : Nat → ClassId) (y : MethodName) (cc : ByteArray) (maxL : Nat) (ret : Option FieldType) (fr lo : Nat) (av : List Value) (w0 : va_W) (r0 : Int64) (w1 : va_W) : Prop :=
  ∀ sz : Nat, Met l y (xW y cc maxL ret) (xR fr lo) (va_Pc av (xA D K w0 sz)) (va_Ql (fun (r : Int64) (_ : Unit) => r = r0) (fun _ t => xB D K w1 (va_A w0 sz) t) (va_A w0 sz)) 0 0 (va_A w0 sz)
def CV (l : Launch) (D : va_G) (K : Nat → ClassId) (y : MethodName) (cc : ByteArray) (maxL : Nat) (ret : Option FieldType) (fr lo : Nat) (av : List Value) (w0 : va_W) (w1 : va_W) : Prop :=
  ∀ sz : Nat, Met l y (xW y cc maxL ret) (xR fr lo) (va_Pc av (xA D K w0 sz)) (va_Qv (fun (_ : Unit) => True) (fun _ t => xB D K w1 (va_A w0 sz) t) (va_A w0 sz)) 0 0 (va_A w0 sz)
def xQi (below : List Frame) (D : va_G) (K : Nat → ClassId) (A : Nat → Prop) (args : Array Value) (s : State) (r0 : Int32) (w1 : va_W) : State → Prop := MQ below (va_Qi (fun (r : Int32) (_ : Unit) => r = r0) (fun _ t => xB D K w1 A t) A) args s 0 0 A
def xQl (below : List Frame) (D : va_G) (K : Nat → ClassId) (A : Nat → Prop) (args : Array Value) (s : State) (r0 : Int64) (w1 : va_W) : State → Prop := MQ below (va_Ql (fun (r : Int64) (_ : Unit) => r = r0) (fun _ t => xB D K w1 A t) A) args s 0 0 A
def xQv (below : List Frame) (D : va_G) (K : Nat → ClassId) (A : Nat → Prop) (args : Array Value) (s : State) (w1 : va_W) : State → Prop := MQ below (va_Qv (fun (_ : Unit) => True) (fun _ t => xB D K w1 A t) A) args s 0 0 A
theorem xA_blind {D : va_G} {K : Nat → ClassId} {ws : va_W} {sz : Nat} {av : List Value} : FrameBlind (va_Pc av (xA D K ws sz)) := by
  intro a U g mk q
  obtain ⟨q0, q1, qP, qK, qD⟩ := q
  exact ⟨q0, q1, qP, va_K.moved (u := U) (U := U.calling g mk a) (Vm.Alike.refl U.vm) qK, qD⟩
