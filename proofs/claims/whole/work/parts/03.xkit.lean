/-! ===== the pure states, and the pure steps ===== -/
abbrev xP : Type := Int32 × (Nat × (Nat → Int32)) × (Nat × (Nat → Int32)) × (Nat × (Nat → Int32))
abbrev xS : Type := (Nat → Nat → Int32) × (Nat → Nat → Int64) × (Nat → Int32) × (Nat → Int64) × (Nat → Nat → Option Nat) × List xP
def sA (σ : xS) (k : Nat) : Nat → Int32 := σ.1 k
def sL (σ : xS) (k : Nat) : Nat → Int64 := σ.2.1 k
def sI (σ : xS) (k : Nat) : Int32 := σ.2.2.1 k
def sJ (σ : xS) (k : Nat) : Int64 := σ.2.2.2.1 k
def sQ (σ : xS) (k : Nat) : Nat → Option Nat := σ.2.2.2.2.1 k
def sP (σ : xS) : List xP := σ.2.2.2.2.2
def uA (σ : xS) (k : Nat) (f : Nat → Int32) : xS := (va_up σ.1 k f, σ.2)
def uL (σ : xS) (k : Nat) (f : Nat → Int64) : xS := (σ.1, va_up σ.2.1 k f, σ.2.2)
def uI (σ : xS) (k : Nat) (v : Int32) : xS := (σ.1, σ.2.1, va_up σ.2.2.1 k v, σ.2.2.2)
def uJ (σ : xS) (k : Nat) (v : Int64) : xS := (σ.1, σ.2.1, σ.2.2.1, va_up σ.2.2.2.1 k v, σ.2.2.2.2)
def uQ (σ : xS) (k : Nat) (f : Nat → Option Nat) : xS := (σ.1, σ.2.1, σ.2.2.1, σ.2.2.2.1, va_up σ.2.2.2.2.1 k f, σ.2.2.2.2.2)
def uP (σ : xS) (f : List xP) : xS := (σ.1, σ.2.1, σ.2.2.1, σ.2.2.2.1, σ.2.2.2.2.1, f)
def nm {α β : Type} (a : α) (k : α → β) : β := k a
def bd {ρ β : Type} (o : Option (ρ × xS)) (k : ρ → xS → Option β) : Option β := match o with
  | none => none
  | some q => k q.1 q.2
def ck {β : Type} (n : Nat) (i : Int32) (k : Option β) : Option β := if i < 0 ∨ n ≤ i.toNatClampNeg then none else k
def rd {α β : Type} (n : Nat) (f : Nat → α) (i : Int32) (k : α → Option β) : Option β := if i < 0 ∨ n ≤ i.toNatClampNeg then none else k (f i.toNatClampNeg)
def nz {β : Type} (y : Int32) (k : Option β) : Option β := if y = 0 then none else k
def nzL {β : Type} (y : Int64) (k : Option β) : Option β := if y = 0 then none else k
def cz {β : Type} (y : Int32) (k : Option β) : Option β := if y = 0 ∨ y = 1 then k else none
def FU : Nat := 100000
theorem bd_some {ρ β : Type} {o : Option (ρ × xS)} {k : ρ → xS → Option β} {z : β} (h : bd o k = some z) : ∃ q, o = some q ∧ k q.1 q.2 = some z := by
  cases o with
  | none => cases h
  | some q => exact ⟨q, rfl, h⟩
theorem ck_some {β : Type} {n : Nat} {i : Int32} {k : Option β} {z : β} (h : ck n i k = some z) : vp_in i n ∧ k = some z := by
  unfold ck at h
  split at h
  · cases h
  · exact ⟨‹_›, h⟩
theorem rd_some {α β : Type} {n : Nat} {f : Nat → α} {i : Int32} {k : α → Option β} {z : β} (h : rd n f i k = some z) : vp_in i n ∧ k (f i.toNatClampNeg) = some z := by
  unfold rd at h
  split at h
  · cases h
  · exact ⟨‹_›, h⟩
theorem nz_some {β : Type} {y : Int32} {k : Option β} {z : β} (h : nz y k = some z) : ¬ y = 0 ∧ k = some z := by
  unfold nz at h
  split at h
  · cases h
  · exact ⟨‹_›, h⟩
theorem nzL_some {β : Type} {y : Int64} {k : Option β} {z : β} (h : nzL y k = some z) : ¬ y = 0 ∧ k = some z := by
  unfold nzL at h
  split at h
  · cases h
  · exact ⟨‹_›, h⟩
theorem cz_some {β : Type} {y : Int32} {k : Option β} {z : β} (h : cz y k = some z) : (y = 0 ∨ y = 1) ∧ k = some z := by
  unfold cz at h
  split at h
  · exact ⟨‹_›, h⟩
  · cases h
theorem cz_nar {y : Int32} (h : y = 0 ∨ y = 1) : narrow .boolean (.int y) = .int y ∧ fits .boolean (.int y) = true := by
  rcases h with rfl | rfl <;> exact ⟨by decide +kernel, by decide +kernel⟩
/-! ===== statics: three tables of the class, the words' text, what charAt reads ===== -/
def tB : Nat → Int32 := fun j => match j with | 0 => 9 | 1 => 999 | 2 => 99 | 3 => 999 | _ => 2
def tL : Nat → Int32 := fun j => match j with | 5 => 1 | _ => 0
def tM : Nat → Int32 := fun j => match j with | 0 => 51 | 1 => 1 | 2 => 99 | 3 => 999 | 4 => 9 | _ => 99
def wTx : String := "book kind worthage  priceplaceweek rain crowdsincesellsdrawswantstakesif   or   and  not  "
def wBy : List Int32 := [98, 111, 111, 107, 32, 107, 105, 110, 100, 32, 119, 111, 114, 116, 104, 97, 103, 101, 32, 32, 112, 114, 105, 99, 101, 112, 108, 97, 99, 101, 119, 101, 101, 107, 32, 114, 97, 105, 110, 32, 99, 114, 111, 119, 100, 115, 105, 110, 99, 101, 115, 101, 108, 108, 115, 100, 114, 97, 119, 115, 119, 97, 110, 116, 115, 116, 97, 107, 101, 115, 105, 102, 32, 32, 32, 111, 114, 32, 32, 32, 97, 110, 100, 32, 32, 110, 111, 116, 32, 32]
def zTab (nm : String) (N : Nat) (f : Nat → Int32) (A : Nat → Prop) (U : State) (H : Heap) : Prop := ∃ t : Nat, va_Z "PencilPrice" nm "[I" (.ref t) A U H ∧ va_T .int t N (fun j => .int (f j)) A U H
def zO (U : State) : Prop := va_AO "PencilPrice$Law" U ∧ va_AO "PencilPrice$Stock" U ∧ va_AOA .int U ∧ va_AOA .long U
theorem zO.moved {u U : State} (hA : u.vm.Alike U.vm) (h : zO u) : zO U := ⟨h.1.moved hA, h.2.1.moved hA, h.2.2.1.moved hA, h.2.2.2.moved hA⟩
def isNest : Cond → Bool
  | .fieldLinkNest .. => true
  | .methodLinkNest .. => true
  | .castable .. => true
  | _ => false
/-- the tables' words of nest mates -/
def xTN : List Cond := lw_tbl.filter isNest
theorem xTN_mem {w : Cond} (h : w ∈ lw_tbl) (g : isNest w = true) : w ∈ xTN := List.mem_filter.mpr ⟨h, g⟩
theorem xTN_warm {s U : State} (hW : s.WarmedH U.vm) (h : ∀ w ∈ xTN, va_Nw w s) : ∀ w ∈ xTN, va_Nw w U := by
  intro w hw
  have h1 := h w hw
  have h2 := (List.mem_filter.mp hw).2
  cases w <;> first | (cases h2; done) | exact va_Nw.warmF hW h1 | exact va_Nw.warmM hW h1 | exact va_Nw.warmC hW h1
theorem xTN_same {u U : State} (hv : U.vm = u.vm) (h : ∀ w ∈ xTN, va_Nw w u) : ∀ w ∈ xTN, va_Nw w U := by
  intro w hw
  have h1 := h w hw
  have h2 := (List.mem_filter.mp hw).2
  cases w <;> first | (cases h2; done) | exact va_Nw.same rfl hv.symm h1
def zS (A : Nat → Prop) (U : State) (H : Heap) : Prop := zTab "BOOK_MOST" 5 tB A U H ∧ zTab "TERM_LEAST" 6 tL A U H ∧ zTab "TERM_MOST" 6 tM A U H ∧ (∀ w ∈ xTN, va_Nw w U) ∧ va_Z "java/lang/String" "COMPACT_STRINGS" "Z" (.int 1) A U H ∧ va_Zq "jdk/internal/util/Preconditions" "SIOOBE_FORMATTER" "Ljava/util/function/BiFunction;" A U H ∧ ∃ aK aV : Nat → Nat, vk_R "PencilPrice$Tokens" 59 wTx (aK 0) U ∧ vk_S 1 [90] [wBy] aK aV A U H ∧ zO U
theorem zS.kept {A : Nat → Prop} {U : State} {H H1 : Heap} (h : zS A U H) (hq : ∀ a : Nat, a < H.size → ¬ A a → H1[a]? = H[a]?) : zS A U H1 := by
  obtain ⟨⟨t1, a1, b1⟩, ⟨t2, a2, b2⟩, ⟨t3, a3, b3⟩, hn, h4, h5, aK, aV, h6, h7, h8⟩ := h
  exact ⟨⟨t1, a1.kept hq, b1.kept hq⟩, ⟨t2, a2.kept hq, b2.kept hq⟩, ⟨t3, a3.kept hq, b3.kept hq⟩, hn, h4.kept hq, h5.kept hq, aK, aV, h6, h7.kept hq, h8⟩
theorem zS.narrow {A B : Nat → Prop} {U : State} {H : Heap} (h : zS A U H) (hq : ∀ q, B q → A q) : zS B U H := by
  obtain ⟨⟨t1, a1, b1⟩, ⟨t2, a2, b2⟩, ⟨t3, a3, b3⟩, hn, h4, h5, aK, aV, h6, h7, h8⟩ := h
  exact ⟨⟨t1, a1.narrow hq, b1.narrow hq⟩, ⟨t2, a2.narrow hq, b2.narrow hq⟩, ⟨t3, a3.narrow hq, b3.narrow hq⟩, hn, h4.narrow hq, h5.narrow hq, aK, aV, h6, h7.narrow hq, h8⟩
theorem zS.warm {A : Nat → Prop} {s U : State} {H : Heap} (hW : s.WarmedH U.vm) (h : zS A s H) : zS A U H := by
  obtain ⟨⟨t1, a1, b1⟩, ⟨t2, a2, b2⟩, ⟨t3, a3, b3⟩, hn, h4, h5, aK, aV, h6, h7, h8⟩ := h
  exact ⟨⟨t1, a1.moved hW.alike, b1.moved hW.alike⟩, ⟨t2, a2.moved hW.alike, b2.moved hW.alike⟩, ⟨t3, a3.moved hW.alike, b3.moved hW.alike⟩, xTN_warm hW hn, h4.moved hW.alike, h5.moved hW.alike, aK, aV, h6.warm hW, h7.moved hW.alike, h8.moved hW.alike⟩
theorem zS.same {A : Nat → Prop} {u U : State} {H : Heap} (hv : U.vm = u.vm) (h : zS A u H) : zS A U H := by
  have hA : u.vm.Alike U.vm := by rw [hv]; exact Vm.Alike.refl _
  obtain ⟨⟨t1, a1, b1⟩, ⟨t2, a2, b2⟩, ⟨t3, a3, b3⟩, hn, h4, h5, aK, aV, h6, h7, h8⟩ := h
  exact ⟨⟨t1, a1.moved hA, b1.moved hA⟩, ⟨t2, a2.moved hA, b2.moved hA⟩, ⟨t3, a3.moved hA, b3.moved hA⟩, xTN_same hv hn, h4.moved hA, h5.moved hA, aK, aV, h6.same hv, h7.moved hA, h8.moved hA⟩
/-- the tables' words that stay -/
def xT : List Cond := lw_tbl.filter goodWord
theorem xT_mem {w : Cond} (h : w ∈ lw_tbl) (g : goodWord w = true) : w ∈ xT := List.mem_filter.mpr ⟨h, g⟩
/-! ===== the judgement: pure locals, a pure stack, a world ===== -/
def xTys (K : Nat → ClassId) : List (ClassId × FieldType) := [(K 0, .int), (K 1, .long), (K 2, .boolean), (K 3, .object "PencilPrice$Law"), (K 4, .array .int), (K 5, .array .long), (K 6, .object "PencilPrice$Stock")]
def xC (p : Program) (s : State) (m : MethodId) (args : Array Value) (meth : Method) (c : Code) (D : va_G) (K : Nat → ClassId) (A : Nat → Prop) (own : String) (cc : ByteArray) (nL : Nat) (ret : Option FieldType) : Prop :=
  p.tables.exec = Jvm.exec ∧ c.code = cc ∧ c.maxLocals = nL ∧ s.vm.findClass own = some m.cls ∧ (∀ w ∈ xT, w.before args s = true) ∧ va_K D vwCl (xTys K) s ∧ meth.sig.returnType = ret ∧ meth.locks = false ∧ (∀ q : Nat, s.heap.size ≤ q → A q) ∧ zS A s s.heap
def X (p : Program) (l : Launch) (e : Env) (R : Room) (s : State) (m : MethodId) (args : Array Value) (below : List Frame) (meth : Method) (c : Code) (D : va_G) (A : Nat → Prop) (nL : Nat) (Q : State → Prop) (k n : Nat) (pc : Nat) (loc : List (Nat × Value)) (st : List Value) (ws : va_W) : Prop :=
  ∀ (H : Heap) (locs : List Loc) (ls : Array Slot), va_P D vwCl ws H → va_D A ws → va_S A s.heap H locs → lv_has ls nL loc → W p l e R s m args below meth c H locs k n Q (F0 m pc ls st)
def xA (D : va_G) (K : Nat → ClassId) (ws : va_W) (sz : Nat) : State → Prop := fun U => U.heap.size = sz ∧ va_P D vwCl ws U.heap ∧ va_K D vwCl (xTys K) U ∧ va_D (fun _ => True) ws ∧ zS (va_A ws sz) U U.heap
def xB (D : va_G) (K : Nat → ClassId) (ws : va_W) (A : Nat → Prop) : State → Prop := fun t => va_P D vwCl ws t.heap ∧ va_K D vwCl (xTys K) t ∧ va_D A ws
def xW (y : MethodName) (cc : ByteArray) (maxL : Nat) (ret : Option FieldType) : List Cond := .code y cc maxL ret :: xT
abbrev xR (fr lo : Nat) : Room := { frames := fr, cells := 0, slots := 0, locals := lo }
def CI (l : Launch) (D : va_G) (K : Nat → ClassId) (y : MethodName) (cc : ByteArray) (maxL : Nat) (ret : Option FieldType) (fr lo : Nat) (av : List Value) (w0 : va_W) (r0 : Int32) (w1 : va_W) : Prop :=
  ∀ sz : Nat, Met l y (xW y cc maxL ret) (xR fr lo) (va_Pc av (xA D K w0 sz)) (va_Qi (fun (r : Int32) (_ : Unit) => r = r0) (fun _ t => xB D K w1 (va_A w0 sz) t) (va_A w0 sz)) 0 0 (va_A w0 sz)
def CL (l : Launch) (D : va_G) (K : Nat → ClassId) (y : MethodName) (cc : ByteArray) (maxL : Nat) (ret : Option FieldType) (fr lo : Nat) (av : List Value) (w0 : va_W) (r0 : Int64) (w1 : va_W) : Prop :=
  ∀ sz : Nat, Met l y (xW y cc maxL ret) (xR fr lo) (va_Pc av (xA D K w0 sz)) (va_Ql (fun (r : Int64) (_ : Unit) => r = r0) (fun _ t => xB D K w1 (va_A w0 sz) t) (va_A w0 sz)) 0 0 (va_A w0 sz)
def CV (l : Launch) (D : va_G) (K : Nat → ClassId) (y : MethodName) (cc : ByteArray) (maxL : Nat) (ret : Option FieldType) (fr lo : Nat) (av : List Value) (w0 : va_W) (w1 : va_W) : Prop :=
  ∀ sz : Nat, Met l y (xW y cc maxL ret) (xR fr lo) (va_Pc av (xA D K w0 sz)) (va_Qv (fun (_ : Unit) => True) (fun _ t => xB D K w1 (va_A w0 sz) t) (va_A w0 sz)) 0 0 (va_A w0 sz)
def xQi (below : List Frame) (D : va_G) (K : Nat → ClassId) (A : Nat → Prop) (args : Array Value) (s : State) (r0 : Int32) (w1 : va_W) : State → Prop := MQ below (va_Qi (fun (r : Int32) (_ : Unit) => r = r0) (fun _ t => xB D K w1 A t) A) args s 0 0 A
def xQl (below : List Frame) (D : va_G) (K : Nat → ClassId) (A : Nat → Prop) (args : Array Value) (s : State) (r0 : Int64) (w1 : va_W) : State → Prop := MQ below (va_Ql (fun (r : Int64) (_ : Unit) => r = r0) (fun _ t => xB D K w1 A t) A) args s 0 0 A
def xQv (below : List Frame) (D : va_G) (K : Nat → ClassId) (A : Nat → Prop) (args : Array Value) (s : State) (w1 : va_W) : State → Prop := MQ below (va_Qv (fun (_ : Unit) => True) (fun _ t => xB D K w1 A t) A) args s 0 0 A
theorem xA_blind {D : va_G} {K : Nat → ClassId} {ws : va_W} {sz : Nat} {av : List Value} : FrameBlind (va_Pc av (xA D K ws sz)) := by
  intro a U g mk q
  obtain ⟨q0, q1, qP, qK, qD, qZ⟩ := q
  exact ⟨q0, q1, qP, va_K.moved (u := U) (U := U.calling g mk a) (Vm.Alike.refl U.vm) qK, qD, zS.same (u := U) (U := U.calling g mk a) rfl qZ⟩
