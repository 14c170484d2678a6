theorem text_in : ∀ j : Nat, j < 90 → Cond.eq (.elem (.field (.string "PencilPrice$Tokens" 59) "java/lang/String" "value" "[B") (.int (Int32.ofNat j))) (.int (wBy.getD j 0)) ∈ flatC (Jvm.Cond.and given_1 narrow_1) := by decide +kernel
/-! THE CLAIM OUT OF ONE WALK OF THE LAW'S BODY. Your part is whole_start (and what it stands on); all else here is the same for every law, but numbers. -/
def R_law : String := "PencilPriceLaw"
def lw_P (b : Addr) (xs : List Int32) (args : Array Value) (s : State) : Prop := args = #[.ref b] ∧ s.IntsAt b xs ∧ xs.length ≤ 3072 ∧ (Jvm.Cond.and given_1 narrow_1).before args s = true
def lw_Q (_ : Array Value) (s : State) (o : Outcome) (t : State) : Prop := o = .returned (some (.int 1)) ∧ Framed s o t [] 600000 7302250
def lw_Z (below : List Frame) (a : Array Value) (s : State) : State → Prop := fun t => ∃ o, t.status = .running ∧ Ended t below o ∧ lw_Q a s o t
/-- the law's own end, with 1 on the stack, nothing written that was there before, its room as the claim has it -/
theorem lw_ret {p : Program} {l : Launch} {e : Env} {s : State} {m : MethodId} {below : List Frame} {meth : Method} {c : Code} {b : Nat} (hx : p.tables.exec = Jvm.exec) (hb : c.code = code) (hr : meth.sig.returnType = ret) (hlocks : meth.locks = false) {pc : Nat} {H : Heap} {ls : Array Slot} (hdg : decode code pc = .ok (.ireturn, 1)) : W p l e room_1 s m #[Value.ref b] below meth c H [] 600000 7302250 (lw_Z below #[Value.ref b] s) (F0 m pc ls [.int 1]) := by
  intro T hT X
  obtain ⟨fs, hret, hrun, hended, hW, hframe⟩ := X.leave (v := some (.int 1)) (hlocks := hlocks) (fun h => by rw [hr] at h; cases h)
  have hmeth' : T.vm.method? m = some meth := X.method'
  refine ⟨T.setFrames fs, ?_, .returned (some (.int 1)), hrun, hended, rfl, ⟨_, rfl⟩, hW, hframe⟩
  jvm_step X.here [X.here.top, hx, hb, hdg, hmeth', hr, ret, narrow_b1]
  (try refine ⟨rfl, ?_⟩); (try refine ⟨rfl, ?_⟩)
  first | (intro acts; rw [hret _ acts rfl rfl rfl]) | rw [hret _ _ rfl rfl rfl]
  exact Steps.refl _
/-- what holds at the law's entry: the machine, the code, the tables' words (any of lw_tbl by 'hts w (by decide +kernel)'), the script of L ints xs at the cell b, what the Statement gives of the start (any of its parts by flat_of_before) -/
def lw_At (p : Program) (s : State) (m : MethodId) (meth : Method) (c : Code) (b L : Nat) (xs : Nat → Int32) : Prop :=
  p.tables.exec = Jvm.exec ∧ c.code = code ∧ meth.sig.returnType = ret ∧ c.maxLocals = 4 ∧ s.vm.findClass R_law = some m.cls ∧ (∀ w ∈ lw_tbl, w.before #[Value.ref b] s = true) ∧ va_X b L xs s s.heap ∧ b < s.heap.size ∧ meth.locks = false ∧ (Jvm.Cond.and given_1 narrow_1).before #[Value.ref b] s = true
theorem xArr {s : State} {ty : FieldType} {args : Array Value} (ho : ∀ Cn, ty ≠ .object Cn) (h : (Cond.arrayClass ty).before args s = true) : ∃ cA, ArrOfT s cA ty ∧ va_RA s cA ty := by
  obtain ⟨c, k, comp, h1, h2, h3⟩ := Cond.arrayClass_spec h
  refine ⟨c, fun n z => ⟨(fun q hq => by cases hq), k, h2, comp, h3⟩, ?_⟩
  cases ty with
  | object Cn => exact absurd rfl (ho Cn)
  | _ => exact h1
theorem xArrO {s : State} {Cn : String} {args : Array Value} (h : (Cond.arrayOver (.object Cn)).before args s = true) : ∃ cA, ArrOfT s cA (.object Cn) ∧ va_RA s cA (.object Cn) := by
  obtain ⟨comp, c, k, h1, h2, h3, h4, h5⟩ := Cond.arrayOver_spec h
  exact ⟨c, fun n z => ⟨(fun q hq => by cases hq), k, h3, comp, h4⟩, k, comp, h3, h4, h1, h5⟩
theorem xArrA {s : State} {t : FieldType} {args : Array Value} (h : (Cond.arrayOver (.array t)).before args s = true) : ∃ cA, ArrOfT s cA (.array t) ∧ va_RA s cA (.array t) := by
  obtain ⟨comp, c, k, h1, h2, h3, h4, h5⟩ := arrayOverA_spec h
  exact ⟨c, fun n z => ⟨(fun q hq => by cases hq), k, h3, comp, h4⟩, h5⟩
/-- the pure functions of class and reference answer alike -/
theorem sim_all : ∃ Sim : xS → xS → Prop, StepOK Sim ∧ Sim σ0 τ0 := ⟨Sim, ⟨st_book, st_put, st_of, st_drop, st_terms, st_feed, st_end, st_row, st_foxed, st_law, st_fault, st_force, st_chance, st_asks, st_write, st_pencil, st_stands, st_box, st_unbox, st_worth, st_glance, st_income, st_best, st_card, st_uncard, st_wants, st_keep, st_dealer, st_brings, st_bait, st_october, st_forget, st_june, st_copies, st_mark, st_clear, st_likely, st_errors, st_weeks, st_gone, st_image, st_back, st_count, st_status⟩, sim_start⟩
set_option maxHeartbeats 8000000 in
set_option maxRecDepth 100000 in
theorem law_zS {s : State} {b : Nat} {A : Nat → Prop} (hts : ∀ w ∈ lw_tbl, w.before #[Value.ref b] s = true) (hgv : (Jvm.Cond.and given_1 narrow_1).before #[Value.ref b] s = true) (hnA : ∀ a : Nat, a < s.heap.size → ¬ A a) : zS A s s.heap := by
  have hs := flat_of_before _ hgv
  have htB : zTab "BOOK_MOST" 5 tB A s s.heap := by
    obtain ⟨t, ht, hT⟩ := va_Tof (args := #[Value.ref b]) (ty := .int) (tm := .static "PencilPrice" "BOOK_MOST" "[I") (N := 5) (f := fun j => .int (tB j)) (A := A) (by decide) (hs _ (by decide +kernel)) (va_eqt (hs (.eq (.length (.static "PencilPrice" "BOOK_MOST" "[I")) (.int 5)) (by decide +kernel))) (fun j hj => by
      match j, hj with
      | 0, _ => exact va_eqt (t := .elem (.static "PencilPrice" "BOOK_MOST" "[I") (.int 0)) (hs (.eq (.elem (.static "PencilPrice" "BOOK_MOST" "[I") (.int 0)) (.int 9)) (by decide +kernel))
      | 1, _ => exact va_eqt (t := .elem (.static "PencilPrice" "BOOK_MOST" "[I") (.int 1)) (hs (.eq (.elem (.static "PencilPrice" "BOOK_MOST" "[I") (.int 1)) (.int 999)) (by decide +kernel))
      | 2, _ => exact va_eqt (t := .elem (.static "PencilPrice" "BOOK_MOST" "[I") (.int 2)) (hs (.eq (.elem (.static "PencilPrice" "BOOK_MOST" "[I") (.int 2)) (.int 99)) (by decide +kernel))
      | 3, _ => exact va_eqt (t := .elem (.static "PencilPrice" "BOOK_MOST" "[I") (.int 3)) (hs (.eq (.elem (.static "PencilPrice" "BOOK_MOST" "[I") (.int 3)) (.int 999)) (by decide +kernel))
      | 4, _ => exact va_eqt (t := .elem (.static "PencilPrice" "BOOK_MOST" "[I") (.int 4)) (hs (.eq (.elem (.static "PencilPrice" "BOOK_MOST" "[I") (.int 4)) (.int 2)) (by decide +kernel))
      | j + 5, h9 => exact absurd h9 (by omega)) hnA
    exact ⟨t, va_Zref (hts (.laysStatic "PencilPrice" "BOOK_MOST" "[I") (List.mem_append_right _ (List.mem_of_getElem? (i := 406) (by decide +kernel)))) (hts (.initialized "PencilPrice") (List.mem_append_right _ (List.mem_of_getElem? (i := 1) (by decide +kernel)))) ht hnA, hT⟩
  have htL : zTab "TERM_LEAST" 6 tL A s s.heap := by
    obtain ⟨t, ht, hT⟩ := va_Tof (args := #[Value.ref b]) (ty := .int) (tm := .static "PencilPrice" "TERM_LEAST" "[I") (N := 6) (f := fun j => .int (tL j)) (A := A) (by decide) (hs _ (by decide +kernel)) (va_eqt (hs (.eq (.length (.static "PencilPrice" "TERM_LEAST" "[I")) (.int 6)) (by decide +kernel))) (fun j hj => by
      match j, hj with
      | 0, _ => exact va_eqt (t := .elem (.static "PencilPrice" "TERM_LEAST" "[I") (.int 0)) (hs (.eq (.elem (.static "PencilPrice" "TERM_LEAST" "[I") (.int 0)) (.int 0)) (by decide +kernel))
      | 1, _ => exact va_eqt (t := .elem (.static "PencilPrice" "TERM_LEAST" "[I") (.int 1)) (hs (.eq (.elem (.static "PencilPrice" "TERM_LEAST" "[I") (.int 1)) (.int 0)) (by decide +kernel))
      | 2, _ => exact va_eqt (t := .elem (.static "PencilPrice" "TERM_LEAST" "[I") (.int 2)) (hs (.eq (.elem (.static "PencilPrice" "TERM_LEAST" "[I") (.int 2)) (.int 0)) (by decide +kernel))
      | 3, _ => exact va_eqt (t := .elem (.static "PencilPrice" "TERM_LEAST" "[I") (.int 3)) (hs (.eq (.elem (.static "PencilPrice" "TERM_LEAST" "[I") (.int 3)) (.int 0)) (by decide +kernel))
      | 4, _ => exact va_eqt (t := .elem (.static "PencilPrice" "TERM_LEAST" "[I") (.int 4)) (hs (.eq (.elem (.static "PencilPrice" "TERM_LEAST" "[I") (.int 4)) (.int 0)) (by decide +kernel))
      | 5, _ => exact va_eqt (t := .elem (.static "PencilPrice" "TERM_LEAST" "[I") (.int 5)) (hs (.eq (.elem (.static "PencilPrice" "TERM_LEAST" "[I") (.int 5)) (.int 1)) (by decide +kernel))
      | j + 6, h9 => exact absurd h9 (by omega)) hnA
    exact ⟨t, va_Zref (hts (.laysStatic "PencilPrice" "TERM_LEAST" "[I") (List.mem_append_right _ (List.mem_of_getElem? (i := 467) (by decide +kernel)))) (hts (.initialized "PencilPrice") (List.mem_append_right _ (List.mem_of_getElem? (i := 1) (by decide +kernel)))) ht hnA, hT⟩
  have htM : zTab "TERM_MOST" 6 tM A s s.heap := by
    obtain ⟨t, ht, hT⟩ := va_Tof (args := #[Value.ref b]) (ty := .int) (tm := .static "PencilPrice" "TERM_MOST" "[I") (N := 6) (f := fun j => .int (tM j)) (A := A) (by decide) (hs _ (by decide +kernel)) (va_eqt (hs (.eq (.length (.static "PencilPrice" "TERM_MOST" "[I")) (.int 6)) (by decide +kernel))) (fun j hj => by
      match j, hj with
      | 0, _ => exact va_eqt (t := .elem (.static "PencilPrice" "TERM_MOST" "[I") (.int 0)) (hs (.eq (.elem (.static "PencilPrice" "TERM_MOST" "[I") (.int 0)) (.int 51)) (by decide +kernel))
      | 1, _ => exact va_eqt (t := .elem (.static "PencilPrice" "TERM_MOST" "[I") (.int 1)) (hs (.eq (.elem (.static "PencilPrice" "TERM_MOST" "[I") (.int 1)) (.int 1)) (by decide +kernel))
      | 2, _ => exact va_eqt (t := .elem (.static "PencilPrice" "TERM_MOST" "[I") (.int 2)) (hs (.eq (.elem (.static "PencilPrice" "TERM_MOST" "[I") (.int 2)) (.int 99)) (by decide +kernel))
      | 3, _ => exact va_eqt (t := .elem (.static "PencilPrice" "TERM_MOST" "[I") (.int 3)) (hs (.eq (.elem (.static "PencilPrice" "TERM_MOST" "[I") (.int 3)) (.int 999)) (by decide +kernel))
      | 4, _ => exact va_eqt (t := .elem (.static "PencilPrice" "TERM_MOST" "[I") (.int 4)) (hs (.eq (.elem (.static "PencilPrice" "TERM_MOST" "[I") (.int 4)) (.int 9)) (by decide +kernel))
      | 5, _ => exact va_eqt (t := .elem (.static "PencilPrice" "TERM_MOST" "[I") (.int 5)) (hs (.eq (.elem (.static "PencilPrice" "TERM_MOST" "[I") (.int 5)) (.int 99)) (by decide +kernel))
      | j + 6, h9 => exact absurd h9 (by omega)) hnA
    exact ⟨t, va_Zref (hts (.laysStatic "PencilPrice" "TERM_MOST" "[I") (List.mem_append_right _ (List.mem_of_getElem? (i := 469) (by decide +kernel)))) (hts (.initialized "PencilPrice") (List.mem_append_right _ (List.mem_of_getElem? (i := 1) (by decide +kernel)))) ht hnA, hT⟩
  have hN : ∀ w ∈ xTN, va_Nw w s := by
    intro w hw
    have h1 := hts w (List.mem_filter.mp hw).1
    have h2 := (List.mem_filter.mp hw).2
    cases w <;> first | (cases h2; done) | exact va_Nw.of rfl h1
  have hC : va_Z "java/lang/String" "COMPACT_STRINGS" "Z" (.int 1) A s s.heap := va_Zof (hts _ (List.mem_append_right _ (List.mem_of_getElem? (i := 537) (by decide +kernel)))) (hts _ (List.mem_append_right _ (List.mem_of_getElem? (i := 16) (by decide +kernel)))) (va_eqi (hs _ (by decide +kernel))) hnA
  have hF : va_Zq "jdk/internal/util/Preconditions" "SIOOBE_FORMATTER" "Ljava/util/function/BiFunction;" A s s.heap := va_Zqof (hts _ (List.mem_append_right _ (List.mem_of_getElem? (i := 545) (by decide +kernel)))) (hts _ (List.mem_append_right _ (List.mem_of_getElem? (i := 18) (by decide +kernel)))) (hs _ (by decide +kernel)) hnA
  have hall : ∀ j : Nat, j < 90 → (Cond.eq (.elem (.field (.string "PencilPrice$Tokens" 59) "java/lang/String" "value" "[B") (.int (Int32.ofNat j))) (.int (wBy.getD j 0))).before #[Value.ref b] s = true := fun j hj => hs _ (text_in j hj)
  obtain ⟨aK, aV, hS, hT⟩ := vk_Sof (args := #[Value.ref b]) (s := s) (N := 1) (tm := fun _ => .string "PencilPrice$Tokens" 59) (len := [90]) (byt := [wBy]) (A := A) (fun i hi => by rcases (show i = 0 by omega) with rfl; decide) (fun i hi => hs _ (by decide +kernel)) (fun i hi => hs _ (by decide +kernel)) (fun i hi => hs _ (by decide +kernel)) (fun i hi => by rcases (show i = 0 by omega) with rfl; exact hs _ (by decide +kernel)) (fun i hi j hj => by rcases (show i = 0 by omega) with rfl; exact hall j hj) (fun i j hi hj hij => by omega) hnA
  exact ⟨htB, htL, htM, hN, hC, hF, aK, aV, vk_R.of (hts _ (List.mem_append_right _ (List.mem_of_getElem? (i := 527) (by decide +kernel)))) (hT 0 (by decide)), hS, va_AO.of (hts _ (List.mem_append_right _ (List.mem_of_getElem? (i := 62) (by decide +kernel)))), va_AO.of (hts _ (List.mem_append_right _ (List.mem_of_getElem? (i := 111) (by decide +kernel)))), (show va_AOA .int s from hts (.arrayOver (.array .int)) (List.mem_append_right _ (List.mem_of_getElem? (i := 261) (by decide +kernel)))), (show va_AOA .long s from hts (.arrayOver (.array .long)) (List.mem_append_right _ (List.mem_of_getElem? (i := 203) (by decide +kernel))))⟩
theorem whole_start {p : Program} {e : Env} {s : State} {m : MethodId} {below : List Frame} {meth : Method} {c : Code} (l : Launch) (hflags : l.flags = flags0) {b L : Nat} {xs : Nat → Int32} (hL : L ≤ 3072) (C0 : lw_At p s m meth c b L xs) : W p l e room_1 s m #[Value.ref b] below meth c s.heap [] 0 0 (lw_Z below #[Value.ref b] s) (entryFrame m ([Value.ref b] : List Value).toArray 4) := by
  obtain ⟨hx, hb, hr, hml, hown, hts, hX, hbl, hlocks, hgv⟩ := id C0
  have hA : ∀ q : Nat, s.heap.size ≤ q → (fun q : Nat => s.heap.size ≤ q) q := fun _ h => h
  have hnA : ∀ a : Nat, a < s.heap.size → ¬ (fun q : Nat => s.heap.size ≤ q) a := fun a h => Nat.not_le.mpr h
  have htx : ∀ w ∈ xT, w.before #[Value.ref b] s = true := fun w hw => hts w (List.mem_filter.mp hw).1
  have hD0 : ∀ k : Nat, ∃ q : ClassId × (Nat → Nat), ∀ r : vw_C, vwCl[k]? = some r → u_Kn s r.1 r.2.1 r.2.2 q.1 q.2 := by
    intro k
    match k with
    | 0 =>
      obtain ⟨c1, i1, h1⟩ := u_known (C := RX0) (T := TX0) (N := 5) (n := 5) htx inX0 (hts (.instantiable RX0 5) (List.mem_append_right _ (List.mem_of_getElem? (i := 113) (by decide +kernel))))
      exact ⟨(c1, i1), fun r hr => by cases hr; exact h1⟩
    | 1 =>
      obtain ⟨c1, i1, h1⟩ := u_known (C := RX1) (T := TX1) (N := 10) (n := 10) htx inX1 (hts (.instantiable RX1 10) (List.mem_append_right _ (List.mem_of_getElem? (i := 276) (by decide +kernel))))
      exact ⟨(c1, i1), fun r hr => by cases hr; exact h1⟩
    | 2 =>
      obtain ⟨c1, i1, h1⟩ := u_known (C := RX2) (T := TX2) (N := 7) (n := 7) htx inX2 (hts (.instantiable RX2 7) (List.mem_append_right _ (List.mem_of_getElem? (i := 317) (by decide +kernel))))
      exact ⟨(c1, i1), fun r hr => by cases hr; exact h1⟩
    | 3 =>
      obtain ⟨c1, i1, h1⟩ := u_known (C := RX3) (T := TX3) (N := 4) (n := 4) htx inX3 (hts (.instantiable RX3 4) (List.mem_append_right _ (List.mem_of_getElem? (i := 255) (by decide +kernel))))
      exact ⟨(c1, i1), fun r hr => by cases hr; exact h1⟩
    | 4 =>
      obtain ⟨c1, i1, h1⟩ := u_known (C := RX4) (T := TX4) (N := 4) (n := 4) htx inX4 (hts (.instantiable RX4 4) (List.mem_append_right _ (List.mem_of_getElem? (i := 648) (by decide +kernel))))
      exact ⟨(c1, i1), fun r hr => by cases hr; exact h1⟩
    | 5 =>
      obtain ⟨c1, i1, h1⟩ := u_known (C := RX5) (T := TX5) (N := 8) (n := 8) htx inX5 (hts (.instantiable RX5 8) (List.mem_append_right _ (List.mem_of_getElem? (i := 142) (by decide +kernel))))
      exact ⟨(c1, i1), fun r hr => by cases hr; exact h1⟩
    | 6 =>
      obtain ⟨c1, i1, h1⟩ := u_known (C := RX6) (T := TX6) (N := 4) (n := 4) htx inX6 (hts (.instantiable RX6 4) (List.mem_append_right _ (List.mem_of_getElem? (i := 37) (by decide +kernel))))
      exact ⟨(c1, i1), fun r hr => by cases hr; exact h1⟩
    | 7 =>
      obtain ⟨c1, i1, h1⟩ := u_known (C := RX7) (T := TX7) (N := 9) (n := 9) htx inX7 (hts (.instantiable RX7 9) (List.mem_append_right _ (List.mem_of_getElem? (i := 31) (by decide +kernel))))
      exact ⟨(c1, i1), fun r hr => by cases hr; exact h1⟩
    | 8 =>
      obtain ⟨c1, i1, h1⟩ := u_known (C := RX8) (T := TX8) (N := 7) (n := 7) htx inX8 (hts (.instantiable RX8 7) (List.mem_append_right _ (List.mem_of_getElem? (i := 224) (by decide +kernel))))
      exact ⟨(c1, i1), fun r hr => by cases hr; exact h1⟩
    | 9 =>
      obtain ⟨c1, i1, h1⟩ := u_known (C := RX9) (T := TX9) (N := 4) (n := 4) htx inX9 (hts (.instantiable RX9 4) (List.mem_append_right _ (List.mem_of_getElem? (i := 148) (by decide +kernel))))
      exact ⟨(c1, i1), fun r hr => by cases hr; exact h1⟩
    | 10 =>
      obtain ⟨c1, i1, h1⟩ := u_known (C := RX10) (T := TX10) (N := 6) (n := 6) htx inX10 (hts (.instantiable RX10 6) (List.mem_append_right _ (List.mem_of_getElem? (i := 197) (by decide +kernel))))
      exact ⟨(c1, i1), fun r hr => by cases hr; exact h1⟩
    | 11 =>
      obtain ⟨c1, i1, h1⟩ := u_known (C := RX11) (T := TX11) (N := 16) (n := 16) htx inX11 (hts (.instantiable RX11 16) (List.mem_append_right _ (List.mem_of_getElem? (i := 23) (by decide +kernel))))
      exact ⟨(c1, i1), fun r hr => by cases hr; exact h1⟩
    | 12 =>
      obtain ⟨c1, i1, h1⟩ := u_known (C := RX12) (T := TX12) (N := 46) (n := 46) htx inX12 (hts (.instantiable RX12 46) (List.mem_append_right _ (List.mem_of_getElem? (i := 1099) (by decide +kernel))))
      exact ⟨(c1, i1), fun r hr => by cases hr; exact h1⟩
    | k + 13 => exact ⟨(0, fun _ => 0), fun r hr => by simp [vwCl] at hr⟩
  have hK0 : ∀ k : Nat, ∃ cA : ClassId, ∀ ty : FieldType, ([.int, .long, .boolean, .object "PencilPrice$Law", .array .int, .array .long, .object "PencilPrice$Stock"] : List FieldType)[k]? = some ty → ArrOfT s cA ty ∧ va_RA s cA ty := by
    intro k
    match k with
    | 0 =>
      obtain ⟨c1, h1⟩ := xArr (ty := .int) (fun _ h => by cases h) (hts (.arrayClass .int) (List.mem_append_right _ (List.mem_of_getElem? (i := 60) (by decide +kernel))))
      exact ⟨c1, fun ty hty => by cases hty; exact h1⟩
    | 1 =>
      obtain ⟨c1, h1⟩ := xArr (ty := .long) (fun _ h => by cases h) (hts (.arrayClass .long) (List.mem_append_right _ (List.mem_of_getElem? (i := 140) (by decide +kernel))))
      exact ⟨c1, fun ty hty => by cases hty; exact h1⟩
    | 2 =>
      obtain ⟨c1, h1⟩ := xArr (ty := .boolean) (fun _ h => by cases h) (hts (.arrayClass .boolean) (List.mem_append_right _ (List.mem_of_getElem? (i := 139) (by decide +kernel))))
      exact ⟨c1, fun ty hty => by cases hty; exact h1⟩
    | 3 =>
      obtain ⟨c1, h1⟩ := xArrO (hts (.arrayOver (.object "PencilPrice$Law")) (List.mem_append_right _ (List.mem_of_getElem? (i := 62) (by decide +kernel))))
      exact ⟨c1, fun ty hty => by cases hty; exact h1⟩
    | 4 =>
      obtain ⟨c1, h1⟩ := xArrA (hts (.arrayOver (.array .int)) (List.mem_append_right _ (List.mem_of_getElem? (i := 261) (by decide +kernel))))
      exact ⟨c1, fun ty hty => by cases hty; exact h1⟩
    | 5 =>
      obtain ⟨c1, h1⟩ := xArrA (hts (.arrayOver (.array .long)) (List.mem_append_right _ (List.mem_of_getElem? (i := 203) (by decide +kernel))))
      exact ⟨c1, fun ty hty => by cases hty; exact h1⟩
    | 6 =>
      obtain ⟨c1, h1⟩ := xArrO (hts (.arrayOver (.object "PencilPrice$Stock")) (List.mem_append_right _ (List.mem_of_getElem? (i := 111) (by decide +kernel))))
      exact ⟨c1, fun ty hty => by cases hty; exact h1⟩
    | k + 7 => exact ⟨0, fun ty hty => by simp at hty⟩
  obtain ⟨f, hf⟩ := Classical.axiomOfChoice hD0
  obtain ⟨K, hK⟩ := Classical.axiomOfChoice hK0
  have hKK : va_K (fun k => (f k).1, fun k => (f k).2) vwCl (xTys K) s := ⟨fun c q hq => hf c q hq, fun k q hq => by
    match k, hq with
    | 0, hq => cases hq; exact hK 0 _ rfl
    | 1, hq => cases hq; exact hK 1 _ rfl
    | 2, hq => cases hq; exact hK 2 _ rfl
    | 3, hq => cases hq; exact hK 3 _ rfl
    | 4, hq => cases hq; exact hK 4 _ rfl
    | 5, hq => cases hq; exact hK 5 _ rfl
    | 6, hq => cases hq; exact hK 6 _ rfl
    | k + 7, hq => simp [xTys] at hq⟩
  have hC : xC p s m #[Value.ref b] meth c (fun k => (f k).1, fun k => (f k).2) K (fun q : Nat => s.heap.size ≤ q) RL cL_law 4 ret := ⟨hx, hb, hml, hown, htx, hKK, hr, hlocks, hA, law_zS hts hgv hnA⟩
  obtain ⟨Sim, hE, h0⟩ := sim_all
  have hX0 : X p l e room_1 s m #[Value.ref b] below meth c (fun k => (f k).1, fun k => (f k).2) (fun q : Nat => s.heap.size ≤ q) 4 (lw_Z below #[Value.ref b] s) 0 0 0 [(0, .ref b)] [] [] := law_start hC (fun ad ad2 la => law_loop hC hX hbl (Nat.not_le.mpr hbl) hL hE (fun k n i ws hk hn H locs ls hP hD hS hl => va_forget (fun q hq => hS.2.2 q hq) (W.widen hk hn (lw_ret hx hb hr hlocks dL_law_1641))) (L + 1) 0 σ0 τ0 la h0 (by omega) (by omega))
  have hl := lv_entry ([.ref b]) (n := 4) (Nat.le_of_ble_eq_true rfl)
  rw [lg_entry_eq]
  exact hX0 s.heap [] _ (fun k q h => by simp at h) ⟨fun i j p q h => by simp at h, fun k q h => by simp at h⟩ va_S.rf hl
set_option maxHeartbeats 4000000 in
theorem lw_walk (l : Launch) (hflags : l.flags = flags0) (b : Addr) (xs : List Int32) : MetFree l x (headSpec (Jvm.Cond.code x code maxLocals ret :: tables_1) room_1) (lw_P b xs) (fun _ _ _ _ _ => True) lw_Q := by
  refine MetFree.of_bodyS (code := code) (maxLocals := maxLocals) (ret := ret) (by decide) ?_ ?_
  · intro args s m h hn
    obtain ⟨meth, c, h1, h2, h3, h4, h5, h6, -, -⟩ := Cond.code_spec hn (atoms_spec (ws := Jvm.Cond.code x code maxLocals ret :: tables_1) h _ List.mem_cons_self)
    exact ⟨meth, c, h1, h2, h3, h4, h5, h6⟩
  · intro p e s m args below meth c s₁ B hml0 hP _
    obtain ⟨rfl, hx, hbd, hgv⟩ := hP
    obtain ⟨scr, harrAt, hlist, hof, hsmall⟩ := hx
    obtain ⟨hcb, hkn, -, -⟩ := State.arrayAt?_spec harrAt
    have hown : s.vm.findClass R_law = some m.cls := findClass_of_methodNamed B.named
    have hts0 : ∀ c ∈ (Jvm.Cond.code x code maxLocals ret :: tables_1), c.before #[Value.ref b] s = true := atoms_spec (ws := Jvm.Cond.code x code maxLocals ret :: tables_1) B.pre
    have hts : ∀ w ∈ lw_tbl, w.before #[Value.ref b] s = true := k2_hts_sels lw_privs (fun w hw => hts0 w (List.mem_cons_of_mem _ hw)) lw_privs_ok
    have hml : c.maxLocals = 4 := B.maxLocals_eq (hts0 _ List.mem_cons_self)
    have X₀ : Stand p l e room_1 s m #[Value.ref b] below meth c s₁ [] 0 0 := Stand.of_body B
    have hh0 : s₁.heap = s.heap := by rw [B.state]; rfl
    have hsz : scr.slots.size = xs.length := by rw [← Array.length_toList, hlist, List.length_map]
    have hval : ∀ j : Nat, j < xs.length → scr.slots[j]? = some (.int (xs.getD j 0)) := fun j hj => by
      rw [← Array.getElem?_toList, hlist]
      simp [hj]
    have hbl : b < s.heap.size := (Array.getElem?_eq_some_iff.mp hcb).1
    have hX : va_X b xs.length (fun j => xs.getD j 0) s s.heap := ⟨scr, hcb, hof, hkn, hsz, hval⟩
    have K : W p l e room_1 s m #[Value.ref b] below meth c s₁.heap [] 0 0 (lw_Z below #[Value.ref b] s) (entryFrame m ([Value.ref b] : List Value).toArray 4) := by
      rw [hh0]
      exact whole_start l hflags hbd ⟨B.exec, B.bytes, B.returns, hml, hown, hts, hX, hbl, B.notSynchronized, hgv⟩
    obtain ⟨t, a1, o, b1, b2, b3⟩ := K s₁ rfl X₀
    exact ⟨t, o, a1, b1, b2, b3⟩
theorem lw_pre_spec {args : Array Value} {s : State} (h : (Jvm.Cond.and given_1 narrow_1).before args s = true) (hr : rest_1_c.before args s = true) : ∃ (b : Addr) (xs : List Int32), lw_P b xs args s := by
  have hs := flat_of_before _ h
  have hq := flat_of_before _ hr
  have hc : (Cond.count 1).before args s = true := hs _ (by decide +kernel)
  have harr : (Cond.arrayOf (.arg 0) .int).before args s = true := hs _ (by decide +kernel)
  have hle : (Cond.le (.length (.arg 0)) (.int 3072)).before args s = true := hs _ (by decide +kernel)
  have hlen : (Cond.isInt (.length (.arg 0))).before args s = true := hq _ (by decide +kernel)
  have hall : (Cond.all (.arg 0) (.isInt (.elem (.arg 0) (.index 0)))).before args s = true := hq _ (by decide +kernel)
  obtain ⟨b, xs, hb, hx⟩ := State.ints_of_pre rfl harr hlen hall
  have hsm : xs.length < 2 ^ 31 := hx.choose_spec.2.2.2
  have hev : (Term.length (.arg 0)).eval args s none [] s = some (.int xs.length.toInt32) := hx.length_eval hb
  have hv := Cond.le_ints hev (show (Term.int 3072).eval args s none [] s = some (.int 3072) from rfl)
  have hd : xs.length.toInt32 ≤ 3072 := by
    simpa [Cond.before, Cond.holds, hv] using hle
  have hN : xs.length ≤ 3072 := (Int32.ofNat_le_ofNat hsm (by decide)).mp (show Int32.ofNat xs.length ≤ Int32.ofNat 3072 from hd)
  exact ⟨b, xs, Cond.one_arg hc (show args[0]? = some (.ref b) from hb), hx, hN, h⟩
theorem lw_comes (l : Launch) (hflags : l.flags = flags0) : Comes l x (Jvm.Cond.code x code maxLocals ret :: tables_1) room_1 (fun tb e args s => Calls_1 tb e args s ∧ rest_1 tb e args s ∧ Pre_1 tb e args s)
    (fun _ _ args s o t => lw_Q args s o t) := by
  intro p e ha hc hk s m args below hf hfit hheap happ hpre
  obtain ⟨b, xs, hP⟩ := lw_pre_spec hpre.2.2 hpre.2.1
  obtain ⟨k, o, h1, h2, h3, hQ⟩ := lw_walk l hflags b xs p e ha hc hk s m args below hf ((Spec.applies_iff_loose hf).mp happ).1 hP trivial
  exact ⟨k, o, h1, h2, h3, hQ⟩
theorem lw_frame {s t : State} {o : Outcome} {args : Array Value} (h : Framed s o t [] 600000 7302250) :
    Framed s o t (fieldLocs frame_1_writes args s ++ arrayLocs frame_1_arrays args s ++ staticLocs frame_1_statics s) 600000 7302250 := h
theorem lw_limb (L : Cond) (hL : ∀ (args : Array Value) (s t : State), L.after args s (.returned (some (.int 1))) t = true) :
    ArmFor flags0 classFile x code maxLocals ret World_1 tables_1 room_1 Calls_1 rest_1 Pre_1
      (fun tb e a s o t => postC L tb e a s o t ∧ Framed s o t (fieldLocs frame_1_writes a s ++ arrayLocs frame_1_arrays a s ++ staticLocs frame_1_statics s) 600000 7302250) := by
  intro l hflags _ _ p e ha hc hk s m args below hf hfit hheap happ hpre
  obtain ⟨k, o, h1, h2, h3, rfl, hF⟩ := lw_comes l hflags p e ha hc hk s m args below hf hfit hheap happ hpre
  exact ⟨k, _, h1, h2, h3, hL args s _, lw_frame hF⟩
theorem i_vc : Claimed_1_1 ∧ Claimed_1_2 := ⟨lw_limb limb_1_1 (fun args s t => by simp [limb_1_1, Cond.after, Cond.holds, Cond.value]), lw_limb limb_1_2 (fun args s t => Cond.after_iff.mpr (by
  first | (rw [show limb_1_2 = Cond.eq .result (.int 1) from rfl, Cond.eq_ints (x := 1) (y := 1) rfl rfl]; simp; done) | (simp [limb_1_2, Cond.value, Term.eval]; done)))⟩

