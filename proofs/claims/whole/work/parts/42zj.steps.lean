section
/-! ===== the reference's reader: its steps ===== -/
def TX (g : Nat → Nat) (T C : Nat) : Prop := C ≤ T ∧ T ≤ 400 ∧ plT g T C = T ∧ ∀ j, j < C → plT g T j < T
def kd (g : Nat → Nat) (T k : Nat) : Nat := tkK g T (plT g T k)
def nu (g : Nat → Nat) (T k : Nat) : Nat := tkN g T (plT g T k)
theorem plT_le {g : Nat → Nat} {T C : Nat} (h : TX g T C) {k : Nat} (hk : k ≤ C) : plT g T k ≤ T := by
  rcases Nat.lt_or_ge k C with h1 | h1
  · exact Nat.le_of_lt (h.2.2.2 k h1)
  · rw [show k = C by omega, h.2.2.1]
    exact Nat.le_refl _
theorem kd_end {g : Nat → Nat} {T C : Nat} (h : TX g T C) {k : Nat} (hk : k ≤ C) (hd : kd g T k ≠ 276) : k < C := by
  apply Nat.lt_of_not_ge
  intro z
  apply hd
  unfold kd tkK
  rw [show k = C by omega, h.2.2.1, if_pos (Nat.le_refl _)]
theorem kd_C {g : Nat → Nat} {T C : Nat} (h : TX g T C) : kd g T C = 276 := by
  unfold kd tkK
  rw [h.2.2.1, if_pos (Nat.le_refl _)]
theorem endT_T {g : Nat → Nat} {T q : Nat} (h : q ≤ T) : endT g T q ≤ T := by
  rcases Nat.lt_or_ge q T with h1 | h1
  · exact (endT_le h1).2
  · unfold endT
    rw [if_pos h1]
    exact h
theorem RI_frN {g : Nat → Nat} {T : Nat} {τ τ' : xS} {k k' n q dep : Nat} {R : Nat → Nat × Nat} {P : List (Nat × Nat)} (h : RI g T τ k n q dep R P) (hf : frN τ τ') (ht : RT g T (plT g T k') τ') : RI g T τ' k' n q dep R P := by
  obtain ⟨r1, r2, r3, r4, r5, r6, r7, r8, r9, r10⟩ := h
  obtain ⟨f1, f2, f3, f4, f5, f6⟩ := id hf
  exact ⟨TpR_N r1 hf, ht, (f2 20 (by decide) (by decide) (by decide)).trans r3, (f2 17 (by decide) (by decide) (by decide)).trans r4, codR_of r5 (f1 18) (f1 19), (f2 23 (by decide) (by decide) (by decide)).trans r6, pil_of r7 (f1 21) (f1 22), r8, (f2 24 (by decide) (by decide) (by decide)).trans r9, (f4 25).trans r10.1, (f4 26).trans r10.2⟩
theorem RI_next {g : Nat → Nat} {T C : Nat} (hX : TX g T C) {τ : xS} {k n q dep : Nat} {R : Nat → Nat × Nat} {P : List (Nat × Nat)} (h : RI g T τ k n q dep R P) (hk : k ≤ C) : ∃ τ', F_X12_next τ = some ((), τ') ∧ RI g T τ' (k + 1) n q dep R P ∧ pzF τ τ' ∧ sI τ' 14 = sI τ 14 ∧ sI τ' 13 = sI τ 13 := by
  obtain ⟨τ', h1, h2, h3⟩ := R_next (p := endT g T (plT g T k)) (endT_T (plT_le hX hk)) h.1 h.2.1.2.1
  exact ⟨τ', h1, RI_frN h h2 h3, pzF_N h2, h2.2.1 14 (by decide) (by decide) (by decide), h2.2.1 13 (by decide) (by decide) (by decide)⟩
theorem RI_must1 {g : Nat → Nat} {T C : Nat} (hX : TX g T C) {τ : xS} {k n q dep : Nat} {R : Nat → Nat × Nat} {P : List (Nat × Nat)} (h : RI g T τ k n q dep R P) (hk : k ≤ C) (h14 : sI τ 14 = 0) {x : Int32} (hx : x ≠ 0) : ∃ τ', F_X12_must x τ = some ((), τ') ∧ RI g T τ' (k + 1) n q dep R P ∧ pzF τ τ' ∧ sI τ' 14 = 0 ∧ sI τ' 13 = sI τ 13 := by
  obtain ⟨τ', h1, h2, h3, h4, h5⟩ := RI_next hX h hk
  refine ⟨τ', ?_, h2, h3, h4.trans h14, h5⟩
  unfold F_X12_must F_X12_must_24
  rw [h14, if_pos rfl, if_neg hx, if_pos rfl, h1]
  rfl
def flS (τ : xS) : xS := uI (uI τ 14 1) 13 (sI τ 9)
theorem RI_must0 {g : Nat → Nat} {T : Nat} {τ : xS} {k n q dep : Nat} {R : Nat → Nat × Nat} {P : List (Nat × Nat)} (h : RI g T τ k n q dep R P) (h14 : sI τ 14 = 0) : F_X12_must 0 τ = some ((), flS τ) ∧ RI g T (flS τ) k n q dep R P ∧ pzF τ (flS τ) ∧ sI (flS τ) 14 = 1 ∧ sI (flS τ) 13 = nI (plT g T k) := by
  obtain ⟨r1, r2, r3, r4, r5, r6, r7, r8, r9, r10⟩ := h
  refine ⟨?_, ⟨r1, r2, r3, r4, codR_of r5 rfl rfl, r6, pil_of r7 rfl rfl, r8, r9, r10⟩, pzF_trans (pzF_I _ _ (by decide)) (pzF_I _ _ (by decide)), rfl, r2.1⟩
  have e1 : sI (flS τ) 14 = 1 := rfl
  unfold F_X12_must F_X12_must_24
  rw [h14, if_pos rfl, if_pos rfl, cz_1, nm_eq, nm_eq]
  show (if sI (flS τ) 14 = 0 then _ else some ((), flS τ)) = _
  rw [e1, if_neg (by decide)]
theorem wds25 : ∀ j, j < 10 → sL τ0 25 j = zL (cod j : Int) := by decide +kernel
theorem wds26 : ∀ j, j < 4 → sL τ0 26 j = zL (cod (10 + j) : Int) := by decide +kernel
theorem R_partAt {g : Nat → Nat} {T C : Nat} (hX : TX g T C) {τ : xS} {k n q dep : Nat} {R : Nat → Nat × Nat} {P : List (Nat × Nat)} (h : RI g T τ k n q dep R P) (hk : k ≤ C) : F_X12_partAt τ = some (if 256 ≤ kd g T k ∧ kd g T k < 266 then nI (kd g T k - 255) else -1, τ) := by
  have key : ∀ m d j (y : Int32), m < d → j + m = 10 → F_X12_partAt_4 d y (nI j) τ = some (if 256 + j ≤ kd g T k ∧ kd g T k < 266 then nI (kd g T k - 255) else y, τ) := by
    intro m
    induction m with
    | zero =>
      intro d j y hd hj
      obtain ⟨d, rfl⟩ : ∃ q, d = q + 1 := ⟨d - 1, by omega⟩
      rw [F_X12_partAt_4, if_pos (show (10 : Int32) ≤ nI j from nI_le (a := 10) (by omega) (by omega)), if_neg (by omega)]
    | succ m ih =>
      intro d j y hd hj
      obtain ⟨d, rfl⟩ : ∃ q, d = q + 1 := ⟨d - 1, by omega⟩
      rw [F_X12_partAt_4, if_neg (show ¬ (10 : Int32) ≤ nI j from nI_ge (b := 10) (by omega) (by decide)), rd_n (by omega) (by decide), h.2.2.2.2.2.2.2.2.2.1, wds25 j (by omega), R_isWd h.1 h.2.1 (plT_le hX hk) (by omega), bd_eq, ib2]
      by_cases e : kd g T k = 256 + j
      · rw [if_pos (show tkK g T (plT g T k) = 256 + j from e), nm_eq2, nm_eq2, nI_1, ih d (j + 1) _ (by omega) (by omega), if_neg (by omega), if_pos (by omega), show kd g T k - 255 = j + 1 by omega]
      · rw [if_neg (show ¬ tkK g T (plT g T k) = 256 + j from e), nm_eq2, nI_1, ih d (j + 1) _ (by omega) (by omega)]
        by_cases c : 256 + j ≤ kd g T k ∧ kd g T k < 266
        · rw [if_pos c, if_pos (by omega)]
        · rw [if_neg c, if_neg (by omega)]
  unfold F_X12_partAt
  rw [nm_eq2, nm_eq2]
  exact key 10 FU 0 (-1) (by unfold FU; omega) rfl
theorem RI_open1 {g : Nat → Nat} {T C : Nat} (hX : TX g T C) {τ : xS} {k n q dep : Nat} {R : Nat → Nat × Nat} {P : List (Nat × Nat)} (h : RI g T τ k n q dep R P) (hk : k ≤ C) (h14 : sI τ 14 = 0) (hd : dep < 8) (hl : P.length < 400) {a : Nat} (ha : a = 30 ∨ a = 31) : ∃ τ', F_X12_openBracket (nI a) τ = some ((), τ') ∧ RI g T τ' (k + 1) n q (dep + 1) R ((a, 0) :: P) ∧ pzF τ τ' ∧ sI τ' 14 = 0 ∧ sI τ' 13 = sI τ 13 := by
  obtain ⟨τ1, h1, h2, h3, h4, h5⟩ := RI_must1 hX h hk h14 (x := 1) (by decide)
  have h6 : RI g T (uI τ1 24 (nI (dep + 1))) (k + 1) n q (dep + 1) R P := by
    obtain ⟨r1, r2, r3, r4, r5, r6, r7, r8, r9, r10⟩ := h2
    exact ⟨r1, r2, r3, r4, codR_of r5 rfl rfl, r6, pil_of r7 rfl rfl, r8, rfl, r10⟩
  obtain ⟨p1, p2, p3⟩ := RI_push h6 hl a 0 (by omega) (by decide)
  refine ⟨_, ?_, p2, pzF_trans (pzF_trans h3 (pzF_I _ _ (by decide))) p3, h4, h5⟩
  unfold F_X12_openBracket F_X12_openBracket_15
  rw [h.2.2.2.2.2.2.2.2.1, if_neg (show ¬ (8 : Int32) ≤ nI dep from nI_ge (b := 8) hd (by decide)), h1, bd_eq, h4, if_pos rfl, h2.2.2.2.2.2.2.2.2.1, nI_1, nm_eq, show F_X12_push (nI a) 0 = F_X12_push (nI a) (nI 0) from rfl, p1]
  rfl
theorem RI_open0 {g : Nat → Nat} {T : Nat} {τ : xS} {k n q dep : Nat} {R : Nat → Nat × Nat} {P : List (Nat × Nat)} (h : RI g T τ k n q dep R P) (h14 : sI τ 14 = 0) (hd : 8 ≤ dep) (hd2 : dep < 400) (a : Int32) : F_X12_openBracket a τ = some ((), flS τ) := by
  obtain ⟨h1, h2, h3, h4, h5⟩ := RI_must0 h h14
  unfold F_X12_openBracket F_X12_openBracket_15
  rw [h.2.2.2.2.2.2.2.2.1, if_pos (show (8 : Int32) ≤ nI dep from nI_le (a := 8) hd (by omega)), h1, bd_eq, h4, if_neg (by decide)]
theorem RI_leaf1 {g : Nat → Nat} {T C : Nat} (hX : TX g T C) {τ : xS} {k n q dep : Nat} {R : Nat → Nat × Nat} {P : List (Nat × Nat)} (h : RI g T τ k n q dep R P) (hk : k ≤ C) (h14 : sI τ 14 = 0) (hn : n < 50) (hq : q < 400) {a x : Nat} (hx : okE (a, x)) : ∃ τ', F_X12_leaf 1 (nI a) (nI x) τ = some ((), τ') ∧ RI g T τ' (k + 1) (n + 1) (q + 1) dep (updN R q (a, x)) P ∧ pzF τ τ' ∧ sI τ' 14 = 0 ∧ sI τ' 13 = sI τ 13 := by
  obtain ⟨τ1, h1, h2, h3, h4, h5⟩ := RI_must1 hX h hk h14 (x := 1) (by decide)
  obtain ⟨p1, p2, p3⟩ := RI_emit h2 hq a x hx
  refine ⟨uI (emS τ1 q a x) 20 (nI (n + 1)), ?_, ?_, pzF_trans (pzF_trans h3 p3) (pzF_I _ _ (by decide)), h4, h5⟩
  · unfold F_X12_leaf F_X12_leaf_19
    rw [if_neg (by decide), h.2.2.1, if_neg (show ¬ (50 : Int32) ≤ nI n from nI_ge (b := 50) hn (by decide)), h1, bd_eq, h4, if_pos rfl, p1, bd_eq, p2.2.2.1, nI_1, nm_eq]
  · obtain ⟨r1, r2, r3, r4, r5, r6, r7, r8, r9, r10⟩ := p2
    exact ⟨r1, r2, rfl, r4, codR_of r5 rfl rfl, r6, pil_of r7 rfl rfl, r8, r9, r10⟩
theorem RI_leaf0 {g : Nat → Nat} {T : Nat} {τ : xS} {k n q dep : Nat} {R : Nat → Nat × Nat} {P : List (Nat × Nat)} (h : RI g T τ k n q dep R P) (h14 : sI τ 14 = 0) (hn2 : n < 400) {x : Int32} (hc : x = 0 ∨ 50 ≤ n) (a b : Int32) : F_X12_leaf x a b τ = some ((), flS τ) := by
  obtain ⟨h1, h2, h3, h4, h5⟩ := RI_must0 h h14
  unfold F_X12_leaf F_X12_leaf_18 F_X12_leaf_19
  by_cases e : x = 0
  · rw [if_pos e, h1, bd_eq, h4, if_neg (by decide)]
  · have hn := hc.resolve_left e
    rw [if_neg e, h.2.2.1, if_pos (show (50 : Int32) ≤ nI n from nI_le (a := 50) hn (by omega)), h1, bd_eq, h4, if_neg (by decide)]
/-! ===== a leaf ===== -/
def lfOK (a v : Nat) : Prop := (a = 274 ∧ v ≤ 1000) ∨ (256 ≤ a ∧ a < 266)
def lfR (a v : Nat) : Nat × Nat := if a = 274 then (0, v) else (a - 255, 0)
def lfC (a v : Nat) : Nat × Nat := if a = 274 then (0, v) else (1, a - 256)
def lfS (a v : Nat) : (Nat → Int64) → Option Int64 := if a = 274 then sNum v else sWord (a - 256)
theorem lf_segC {K : Nat → Nat × Nat} {u a v : Nat} (h : K u = lfC a v) : segC K u (u + 1) 1 (lfS a v) := by
  unfold lfC at h
  unfold lfS
  by_cases e : a = 274
  · rw [if_pos e] at h ⊢
    exact segC_num h
  · rw [if_neg e] at h ⊢
    exact segC_word h
theorem lf_segR {K : Nat → Nat × Nat} {u a v : Nat} (ho : lfOK a v) (h : K u = lfR a v) : segR K u (u + 1) 1 (lfS a v) := by
  unfold lfR at h
  unfold lfOK at ho
  unfold lfS
  by_cases e : a = 274
  · rw [if_pos e] at h ⊢
    exact segR_num h
  · rw [if_neg e] at h ⊢
    exact segR_word (y := 0) (by omega) (by rw [h, show a - 256 + 1 = a - 255 by omega])
theorem lf_okE {a v : Nat} (ho : lfOK a v) : okE (lfR a v) := by
  unfold lfR
  unfold lfOK at ho
  by_cases e : a = 274
  · rw [if_pos e]
    exact ⟨by show 0 ≤ 29; omega, by show v ≤ 1000; omega, fun _ => by show 0 ≤ 10; omega⟩
  · rw [if_neg e]
    exact ⟨by show a - 255 ≤ 29; omega, by show 0 ≤ 1000; omega, fun _ => by show a - 255 ≤ 10; omega⟩
theorem zL_toI {v : Nat} (h : v ≤ 1000) : (zL (v : Int)).toInt32 = nI v := by
  rw [← zL_n (by omega), Int32.toInt32_toInt64]
theorem R_part1 {g : Nat → Nat} {T C : Nat} (hX : TX g T C) {τ : xS} {k n q dep : Nat} {R : Nat → Nat × Nat} {P : List (Nat × Nat)} (h : RI g T τ k n q dep R P) (hk : k ≤ C) (h14 : sI τ 14 = 0) (hn : n < 50) (hq : q < 400) (hl : lfOK (kd g T k) (nu g T k)) : ∃ τ', F_X12_readPart τ = some (3, τ') ∧ RI g T τ' (k + 1) (n + 1) (q + 1) dep (updN R q (lfR (kd g T k) (nu g T k))) P ∧ pzF τ τ' ∧ sI τ' 14 = 0 ∧ sI τ' 13 = sI τ 13 := by
  have h91 := R_isSg (c := 91) h.1 h.2.1 (plT_le hX hk) (by decide) (by decide) (by decide)
  obtain ⟨n1, n2⟩ := R_num h.1 h.2.1 (plT_le hX hk)
  have hpa := R_partAt hX h hk
  have hoe := lf_okE hl
  unfold F_X12_readPart
  rw [show F_X12_isSign 91 = F_X12_isSign (nI 91) from rfl, h91, bd_eq, ib2, if_neg (show ¬ tkK g T (plT g T k) = 91 from fun z => by unfold lfOK kd at hl; omega), hpa, bd_eq]
  by_cases e : kd g T k = 274
  · obtain ⟨v, v1, v2, v3⟩ := n2 e
    have hv : v ≤ 1000 ∧ nu g T k = v := by
      rcases v3 with v3 | v3
      · exact v3
      · have h5 : nu g T k = 1001 := v3.2
        exact hl.elim (fun z => absurd z.2 (by rw [h5]; decide)) (fun z => absurd z.2 (by rw [e]; decide))
    have eR : lfR (kd g T k) (nu g T k) = (0, v) := by
      unfold lfR
      rw [if_pos e, hv.2]
    rw [eR] at hoe ⊢
    rw [if_neg (show ¬ (256 ≤ kd g T k ∧ kd g T k < 266) by omega), n1.mpr e, if_pos rfl, v2, if_neg (fun z => absurd ((lg_cmp_gt _ _).mp z) (by
      rw [show (1000 : Int64) = zL 1000 from rfl]
      apply Int64.not_lt.mpr
      rw [zL_le (by omega) (by omega) (by omega) (by omega)]
      omega))]
    unfold F_X12_readPart_46 F_X12_readPart_57 F_X12_readPart_62 F_X12_readPart_72 F_X12_readPart_85
    rw [if_pos rfl, if_neg (by decide), if_pos rfl, if_neg (by decide), v2, zL_toI hv.1]
    obtain ⟨τ', t1, t2⟩ := RI_leaf1 hX h hk h14 hn hq hoe
    rw [show F_X12_leaf 1 0 (nI v) = F_X12_leaf 1 (nI 0) (nI v) from rfl, t1]
    exact ⟨τ', rfl, t2⟩
  · have hw : 256 ≤ kd g T k ∧ kd g T k < 266 := hl.resolve_left (fun z => e z.1)
    have eR : lfR (kd g T k) (nu g T k) = (kd g T k - 255, 0) := if_neg e
    have hm1 : ¬ nI (kd g T k - 255) = -1 := nI_m1 (by omega)
    rw [eR] at hoe ⊢
    rw [if_pos hw, if_neg (fun z => e (n1.mp z))]
    unfold F_X12_readPart_45 F_X12_readPart_46 F_X12_readPart_57 F_X12_readPart_62 F_X12_readPart_72 F_X12_readPart_85
    rw [if_neg hm1, if_neg hm1, if_pos rfl]
    obtain ⟨τ', t1, t2⟩ := RI_leaf1 hX h hk h14 hn hq hoe
    rw [show F_X12_leaf 1 (nI (kd g T k - 255)) 0 = F_X12_leaf 1 (nI (kd g T k - 255)) (nI 0) from rfl, t1]
    exact ⟨τ', rfl, t2⟩
theorem R_part0 {g : Nat → Nat} {T C : Nat} (hX : TX g T C) {τ : xS} {k n q dep : Nat} {R : Nat → Nat × Nat} {P : List (Nat × Nat)} (h : RI g T τ k n q dep R P) (hk : k ≤ C) (h14 : sI τ 14 = 0) (hn : n ≤ 50) (h9 : kd g T k ≠ 91) (hl : ¬ (lfOK (kd g T k) (nu g T k) ∧ n < 50)) : F_X12_readPart τ = some (3, flS τ) := by
  have h91 := R_isSg (c := 91) h.1 h.2.1 (plT_le hX hk) (by decide) (by decide) (by decide)
  obtain ⟨n1, n2⟩ := R_num h.1 h.2.1 (plT_le hX hk)
  have hpa := R_partAt hX h hk
  have l0 := fun (x : Int32) (hc : x = 0 ∨ 50 ≤ n) (a b : Int32) => RI_leaf0 h h14 (by omega) hc a b
  unfold F_X12_readPart
  rw [show F_X12_isSign 91 = F_X12_isSign (nI 91) from rfl, h91, bd_eq, ib2, if_neg (show ¬ tkK g T (plT g T k) = 91 from h9), hpa, bd_eq]
  by_cases e : kd g T k = 274
  · obtain ⟨v, v1, v2, v3⟩ := n2 e
    rw [if_neg (show ¬ (256 ≤ kd g T k ∧ kd g T k < 266) by omega), n1.mpr e, if_pos rfl, v2]
    by_cases hv : v ≤ 1000
    · have hnu : nu g T k = v := by
        rcases v3 with v3 | v3
        · exact v3.2
        · omega
      have h50 : 50 ≤ n := by
        apply Nat.le_of_not_lt
        intro z
        exact hl ⟨Or.inl ⟨e, by omega⟩, z⟩
      rw [if_neg (fun z => absurd ((lg_cmp_gt _ _).mp z) (by
        rw [show (1000 : Int64) = zL 1000 from rfl]
        apply Int64.not_lt.mpr
        rw [zL_le (by omega) (by omega) (by omega) (by omega)]
        omega))]
      unfold F_X12_readPart_46 F_X12_readPart_57 F_X12_readPart_62 F_X12_readPart_72 F_X12_readPart_85
      rw [if_pos rfl, if_neg (by decide), if_pos rfl, if_neg (by decide), l0 1 (Or.inr h50)]
      rfl
    · rw [if_pos ((lg_cmp_gt _ _).mpr (by
        rw [show (1000 : Int64) = zL 1000 from rfl]
        apply Int64.not_le.mp
        rw [zL_le (by omega) (by omega) (by omega) (by omega)]
        omega))]
      unfold F_X12_readPart_45 F_X12_readPart_46 F_X12_readPart_62 F_X12_readPart_72 F_X12_readPart_85
      rw [if_pos rfl, if_pos rfl, if_pos rfl, if_pos rfl, l0 0 (Or.inl rfl)]
      rfl
  · rw [if_neg (fun z => e (n1.mp z))]
    by_cases hw : 256 ≤ kd g T k ∧ kd g T k < 266
    · have hm1 : ¬ nI (kd g T k - 255) = -1 := nI_m1 (by omega)
      have h50 : 50 ≤ n := by
        apply Nat.le_of_not_lt
        intro z
        exact hl ⟨Or.inr hw, z⟩
      rw [if_pos hw]
      unfold F_X12_readPart_45 F_X12_readPart_46 F_X12_readPart_57 F_X12_readPart_62 F_X12_readPart_72 F_X12_readPart_85
      rw [if_neg hm1, if_neg hm1, if_pos rfl, l0 1 (Or.inr h50)]
      rfl
    · rw [if_neg hw]
      unfold F_X12_readPart_45 F_X12_readPart_46 F_X12_readPart_62 F_X12_readPart_72 F_X12_readPart_85
      rw [if_pos rfl, if_pos rfl, if_pos rfl, if_pos rfl, l0 0 (Or.inl rfl)]
      rfl
theorem R_part91 {g : Nat → Nat} {T C : Nat} (hX : TX g T C) {τ : xS} {k n q dep : Nat} {R : Nat → Nat × Nat} {P : List (Nat × Nat)} (h : RI g T τ k n q dep R P) (hk : k ≤ C) (h9 : kd g T k = 91) : F_X12_readPart τ = bd (F_X12_openBracket (nI 31) τ) fun _ σ5 => some (1, σ5) := by
  have h91 := R_isSg (c := 91) h.1 h.2.1 (plT_le hX hk) (by decide) (by decide) (by decide)
  unfold F_X12_readPart
  rw [show F_X12_isSign 91 = F_X12_isSign (nI 91) from rfl, h91, bd_eq, ib2, if_pos (show tkK g T (plT g T k) = 91 from h9)]
  rfl
/-! ===== the reader's loop ===== -/
def rk (t : Nat) : Nat := if t = 4 then 1 else if t = 3 then 3 else 2
def RLr (C k : Nat) (y t : Nat) (τ : xS) (r : Option (Unit × xS)) : Prop := ∀ n, 4 * (C - k) + rk t ≤ n → F_X12_readExpression_20 n (nI y) (nI t) τ = r
theorem rk_1 (t : Nat) : 1 ≤ rk t ∧ rk t ≤ 3 := by
  unfold rk
  repeat' split
  all_goals omega
theorem RL_f {C k y t : Nat} {τ : xS} {r : Option (Unit × xS)} (h14 : sI τ 14 ≠ 0) (h : F_X12_readExpression_76 τ = r) : RLr C k y t τ r := by
  intro n hn
  have := rk_1 t
  obtain ⟨n, rfl⟩ : ∃ q, n = q + 1 := ⟨n - 1, by omega⟩
  rw [F_X12_readExpression_20, if_neg h14]
  exact h
theorem RL_4 {C k y : Nat} {τ : xS} {r : Option (Unit × xS)} (h14 : sI τ 14 = 0) (h : F_X12_readExpression_76 τ = r) : RLr C k y 4 τ r := by
  intro n hn
  have := rk_1 4
  obtain ⟨n, rfl⟩ : ∃ q, n = q + 1 := ⟨n - 1, by omega⟩
  rw [F_X12_readExpression_20, if_pos h14, if_pos (show nI 4 = 4 from rfl)]
  exact h
theorem RL_0 {C k k' y t' : Nat} {τ τ' : xS} {r : Option (Unit × xS)} (h14 : sI τ 14 = 0) (h1 : F_X12_readPlain τ = some (nI t', τ')) (hk : 4 * (C - k') + rk t' + 1 ≤ 4 * (C - k) + rk 0) (h : RLr C k' y t' τ' r) : RLr C k y 0 τ r := by
  intro n hn
  obtain ⟨n, rfl⟩ : ∃ q, n = q + 1 := ⟨n - 1, by have := rk_1 0; omega⟩
  rw [F_X12_readExpression_20, if_pos h14, if_neg (by decide), if_pos (show nI 0 = 0 from rfl), h1]
  exact h n (by omega)
theorem RL_1 {C k k' y t' : Nat} {τ τ' : xS} {r : Option (Unit × xS)} (h14 : sI τ 14 = 0) (h1 : F_X12_readPart τ = some (nI t', τ')) (hk : 4 * (C - k') + rk t' + 1 ≤ 4 * (C - k) + rk 1) (h : RLr C k' y t' τ' r) : RLr C k y 1 τ r := by
  intro n hn
  obtain ⟨n, rfl⟩ : ∃ q, n = q + 1 := ⟨n - 1, by have := rk_1 1; omega⟩
  rw [F_X12_readExpression_20, if_pos h14, if_neg (by decide), if_neg (by decide), if_pos (show nI 1 = 1 from rfl), h1]
  exact h n (by omega)
theorem RL_3 {C k k' y t' : Nat} {τ τ' : xS} {r : Option (Unit × xS)} (h14 : sI τ 14 = 0) (h1 : F_X12_behindSum (nI y) τ = some (nI t', τ')) (hk : 4 * (C - k') + rk t' + 1 ≤ 4 * (C - k) + rk 3) (h : RLr C k' y t' τ' r) : RLr C k y 3 τ r := by
  intro n hn
  obtain ⟨n, rfl⟩ : ∃ q, n = q + 1 := ⟨n - 1, by have := rk_1 3; omega⟩
  rw [F_X12_readExpression_20, if_pos h14, if_neg (by decide), if_neg (by decide), if_neg (by decide), if_pos (show nI 3 = 3 from rfl), h1]
  exact h n (by omega)
theorem RL_2 {C k k' y t' : Nat} {τ τ' : xS} {r : Option (Unit × xS)} (h14 : sI τ 14 = 0) (h1 : F_X12_behindTest τ = some (nI t', τ')) (hk : 4 * (C - k') + rk t' + 1 ≤ 4 * (C - k) + rk 2) (h : RLr C k' y t' τ' r) : RLr C k y 2 τ r := by
  intro n hn
  obtain ⟨n, rfl⟩ : ∃ q, n = q + 1 := ⟨n - 1, by have := rk_1 2; omega⟩
  rw [F_X12_readExpression_20, if_pos h14, if_neg (by decide), if_neg (by decide), if_neg (by decide), if_neg (by decide), h1]
  exact h n (by omega)
theorem RL_0f {C k y : Nat} {t' : Int32} {τ τ' : xS} {r : Option (Unit × xS)} (h14 : sI τ 14 = 0) (h1 : F_X12_readPlain τ = some (t', τ')) (hf : sI τ' 14 ≠ 0) (h : F_X12_readExpression_76 τ' = r) : RLr C k y 0 τ r := by
  intro n hn
  obtain ⟨n, rfl⟩ : ∃ q, n = q + 2 := ⟨n - 2, by have : rk 0 ≥ 2 := (by decide); omega⟩
  rw [F_X12_readExpression_20, if_pos h14, if_neg (by decide), if_pos (show nI 0 = 0 from rfl), h1]
  show F_X12_readExpression_20 (n + 1) (nI y) t' τ' = r
  rw [F_X12_readExpression_20, if_neg hf]
  exact h
theorem RL_1f {C k y : Nat} {t' : Int32} {τ τ' : xS} {r : Option (Unit × xS)} (h14 : sI τ 14 = 0) (h1 : F_X12_readPart τ = some (t', τ')) (hf : sI τ' 14 ≠ 0) (h : F_X12_readExpression_76 τ' = r) : RLr C k y 1 τ r := by
  intro n hn
  obtain ⟨n, rfl⟩ : ∃ q, n = q + 2 := ⟨n - 2, by have : rk 1 ≥ 2 := (by decide); omega⟩
  rw [F_X12_readExpression_20, if_pos h14, if_neg (by decide), if_neg (by decide), if_pos (show nI 1 = 1 from rfl), h1]
  show F_X12_readExpression_20 (n + 1) (nI y) t' τ' = r
  rw [F_X12_readExpression_20, if_neg hf]
  exact h
theorem RL_3f {C k y : Nat} {t' : Int32} {τ τ' : xS} {r : Option (Unit × xS)} (h14 : sI τ 14 = 0) (h1 : F_X12_behindSum (nI y) τ = some (t', τ')) (hf : sI τ' 14 ≠ 0) (h : F_X12_readExpression_76 τ' = r) : RLr C k y 3 τ r := by
  intro n hn
  obtain ⟨n, rfl⟩ : ∃ q, n = q + 2 := ⟨n - 2, by have : rk 3 ≥ 2 := (by decide); omega⟩
  rw [F_X12_readExpression_20, if_pos h14, if_neg (by decide), if_neg (by decide), if_neg (by decide), if_pos (show nI 3 = 3 from rfl), h1]
  show F_X12_readExpression_20 (n + 1) (nI y) t' τ' = r
  rw [F_X12_readExpression_20, if_neg hf]
  exact h
theorem RL_2f {C k y : Nat} {t' : Int32} {τ τ' : xS} {r : Option (Unit × xS)} (h14 : sI τ 14 = 0) (h1 : F_X12_behindTest τ = some (t', τ')) (hf : sI τ' 14 ≠ 0) (h : F_X12_readExpression_76 τ' = r) : RLr C k y 2 τ r := by
  intro n hn
  obtain ⟨n, rfl⟩ : ∃ q, n = q + 2 := ⟨n - 2, by have : rk 2 ≥ 2 := (by decide); omega⟩
  rw [F_X12_readExpression_20, if_pos h14, if_neg (by decide), if_neg (by decide), if_neg (by decide), if_neg (by decide), h1]
  show F_X12_readExpression_20 (n + 1) (nI y) t' τ' = r
  rw [F_X12_readExpression_20, if_neg hf]
  exact h
theorem RI_fault {g : Nat → Nat} {T : Nat} {τ : xS} {k n q dep : Nat} {R : Nat → Nat × Nat} {P : List (Nat × Nat)} (h : RI g T τ k n q dep R P) (hl : P.length ≤ 400) (hq : q + wt P ≤ 400) (h14 : sI τ 14 = 1) : ∃ τf, F_X12_readExpression_76 τ = some ((), τf) ∧ pzF τ τf ∧ sI τf 14 = 1 ∧ sI τf 13 = sI τ 13 := by
  obtain ⟨Q, P', e1, e2, e3⟩ := split_b 1 P
  subst e1
  rw [wt_app] at hq
  have hql : (Q ++ P').length = Q.length + P'.length := List.length_append
  obtain ⟨τf, t1, t2, t3, t4, t5⟩ := RI_settle (b := 1) (by decide) (by decide) e3 Q FU q R τ (by unfold FU; omega) hl (by omega) e2 h
  refine ⟨τf, ?_, t3, t4.trans h14, t5⟩
  unfold F_X12_readExpression_76 F_X12_settle
  rw [show F_X12_settle_0 FU 1 τ = F_X12_settle_0 FU (nI 1) τ from rfl, t1]
  rfl
end
