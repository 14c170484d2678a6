section
/-! ===== a clause, the reference's side ===== -/
def pzC (τ τ' : xS) : Prop := (∀ k, k ∉ [16, 18, 19, 21, 22] → sA τ' k = sA τ k) ∧ (∀ k, k ∉ [9, 10, 11, 13, 14, 15, 17, 20, 23, 24] → sI τ' k = sI τ k) ∧ (∀ k, k ≠ 12 → sJ τ' k = sJ τ k) ∧ (∀ k, sL τ' k = sL τ k) ∧ (∀ k, sQ τ' k = sQ τ k) ∧ sP τ' = sP τ
theorem pzC_trans {σ σ1 σ2 : xS} (h : pzC σ σ1) (g : pzC σ1 σ2) : pzC σ σ2 := ⟨fun k h1 => (g.1 k h1).trans (h.1 k h1), fun k h1 => (g.2.1 k h1).trans (h.2.1 k h1), fun k h1 => (g.2.2.1 k h1).trans (h.2.2.1 k h1), fun k => (g.2.2.2.1 k).trans (h.2.2.2.1 k), fun k => (g.2.2.2.2.1 k).trans (h.2.2.2.2.1 k), g.2.2.2.2.2.trans h.2.2.2.2.2⟩
theorem pzC_F {τ τ' : xS} (h : pzF τ τ') : pzC τ τ' := ⟨fun k hk => h.1 k (fun z => hk (List.mem_cons_of_mem _ z)), fun k hk => h.2.1 k (fun z => hk (by
  have : ∀ j, j ∈ [9, 10, 11, 13, 14, 17, 20, 23, 24] → j ∈ [9, 10, 11, 13, 14, 15, 17, 20, 23, 24] := by decide
  exact this k z)), h.2.2.1, h.2.2.2.1, h.2.2.2.2.1, h.2.2.2.2.2⟩
theorem pzC_A (σ : xS) (v : Nat → Int32) : pzC σ (uA σ 16 v) := ⟨fun j h1 => if_neg (fun (q : j = 16) => h1 (by rw [q]; decide)), fun _ _ => rfl, fun _ _ => rfl, fun _ => rfl, fun _ => rfl, rfl⟩
theorem pzC_15 (σ : xS) (v : Int32) : pzC σ (uI σ 15 v) := ⟨fun _ _ => rfl, fun j h1 => if_neg (fun (q : j = 15) => h1 (by rw [q]; decide)), fun _ _ => rfl, fun _ => rfl, fun _ => rfl, rfl⟩
/-- where the reference's reader stands between expressions: its pile's height and its depth may be anything -/
def RJ (g : Nat → Nat) (T : Nat) (τ : xS) (k n q : Nat) (R : Nat → Nat × Nat) : Prop := TpR g T τ ∧ RT g T (plT g T k) τ ∧ sI τ 20 = nI n ∧ sI τ 17 = nI q ∧ codR τ R q ∧ (sL τ 25 = sL τ0 25 ∧ sL τ 26 = sL τ0 26)
theorem RJ_of {g : Nat → Nat} {T : Nat} {τ : xS} {k n q d : Nat} {R : Nat → Nat × Nat} {P : List (Nat × Nat)} (h : RI g T τ k n q d R P) : RJ g T τ k n q R := ⟨h.1, h.2.1, h.2.2.1, h.2.2.2.1, h.2.2.2.2.1, h.2.2.2.2.2.2.2.2.2⟩
theorem RJ_RI {g : Nat → Nat} {T : Nat} {τ : xS} {k n q : Nat} {R : Nat → Nat × Nat} (h : RJ g T τ k n q R) : RI g T (uI (uI τ 23 0) 24 0) k n q 0 R [] := ⟨h.1, h.2.1, h.2.2.1, h.2.2.2.1, codR_of h.2.2.2.2.1 rfl rfl, rfl, trivial, (fun x hx => by cases hx), rfl, h.2.2.2.2.2⟩
theorem RJ_next {g : Nat → Nat} {T C : Nat} (hX : TX g T C) {τ : xS} {k n q : Nat} {R : Nat → Nat × Nat} (h : RJ g T τ k n q R) (hk : k ≤ C) : ∃ τ', F_X12_next τ = some ((), τ') ∧ RJ g T τ' (k + 1) n q R ∧ pzF τ τ' ∧ sI τ' 14 = sI τ 14 ∧ sI τ' 13 = sI τ 13 := by
  obtain ⟨τ', h1, h2, h3⟩ := R_next (p := endT g T (plT g T k)) (endT_T (plT_le hX hk)) h.1 h.2.1.2.1
  obtain ⟨r1, r2, r3, r4, r5, r10⟩ := h
  obtain ⟨f1, f2, f3, f4, f5, f6⟩ := id h2
  exact ⟨τ', h1, ⟨TpR_N r1 h2, h3, (f2 20 (by decide) (by decide) (by decide)).trans r3, (f2 17 (by decide) (by decide) (by decide)).trans r4, codR_of r5 (f1 18) (f1 19), (f4 25).trans r10.1, (f4 26).trans r10.2⟩, pzF_N h2, f2 14 (by decide) (by decide) (by decide), f2 13 (by decide) (by decide) (by decide)⟩
theorem RJ_must1 {g : Nat → Nat} {T C : Nat} (hX : TX g T C) {τ : xS} {k n q : Nat} {R : Nat → Nat × Nat} (h : RJ g T τ k n q R) (hk : k ≤ C) (h14 : sI τ 14 = 0) {x : Int32} (hx : x ≠ 0) : ∃ τ', F_X12_must x τ = some ((), τ') ∧ RJ g T τ' (k + 1) n q R ∧ pzF τ τ' ∧ sI τ' 14 = 0 ∧ sI τ' 13 = sI τ 13 := by
  obtain ⟨τ', h1, h2, h3, h4, h5⟩ := RJ_next hX h hk
  refine ⟨τ', ?_, h2, h3, h4.trans h14, h5⟩
  unfold F_X12_must F_X12_must_24
  rw [h14, if_pos rfl, if_neg hx, if_pos rfl, h1]
  rfl
theorem RJ_must0 {g : Nat → Nat} {T : Nat} {τ : xS} {k n q : Nat} {R : Nat → Nat × Nat} (h : RJ g T τ k n q R) (h14 : sI τ 14 = 0) : F_X12_must 0 τ = some ((), flS τ) ∧ RJ g T (flS τ) k n q R ∧ pzF τ (flS τ) ∧ sI (flS τ) 14 = 1 ∧ sI (flS τ) 13 = nI (plT g T k) := by
  obtain ⟨r1, r2, r3, r4, r5, r10⟩ := h
  refine ⟨?_, ⟨r1, r2, r3, r4, codR_of r5 rfl rfl, r10⟩, pzF_trans (pzF_I _ _ (by decide)) (pzF_I _ _ (by decide)), rfl, r2.1⟩
  have e1 : sI (flS τ) 14 = 1 := rfl
  unfold F_X12_must F_X12_must_24
  rw [h14, if_pos rfl, if_pos rfl, cz_1, nm_eq, nm_eq]
  show (if sI (flS τ) 14 = 0 then _ else some ((), flS τ)) = _
  rw [e1, if_neg (by decide)]
def LkJ (g : Nat → Nat) (T C : Nat) (σ τ : xS) (k n u q : Nat) (K R : Nat → Nat × Nat) : Prop := PI g T C σ k n u K ∧ RJ g T τ k n q R ∧ sI τ 14 = 0 ∧ k ≤ C ∧ n ≤ 50 ∧ u ≤ k ∧ q ≤ k
theorem uI_zz (τ : xS) : uI (uI (uI (uI τ 23 0) 24 0) 23 0) 24 0 = uI (uI τ 23 0) 24 0 := by
  unfold uI
  congr 3
  funext k
  unfold va_up
  by_cases c1 : k = 24
  · simp only [if_pos c1]
  · by_cases c2 : k = 23
    · simp only [if_neg c1, if_pos c2]
    · simp only [if_neg c1, if_neg c2]
theorem E_sumJ {g : Nat → Nat} {T C : Nat} (hX : TX g T C) {σ τ : xS} {k n u q : Nat} {K R : Nat → Nat × Nat} (h : LkJ g T C σ τ k n u q K R) : failE g T C σ τ (F_X5_readSumR 0 σ) (F_X12_readExpression 0 τ) ∨ ∃ (σ' τ' : xS) (k' L u' q' : Nat) (K' R' : Nat → Nat × Nat) (s : (Nat → Int64) → Option Int64), F_X5_readSumR 0 σ = some (1, σ') ∧ F_X12_readExpression 0 τ = some ((), τ') ∧ midE g T C σ τ k n u q K R σ' τ' k' L u' q' K' R' ∧ segC K' u u' L s ∧ segR R' q q' L s := by
  obtain ⟨l1, l2, l3, l4, l5, l6, l7⟩ := h
  have hf : pzF τ (uI (uI τ 23 0) 24 0) := pzF_trans (pzF_I _ _ (by decide)) (pzF_I _ _ (by decide))
  have hE : F_X12_readExpression 0 (uI (uI τ 23 0) 24 0) = F_X12_readExpression 0 τ := by
    unfold F_X12_readExpression
    rw [nm_eq2, nm_eq2, nm_eq2, nm_eq2, nm_eq2, nm_eq2, nm_eq2, nm_eq2, uI_zz]
  have hl : LkE g T C σ (uI (uI τ 23 0) 24 0) k n u q K R := ⟨l1, RJ_RI l2, l3, l4, l5, l6, l7⟩
  rw [← hE]
  rcases E_sum hX hl with ⟨σ', τf, kf, f1, f2, f3, f4, f5⟩ | ⟨σ', τ', k', L, u', q', K', R', s, d1, d2, ⟨d3, d4, d5, d6, d7⟩, d10⟩
  · exact Or.inl ⟨σ', τf, kf, f1, f2, f3, pzF_trans hf f4, f5⟩
  · exact Or.inr ⟨σ', τ', k', L, u', q', K', R', s, d1, d2, ⟨d3, d4, pzF_trans hf d5, d6, d7⟩, d10⟩
theorem E_testJ {g : Nat → Nat} {T C : Nat} (hX : TX g T C) {σ τ : xS} {k n u q : Nat} {K R : Nat → Nat × Nat} (h : LkJ g T C σ τ k n u q K R) : failE g T C σ τ (F_X5_readTestR 0 σ) (F_X12_readExpression 1 τ) ∨ ∃ (σ' τ' : xS) (k' L u' q' : Nat) (K' R' : Nat → Nat × Nat) (c : (Nat → Int64) → Option Bool), F_X5_readTestR 0 σ = some (1, σ') ∧ F_X12_readExpression 1 τ = some ((), τ') ∧ midE g T C σ τ k n u q K R σ' τ' k' L u' q' K' R' ∧ tsegC K' u u' L c ∧ segR R' q q' L (asL c) := by
  obtain ⟨l1, l2, l3, l4, l5, l6, l7⟩ := h
  have hf : pzF τ (uI (uI τ 23 0) 24 0) := pzF_trans (pzF_I _ _ (by decide)) (pzF_I _ _ (by decide))
  have hE : F_X12_readExpression 1 (uI (uI τ 23 0) 24 0) = F_X12_readExpression 1 τ := by
    unfold F_X12_readExpression
    rw [nm_eq2, nm_eq2, nm_eq2, nm_eq2, nm_eq2, nm_eq2, nm_eq2, nm_eq2, uI_zz]
  have hl : LkE g T C σ (uI (uI τ 23 0) 24 0) k n u q K R := ⟨l1, RJ_RI l2, l3, l4, l5, l6, l7⟩
  rw [← hE]
  rcases E_test hX hl with ⟨σ', τf, kf, f1, f2, f3, f4, f5⟩ | ⟨σ', τ', k', L, u', q', K', R', s, d1, d2, ⟨d3, d4, d5, d6, d7⟩, d10⟩
  · exact Or.inl ⟨σ', τf, kf, f1, f2, f3, pzF_trans hf f4, f5⟩
  · exact Or.inr ⟨σ', τ', k', L, u', q', K', R', s, d1, d2, ⟨d3, d4, pzF_trans hf d5, d6, d7⟩, d10⟩
theorem RJ_16 {g : Nat → Nat} {T : Nat} {τ : xS} {k n q : Nat} {R : Nat → Nat × Nat} (h : RJ g T τ k n q R) (f : Nat → Int32) : RJ g T (uA τ 16 f) k n q R := by
  obtain ⟨r1, r2, r3, r4, r5, r10⟩ := h
  exact ⟨r1, r2, r3, r4, codR_of r5 rfl rfl, r10⟩
theorem RJ_15 {g : Nat → Nat} {T : Nat} {τ : xS} {k n q : Nat} {R : Nat → Nat × Nat} (h : RJ g T τ k n q R) (v : Int32) : RJ g T (uI τ 15 v) k n q R := by
  obtain ⟨r1, r2, r3, r4, r5, r10⟩ := h
  exact ⟨r1, r2, r3, r4, codR_of r5 rfl rfl, r10⟩
theorem R_heads {g : Nat → Nat} {T C : Nat} (hX : TX g T C) {τ : xS} {k n q : Nat} {R : Nat → Nat × Nat} (h : RJ g T τ k n q R) (hk : k ≤ C) : F_X12_readClause τ = if 266 ≤ kd g T k ∧ kd g T k < 270 then (if 12 ≤ sI τ 15 then F_X12_readClause_54 (nI (kd g T k - 266)) 0 τ else F_X12_readClause_54 (nI (kd g T k - 266)) 1 τ) else F_X12_readClause_54 (-1) 0 τ := by
  have key : ∀ w m j (y : Int32), w < m → j + w = 4 → F_X12_readClause_4 m y (nI j) τ = (fun y : Int32 => if y = -1 then F_X12_readClause_53 y τ else (if 12 ≤ sI τ 15 then F_X12_readClause_53 y τ else F_X12_readClause_54 y 1 τ)) (if 266 + j ≤ kd g T k ∧ kd g T k < 270 then nI (kd g T k - 266) else y) := by
    intro w
    induction w with
    | zero =>
      intro m j y hm hj
      obtain ⟨m, rfl⟩ : ∃ q, m = q + 1 := ⟨m - 1, by omega⟩
      rw [F_X12_readClause_4, if_pos (show (4 : Int32) ≤ nI j from nI_le (a := 4) (by omega) (by omega)), if_neg (show ¬ (266 + j ≤ kd g T k ∧ kd g T k < 270) by omega)]
    | succ w ih =>
      intro m j y hm hj
      obtain ⟨m, rfl⟩ : ∃ q, m = q + 1 := ⟨m - 1, by omega⟩
      rw [F_X12_readClause_4, if_neg (show ¬ (4 : Int32) ≤ nI j from nI_ge (b := 4) (by omega) (by decide)), rd_n (by omega) (by decide), h.2.2.2.2.2.2, wds26 j (by omega), R_isWd h.1 h.2.1 (plT_le hX hk) (show 10 + j < 18 by omega), bd_eq, ib2]
      by_cases e : kd g T k = 266 + j
      · rw [if_pos (show tkK g T (plT g T k) = 256 + (10 + j) by rw [show tkK g T (plT g T k) = kd g T k from rfl]; omega), nm_eq2, nI_1, ih m (j + 1) _ (by omega) (by omega), if_neg (show ¬ (266 + (j + 1) ≤ kd g T k ∧ kd g T k < 270) by omega), if_pos (show 266 + j ≤ kd g T k ∧ kd g T k < 270 by omega), show kd g T k - 266 = j by omega]
      · rw [if_neg (show ¬ tkK g T (plT g T k) = 256 + (10 + j) by rw [show tkK g T (plT g T k) = kd g T k from rfl]; omega), nm_eq2, nI_1, ih m (j + 1) _ (by omega) (by omega)]
        by_cases c : 266 + j ≤ kd g T k ∧ kd g T k < 270
        · rw [if_pos (show 266 + (j + 1) ≤ kd g T k ∧ kd g T k < 270 by omega), if_pos c]
        · rw [if_neg (show ¬ (266 + (j + 1) ≤ kd g T k ∧ kd g T k < 270) by omega), if_neg c]
  unfold F_X12_readClause
  rw [nm_eq2, nm_eq2, show (0 : Int32) = nI 0 from rfl, key 4 FU 0 (-1) (by unfold FU; omega) rfl]
  by_cases c : 266 ≤ kd g T k ∧ kd g T k < 270
  · rw [if_pos (show 266 + 0 ≤ kd g T k ∧ kd g T k < 270 from c), if_pos c]
    show (if nI (kd g T k - 266) = -1 then _ else _) = _
    rw [if_neg (nI_m1 (by omega))]
    rfl
  · rw [if_neg (show ¬ (266 + 0 ≤ kd g T k ∧ kd g T k < 270) from c), if_neg c]
    show (if (-1 : Int32) = -1 then _ else _) = _
    rw [if_pos rfl]
    rfl
/-- what follows behind the clearing -/
def tl75 (y1 y2 : Int32) (τ : xS) : Option (Unit × xS) := ck 96 y2 (nm (uA τ 16 (upd (sA τ 16) y2.toNatClampNeg y1)) fun σ11 => nm (uI σ11 15 ((sI σ11 15) + 1)) fun σ12 => ck 96 (y2 + 3) (nm (uA σ12 16 (upd (sA σ12 16) (y2 + 3).toNatClampNeg (sI σ12 17))) fun σ13 => if 3 ≤ y1 then (F_X12_readClause_135 y2 σ13) else (bd (F_X12_readExpression 0 σ13) fun _ σ14 => F_X12_readClause_135 y2 σ14)))
theorem R_75 {p : Nat} (hp : p + 8 ≤ 96) (y1 : Int32) (w : Nat) : ∀ (m j : Nat) (τ : xS), w < m → j + w = 8 → ∃ f : Nat → Int32, F_X12_readClause_75 m y1 (nI p) (nI j) τ = tl75 y1 (nI p) (uA τ 16 f) ∧ ∀ i, i < p → f i = sA τ 16 i := by
  induction w with
  | zero =>
    intro m j τ hm hj
    obtain ⟨m, rfl⟩ : ∃ q, m = q + 1 := ⟨m - 1, by omega⟩
    have e : uA τ 16 (sA τ 16) = τ := by
      unfold uA sA
      congr 1
      funext k
      by_cases c : k = 16
      · subst c
        exact if_pos rfl
      · exact if_neg c
    refine ⟨sA τ 16, ?_, fun _ _ => rfl⟩
    rw [e, F_X12_readClause_75, if_pos (show (8 : Int32) ≤ nI j from nI_le (a := 8) (by omega) (by omega))]
    rfl
  | succ w ih =>
    intro m j τ hm hj
    obtain ⟨m, rfl⟩ : ∃ q, m = q + 1 := ⟨m - 1, by omega⟩
    obtain ⟨f, h1, h2⟩ := ih m (j + 1) (uA τ 16 (upd (sA τ 16) (p + j) 0)) (by omega) (by omega)
    refine ⟨f, ?_, fun i hi => ?_⟩
    · have e : ∀ f1 : Nat → Int32, uA (uA τ 16 f1) 16 f = uA τ 16 f := by
        intro f1
        unfold uA
        congr 1
        funext k
        show (if k = 16 then f else if k = 16 then f1 else τ.1 k) = if k = 16 then f else τ.1 k
        by_cases c : k = 16
        · rw [if_pos c, if_pos c]
        · rw [if_neg c, if_neg c, if_neg c]
      rw [F_X12_readClause_75, if_neg (show ¬ (8 : Int32) ≤ nI j from nI_ge (b := 8) (by omega) (by decide)), nI_add, ck_n (by omega) (by decide), nm_eq2, nI_1, nm_eq2, nI_clamp (by omega), h1, e]
    · rw [h2 i hi]
      exact upd_n _ _ (by omega)
end
