section
/-! ===== behind a sum ===== -/
def opN (a : Nat) : Nat := if a = 43 then 20 else if a = 45 then 21 else if a = 42 then 22 else 23
def isOp (a : Nat) : Prop := a = 43 ∨ a = 45 ∨ a = 42 ∨ a = 47
theorem R_bs_op {g : Nat → Nat} {T C : Nat} (hX : TX g T C) {τ : xS} {k n q dep : Nat} {R : Nat → Nat × Nat} {P : List (Nat × Nat)} (h : RI g T τ k n q dep R P) (hk : k ≤ C) (y : Int32) (ho : isOp (kd g T k)) : F_X12_behindSum y τ = F_X12_behindSum_57 y (nI (opN (kd g T k))) τ := by
  have hs := fun c (h1 : c < 256) (h2 : isL c = false) (h3 : isD c = false) => R_isSg (c := c) h.1 h.2.1 (plT_le hX hk) h1 h2 h3
  have hkd : tkK g T (plT g T k) = kd g T k := rfl
  unfold F_X12_behindSum
  rw [show F_X12_isSign 43 = F_X12_isSign (nI 43) from rfl, show F_X12_isSign 45 = F_X12_isSign (nI 45) from rfl, show F_X12_isSign 42 = F_X12_isSign (nI 42) from rfl, show F_X12_isSign 47 = F_X12_isSign (nI 47) from rfl, hs 43 (by decide) (by decide) (by decide), bd_eq, ib2, hkd]
  by_cases c1 : kd g T k = 43
  · rw [if_pos c1, c1]
    rfl
  rw [if_neg c1, hs 45 (by decide) (by decide) (by decide), bd_eq, ib2, hkd]
  by_cases c2 : kd g T k = 45
  · rw [if_pos c2, c2]
    rfl
  rw [if_neg c2, hs 42 (by decide) (by decide) (by decide), bd_eq, ib2, hkd]
  by_cases c3 : kd g T k = 42
  · rw [if_pos c3, c3]
    rfl
  rw [if_neg c3, hs 47 (by decide) (by decide) (by decide), bd_eq, ib2, hkd]
  have c4 : kd g T k = 47 := by
    unfold isOp at ho
    omega
  rw [if_pos c4, c4]
  rfl
theorem R_bs_no {g : Nat → Nat} {T C : Nat} (hX : TX g T C) {τ : xS} {k n q dep : Nat} {R : Nat → Nat × Nat} {P : List (Nat × Nat)} (h : RI g T τ k n q dep R P) (hk : k ≤ C) (y : Int32) (ho : ¬ isOp (kd g T k)) : F_X12_behindSum y τ = F_X12_behindSum_57 y (-1) τ := by
  have hs := fun c (h1 : c < 256) (h2 : isL c = false) (h3 : isD c = false) => R_isSg (c := c) h.1 h.2.1 (plT_le hX hk) h1 h2 h3
  have hkd : tkK g T (plT g T k) = kd g T k := rfl
  unfold isOp at ho
  unfold F_X12_behindSum
  rw [show F_X12_isSign 43 = F_X12_isSign (nI 43) from rfl, show F_X12_isSign 45 = F_X12_isSign (nI 45) from rfl, show F_X12_isSign 42 = F_X12_isSign (nI 42) from rfl, show F_X12_isSign 47 = F_X12_isSign (nI 47) from rfl, hs 43 (by decide) (by decide) (by decide), bd_eq, ib2, hkd, if_neg (by omega), hs 45 (by decide) (by decide) (by decide), bd_eq, ib2, hkd, if_neg (by omega), hs 42 (by decide) (by decide) (by decide), bd_eq, ib2, hkd, if_neg (by omega), hs 47 (by decide) (by decide) (by decide), bd_eq, ib2, hkd, if_neg (by omega)]
theorem RI_op {g : Nat → Nat} {T C : Nat} (hX : TX g T C) {τ : xS} {k n q dep wd : Nat} {R : Nat → Nat × Nat} {Q P : List (Nat × Nat)} (h : RI g T τ k n q dep R (Q ++ P)) (hk : k ≤ C) (h14 : sI τ 14 = 0) (hw : 20 ≤ wd ∧ wd ≤ 23) (hQ : ∀ x, x ∈ Q → bindN wd ≤ bindN x.1) (hP : topB P (bindN wd)) (hl : (Q ++ P).length ≤ 400) (hl2 : P.length < 400) (hq : q + wt Q ≤ 400) (y : Int32) : ∃ τ', F_X12_behindSum_57 y (nI wd) τ = some (1, τ') ∧ RI g T τ' (k + 1) n (flush Q q R).1 dep (flush Q q R).2 ((wd, 0) :: P) ∧ pzF τ τ' ∧ sI τ' 14 = 0 ∧ sI τ' 13 = sI τ 13 := by
  have hb : 1 ≤ bindN wd ∧ bindN wd < 10 := by
    have := bindN_le wd
    refine ⟨?_, by omega⟩
    rcases (show wd = 20 ∨ wd = 21 ∨ wd = 22 ∨ wd = 23 by omega) with rfl | rfl | rfl | rfl <;> decide
  have hql : (Q ++ P).length = Q.length + P.length := List.length_append
  obtain ⟨τ1, a1, a2, a3, a4, a5⟩ := RI_settle hb.2 hb.1 hP Q FU q R τ (by unfold FU; omega) hl hq hQ h
  obtain ⟨b1, b2, b3⟩ := RI_push a2 hl2 wd 0 ⟨hw.1, by omega⟩ (by decide)
  obtain ⟨τ2, c1, c2, c3, c4, c5⟩ := RI_next hX b2 hk
  refine ⟨τ2, ?_, c2, pzF_trans (pzF_trans a3 b3) c3, c4.trans (a4.trans h14), c5.trans a5⟩
  unfold F_X12_behindSum_57 F_X12_settle
  rw [if_neg (nI_m1 (by omega)), R_binds hw.1 (by omega), bd_eq, a1, bd_eq, show F_X12_push (nI wd) 0 = F_X12_push (nI wd) (nI 0) from rfl, b1, bd_eq, c1]
  rfl
theorem inn_app {Q P : List (Nat × Nat)} (h : ∀ x, x ∈ Q → x.1 < 30) : inn (Q ++ P) = inn P := by
  induction Q with
  | nil => rfl
  | cons x Q ih =>
    show inn (x :: (Q ++ P)) = _
    rw [inn, if_pos (h x List.mem_cons_self)]
    exact ih (fun y hy => h y (List.mem_cons_of_mem _ hy))
theorem R_br1 {g : Nat → Nat} {T C : Nat} (hX : TX g T C) {τ : xS} {k n q d : Nat} {R : Nat → Nat × Nat} {Q P : List (Nat × Nat)} (h : RI g T τ k n q (d + 1) R (Q ++ (31, 0) :: P)) (hk : k ≤ C) (h14 : sI τ 14 = 0) (hQ : ∀ x, x ∈ Q → 20 ≤ x.1 ∧ x.1 ≤ 23 ∧ 5 ≤ bindN x.1) (hl : (Q ++ (31, 0) :: P).length ≤ 400) (hq : q + wt Q ≤ 400) (h9 : kd g T k = 93) (y : Int32) : ∃ τ', F_X12_behindSum y τ = some (3, τ') ∧ RI g T τ' (k + 1) n (flush Q q R).1 d (flush Q q R).2 P ∧ pzF τ τ' ∧ sI τ' 14 = 0 ∧ sI τ' 13 = sI τ 13 := by
  have h93 := R_isSg (c := 93) h.1 h.2.1 (plT_le hX hk) (by decide) (by decide) (by decide)
  have hin := R_inner h hl
  have hql : (Q ++ (31, 0) :: P).length = Q.length + (P.length + 1) := List.length_append
  have hi : inn (Q ++ (31, 0) :: P) = 31 := inn_app (fun x hx => by have := hQ x hx; omega)
  obtain ⟨τ1, a1, a2, a3, a4, a5⟩ := RI_must1 hX h hk h14 (x := 1) (by decide)
  obtain ⟨τ2, b1, b2, b3, b4, b5⟩ := RI_settle (b := 5) (by decide) (by decide) (P := (31, 0) :: P) (show bindN 31 < 5 by decide) Q FU q R τ1 (by unfold FU; omega) hl hq (fun x hx => (hQ x hx).2.2) a2
  have e1 : sI τ2 23 - 1 = nI P.length := by
    rw [b2.2.2.2.2.2.1]
    exact nI_pred _
  have e2 : sI (uI τ2 23 (nI P.length)) 24 - 1 = nI d := by
    show sI τ2 24 - 1 = _
    rw [b2.2.2.2.2.2.2.2.2.1]
    exact nI_pred _
  refine ⟨uI (uI τ2 23 (nI P.length)) 24 (nI d), ?_, ?_, pzF_trans (pzF_trans (pzF_trans a3 b3) (pzF_I _ _ (by decide))) (pzF_I _ _ (by decide)), b4.trans a4, b5.trans a5⟩
  · rw [R_bs_no hX h hk y (by unfold isOp; omega)]
    unfold F_X12_behindSum_57 F_X12_settle
    rw [if_pos rfl, hin, hi, if_neg (by decide), bd_eq, if_pos (show nI 31 = 31 from rfl), show F_X12_isSign 93 = F_X12_isSign (nI 93) from rfl, h93, bd_eq, b2_1.mpr (show tkK g T (plT g T k) = 93 from h9), a1, bd_eq, a4, if_pos rfl, show F_X12_settle_0 FU 5 τ1 = F_X12_settle_0 FU (nI 5) τ1 from rfl, b1, bd_eq, e1, nm_eq, e2, nm_eq]
  · obtain ⟨r1, r2, r3, r4, r5, r6, r7, r8, r9, r10⟩ := RI_pop b2
    exact ⟨r1, r2, r3, r4, codR_of r5 rfl rfl, r6, pil_of r7 rfl rfl, r8, rfl, r10⟩
theorem R_br0 {g : Nat → Nat} {T C : Nat} (hX : TX g T C) {τ : xS} {k n q d : Nat} {R : Nat → Nat × Nat} {P : List (Nat × Nat)} (h : RI g T τ k n q d R P) (hk : k ≤ C) (h14 : sI τ 14 = 0) (hi : inn P = 31) (hl : P.length ≤ 400) (ho : ¬ isOp (kd g T k)) (h9 : kd g T k ≠ 93) (y : Int32) : F_X12_behindSum y τ = some (3, flS τ) := by
  have h93 := R_isSg (c := 93) h.1 h.2.1 (plT_le hX hk) (by decide) (by decide) (by decide)
  have hin := R_inner h hl
  obtain ⟨a1, a2, a3, a4, a5⟩ := RI_must0 h h14
  rw [R_bs_no hX h hk y ho]
  unfold F_X12_behindSum_57
  rw [if_pos rfl, hin, hi, if_neg (by decide), bd_eq, if_pos (show nI 31 = 31 from rfl), show F_X12_isSign 93 = F_X12_isSign (nI 93) from rfl, h93, bd_eq, b2_0.mpr (show ¬ tkK g T (plT g T k) = 93 from h9), a1, bd_eq, a4, if_neg (by decide)]
/-! ===== both readers in step: sums ===== -/
def LkS (g : Nat → Nat) (T C : Nat) (σ τ : xS) (k n u q a : Nat) (K R : Nat → Nat × Nat) (P : List (Nat × Nat)) : Prop := PI g T C σ k n u K ∧ RI g T τ k n q a R P ∧ sI τ 14 = 0 ∧ k ≤ C ∧ n ≤ 50 ∧ u ≤ k ∧ q + wt P ≤ k ∧ P.length ≤ k ∧ a ≤ 8
def failS (g : Nat → Nat) (T C y t : Nat) (σ τ : xS) (k : Nat) (rC : Option (Int32 × xS)) : Prop := ∃ (σ' τf : xS) (kf : Nat), rC = some (0, σ') ∧ cxF σ σ' ∧ pzF τ τf ∧ kf ≤ C ∧ sI σ' 759 = nI (plT g T kf) ∧ sI τf 14 = 1 ∧ sI τf 13 = nI (plT g T kf) ∧ RLr C k y t τ (some ((), τf))
theorem fail_mono {g : Nat → Nat} {T C y t t2 : Nat} {σ τ σ2 τ2 : xS} {k k2 : Nat} {rC : Option (Int32 × xS)} (h : failS g T C y t2 σ2 τ2 k2 rC) (h1 : cxF σ σ2) (h2 : pzF τ τ2) (h3 : ∀ r, RLr C k2 y t2 τ2 r → RLr C k y t τ r) : failS g T C y t σ τ k rC := by
  obtain ⟨σ', τf, kf, a1, a2, a3, a4, a5, a6, a7, a8⟩ := h
  exact ⟨σ', τf, kf, a1, cxF_trans h1 a2, pzF_trans h2 a3, a4, a5, a6, a7, h3 _ a8⟩
theorem fail_here {g : Nat → Nat} {T C y t : Nat} {σ τ : xS} {k n u q a : Nat} {K R : Nat → Nat × Nat} {P : List (Nat × Nat)} (hX : TX g T C) (h : LkS g T C σ τ k n u q a K R P) (hr : ∀ r, F_X12_readExpression_76 (flS τ) = r → RLr C k y t τ r) : failS g T C y t σ τ k (some (0, uI σ 759 (nI (plT g T k)))) := by
  obtain ⟨l1, l2, l3, l4, l5, l6, l7, l8, l9⟩ := h
  have := hX.1
  have := hX.2.1
  obtain ⟨a1, a2, a3, a4, a5⟩ := RI_must0 l2 l3
  obtain ⟨τf, b1, b2, b3, b4⟩ := RI_fault a2 (by omega) (by omega) a4
  exact ⟨_, τf, k, rfl, cxF_I _ _ (by decide), pzF_trans a3 b2, l4, rfl, b3, b4.trans a5, hr _ b1⟩
def mid (g : Nat → Nat) (T C y t lo : Nat) (σ0 τ0 : xS) (k0 n0 u0 q0 a : Nat) (K0 R0 : Nat → Nat × Nat) (P : List (Nat × Nat)) (σ τ : xS) (k L u q : Nat) (K R : Nat → Nat × Nat) (Q : List (Nat × Nat)) (s : (Nat → Int64) → Option Int64) : Prop :=
  LkS g T C σ τ k (n0 + L) u q a K R (Q ++ P) ∧ cxF σ0 σ ∧ pzF τ0 τ ∧ sI τ 13 = sI τ0 13 ∧ (k0 < k ∧ 1 ≤ L ∧ u0 ≤ u ∧ q0 ≤ q ∧ u + k0 ≤ u0 + k ∧ q + wt Q + k0 ≤ q0 + k ∧ Q.length + k0 ≤ k) ∧ eqOn K0 K 0 u0 ∧ eqOn R0 R 0 q0 ∧ (∀ x, x ∈ Q → 20 ≤ x.1 ∧ x.1 ≤ 23 ∧ lo ≤ bindN x.1) ∧ segC K u0 u L s ∧ segR (flush Q q R).2 q0 (q + wt Q) L s ∧ ∀ r, RLr C k y 3 τ r → RLr C k0 y t τ0 r
def ex (lo a : Nat) : Prop := (lo ≤ 6 → a ≠ 42 ∧ a ≠ 47) ∧ (lo ≤ 5 → a ≠ 43 ∧ a ≠ 45)
def outS (g : Nat → Nat) (T C y t lo : Nat) (σ0 τ0 : xS) (k0 n0 u0 q0 a : Nat) (K0 R0 : Nat → Nat × Nat) (P : List (Nat × Nat)) (rC : Option (Int32 × xS)) : Prop :=
  failS g T C y t σ0 τ0 k0 rC ∨ ∃ (σ τ : xS) (k L u q : Nat) (K R : Nat → Nat × Nat) (Q : List (Nat × Nat)) (s : (Nat → Int64) → Option Int64), rC = some (1, σ) ∧ ex lo (kd g T k) ∧ mid g T C y t lo σ0 τ0 k0 n0 u0 q0 a K0 R0 P σ τ k L u q K R Q s
def SumH (g : Nat → Nat) (T C y lo : Nat) (kS : Int32 → xS → Option (Int32 × xS)) (a : Nat) : Prop := ∀ (σ τ : xS) (k n u q : Nat) (K R : Nat → Nat × Nat) (P : List (Nat × Nat)), LkS g T C σ τ k n u q a K R P → topB P lo → outS g T C y 1 lo σ τ k n u q a K R P (kS (nI a) σ)
theorem flush_on {Q : List (Nat × Nat)} (h : ∀ x, x ∈ Q → 20 ≤ x.1 ∧ x.1 ≤ 23) : ∀ (q : Nat) (R : Nat → Nat × Nat), eqOn R (flush Q q R).2 0 q := by
  induction Q with
  | nil =>
    intro q R
    exact eqOn_refl _ _ _
  | cons x Q ih =>
    intro q R
    have hx := h x List.mem_cons_self
    rw [flush, if_neg (by omega)]
    exact eqOn_trans (updN_on R 0 q _) (eqOn_mono (ih (fun y hy => h y (List.mem_cons_of_mem _ hy)) (q + 1) _) (Nat.le_refl _) (by omega))
theorem flush_q3 {Q : List (Nat × Nat)} (h : ∀ x, x ∈ Q → 20 ≤ x.1 ∧ x.1 ≤ 23) (q : Nat) (R : Nat → Nat × Nat) : (flush Q q R).1 = q + wt Q := flush_q Q (fun x hx => by have := h x hx; omega) q R
theorem flS_ne (τ : xS) : sI (flS τ) 14 ≠ 0 := by
  show (1 : Int32) ≠ 0
  decide
theorem P_part {g : Nat → Nat} {T C y a : Nat} (hX : TX g T C) {kS : Int32 → xS → Option (Int32 × xS)} (hS : a < 8 → SumH g T C y 5 kS (a + 1)) : SumH g T C y 7 (F_X5_readPart kS) a := by
  intro σ τ k n u q K R P h _
  have hLS := h
  obtain ⟨l1, l2, l3, l4, l5, l6, l7, l8, l9⟩ := h
  have hT1 := hX.1
  have hT2 := hX.2.1
  have hkd := kd_le hX (TpR_g l2.1) l4
  by_cases c : kd g T k = 91
  · have hkC := kd_end hX l4 (by omega)
    have hF : F_X5_readPart kS (nI a) σ = bd (F_X5_opens (nI a) σ) fun v10 σ9 => if v10 = 0 then (cz 0 (some (0, σ9))) else (bd (kS (nI a + 1) σ9) fun v12 σ11 => if v12 = 0 then (cz 0 (some (0, σ11))) else (bd (F_X5_closes 93 σ11) fun v14 σ13 => if v14 = 0 then (cz 0 (some (0, σ13))) else (cz 1 (some (1, σ13))))) := by
      unfold F_X5_readPart
      rw [PI_tok hX l1 l4, bd_eq, if_pos (show nI (kd g T k) = 91 by rw [c]; rfl)]
    have hR := R_part91 hX l2 l4 c
    by_cases ca : a < 8
    · rw [PI_open1 hX l1 hkC ca, bd_eq, if_neg (by decide), nI_1] at hF
      obtain ⟨τ1, a1, a2, a3, a4, a5⟩ := RI_open1 hX l2 l4 l3 ca (by omega) (a := 31) (by decide)
      rw [a1, bd_eq] at hR
      have hn := (PI_next hX l1 hkC).2
      have hw1 : wt ((31, 0) :: P) = wt P := Nat.zero_add _
      have hl1 : ((31, 0) :: P).length = P.length + 1 := rfl
      have hLS1 : LkS g T C (uI σ 756 (nI (k + 1))) τ1 (k + 1) n u q (a + 1) K R ((31, 0) :: P) := ⟨hn, a2, a4, by omega, l5, by omega, by omega, by omega, by omega⟩
      have hc1 := cxF_I σ (k := 756) (nI (k + 1)) (by decide)
      have hr1 : ∀ r, RLr C (k + 1) y 1 τ1 r → RLr C k y 1 τ r := fun r => RL_1 (t' := 1) l3 hR (by have : rk 1 = 2 := rfl; omega)
      rcases hS ca _ _ _ _ _ _ _ _ _ hLS1 (show bindN 31 < 5 by decide) with hf | ⟨σ2, τ2, k2, L, u2, q2, K2, R2, Q, s, d1, d2, d3, d4, d5, d6, d7, d8, d9, d10, d11, d12, d13⟩
      · left
        obtain ⟨σ', τf, kf, f1, f2⟩ := hf
        rw [f1, bd_eq, if_pos rfl, cz_0] at hF
        exact fail_mono ⟨σ', τf, kf, hF, f2⟩ hc1 a3 hr1
      · obtain ⟨m1, m2, m3, m4, m5, m6, m7, m8, m9⟩ := d3
        have hQ2 : ∀ x, x ∈ Q → 20 ≤ x.1 ∧ x.1 ≤ 23 := fun x hx => ⟨(d10 x hx).1, (d10 x hx).2.1⟩
        have hkd2 := kd_le hX (TpR_g m2.1) m4
        have hw2 : wt (Q ++ (31, 0) :: P) = wt Q + wt P := by rw [wt_app, hw1]
        have hl2 : (Q ++ (31, 0) :: P).length = Q.length + (P.length + 1) := List.length_append
        have hno : ¬ isOp (kd g T k2) := by
          have e1 := d2.1 (by decide)
          have e2 := d2.2 (by decide)
          unfold isOp
          omega
        rw [d1, bd_eq, if_neg (by decide)] at hF
        by_cases c9 : kd g T k2 = 93
        · right
          have hkC2 := kd_end hX m4 (by omega)
          rw [show F_X5_closes 93 = F_X5_closes (nI 93) from rfl, PI_close1 hX m1 hkC2 c9, bd_eq, if_neg (by decide), cz_1] at hF
          obtain ⟨τ3, b1, b2, b3, b4, b5⟩ := R_br1 hX m2 m4 m3 d10 (by omega) (by omega) c9 (nI y)
          rw [flush_q3 hQ2] at b2
          refine ⟨_, τ3, k2 + 1, L, u2, q2 + wt Q, K2, (flush Q q2 R2).2, [], s, hF, ⟨fun z => absurd z (by decide), fun z => absurd z (by decide)⟩, ⟨(PI_next hX m1 hkC2).2, b2, b4, by omega, m5, by omega, ?_, ?_, by omega⟩, cxF_trans (cxF_trans hc1 d4) (cxF_I _ _ (by decide)), pzF_trans (pzF_trans a3 d5) b3, b5.trans (d6.trans a5), ?_, d8, eqOn_trans d9 (eqOn_mono (flush_on hQ2 q2 R2) (Nat.le_refl _) (by omega)), (fun x hx => by cases hx), d11, d12, fun r hr => hr1 r (d13 r (RL_3 (t' := 3) m3 b1 (by have : rk 3 = 3 := rfl; omega) hr))⟩
          · show q2 + wt Q + wt P ≤ k2 + 1
            omega
          · show P.length ≤ k2 + 1
            omega
          · have e0 : wt ([] : List (Nat × Nat)) = 0 := rfl
            have e1 : ([] : List (Nat × Nat)).length = 0 := rfl
            omega
        · left
          rw [show F_X5_closes 93 = F_X5_closes (nI 93) from rfl, PI_close0 hX m1 m4 hkd2 (by decide) c9, bd_eq, if_pos rfl, cz_0] at hF
          rw [hF]
          have hi : inn (Q ++ (31, 0) :: P) = 31 := inn_app (fun x hx => by have := hQ2 x hx; omega)
          have hb := R_br0 hX m2 m4 m3 hi (by omega) hno c9 (nI y)
          have := fail_here (y := y) (t := 3) hX ⟨m1, m2, m3, m4, m5, m6, m7, m8, m9⟩ (fun r hr => RL_3f m3 hb (flS_ne _) hr)
          exact fail_mono this (cxF_trans hc1 d4) (pzF_trans a3 d5) (fun r hr => hr1 r (d13 r hr))
    · left
      rw [PI_open0 hX l1 l4 (by omega) (by omega), bd_eq, if_pos rfl, cz_0] at hF
      rw [RI_open0 l2 l3 (by omega) (by omega), bd_eq] at hR
      rw [hF]
      exact fail_here hX hLS (fun r hr => RL_1f l3 hR (flS_ne _) hr)
  · by_cases hl : lfOK (kd g T k) (nu g T k) ∧ n < 50
    · right
      have hkC := kd_end hX l4 (by rcases hl.1 with z | z <;> omega)
      obtain ⟨σ1, s1, s2, s3⟩ := PI_leaf1 (a := a) hX kS l1 hkC hl.2 (by omega) hl.1
      obtain ⟨τ1, t1, t2, t3, t4, t5⟩ := R_part1 hX l2 l4 l3 hl.2 (by omega) hl.1
      refine ⟨σ1, τ1, k + 1, 1, u + 1, q + 1, _, _, [], lfS (kd g T k) (nu g T k), s1, ⟨fun z => absurd z (by decide), fun z => absurd z (by decide)⟩, ⟨s2, t2, t4, by omega, by omega, by omega, ?_, ?_, l9⟩, s3, t3, t5, ?_, updN_on K 0 u _, updN_on R 0 q _, (fun x hx => by cases hx), lf_segC (updN_s _ _ _), lf_segR hl.1 (updN_s _ _ _), fun r hr => RL_1 (t' := 3) l3 t1 (by have h1 : rk 1 = 2 := rfl; have h3 : rk 3 = 3 := rfl; omega) hr⟩
      · show q + 1 + wt P ≤ k + 1
        omega
      · show P.length ≤ k + 1
        omega
      · have e0 : wt ([] : List (Nat × Nat)) = 0 := rfl
        have e1 : ([] : List (Nat × Nat)).length = 0 := rfl
        omega
    · left
      rw [PI_leaf0 hX kS l1 l4 l5 hkd (nu_le g T k) c hl]
      exact fail_here hX hLS (fun r hr => RL_1f l3 (R_part0 hX l2 l4 l3 l5 c hl) (flS_ne _) hr)
end
