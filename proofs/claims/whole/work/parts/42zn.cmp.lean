section
/-! ===== a comparison ===== -/
def cpN (a : Nat) : Nat := if a = 60 then 0 else if a = 62 then 1 else 2
abbrev isCp (a : Nat) : Prop := a = 60 ∨ a = 62 ∨ a = 61
theorem isCmp_app {Q P : List (Nat × Nat)} (h : ∀ x, x ∈ Q → x.1 ≤ 23) : isCmp (Q ++ P) = isCmp P := by
  induction Q with
  | nil => rfl
  | cons x Q ih =>
    show isCmp (x :: (Q ++ P)) = _
    rw [isCmp, if_pos (h x List.mem_cons_self)]
    exact ih (fun y hy => h y (List.mem_cons_of_mem _ hy))
theorem isCmp_top {P : List (Nat × Nat)} (hv : pv P) (h : topB P 4) : isCmp P = false := by
  cases P with
  | nil => rfl
  | cons x P =>
    have h1 : bindN x.1 < 4 := h
    have h2 : 27 ≤ x.1 := by
      apply Nat.le_of_not_lt
      intro z
      have h3 : 4 ≤ bindN x.1 := by
        have := (hv x List.mem_cons_self).1
        rcases (show x.1 = 20 ∨ x.1 = 21 ∨ x.1 = 22 ∨ x.1 = 23 ∨ x.1 = 24 ∨ x.1 = 25 ∨ x.1 = 26 by omega) with e | e | e | e | e | e | e <;> rw [e] <;> decide
      omega
    rw [isCmp, if_neg (by omega)]
    exact decide_eq_false (by omega)
theorem R_149 {g : Nat → Nat} {T C : Nat} (hX : TX g T C) {τ : xS} {k n q d : Nat} {R : Nat → Nat × Nat} {P : List (Nat × Nat)} (h : RI g T τ k n q d R P) (hk : k ≤ C) (hi : inn P = 99 ∨ inn P = 30) (hl : P.length ≤ 400) (ho : ¬ isOp (kd g T k)) : F_X12_behindSum (nI 1) τ = F_X12_behindSum_149 τ := by
  have hin := R_inner h hl
  rw [R_bs_no hX h hk (nI 1) ho]
  unfold F_X12_behindSum_57
  rcases hi with hi | hi
  · rw [if_pos rfl, hin, hi, if_pos rfl, bd_eq, if_neg (by decide), if_pos rfl, if_neg (by decide)]
  · rw [if_pos rfl, hin, hi, if_neg (by decide), bd_eq, if_neg (by decide), if_neg (by decide)]
theorem R_cmp2 {g : Nat → Nat} {T C : Nat} (hX : TX g T C) {τ : xS} {k n q d : Nat} {R : Nat → Nat × Nat} {P : List (Nat × Nat)} (h : RI g T τ k n q d R P) (hk : k ≤ C) (hi : inn P = 99 ∨ inn P = 30) (hl : P.length ≤ 400) (ho : ¬ isOp (kd g T k)) (hc : isCmp P = true) : F_X12_behindSum (nI 1) τ = some (2, τ) := by
  rw [R_149 hX h hk hi hl ho]
  unfold F_X12_behindSum_149
  rw [R_isC h hl, bd_eq, ib2, if_pos hc]
theorem R_210 {g : Nat → Nat} {T C : Nat} (hX : TX g T C) {τ : xS} {k n q d : Nat} {R : Nat → Nat × Nat} {P : List (Nat × Nat)} (h : RI g T τ k n q d R P) (hk : k ≤ C) (hi : inn P = 99 ∨ inn P = 30) (hl : P.length ≤ 400) (ho : ¬ isOp (kd g T k)) (hc : isCmp P = false) : F_X12_behindSum (nI 1) τ = if isCp (kd g T k) then F_X12_behindSum_210 (nI (24 + cpN (kd g T k))) 1 τ else F_X12_behindSum_210 26 0 τ := by
  have hs := fun c (h1 : c < 256) (h2 : isL c = false) (h3 : isD c = false) => R_isSg (c := c) h.1 h.2.1 (plT_le hX hk) h1 h2 h3
  have hkd : tkK g T (plT g T k) = kd g T k := rfl
  rw [R_149 hX h hk hi hl ho]
  unfold F_X12_behindSum_149
  rw [R_isC h hl, bd_eq, ib2, if_neg (by rw [hc]; decide), show F_X12_isSign 60 = F_X12_isSign (nI 60) from rfl, show F_X12_isSign 62 = F_X12_isSign (nI 62) from rfl, hs 60 (by decide) (by decide) (by decide), bd_eq, ib2, hkd]
  by_cases c1 : kd g T k = 60
  · rw [if_pos c1, if_pos (Or.inl c1), c1]
    rfl
  rw [if_neg c1, hs 62 (by decide) (by decide) (by decide), bd_eq, ib2, hkd]
  by_cases c2 : kd g T k = 62
  · rw [if_pos c2, if_pos (Or.inr (Or.inl c2)), c2]
    rfl
  rw [if_neg c2]
  unfold F_X12_behindSum_188
  rw [if_pos rfl, show F_X12_isSign 61 = F_X12_isSign (nI 61) from rfl, hs 61 (by decide) (by decide) (by decide), bd_eq, ib2, hkd]
  by_cases c3 : kd g T k = 61
  · rw [if_pos c3, if_pos (Or.inr (Or.inr c3)), c3]
    rfl
  · rw [if_neg c3, if_neg (show ¬ isCp (kd g T k) by unfold isCp; omega)]
theorem R_cmp1 {g : Nat → Nat} {T C : Nat} (hX : TX g T C) {τ : xS} {k n q d : Nat} {R : Nat → Nat × Nat} {Q P : List (Nat × Nat)} (h : RI g T τ k n q d R (Q ++ P)) (hk : k ≤ C) (h14 : sI τ 14 = 0) (hi : inn P = 99 ∨ inn P = 30) (hQ : ∀ x, x ∈ Q → 20 ≤ x.1 ∧ x.1 ≤ 23 ∧ 5 ≤ bindN x.1) (hP : topB P 4) (hl : (Q ++ P).length ≤ 400) (hl2 : P.length < 400) (hq : q + wt Q ≤ 400) (hc : isCp (kd g T k)) : ∃ τ', F_X12_behindSum (nI 1) τ = some (1, τ') ∧ RI g T τ' (k + 1) n (flush Q q R).1 d (flush Q q R).2 ((24 + cpN (kd g T k), 0) :: P) ∧ pzF τ τ' ∧ sI τ' 14 = 0 ∧ sI τ' 13 = sI τ 13 := by
  have hql : (Q ++ P).length = Q.length + P.length := List.length_append
  have hvP : pv P := fun x hx => h.2.2.2.2.2.2.2.1 x (List.mem_append_right _ hx)
  have hP5 : topB P 5 := by
    cases P with
    | nil => trivial
    | cons x P => exact Nat.lt_succ_of_lt hP
  have hw : cpN (kd g T k) ≤ 2 := by
    unfold cpN
    repeat' split
    all_goals omega
  have hin : inn (Q ++ P) = 99 ∨ inn (Q ++ P) = 30 := by
    rw [inn_app (fun x hx => by have := hQ x hx; omega)]
    exact hi
  have hcm : isCmp (Q ++ P) = false := by
    rw [isCmp_app (fun x hx => (hQ x hx).2.1)]
    exact isCmp_top hvP hP
  obtain ⟨τ1, a1, a2, a3, a4, a5⟩ := RI_must1 hX h hk h14 (x := 1) (by decide)
  obtain ⟨τ2, b1, b2, b3, b4, b5⟩ := RI_settle (b := 5) (by decide) (by decide) hP5 Q FU q R τ1 (by unfold FU; omega) hl hq (fun x hx => (hQ x hx).2.2) a2
  obtain ⟨c1, c2, c3⟩ := RI_push b2 hl2 (24 + cpN (kd g T k)) 0 ⟨by omega, by omega⟩ (by decide)
  refine ⟨_, ?_, c2, pzF_trans (pzF_trans a3 b3) c3, b4.trans a4, b5.trans a5⟩
  rw [R_210 hX h hk hin hl (by unfold isOp; unfold isCp at hc; omega) hcm, if_pos hc]
  unfold F_X12_behindSum_210 F_X12_settle
  rw [a1, bd_eq, a4, if_pos rfl, show F_X12_settle_0 FU 5 τ1 = F_X12_settle_0 FU (nI 5) τ1 from rfl, b1, bd_eq, show F_X12_push (nI (24 + cpN (kd g T k))) 0 = F_X12_push (nI (24 + cpN (kd g T k))) (nI 0) from rfl, c1]
  rfl
theorem R_cmp0 {g : Nat → Nat} {T C : Nat} (hX : TX g T C) {τ : xS} {k n q d : Nat} {R : Nat → Nat × Nat} {P : List (Nat × Nat)} (h : RI g T τ k n q d R P) (hk : k ≤ C) (h14 : sI τ 14 = 0) (hi : inn P = 99 ∨ inn P = 30) (hl : P.length ≤ 400) (ho : ¬ isOp (kd g T k)) (hcm : isCmp P = false) (hc : ¬ isCp (kd g T k)) : F_X12_behindSum (nI 1) τ = some (1, flS τ) := by
  obtain ⟨a1, a2, a3, a4, a5⟩ := RI_must0 h h14
  rw [R_210 hX h hk hi hl ho hcm, if_neg hc]
  unfold F_X12_behindSum_210
  rw [a1, bd_eq, a4, if_neg (by decide)]
theorem RL_01 {C k y : Nat} {τ : xS} {r : Option (Unit × xS)} (h1 : F_X12_readPlain τ = F_X12_readPart τ) (h : RLr C k y 1 τ r) : RLr C k y 0 τ r := by
  intro n hn
  have hn2 := h n hn
  obtain ⟨n, rfl⟩ : ∃ q, n = q + 1 := ⟨n - 1, by have : rk 0 = 2 := rfl; omega⟩
  rw [← hn2, F_X12_readExpression_20, F_X12_readExpression_20, h1, if_neg (show ¬ nI 0 = 4 by decide), if_pos (show nI 0 = 0 from rfl), if_neg (show ¬ nI 1 = 4 by decide), if_neg (show ¬ nI 1 = 0 by decide), if_pos (show nI 1 = 1 from rfl)]
/-! ===== both readers in step: tests ===== -/
def midT (g : Nat → Nat) (T C t lo e : Nat) (σ0 τ0 : xS) (k0 n0 u0 q0 a : Nat) (K0 R0 : Nat → Nat × Nat) (P : List (Nat × Nat)) (σ τ : xS) (k L u q : Nat) (K R : Nat → Nat × Nat) (Q : List (Nat × Nat)) (cC cR : (Nat → Int64) → Option Bool) : Prop :=
  LkS g T C σ τ k (n0 + L) u q a K R (Q ++ P) ∧ cxF σ0 σ ∧ pzF τ0 τ ∧ sI τ 13 = sI τ0 13 ∧ (k0 < k ∧ 1 ≤ L ∧ u0 ≤ u ∧ q0 ≤ q ∧ u + k0 ≤ u0 + k + e ∧ q + wt Q + k0 ≤ q0 + k ∧ Q.length + k0 ≤ k) ∧ eqOn K0 K 0 u0 ∧ eqOn R0 R 0 q0 ∧ (∀ x, x ∈ Q → 20 ≤ x.1 ∧ x.1 ≤ 29 ∧ lo ≤ bindN x.1 ∧ ((x.1 = 28 ∨ x.1 = 29) → q0 ≤ x.2)) ∧ tsegC K u0 u L cC ∧ segR (flush Q q R).2 q0 (q + wt Q) L (asL cR) ∧ ∀ r, RLr C k 1 2 τ r → RLr C k0 1 t τ0 r
def exT (lo a : Nat) : Prop := (lo ≤ 2 → a ≠ 272) ∧ (lo ≤ 1 → a ≠ 271)
def outT (g : Nat → Nat) (T C t lo : Nat) (b : Bool) (e : Nat) (σ0 τ0 : xS) (k0 n0 u0 q0 a : Nat) (K0 R0 : Nat → Nat × Nat) (P : List (Nat × Nat)) (rC : Option (Int32 × xS)) : Prop :=
  failS g T C 1 t σ0 τ0 k0 rC ∨ ∃ (σ τ : xS) (k L u q : Nat) (K R : Nat → Nat × Nat) (Q : List (Nat × Nat)) (c : (Nat → Int64) → Option Bool), rC = some (1, σ) ∧ exT lo (kd g T k) ∧ midT g T C t lo e σ0 τ0 k0 n0 u0 q0 a K0 R0 P σ τ k L u q K R Q (if b then sNt c else c) c
def TestH (g : Nat → Nat) (T C lo : Nat) (kT : Int32 → xS → Option (Int32 × xS)) (a : Nat) : Prop := ∀ (σ τ : xS) (k n u q : Nat) (K R : Nat → Nat × Nat) (P : List (Nat × Nat)), LkS g T C σ τ k n u q a K R P → topB P lo → (inn P = 99 ∨ inn P = 30) → outT g T C 0 lo false 0 σ τ k n u q a K R P (kT (nI a) σ)
theorem P_cmp {g : Nat → Nat} {T C a : Nat} (hX : TX g T C) {σ0 τ0 : xS} {k0 n0 u0 q0 : Nat} {K0 R0 : Nat → Nat × Nat} {P : List (Nat × Nat)} (h0 : LkS g T C σ0 τ0 k0 n0 u0 q0 a K0 R0 P) (hP : topB P 4) (hi : inn P = 99 ∨ inn P = 30) : outT g T C 1 4 false 0 σ0 τ0 k0 n0 u0 q0 a K0 R0 P (F_X5_readCompared (nI a) σ0) := by
  have hT1 := hX.1
  have hT2 := hX.2.1
  have h9 := h0.2.2.2.2.2.2.2.2
  have hP5 : topB P 5 := by
    cases P with
    | nil => trivial
    | cons x P => exact Nat.lt_succ_of_lt hP
  have hS := fun {σ τ : xS} {k n u q : Nat} {K R : Nat → Nat × Nat} {P : List (Nat × Nat)} (h : LkS g T C σ τ k n u q a K R P) (hp : topB P 5) => P_SumD (y := 1) hX 10 a h9 (by omega) σ τ k n u q K R P h hp
  unfold F_X5_readCompared F_X5_readSumR
  rcases hS h0 hP5 with hf | ⟨σ, τ, k, L, u, q, K, R, Q, s, d1, hex, hmid⟩
  · left
    obtain ⟨σ', τf, kf, g1, g2⟩ := hf
    rw [g1, bd_eq, if_pos rfl, cz_0]
    exact ⟨σ', τf, kf, rfl, g2⟩
  obtain ⟨⟨l1, l2, l3, l4, l5, l6, l7, l8, l9⟩, f1, f2, f3, ⟨b1, b2, b3, b4, b5, b6, b7⟩, eK, eR, hQ, sC, sR, hr⟩ := hmid
  have hkd := kd_le hX (TpR_g l2.1) l4
  have hQ2 : ∀ x, x ∈ Q → 20 ≤ x.1 ∧ x.1 ≤ 23 := fun x hx => ⟨(hQ x hx).1, (hQ x hx).2.1⟩
  have hql : (Q ++ P).length = Q.length + P.length := List.length_append
  have hno : ¬ isOp (kd g T k) := by
    have e1 := hex.1 (by decide)
    have e2 := hex.2 (by decide)
    unfold isOp
    omega
  have hvP : pv P := fun x hx => l2.2.2.2.2.2.2.2.1 x (List.mem_append_right _ hx)
  rw [d1, bd_eq, if_neg (by decide), PI_tok hX l1 l4, bd_eq]
  by_cases hc : isCp (kd g T k)
  rotate_left
  · left
    have hc2 := hc
    unfold isCp at hc2
    rw [if_neg (show ¬ nI (kd g T k) = 60 from nI_ne (b := 60) (by omega) (by decide) (by omega)), if_neg (show ¬ nI (kd g T k) = 62 from nI_ne (b := 62) (by omega) (by decide) (by omega)), if_neg (show ¬ nI (kd g T k) = 61 from nI_ne (b := 61) (by omega) (by decide) (by omega)), PI_fails hX l1 l4, bd_eq, cz_0]
    have hin : inn (Q ++ P) = 99 ∨ inn (Q ++ P) = 30 := by
      rw [inn_app (fun x hx => by have := hQ2 x hx; omega)]
      exact hi
    have hcm : isCmp (Q ++ P) = false := by
      rw [isCmp_app (fun x hx => (hQ2 x hx).2)]
      exact isCmp_top hvP hP
    have hb := R_cmp0 hX l2 l4 l3 hin (by omega) hno hcm hc
    have := fail_here (y := 1) (t := 3) hX ⟨l1, l2, l3, l4, l5, l6, l7, l8, l9⟩ (fun r hr => RL_3f l3 hb (flS_ne _) hr)
    exact fail_mono this f1 f2 hr
  have hw3 : cpN (kd g T k) ≤ 2 := by
    unfold cpN
    repeat' split
    all_goals omega
  rw [wt_app] at l7
  have hkC := kd_end hX l4 (by unfold isCp at hc; omega)
  obtain ⟨τ1, a1, a2, a3, a4, a5⟩ := R_cmp1 hX l2 l4 l3 hi hQ hP (by omega) (by omega) (by omega) hc
  rw [flush_q3 hQ2] at a2
  obtain ⟨n1, n2⟩ := PI_next hX l1 hkC
  have hc1 := cxF_I σ (k := 756) (nI (k + 1)) (by decide)
  have hw1 : wt ((24 + cpN (kd g T k), 0) :: P) = 1 + wt P := by
    show (if 24 + cpN (kd g T k) < 28 then 1 else 0) + wt P = _
    rw [if_pos (by omega)]
  have hl1 : ((24 + cpN (kd g T k), 0) :: P).length = P.length + 1 := rfl
  have hr1 : ∀ r, RLr C (k + 1) 1 1 τ1 r → RLr C k0 1 1 τ0 r := fun r h => hr r (RL_3 (t' := 1) l3 a1 (by have h1 : rk 1 = 2 := rfl; have h3 : rk 3 = 3 := rfl; omega) h)
  have hLS1 : LkS g T C (uI σ 756 (nI (k + 1))) τ1 (k + 1) (n0 + L) u (q + wt Q) a K (flush Q q R).2 ((24 + cpN (kd g T k), 0) :: P) := ⟨n2, a2, a4, by omega, l5, by omega, by omega, by omega, l9⟩
  have hbd : bindN (24 + cpN (kd g T k)) = 4 := by
    rcases (show cpN (kd g T k) = 0 ∨ cpN (kd g T k) = 1 ∨ cpN (kd g T k) = 2 by omega) with e | e | e <;> rw [e] <;> rfl
  have e77 : ∀ σ8 : xS, (if nI (kd g T k) = 60 then F_X5_readCompared_77 6 σ8 else (if nI (kd g T k) = 62 then F_X5_readCompared_77 7 σ8 else F_X5_readCompared_77 8 σ8)) = F_X5_readCompared_77 (nI (6 + cpN (kd g T k))) σ8 := by
    intro σ8
    rcases hc with e | e | e <;> rw [e] <;> rfl
  have hF : (if nI (kd g T k) = 60 then F_X5_readCompared_38 (nI a) (nI (kd g T k)) σ else if nI (kd g T k) = 62 then F_X5_readCompared_38 (nI a) (nI (kd g T k)) σ else if nI (kd g T k) = 61 then F_X5_readCompared_38 (nI a) (nI (kd g T k)) σ else bd (F_X5_fails σ) fun v6 σ5 => cz v6 (some (v6, σ5))) = F_X5_readCompared_38 (nI a) (nI (kd g T k)) σ := by
    rcases hc with e | e | e <;> rw [e] <;> rfl
  rw [hF]
  unfold F_X5_readCompared_38 F_X5_readSumR
  rw [n1, bd_eq]
  simp only [e77]
  rcases hS hLS1 (show bindN (24 + cpN (kd g T k)) < 5 by omega) with hf | ⟨σ2, τ2, k2, L2, u2, q2, K2, R2, Q3, s2, d1, d2, d3, d4, d5, d6, d7, d8, d9, d10, d11, d12, d13⟩
  · left
    have hf1 := fail_mono hf (cxF_trans f1 hc1) (pzF_trans f2 a3) hr1
    obtain ⟨σ', τf, kf, g1, g2⟩ := hf1
    rw [g1, bd_eq, if_pos rfl, cz_0]
    exact ⟨σ', τf, kf, rfl, g2⟩
  obtain ⟨m1, m2, m3, m4, m5, m6, m7, m8, m9⟩ := d3
  have hw2 : wt (Q3 ++ (24 + cpN (kd g T k), 0) :: P) = wt Q3 + (1 + wt P) := by rw [wt_app, hw1]
  have hl2 : (Q3 ++ (24 + cpN (kd g T k), 0) :: P).length = Q3.length + (P.length + 1) := List.length_append
  have hQ3 : ∀ x, x ∈ Q3 → 20 ≤ x.1 ∧ x.1 ≤ 23 := fun x hx => ⟨(d10 x hx).1, (d10 x hx).2.1⟩
  obtain ⟨s1, s3, s4⟩ := PI_step m1 (show u2 < 400 by omega) (a := 6 + cpN (kd g T k)) (x := 0) ⟨show 6 + cpN (kd g T k) ≤ 12 by omega, show 0 < 2000 by decide, fun z => absurd z (show ¬ 6 + cpN (kd g T k) = 1 by omega)⟩
  rw [d1, bd_eq, if_neg (by decide)]
  unfold F_X5_readCompared_77
  rw [show F_X5_step (nI (6 + cpN (kd g T k))) 0 = F_X5_step (nI (6 + cpN (kd g T k))) (nI 0) from rfl, s1, bd_eq, cz_1]
  have eapp : Q3 ++ [(24 + cpN (kd g T k), 0)] ++ P = Q3 ++ (24 + cpN (kd g T k), 0) :: P := List.append_assoc _ _ _
  have hwt1 : wt (Q3 ++ [(24 + cpN (kd g T k), 0)]) = wt Q3 + 1 := by
    rw [wt_app]
    show wt Q3 + ((if 24 + cpN (kd g T k) < 28 then 1 else 0) + 0) = _
    rw [if_pos (by omega)]
  have hln1 : (Q3 ++ [(24 + cpN (kd g T k), 0)]).length = Q3.length + 1 := List.length_append
  have hfl : flush (Q3 ++ [(24 + cpN (kd g T k), 0)]) q2 R2 = (q2 + wt Q3 + 1, updN (flush Q3 q2 R2).2 (q2 + wt Q3) (24 + cpN (kd g T k), 0)) := by
    rw [flush_app, flush_q3 hQ3, flush, if_neg (show ¬ (24 + cpN (kd g T k) = 28 ∨ 24 + cpN (kd g T k) = 29) by omega)]
    rfl
  have hno2 : ¬ isOp (kd g T k2) := by
    have e1 := d2.1 (by decide)
    have e2 := d2.2 (by decide)
    unfold isOp
    omega
  have hin2 : inn (Q3 ++ (24 + cpN (kd g T k), 0) :: P) = 99 ∨ inn (Q3 ++ (24 + cpN (kd g T k), 0) :: P) = 30 := by
    rw [inn_app (fun x hx => by have := hQ3 x hx; omega), inn, if_pos (show 24 + cpN (kd g T k) < 30 by omega)]
    exact hi
  have hcm2 : isCmp (Q3 ++ (24 + cpN (kd g T k), 0) :: P) = true := by
    rw [isCmp_app (fun x hx => (hQ3 x hx).2), isCmp, if_neg (show ¬ 24 + cpN (kd g T k) ≤ 23 by omega)]
    exact decide_eq_true (by omega)
  have hb2 := R_cmp2 hX m2 m4 hin2 (by omega) hno2 hcm2
  refine Or.inr ⟨_, τ2, k2, L + L2, u2 + 1, q2, updN K2 u2 (6 + cpN (kd g T k), 0), R2, Q3 ++ [(24 + cpN (kd g T k), 0)], sCm (6 + cpN (kd g T k)) s s2, rfl, ⟨fun z => absurd z (by decide), fun z => absurd z (by decide)⟩, ⟨?_, ?_, m3, m4, by omega, by omega, ?_, ?_, m9⟩, cxF_trans (cxF_trans (cxF_trans f1 hc1) d4) s4, pzF_trans (pzF_trans f2 a3) d5, d6.trans (a5.trans f3), by omega, ?_, ?_, ?_, ?_, ?_, fun r h => hr1 r (d13 r (RL_3 (t' := 2) m3 hb2 (by have h2 : rk 2 = 2 := rfl; have h3 : rk 3 = 3 := rfl; omega) h))⟩
  · rw [← Nat.add_assoc]
    exact s3
  · rw [eapp, ← Nat.add_assoc]
    exact m2
  · rw [eapp]
    exact m7
  · rw [eapp]
    exact m8
  · exact eqOn_trans eK (eqOn_trans (eqOn_mono d8 (Nat.le_refl _) b3) (eqOn_mono (updN_on K2 0 u2 _) (Nat.le_refl _) (by omega)))
  · exact eqOn_trans eR (eqOn_trans (eqOn_mono (flush_on hQ2 q R) (Nat.le_refl _) b4) (eqOn_mono d9 (Nat.le_refl _) (by omega)))
  · intro x hx
    rcases List.mem_append.mp hx with hx | hx
    · have := d10 x hx
      exact ⟨this.1, by omega, by omega, fun z => by omega⟩
    · rcases List.mem_cons.mp hx with rfl | hx
      · exact ⟨by show 20 ≤ 24 + cpN (kd g T k); omega, by show 24 + cpN (kd g T k) ≤ 29; omega, by show 4 ≤ bindN (24 + cpN (kd g T k)); omega, fun z => by
          have z2 : 24 + cpN (kd g T k) = 28 ∨ 24 + cpN (kd g T k) = 29 := z
          omega⟩
      · cases hx
  · exact tsegC_cm (segC_on sC (eqOn_trans (eqOn_mono d8 (Nat.zero_le _) (Nat.le_refl _)) (eqOn_mono (updN_on K2 0 u2 _) (Nat.zero_le _) (by omega)))) (segC_on d11 (updN_on K2 u u2 _)) b3 (by omega) b2 (by omega) (by omega) (updN_s _ _ _)
  · rw [hfl, hwt1]
    exact segR_cm (v1 := q + wt Q) (v2 := q2 + wt Q3) (segR_on sR (eqOn_trans (eqOn_mono d9 (Nat.zero_le _) (Nat.le_refl _)) (eqOn_trans (eqOn_mono (flush_on hQ3 q2 R2) (Nat.zero_le _) (by omega)) (eqOn_mono (updN_on (flush Q3 q2 R2).2 0 (q2 + wt Q3) _) (Nat.zero_le _) (by omega))))) (segR_on d12 (updN_on _ (q + wt Q) (q2 + wt Q3) _)) (by omega) (by omega) b2 (by omega) hw3 (updN_s _ _ _)
end
