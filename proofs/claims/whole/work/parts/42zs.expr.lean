section
/-! ===== a whole expression ===== -/
theorem R_end0 {g : Nat → Nat} {T C : Nat} (hX : TX g T C) {τ : xS} {k n q d : Nat} {R : Nat → Nat × Nat} {P : List (Nat × Nat)} (h : RI g T τ k n q d R P) (hk : k ≤ C) (hi : inn P = 99) (hl : P.length ≤ 400) (ho : ¬ isOp (kd g T k)) : F_X12_behindSum (nI 0) τ = some (4, τ) := by
  have hin := R_inner h hl
  rw [R_bs_no hX h hk (nI 0) ho]
  unfold F_X12_behindSum_57
  rw [if_pos rfl, hin, hi, if_pos rfl, bd_eq, if_neg (by decide), if_pos rfl, if_pos (show nI 0 = 0 from rfl)]
theorem R_endT {g : Nat → Nat} {T C : Nat} (hX : TX g T C) {τ : xS} {k n q d : Nat} {R : Nat → Nat × Nat} {P : List (Nat × Nat)} (h : RI g T τ k n q d R P) (hk : k ≤ C) (hi : inn P = 99) (hl : P.length ≤ 400) (h1 : kd g T k ≠ 272) (h2 : kd g T k ≠ 271) : F_X12_behindTest τ = some (4, τ) := by
  rw [R_bt hX h hk h1 h2 hl, hi, if_pos rfl, bd_eq, if_pos rfl]
theorem R_76 {g : Nat → Nat} {T : Nat} {τ : xS} {k n q d : Nat} {R : Nat → Nat × Nat} {Q : List (Nat × Nat)} (h : RI g T τ k n q d R Q) (hQ : ∀ x, x ∈ Q → x.1 ≤ 29 ∧ 1 ≤ bindN x.1) (hl : Q.length ≤ 400) (hq : q + wt Q ≤ 400) : ∃ τ', F_X12_readExpression_76 τ = some ((), τ') ∧ RI g T τ' k n (q + wt Q) d (flush Q q R).2 [] ∧ pzF τ τ' ∧ sI τ' 14 = sI τ 14 ∧ sI τ' 13 = sI τ 13 := by
  have h2 : RI g T τ k n q d R (Q ++ []) := by rw [List.append_nil]; exact h
  obtain ⟨τ', a1, a2, a3, a4, a5⟩ := RI_settle (b := 1) (P := []) (by decide) (by decide) trivial Q FU q R τ (by unfold FU; omega) (by rw [List.append_nil]; exact hl) hq (fun x hx => (hQ x hx).2) h2
  rw [flush_q Q (fun x hx => (hQ x hx).1)] at a2
  refine ⟨τ', ?_, a2, a3, a4, a5⟩
  unfold F_X12_readExpression_76 F_X12_settle
  rw [show F_X12_settle_0 FU 1 τ = F_X12_settle_0 FU (nI 1) τ from rfl, a1]
  rfl
def failE (g : Nat → Nat) (T C : Nat) (σ τ : xS) (rC : Option (Int32 × xS)) (rR : Option (Unit × xS)) : Prop := ∃ (σ' τf : xS) (kf : Nat), rC = some (0, σ') ∧ rR = some ((), τf) ∧ cxF σ σ' ∧ pzF τ τf ∧ kf ≤ C ∧ sI σ' 759 = nI (plT g T kf) ∧ sI τf 14 = 1 ∧ sI τf 13 = nI (plT g T kf)
def LkE (g : Nat → Nat) (T C : Nat) (σ τ : xS) (k n u q : Nat) (K R : Nat → Nat × Nat) : Prop := PI g T C σ k n u K ∧ RI g T τ k n q 0 R [] ∧ sI τ 14 = 0 ∧ k ≤ C ∧ n ≤ 50 ∧ u ≤ k ∧ q ≤ k
def midE (g : Nat → Nat) (T C : Nat) (σ0 τ0 : xS) (k0 n0 u0 q0 : Nat) (K0 R0 : Nat → Nat × Nat) (σ τ : xS) (k L u q : Nat) (K R : Nat → Nat × Nat) : Prop := LkE g T C σ τ k (n0 + L) u q K R ∧ cxF σ0 σ ∧ pzF τ0 τ ∧ sI τ 13 = sI τ0 13 ∧ (k0 < k ∧ 1 ≤ L ∧ u0 ≤ u ∧ q0 ≤ q ∧ u + k0 ≤ u0 + k ∧ q + k0 ≤ q0 + k) ∧ eqOn K0 K 0 u0 ∧ eqOn R0 R 0 q0
theorem RI_zero {g : Nat → Nat} {T : Nat} {τ : xS} {k n q : Nat} {R : Nat → Nat × Nat} (h : RI g T τ k n q 0 R []) : RI g T (uI (uI τ 23 0) 24 0) k n q 0 R [] := by
  obtain ⟨r1, r2, r3, r4, r5, r6, r7, r8, r9, r10⟩ := h
  exact ⟨r1, r2, r3, r4, codR_of r5 rfl rfl, rfl, trivial, r8, rfl, r10⟩
theorem E_sum {g : Nat → Nat} {T C : Nat} (hX : TX g T C) {σ τ : xS} {k n u q : Nat} {K R : Nat → Nat × Nat} (h : LkE g T C σ τ k n u q K R) : failE g T C σ τ (F_X5_readSumR 0 σ) (F_X12_readExpression 0 τ) ∨ ∃ (σ' τ' : xS) (k' L u' q' : Nat) (K' R' : Nat → Nat × Nat) (s : (Nat → Int64) → Option Int64), F_X5_readSumR 0 σ = some (1, σ') ∧ F_X12_readExpression 0 τ = some ((), τ') ∧ midE g T C σ τ k n u q K R σ' τ' k' L u' q' K' R' ∧ segC K' u u' L s ∧ segR R' q q' L s := by
  have hT1 := hX.1
  have hT2 := hX.2.1
  obtain ⟨l1, l2, l3, l4, l5, l6, l7⟩ := h
  have hz := RI_zero l2
  have hf : pzF τ (uI (uI τ 23 0) 24 0) := pzF_trans (pzF_I _ _ (by decide)) (pzF_I _ _ (by decide))
  have hE : F_X12_readExpression 0 τ = F_X12_readExpression_20 FU (nI 0) (nI 1) (uI (uI τ 23 0) 24 0) := by
    unfold F_X12_readExpression
    rw [nm_eq2, nm_eq2, if_pos rfl, nm_eq2]
    rfl
  have hFU : 4 * (C - k) + rk 1 ≤ FU := by
    have : rk 1 = 2 := rfl
    unfold FU
    omega
  rw [hE]
  unfold F_X5_readSumR
  rcases P_SumD (y := 0) hX 10 0 (by decide) (by decide) σ (uI (uI τ 23 0) 24 0) k n u q K R [] ⟨l1, hz, l3, l4, l5, l6, l7, Nat.zero_le _, Nat.zero_le _⟩ trivial with hfl | ⟨σ2, τ2, k2, L, u2, q2, K2, R2, Q, s, d1, d2, d3, d4, d5, d6, d7, d8, d9, d10, d11, d12, d13⟩
  · left
    obtain ⟨σ', τf, kf, f1, f2, f3, f4, f5, f6, f7, f8⟩ := hfl
    exact ⟨σ', τf, kf, f1, f8 FU hFU, f2, pzF_trans hf f3, f4, f5, f6, f7⟩
  · obtain ⟨m1, m2, m3, m4, m5, m6, m7, m8, m9⟩ := d3
    rw [List.append_nil] at m2 m7 m8
    have hQ2 : ∀ x, x ∈ Q → 20 ≤ x.1 ∧ x.1 ≤ 23 := fun x hx => ⟨(d10 x hx).1, (d10 x hx).2.1⟩
    have hin : inn Q = 99 := by
      have := inn_app (Q := Q) (P := []) (fun x hx => by have := hQ2 x hx; omega)
      rw [List.append_nil] at this
      exact this
    have hno : ¬ isOp (kd g T k2) := by
      have e1 := d2.1 (by decide)
      have e2 := d2.2 (by decide)
      unfold isOp
      omega
    obtain ⟨τ3, a1, a2, a3, a4, a5⟩ := R_76 m2 (fun x hx => ⟨by have := hQ2 x hx; omega, by have := (d10 x hx).2.2; omega⟩) (by omega) (by omega)
    have hrun := d13 _ (RL_3 (t' := 4) (k' := k2) m3 (R_end0 hX m2 m4 hin (by omega) hno) (by have h4 : rk 4 = 1 := rfl; have h3 : rk 3 = 3 := rfl; omega) (RL_4 m3 a1))
    exact Or.inr ⟨σ2, τ3, k2, L, u2, q2 + wt Q, K2, (flush Q q2 R2).2, s, d1, hrun FU hFU, ⟨⟨m1, a2, a4.trans m3, m4, m5, m6, m7⟩, d4, pzF_trans (pzF_trans hf d5) a3, a5.trans d6, by omega, d8, eqOn_trans d9 (eqOn_mono (flush_on hQ2 q2 R2) (Nat.le_refl _) (by omega))⟩, d11, d12⟩
theorem E_test {g : Nat → Nat} {T C : Nat} (hX : TX g T C) {σ τ : xS} {k n u q : Nat} {K R : Nat → Nat × Nat} (h : LkE g T C σ τ k n u q K R) : failE g T C σ τ (F_X5_readTestR 0 σ) (F_X12_readExpression 1 τ) ∨ ∃ (σ' τ' : xS) (k' L u' q' : Nat) (K' R' : Nat → Nat × Nat) (c : (Nat → Int64) → Option Bool), F_X5_readTestR 0 σ = some (1, σ') ∧ F_X12_readExpression 1 τ = some ((), τ') ∧ midE g T C σ τ k n u q K R σ' τ' k' L u' q' K' R' ∧ tsegC K' u u' L c ∧ segR R' q q' L (asL c) := by
  have hT1 := hX.1
  have hT2 := hX.2.1
  obtain ⟨l1, l2, l3, l4, l5, l6, l7⟩ := h
  have hz := RI_zero l2
  have hf : pzF τ (uI (uI τ 23 0) 24 0) := pzF_trans (pzF_I _ _ (by decide)) (pzF_I _ _ (by decide))
  have hE : F_X12_readExpression 1 τ = F_X12_readExpression_20 FU (nI 1) (nI 0) (uI (uI τ 23 0) 24 0) := by
    unfold F_X12_readExpression
    rw [nm_eq2, nm_eq2, if_neg (by decide), nm_eq2]
    rfl
  have hFU : 4 * (C - k) + rk 0 ≤ FU := by
    have : rk 0 = 2 := rfl
    unfold FU
    omega
  rw [hE]
  unfold F_X5_readTestR
  rcases P_TestD hX 10 0 (by decide) (by decide) σ (uI (uI τ 23 0) 24 0) k n u q K R [] ⟨l1, hz, l3, l4, l5, l6, l7, Nat.zero_le _, Nat.zero_le _⟩ trivial (Or.inl rfl) with hfl | ⟨σ2, τ2, k2, L, u2, q2, K2, R2, Q, s, d1, d2, d3, d4, d5, d6, d7, d8, d9, d10, d11, d12, d13⟩
  · left
    obtain ⟨σ', τf, kf, f1, f2, f3, f4, f5, f6, f7, f8⟩ := hfl
    exact ⟨σ', τf, kf, f1, f8 FU hFU, f2, pzF_trans hf f3, f4, f5, f6, f7⟩
  · obtain ⟨m1, m2, m3, m4, m5, m6, m7, m8, m9⟩ := d3
    rw [List.append_nil] at m2 m7 m8
    rw [if_neg (by decide)] at d11
    have hin : inn Q = 99 := by
      have := inn_app (Q := Q) (P := []) (fun x hx => by have := d10 x hx; omega)
      rw [List.append_nil] at this
      exact this
    obtain ⟨τ3, a1, a2, a3, a4, a5⟩ := R_76 m2 (fun x hx => ⟨(d10 x hx).2.1, (d10 x hx).2.2.1⟩) (by omega) (by omega)
    have hrun := d13 _ (RL_2 (t' := 4) (k' := k2) m3 (R_endT hX m2 m4 hin (by omega) (d2.1 (by decide)) (d2.2 (by decide))) (by have h4 : rk 4 = 1 := rfl; have h3 : rk 2 = 2 := rfl; omega) (RL_4 m3 a1))
    exact Or.inr ⟨σ2, τ3, k2, L, u2, q2 + wt Q, K2, (flush Q q2 R2).2, s, d1, hrun FU hFU, ⟨⟨m1, a2, a4.trans m3, m4, m5, m6, m7⟩, d4, pzF_trans (pzF_trans hf d5) a3, a5.trans d6, by omega, d8, eqOn_trans d9 (flush_on9 d10 q2 R2 (by omega))⟩, d11, d12⟩
end
