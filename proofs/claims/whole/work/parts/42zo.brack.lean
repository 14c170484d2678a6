section
/-! ===== NOT, brackets of tests ===== -/
theorem flush_q9 {Q : List (Nat × Nat)} {lo q0 : Nat} (h : ∀ x, x ∈ Q → 20 ≤ x.1 ∧ x.1 ≤ 29 ∧ lo ≤ bindN x.1 ∧ ((x.1 = 28 ∨ x.1 = 29) → q0 ≤ x.2)) (q : Nat) (R : Nat → Nat × Nat) : (flush Q q R).1 = q + wt Q := flush_q Q (fun x hx => (h x hx).2.1) q R
theorem flush_on9 {Q : List (Nat × Nat)} {lo q0 : Nat} (h : ∀ x, x ∈ Q → 20 ≤ x.1 ∧ x.1 ≤ 29 ∧ lo ≤ bindN x.1 ∧ ((x.1 = 28 ∨ x.1 = 29) → q0 ≤ x.2)) : ∀ (q : Nat) (R : Nat → Nat × Nat), q0 ≤ q → eqOn R (flush Q q R).2 0 q0 := by
  induction Q with
  | nil =>
    intro q R _
    exact eqOn_refl _ _ _
  | cons x Q ih =>
    intro q R hq
    have hx := h x List.mem_cons_self
    have ih2 := ih (fun y hy => h y (List.mem_cons_of_mem _ hy))
    rw [flush]
    by_cases c : x.1 = 28 ∨ x.1 = 29
    · rw [if_pos c]
      have hx2 := hx.2.2.2 c
      exact eqOn_trans (fun j _ hj => updN_n (show j ≠ x.2 by omega)) (ih2 q _ hq)
    · rw [if_neg c]
      exact eqOn_trans (eqOn_mono (updN_on R 0 q _) (Nat.le_refl _) hq) (ih2 (q + 1) _ (by omega))
theorem R_bt {g : Nat → Nat} {T C : Nat} (hX : TX g T C) {τ : xS} {k n q d : Nat} {R : Nat → Nat × Nat} {P : List (Nat × Nat)} (h : RI g T τ k n q d R P) (hk : k ≤ C) (h1 : kd g T k ≠ 272) (h2 : kd g T k ≠ 271) (hl : P.length ≤ 400) : F_X12_behindTest τ = bd (some (if inn P = 99 then -1 else nI (inn P), τ)) fun v6 σ5 => if v6 = ((-1)) then (some (4, σ5)) else (bd (F_X12_isSign 41 σ5) fun v8 σ7 => bd (F_X12_must v8 σ7) fun _ σ9 => if (sI σ9 14) = 0 then (bd (F_X12_settle 1 σ9) fun _ σ10 => nm (uI σ10 23 ((sI σ10 23) - 1)) fun σ11 => nm (uI σ11 24 ((sI σ11 24) - 1)) fun σ12 => some (2, σ12)) else (some (2, σ9))) := by
  have hw := fun x (hx : x < 18) => R_isWd (x := x) h.1 h.2.1 (plT_le hX hk) hx
  unfold F_X12_behindTest
  rw [show F_X12_isWord 1476 = F_X12_isWord (zL (cod 16 : Nat)) from rfl, hw 16 (by decide), bd_eq, ib2, if_neg (show ¬ tkK g T (plT g T k) = 256 + 16 from h1), show F_X12_isWord 498 = F_X12_isWord (zL (cod 15 : Nat)) from rfl, hw 15 (by decide), bd_eq, ib2, if_neg (show ¬ tkK g T (plT g T k) = 256 + 15 from h2), R_inner h hl]
theorem R_tb1 {g : Nat → Nat} {T C : Nat} (hX : TX g T C) {τ : xS} {k n q d q0 : Nat} {R : Nat → Nat × Nat} {Q P : List (Nat × Nat)} (h : RI g T τ k n q (d + 1) R (Q ++ (30, 0) :: P)) (hk : k ≤ C) (h14 : sI τ 14 = 0) (hQ : ∀ x, x ∈ Q → 20 ≤ x.1 ∧ x.1 ≤ 29 ∧ 1 ≤ bindN x.1 ∧ ((x.1 = 28 ∨ x.1 = 29) → q0 ≤ x.2)) (hl : (Q ++ (30, 0) :: P).length ≤ 400) (hq : q + wt Q ≤ 400) (h9 : kd g T k = 41) : ∃ τ', F_X12_behindTest τ = some (2, τ') ∧ RI g T τ' (k + 1) n (flush Q q R).1 d (flush Q q R).2 P ∧ pzF τ τ' ∧ sI τ' 14 = 0 ∧ sI τ' 13 = sI τ 13 := by
  have h41 := R_isSg (c := 41) h.1 h.2.1 (plT_le hX hk) (by decide) (by decide) (by decide)
  have hql : (Q ++ (30, 0) :: P).length = Q.length + (P.length + 1) := List.length_append
  have hi : inn (Q ++ (30, 0) :: P) = 30 := inn_app (fun x hx => by have := hQ x hx; omega)
  obtain ⟨τ1, a1, a2, a3, a4, a5⟩ := RI_must1 hX h hk h14 (x := 1) (by decide)
  obtain ⟨τ2, b1, b2, b3, b4, b5⟩ := RI_settle (b := 1) (by decide) (by decide) (P := (30, 0) :: P) (show bindN 30 < 1 by decide) Q FU q R τ1 (by unfold FU; omega) hl hq (fun x hx => (hQ x hx).2.2.1) a2
  have e1 : sI τ2 23 - 1 = nI P.length := by
    rw [b2.2.2.2.2.2.1]
    exact nI_pred _
  have e2 : sI (uI τ2 23 (nI P.length)) 24 - 1 = nI d := by
    show sI τ2 24 - 1 = _
    rw [b2.2.2.2.2.2.2.2.2.1]
    exact nI_pred _
  refine ⟨uI (uI τ2 23 (nI P.length)) 24 (nI d), ?_, ?_, pzF_trans (pzF_trans (pzF_trans a3 b3) (pzF_I _ _ (by decide))) (pzF_I _ _ (by decide)), b4.trans a4, b5.trans a5⟩
  · rw [R_bt hX h hk (by omega) (by omega) hl, hi, if_neg (by decide), bd_eq, if_neg (by decide)]
    unfold F_X12_settle
    rw [show F_X12_isSign 41 = F_X12_isSign (nI 41) from rfl, h41, bd_eq, b2_1.mpr (show tkK g T (plT g T k) = 41 from h9), a1, bd_eq, a4, if_pos rfl, show F_X12_settle_0 FU 1 τ1 = F_X12_settle_0 FU (nI 1) τ1 from rfl, b1, bd_eq, e1, nm_eq, e2, nm_eq]
  · obtain ⟨r1, r2, r3, r4, r5, r6, r7, r8, r9, r10⟩ := RI_pop b2
    exact ⟨r1, r2, r3, r4, codR_of r5 rfl rfl, r6, pil_of r7 rfl rfl, r8, rfl, r10⟩
theorem R_tb0 {g : Nat → Nat} {T C : Nat} (hX : TX g T C) {τ : xS} {k n q d : Nat} {R : Nat → Nat × Nat} {P : List (Nat × Nat)} (h : RI g T τ k n q d R P) (hk : k ≤ C) (h14 : sI τ 14 = 0) (hi : inn P = 30) (hl : P.length ≤ 400) (h1 : kd g T k ≠ 272) (h2 : kd g T k ≠ 271) (h9 : kd g T k ≠ 41) : F_X12_behindTest τ = some (2, flS τ) := by
  have h41 := R_isSg (c := 41) h.1 h.2.1 (plT_le hX hk) (by decide) (by decide) (by decide)
  obtain ⟨a1, a2, a3, a4, a5⟩ := RI_must0 h h14
  rw [R_bt hX h hk h1 h2 hl, hi, if_neg (by decide), bd_eq, if_neg (by decide), show F_X12_isSign 41 = F_X12_isSign (nI 41) from rfl, h41, bd_eq, b2_0.mpr (show ¬ tkK g T (plT g T k) = 41 from h9), a1, bd_eq, a4, if_neg (by decide)]
theorem R_pl {g : Nat → Nat} {T C : Nat} (hX : TX g T C) {τ : xS} {k n q d : Nat} {R : Nat → Nat × Nat} {P : List (Nat × Nat)} (h : RI g T τ k n q d R P) (hk : k ≤ C) : F_X12_readPlain τ = if kd g T k = 273 then (bd (F_X12_push 27 0 τ) fun _ σ8 => bd (F_X12_next σ8) fun _ σ9 => some (0, σ9)) else if kd g T k = 40 then (bd (F_X12_openBracket 30 τ) fun _ σ7 => some (0, σ7)) else F_X12_readPart τ := by
  have hw := fun x (hx : x < 18) => R_isWd (x := x) h.1 h.2.1 (plT_le hX hk) hx
  have h40 := R_isSg (c := 40) h.1 h.2.1 (plT_le hX hk) (by decide) (by decide) (by decide)
  have hkd : tkK g T (plT g T k) = kd g T k := rfl
  unfold F_X12_readPlain
  rw [show F_X12_isWord 14836 = F_X12_isWord (zL (cod 17 : Nat)) from rfl, hw 17 (by decide), bd_eq, ib2, hkd]
  by_cases c : kd g T k = 273
  · rw [if_pos (show kd g T k = 256 + 17 from c), if_pos c]
  rw [if_neg (show ¬ kd g T k = 256 + 17 from c), if_neg c, show F_X12_isSign 40 = F_X12_isSign (nI 40) from rfl, h40, bd_eq, ib2, hkd]
  by_cases c2 : kd g T k = 40
  · rw [if_pos c2, if_pos c2]
  · rw [if_neg c2, if_neg c2]
    cases F_X12_readPart τ with
    | none => rfl
    | some z => rfl
theorem P_tbr {g : Nat → Nat} {T C a : Nat} (hX : TX g T C) {kT : Int32 → xS → Option (Int32 × xS)} (hT : a < 8 → TestH g T C 1 kT (a + 1)) {σ τ : xS} {k n u q : Nat} {K R : Nat → Nat × Nat} {P : List (Nat × Nat)} (h : LkS g T C σ τ k n u q a K R P) (c : kd g T k = 40) : outT g T C 0 4 false 0 σ τ k n u q a K R P (F_X5_readTestInBrackets kT (nI a) σ) := by
  have hLS := h
  obtain ⟨l1, l2, l3, l4, l5, l6, l7, l8, l9⟩ := h
  have hT1 := hX.1
  have hT2 := hX.2.1
  have hkC := kd_end hX l4 (by omega)
  have hR := R_pl hX l2 l4
  rw [if_neg (by omega), if_pos c] at hR
  unfold F_X5_readTestInBrackets
  by_cases ca : a < 8
  · rw [PI_open1 hX l1 hkC ca, bd_eq, if_neg (by decide), nI_1]
    obtain ⟨τ1, a1, a2, a3, a4, a5⟩ := RI_open1 hX l2 l4 l3 ca (by omega) (a := 30) (by decide)
    rw [show F_X12_openBracket 30 τ = F_X12_openBracket (nI 30) τ from rfl, a1, bd_eq] at hR
    have hn := (PI_next hX l1 hkC).2
    have hw1 : wt ((30, 0) :: P) = wt P := Nat.zero_add _
    have hl1 : ((30, 0) :: P).length = P.length + 1 := rfl
    have hLS1 : LkS g T C (uI σ 756 (nI (k + 1))) τ1 (k + 1) n u q (a + 1) K R ((30, 0) :: P) := ⟨hn, a2, a4, by omega, l5, by omega, by omega, by omega, by omega⟩
    have hc1 := cxF_I σ (k := 756) (nI (k + 1)) (by decide)
    have hr1 : ∀ r, RLr C (k + 1) 1 0 τ1 r → RLr C k 1 0 τ r := fun r => RL_0 (t' := 0) l3 hR (by have : rk 0 = 2 := rfl; omega)
    rcases hT ca _ _ _ _ _ _ _ _ _ hLS1 (show bindN 30 < 1 by decide) (Or.inr rfl) with hf | ⟨σ2, τ2, k2, L, u2, q2, K2, R2, Q, s, d1, d2, d3, d4, d5, d6, d7, d8, d9, d10, d11, d12, d13⟩
    · left
      have hf1 := fail_mono hf hc1 a3 hr1
      obtain ⟨σ', τf, kf, f1, f2⟩ := hf1
      rw [f1, bd_eq, if_pos rfl, cz_0]
      exact ⟨σ', τf, kf, rfl, f2⟩
    · obtain ⟨m1, m2, m3, m4, m5, m6, m7, m8, m9⟩ := d3
      have hkd2 := kd_le hX (TpR_g m2.1) m4
      have hw2 : wt (Q ++ (30, 0) :: P) = wt Q + wt P := by rw [wt_app, hw1]
      have hl2 : (Q ++ (30, 0) :: P).length = Q.length + (P.length + 1) := List.length_append
      rw [d1, bd_eq, if_neg (by decide)]
      by_cases c9 : kd g T k2 = 41
      · right
        have hkC2 := kd_end hX m4 (by omega)
        obtain ⟨τ3, b1, b2, b3, b4, b5⟩ := R_tb1 hX m2 m4 m3 d10 (by omega) (by omega) c9
        rw [flush_q9 d10] at b2
        rw [show F_X5_closes 41 = F_X5_closes (nI 41) from rfl, PI_close1 hX m1 hkC2 c9, bd_eq, if_neg (by decide), cz_1]
        refine ⟨_, τ3, k2 + 1, L, u2, q2 + wt Q, K2, (flush Q q2 R2).2, [], s, rfl, ⟨fun z => absurd z (by decide), fun z => absurd z (by decide)⟩, ⟨(PI_next hX m1 hkC2).2, b2, b4, by omega, m5, by omega, ?_, ?_, by omega⟩, cxF_trans (cxF_trans hc1 d4) (cxF_I _ _ (by decide)), pzF_trans (pzF_trans a3 d5) b3, b5.trans (d6.trans a5), ?_, d8, eqOn_trans d9 (flush_on9 d10 q2 R2 (by omega)), (fun x hx => by cases hx), d11, d12, fun r hr => hr1 r (d13 r (RL_2 (t' := 2) m3 b1 (by have : rk 2 = 2 := rfl; omega) hr))⟩
        · show q2 + wt Q + wt P ≤ k2 + 1
          omega
        · show P.length ≤ k2 + 1
          omega
        · have e0 : wt ([] : List (Nat × Nat)) = 0 := rfl
          have e1 : ([] : List (Nat × Nat)).length = 0 := rfl
          omega
      · left
        rw [show F_X5_closes 41 = F_X5_closes (nI 41) from rfl, PI_close0 hX m1 m4 hkd2 (by decide) c9, bd_eq, if_pos rfl, cz_0]
        have hi : inn (Q ++ (30, 0) :: P) = 30 := inn_app (fun x hx => by have := d10 x hx; omega)
        have hb := R_tb0 hX m2 m4 m3 hi (by omega) (d2.1 (by decide)) (d2.2 (by decide)) c9
        have := fail_here (y := 1) (t := 2) hX ⟨m1, m2, m3, m4, m5, m6, m7, m8, m9⟩ (fun r hr => RL_2f m3 hb (flS_ne _) hr)
        exact fail_mono this (cxF_trans hc1 d4) (pzF_trans a3 d5) (fun r hr => hr1 r (d13 r hr))
  · left
    rw [PI_open0 hX l1 l4 (by omega) (by omega), bd_eq, if_pos rfl, cz_0]
    rw [RI_open0 l2 l3 (by omega) (by omega), bd_eq] at hR
    exact fail_here hX hLS (fun r hr => RL_0f l3 hR (flS_ne _) hr)
end
