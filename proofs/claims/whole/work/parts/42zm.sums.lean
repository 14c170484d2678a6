section
theorem P_PartH {g : Nat → Nat} {T C y a : Nat} (hX : TX g T C) {kS : Int32 → xS → Option (Int32 × xS)} (hS : a < 8 → SumH g T C y 5 kS (a + 1)) : SumH g T C y 7 (F_X5_readPart kS) a := P_part hX hS
theorem P_Term_loop {g : Nat → Nat} {T C y t a : Nat} (hX : TX g T C) {kS : Int32 → xS → Option (Int32 × xS)} (hS : a < 8 → SumH g T C y 5 kS (a + 1)) {σ0 τ0 : xS} {k0 n0 u0 q0 : Nat} {K0 R0 : Nat → Nat × Nat} {P : List (Nat × Nat)} (hP : topB P 6) (w : Nat) : ∀ (m cnt : Nat) (σ τ : xS) (k L u q : Nat) (K R : Nat → Nat × Nat) (Q : List (Nat × Nat)) (s : (Nat → Int64) → Option Int64), C - k ≤ w → w < m → cnt ≤ k → ex 7 (kd g T k) → mid g T C y t 6 σ0 τ0 k0 n0 u0 q0 a K0 R0 P σ τ k L u q K R Q s → outS g T C y t 6 σ0 τ0 k0 n0 u0 q0 a K0 R0 P (F_X5_readTerm_12 kS m (nI a) (nI cnt) σ) := by
  have hT1 := hX.1
  have hT2 := hX.2.1
  induction w with
  | zero =>
    intro m cnt σ τ k L u q K R Q s hw hm hc hex hmid
    obtain ⟨m, rfl⟩ : ∃ q, m = q + 1 := ⟨m - 1, by omega⟩
    have l1 := hmid.1.1
    have l4 := hmid.1.2.2.2.1
    have hk : k = C := by omega
    have h276 : kd g T k = 276 := by rw [hk]; exact kd_C hX
    rw [F_X5_readTerm_12, if_neg (show ¬ (400 : Int32) < nI cnt from nI_nlt (a := 400) (b := cnt) (by omega) (by decide)), PI_tok hX l1 l4, bd_eq, h276, if_neg (by decide), PI_tok hX l1 l4, bd_eq, h276, if_neg (by decide), cz_1]
    exact Or.inr ⟨σ, τ, k, L, u, q, K, R, Q, s, rfl, by rw [h276]; exact ⟨fun _ => by decide, fun _ => by decide⟩, hmid⟩
  | succ w ih =>
    intro m cnt σ τ k L u q K R Q s hw hm hc hex hmid
    obtain ⟨m, rfl⟩ : ∃ q, m = q + 1 := ⟨m - 1, by omega⟩
    have hmid0 := hmid
    obtain ⟨⟨l1, l2, l3, l4, l5, l6, l7, l8, l9⟩, f1, f2, f3, ⟨b1, b2, b3, b4, b5, b6, b7⟩, eK, eR, hQ, sC, sR, hr⟩ := hmid
    have hkd := kd_le hX (TpR_g l2.1) l4
    rw [F_X5_readTerm_12, if_neg (show ¬ (400 : Int32) < nI cnt from nI_nlt (a := 400) (b := cnt) (by omega) (by decide)), PI_tok hX l1 l4, bd_eq]
    by_cases ho : kd g T k = 42 ∨ kd g T k = 47
    rotate_left
    · rw [if_neg (show ¬ nI (kd g T k) = 42 from nI_ne (b := 42) (by omega) (by decide) (by omega)), PI_tok hX l1 l4, bd_eq, if_neg (show ¬ nI (kd g T k) = 47 from nI_ne (b := 47) (by omega) (by decide) (by omega)), cz_1]
      refine Or.inr ⟨σ, τ, k, L, u, q, K, R, Q, s, rfl, ?_, hmid0⟩
      unfold ex at hex ⊢
      omega
    obtain ⟨d, hd, hop, hwd⟩ : ∃ d, d ≤ 3 ∧ opN (kd g T k) = 20 + d ∧ ((kd g T k = 42 ∧ 2 + d = 4) ∨ (kd g T k = 47 ∧ 2 + d = 5)) := by
      rcases ho with e | e
      · exact ⟨2, by decide, by rw [e]; rfl, Or.inl ⟨e, rfl⟩⟩
      · exact ⟨3, by decide, by rw [e]; rfl, Or.inr ⟨e, rfl⟩⟩
    have hbd : bindN (20 + d) = 6 := by
      rcases hwd with ⟨_, e⟩ | ⟨_, e⟩
      · rw [show d = 2 by omega]
        rfl
      · rw [show d = 3 by omega]
        rfl
    have hkC := kd_end hX l4 (by omega)
    obtain ⟨n1, n2⟩ := PI_next hX l1 hkC
    have hQ2 : ∀ x, x ∈ Q → 20 ≤ x.1 ∧ x.1 ≤ 23 := fun x hx => ⟨(hQ x hx).1, (hQ x hx).2.1⟩
    have hql : (Q ++ P).length = Q.length + P.length := List.length_append
    rw [wt_app] at l7
    have hw1 : wt ((20 + d, 0) :: P) = 1 + wt P := by
      show (if 20 + d < 28 then 1 else 0) + wt P = _
      rw [if_pos (by omega)]
    have hl1 : ((20 + d, 0) :: P).length = P.length + 1 := rfl
    obtain ⟨τ1, a1, a2, a3, a4, a5⟩ := RI_op hX l2 l4 l3 (wd := 20 + d) ⟨by omega, by omega⟩ (fun x hx => by rw [hbd]; exact (hQ x hx).2.2) (by rw [hbd]; exact hP) (by omega) (by omega) (by omega) (nI y)
    rw [flush_q3 hQ2] at a2
    have hbs : F_X12_behindSum (nI y) τ = some (1, τ1) := by
      rw [R_bs_op hX l2 l4 (nI y) (by unfold isOp; omega), hop]
      exact a1
    have hr1 : ∀ r, RLr C (k + 1) y 1 τ1 r → RLr C k0 y t τ0 r := fun r h => hr r (RL_3 (t' := 1) l3 hbs (by have h1 : rk 1 = 2 := rfl; have h3 : rk 3 = 3 := rfl; omega) h)
    have hF : (if nI (kd g T k) = 42 then F_X5_readTerm_37 kS (F_X5_readTerm_12 kS m) (nI a) (nI cnt) σ else bd (F_X5_token σ) fun v7 σ6 => if v7 = 47 then F_X5_readTerm_37 kS (F_X5_readTerm_12 kS m) (nI a) (nI cnt) σ6 else cz 1 (some (1, σ6))) = bd (F_X5_readPart kS (nI a) (uI σ 756 (nI (k + 1)))) fun v12 σ11 => if v12 = 0 then cz 0 (some (0, σ11)) else F_X5_readTerm_68 kS (F_X5_readTerm_12 kS m) (nI a) (nI cnt) (nI (2 + d)) σ11 := by
      have e37 : F_X5_readTerm_37 kS (F_X5_readTerm_12 kS m) (nI a) (nI cnt) σ = bd (F_X5_readPart kS (nI a) (uI σ 756 (nI (k + 1)))) fun v12 σ11 => if v12 = 0 then cz 0 (some (0, σ11)) else F_X5_readTerm_68 kS (F_X5_readTerm_12 kS m) (nI a) (nI cnt) (nI (2 + d)) σ11 := by
        unfold F_X5_readTerm_37
        rw [PI_tok hX l1 l4, bd_eq, n1, bd_eq]
        rcases hwd with ⟨e, e2⟩ | ⟨e, e2⟩
        · rw [e, e2]
          simp only [if_pos (show nI 42 = 42 from rfl)]
          rfl
        · rw [e, e2]
          simp only [if_neg (show ¬ nI 47 = 42 by decide)]
          rfl
      rcases ho with e | e
      · rw [if_pos (show nI (kd g T k) = 42 by rw [e]; rfl)]
        exact e37
      · rw [if_neg (show ¬ nI (kd g T k) = 42 by rw [e]; decide), PI_tok hX l1 l4, bd_eq, if_pos (show nI (kd g T k) = 47 by rw [e]; rfl)]
        exact e37
    rw [hF]
    have hc1 := cxF_I σ (k := 756) (nI (k + 1)) (by decide)
    have hLS1 : LkS g T C (uI σ 756 (nI (k + 1))) τ1 (k + 1) (n0 + L) u (q + wt Q) a K (flush Q q R).2 ((20 + d, 0) :: P) := ⟨n2, a2, a4, by omega, l5, by omega, by omega, by omega, l9⟩
    rcases P_PartH hX hS _ _ _ _ _ _ _ _ _ hLS1 (show bindN (20 + d) < 7 by omega) with hf | ⟨σ2, τ2, k2, L2, u2, q2, K2, R2, Q3, s2, d1, d2, d3, d4, d5, d6, d7, d8, d9, d10, d11, d12, d13⟩
    · left
      have hf1 := fail_mono hf (cxF_trans f1 hc1) (pzF_trans f2 a3) hr1
      obtain ⟨σ', τf, kf, g1, g2⟩ := hf1
      rw [g1, bd_eq, if_pos rfl, cz_0]
      exact ⟨σ', τf, kf, rfl, g2⟩
    obtain ⟨m1, m2, m3, m4, m5, m6, m7, m8, m9⟩ := d3
    have hw2 : wt (Q3 ++ (20 + d, 0) :: P) = wt Q3 + (1 + wt P) := by rw [wt_app, hw1]
    have hl2 : (Q3 ++ (20 + d, 0) :: P).length = Q3.length + (P.length + 1) := List.length_append
    have hQ3 : ∀ x, x ∈ Q3 → 20 ≤ x.1 ∧ x.1 ≤ 23 := fun x hx => ⟨(d10 x hx).1, (d10 x hx).2.1⟩
    obtain ⟨s1, s3, s4⟩ := PI_step m1 (show u2 < 400 by omega) (a := 2 + d) (x := 0) ⟨show 2 + d ≤ 12 by omega, show 0 < 2000 by decide, fun z => absurd z (show ¬ 2 + d = 1 by omega)⟩
    rw [d1, bd_eq, if_neg (by decide)]
    unfold F_X5_readTerm_68
    rw [show F_X5_step (nI (2 + d)) 0 = F_X5_step (nI (2 + d)) (nI 0) from rfl, s1, bd_eq, nI_1, nm_eq2]
    have eapp : Q3 ++ [(20 + d, 0)] ++ P = Q3 ++ (20 + d, 0) :: P := List.append_assoc _ _ _
    have hwt1 : wt (Q3 ++ [(20 + d, 0)]) = wt Q3 + 1 := by
      rw [wt_app]
      show wt Q3 + ((if 20 + d < 28 then 1 else 0) + 0) = _
      rw [if_pos (by omega)]
    have hln1 : (Q3 ++ [(20 + d, 0)]).length = Q3.length + 1 := List.length_append
    have hfl : flush (Q3 ++ [(20 + d, 0)]) q2 R2 = (q2 + wt Q3 + 1, updN (flush Q3 q2 R2).2 (q2 + wt Q3) (20 + d, 0)) := by
      rw [flush_app, flush_q3 hQ3, flush, if_neg (show ¬ (20 + d = 28 ∨ 20 + d = 29) by omega)]
      rfl
    refine ih m (cnt + 1) _ τ2 k2 (L + L2) (u2 + 1) q2 (updN K2 u2 (2 + d, 0)) R2 (Q3 ++ [(20 + d, 0)]) (sAr (2 + d) s s2) (by omega) (by omega) (by omega) d2 ⟨⟨?_, ?_, m3, m4, by omega, by omega, ?_, ?_, m9⟩, cxF_trans (cxF_trans (cxF_trans f1 hc1) d4) s4, pzF_trans (pzF_trans f2 a3) d5, d6.trans (a5.trans f3), by omega, ?_, ?_, ?_, ?_, ?_, fun r h => hr1 r (d13 r h)⟩
    · rw [← Nat.add_assoc]
      exact s3
    · rw [eapp, ← Nat.add_assoc]
      exact m2
    · rw [eapp]
      exact m7
    · rw [eapp]
      exact m8
    · exact eqOn_trans eK (eqOn_trans (eqOn_mono d8 (Nat.le_refl _) b3) (eqOn_mono (updN_on K2 0 u2 _) (Nat.le_refl _) (by omega)))
    · exact eqOn_trans eR (eqOn_trans (eqOn_mono (flush_on hQ2 q R) (Nat.le_refl _) b4) (eqOn_mono d9 (Nat.le_refl _) (by omega)))
    · intro x hx
      rcases List.mem_append.mp hx with hx | hx
      · exact ⟨(d10 x hx).1, (d10 x hx).2.1, by have := (d10 x hx).2.2; omega⟩
      · rcases List.mem_cons.mp hx with rfl | hx
        · exact ⟨by show 20 ≤ 20 + d; omega, by show 20 + d ≤ 23; omega, by show 6 ≤ bindN (20 + d); omega⟩
        · cases hx
    · exact segC_ar (segC_on sC (eqOn_trans (eqOn_mono d8 (Nat.zero_le _) (Nat.le_refl _)) (eqOn_mono (updN_on K2 0 u2 _) (Nat.zero_le _) (by omega)))) (segC_on d11 (updN_on K2 u u2 _)) b3 (by omega) b2 (by omega) (by omega) (by omega) (updN_s _ _ _)
    · rw [hfl, hwt1]
      exact segR_ar (v1 := q + wt Q) (v2 := q2 + wt Q3) (segR_on sR (eqOn_trans (eqOn_mono d9 (Nat.zero_le _) (Nat.le_refl _)) (eqOn_trans (eqOn_mono (flush_on hQ3 q2 R2) (Nat.zero_le _) (by omega)) (eqOn_mono (updN_on (flush Q3 q2 R2).2 0 (q2 + wt Q3) _) (Nat.zero_le _) (by omega))))) (segR_on d12 (updN_on _ (q + wt Q) (q2 + wt Q3) _)) (by omega) (by omega) b2 (by omega) hd (updN_s _ _ _)
theorem mid_lo_Term {g : Nat → Nat} {T C y t : Nat} {σ0 τ0 : xS} {k0 n0 u0 q0 a : Nat} {K0 R0 : Nat → Nat × Nat} {P : List (Nat × Nat)} {σ τ : xS} {k L u q : Nat} {K R : Nat → Nat × Nat} {Q : List (Nat × Nat)} {s : (Nat → Int64) → Option Int64} (h : mid g T C y t 7 σ0 τ0 k0 n0 u0 q0 a K0 R0 P σ τ k L u q K R Q s) : mid g T C y t 6 σ0 τ0 k0 n0 u0 q0 a K0 R0 P σ τ k L u q K R Q s := by
  obtain ⟨h1, h2, h3, h4, h5, h6, h7, h8, h9, h10, h11⟩ := h
  exact ⟨h1, h2, h3, h4, h5, h6, h7, fun x hx => ⟨(h8 x hx).1, (h8 x hx).2.1, by have := (h8 x hx).2.2; omega⟩, h9, h10, h11⟩
theorem topB_up_Term {P : List (Nat × Nat)} (h : topB P 6) : topB P 7 := by
  cases P with
  | nil => trivial
  | cons x P => exact Nat.lt_succ_of_lt h
theorem P_TermH {g : Nat → Nat} {T C y a : Nat} (hX : TX g T C) {kS : Int32 → xS → Option (Int32 × xS)} (hS : a < 8 → SumH g T C y 5 kS (a + 1)) : SumH g T C y 6 (F_X5_readTerm kS) a := by
  intro σ τ k n u q K R P h hP
  have hT1 := hX.1
  have hT2 := hX.2.1
  unfold F_X5_readTerm
  rcases P_PartH hX hS _ _ _ _ _ _ _ _ _ h (topB_up_Term hP) with hf | ⟨σ2, τ2, k2, L2, u2, q2, K2, R2, Q3, s2, d1, d2, d3⟩
  · left
    obtain ⟨σ', τf, kf, g1, g2⟩ := hf
    rw [g1, bd_eq, if_pos rfl, cz_0]
    exact ⟨σ', τf, kf, rfl, g2⟩
  · rw [d1, bd_eq, if_neg (by decide), nm_eq2]
    have := d3.1.2.2.2.1
    exact P_Term_loop hX hS hP (C - k2) FU 0 σ2 τ2 k2 L2 u2 q2 K2 R2 Q3 s2 (Nat.le_refl _) (by unfold FU; omega) (Nat.zero_le _) d2 (mid_lo_Term d3)
theorem P_Sum_loop {g : Nat → Nat} {T C y t a : Nat} (hX : TX g T C) {kS : Int32 → xS → Option (Int32 × xS)} (hS : a < 8 → SumH g T C y 5 kS (a + 1)) {σ0 τ0 : xS} {k0 n0 u0 q0 : Nat} {K0 R0 : Nat → Nat × Nat} {P : List (Nat × Nat)} (hP : topB P 5) (w : Nat) : ∀ (m cnt : Nat) (σ τ : xS) (k L u q : Nat) (K R : Nat → Nat × Nat) (Q : List (Nat × Nat)) (s : (Nat → Int64) → Option Int64), C - k ≤ w → w < m → cnt ≤ k → ex 6 (kd g T k) → mid g T C y t 5 σ0 τ0 k0 n0 u0 q0 a K0 R0 P σ τ k L u q K R Q s → outS g T C y t 5 σ0 τ0 k0 n0 u0 q0 a K0 R0 P (F_X5_readSum_12 kS m (nI a) (nI cnt) σ) := by
  have hT1 := hX.1
  have hT2 := hX.2.1
  induction w with
  | zero =>
    intro m cnt σ τ k L u q K R Q s hw hm hc hex hmid
    obtain ⟨m, rfl⟩ : ∃ q, m = q + 1 := ⟨m - 1, by omega⟩
    have l1 := hmid.1.1
    have l4 := hmid.1.2.2.2.1
    have hk : k = C := by omega
    have h276 : kd g T k = 276 := by rw [hk]; exact kd_C hX
    rw [F_X5_readSum_12, if_neg (show ¬ (400 : Int32) < nI cnt from nI_nlt (a := 400) (b := cnt) (by omega) (by decide)), PI_tok hX l1 l4, bd_eq, h276, if_neg (by decide), PI_tok hX l1 l4, bd_eq, h276, if_neg (by decide), cz_1]
    exact Or.inr ⟨σ, τ, k, L, u, q, K, R, Q, s, rfl, by rw [h276]; exact ⟨fun _ => by decide, fun _ => by decide⟩, hmid⟩
  | succ w ih =>
    intro m cnt σ τ k L u q K R Q s hw hm hc hex hmid
    obtain ⟨m, rfl⟩ : ∃ q, m = q + 1 := ⟨m - 1, by omega⟩
    have hmid0 := hmid
    obtain ⟨⟨l1, l2, l3, l4, l5, l6, l7, l8, l9⟩, f1, f2, f3, ⟨b1, b2, b3, b4, b5, b6, b7⟩, eK, eR, hQ, sC, sR, hr⟩ := hmid
    have hkd := kd_le hX (TpR_g l2.1) l4
    rw [F_X5_readSum_12, if_neg (show ¬ (400 : Int32) < nI cnt from nI_nlt (a := 400) (b := cnt) (by omega) (by decide)), PI_tok hX l1 l4, bd_eq]
    by_cases ho : kd g T k = 43 ∨ kd g T k = 45
    rotate_left
    · rw [if_neg (show ¬ nI (kd g T k) = 43 from nI_ne (b := 43) (by omega) (by decide) (by omega)), PI_tok hX l1 l4, bd_eq, if_neg (show ¬ nI (kd g T k) = 45 from nI_ne (b := 45) (by omega) (by decide) (by omega)), cz_1]
      refine Or.inr ⟨σ, τ, k, L, u, q, K, R, Q, s, rfl, ?_, hmid0⟩
      unfold ex at hex ⊢
      omega
    obtain ⟨d, hd, hop, hwd⟩ : ∃ d, d ≤ 3 ∧ opN (kd g T k) = 20 + d ∧ ((kd g T k = 43 ∧ 2 + d = 2) ∨ (kd g T k = 45 ∧ 2 + d = 3)) := by
      rcases ho with e | e
      · exact ⟨0, by decide, by rw [e]; rfl, Or.inl ⟨e, rfl⟩⟩
      · exact ⟨1, by decide, by rw [e]; rfl, Or.inr ⟨e, rfl⟩⟩
    have hbd : bindN (20 + d) = 5 := by
      rcases hwd with ⟨_, e⟩ | ⟨_, e⟩
      · rw [show d = 0 by omega]
        rfl
      · rw [show d = 1 by omega]
        rfl
    have hkC := kd_end hX l4 (by omega)
    obtain ⟨n1, n2⟩ := PI_next hX l1 hkC
    have hQ2 : ∀ x, x ∈ Q → 20 ≤ x.1 ∧ x.1 ≤ 23 := fun x hx => ⟨(hQ x hx).1, (hQ x hx).2.1⟩
    have hql : (Q ++ P).length = Q.length + P.length := List.length_append
    rw [wt_app] at l7
    have hw1 : wt ((20 + d, 0) :: P) = 1 + wt P := by
      show (if 20 + d < 28 then 1 else 0) + wt P = _
      rw [if_pos (by omega)]
    have hl1 : ((20 + d, 0) :: P).length = P.length + 1 := rfl
    obtain ⟨τ1, a1, a2, a3, a4, a5⟩ := RI_op hX l2 l4 l3 (wd := 20 + d) ⟨by omega, by omega⟩ (fun x hx => by rw [hbd]; exact (hQ x hx).2.2) (by rw [hbd]; exact hP) (by omega) (by omega) (by omega) (nI y)
    rw [flush_q3 hQ2] at a2
    have hbs : F_X12_behindSum (nI y) τ = some (1, τ1) := by
      rw [R_bs_op hX l2 l4 (nI y) (by unfold isOp; omega), hop]
      exact a1
    have hr1 : ∀ r, RLr C (k + 1) y 1 τ1 r → RLr C k0 y t τ0 r := fun r h => hr r (RL_3 (t' := 1) l3 hbs (by have h1 : rk 1 = 2 := rfl; have h3 : rk 3 = 3 := rfl; omega) h)
    have hF : (if nI (kd g T k) = 43 then F_X5_readSum_37 kS (F_X5_readSum_12 kS m) (nI a) (nI cnt) σ else bd (F_X5_token σ) fun v7 σ6 => if v7 = 45 then F_X5_readSum_37 kS (F_X5_readSum_12 kS m) (nI a) (nI cnt) σ6 else cz 1 (some (1, σ6))) = bd (F_X5_readTerm kS (nI a) (uI σ 756 (nI (k + 1)))) fun v12 σ11 => if v12 = 0 then cz 0 (some (0, σ11)) else F_X5_readSum_68 kS (F_X5_readSum_12 kS m) (nI a) (nI cnt) (nI (2 + d)) σ11 := by
      have e37 : F_X5_readSum_37 kS (F_X5_readSum_12 kS m) (nI a) (nI cnt) σ = bd (F_X5_readTerm kS (nI a) (uI σ 756 (nI (k + 1)))) fun v12 σ11 => if v12 = 0 then cz 0 (some (0, σ11)) else F_X5_readSum_68 kS (F_X5_readSum_12 kS m) (nI a) (nI cnt) (nI (2 + d)) σ11 := by
        unfold F_X5_readSum_37
        rw [PI_tok hX l1 l4, bd_eq, n1, bd_eq]
        rcases hwd with ⟨e, e2⟩ | ⟨e, e2⟩
        · rw [e, e2]
          simp only [if_pos (show nI 43 = 43 from rfl)]
          rfl
        · rw [e, e2]
          simp only [if_neg (show ¬ nI 45 = 43 by decide)]
          rfl
      rcases ho with e | e
      · rw [if_pos (show nI (kd g T k) = 43 by rw [e]; rfl)]
        exact e37
      · rw [if_neg (show ¬ nI (kd g T k) = 43 by rw [e]; decide), PI_tok hX l1 l4, bd_eq, if_pos (show nI (kd g T k) = 45 by rw [e]; rfl)]
        exact e37
    rw [hF]
    have hc1 := cxF_I σ (k := 756) (nI (k + 1)) (by decide)
    have hLS1 : LkS g T C (uI σ 756 (nI (k + 1))) τ1 (k + 1) (n0 + L) u (q + wt Q) a K (flush Q q R).2 ((20 + d, 0) :: P) := ⟨n2, a2, a4, by omega, l5, by omega, by omega, by omega, l9⟩
    rcases P_TermH hX hS _ _ _ _ _ _ _ _ _ hLS1 (show bindN (20 + d) < 6 by omega) with hf | ⟨σ2, τ2, k2, L2, u2, q2, K2, R2, Q3, s2, d1, d2, d3, d4, d5, d6, d7, d8, d9, d10, d11, d12, d13⟩
    · left
      have hf1 := fail_mono hf (cxF_trans f1 hc1) (pzF_trans f2 a3) hr1
      obtain ⟨σ', τf, kf, g1, g2⟩ := hf1
      rw [g1, bd_eq, if_pos rfl, cz_0]
      exact ⟨σ', τf, kf, rfl, g2⟩
    obtain ⟨m1, m2, m3, m4, m5, m6, m7, m8, m9⟩ := d3
    have hw2 : wt (Q3 ++ (20 + d, 0) :: P) = wt Q3 + (1 + wt P) := by rw [wt_app, hw1]
    have hl2 : (Q3 ++ (20 + d, 0) :: P).length = Q3.length + (P.length + 1) := List.length_append
    have hQ3 : ∀ x, x ∈ Q3 → 20 ≤ x.1 ∧ x.1 ≤ 23 := fun x hx => ⟨(d10 x hx).1, (d10 x hx).2.1⟩
    obtain ⟨s1, s3, s4⟩ := PI_step m1 (show u2 < 400 by omega) (a := 2 + d) (x := 0) ⟨show 2 + d ≤ 12 by omega, show 0 < 2000 by decide, fun z => absurd z (show ¬ 2 + d = 1 by omega)⟩
    rw [d1, bd_eq, if_neg (by decide)]
    unfold F_X5_readSum_68
    rw [show F_X5_step (nI (2 + d)) 0 = F_X5_step (nI (2 + d)) (nI 0) from rfl, s1, bd_eq, nI_1, nm_eq2]
    have eapp : Q3 ++ [(20 + d, 0)] ++ P = Q3 ++ (20 + d, 0) :: P := List.append_assoc _ _ _
    have hwt1 : wt (Q3 ++ [(20 + d, 0)]) = wt Q3 + 1 := by
      rw [wt_app]
      show wt Q3 + ((if 20 + d < 28 then 1 else 0) + 0) = _
      rw [if_pos (by omega)]
    have hln1 : (Q3 ++ [(20 + d, 0)]).length = Q3.length + 1 := List.length_append
    have hfl : flush (Q3 ++ [(20 + d, 0)]) q2 R2 = (q2 + wt Q3 + 1, updN (flush Q3 q2 R2).2 (q2 + wt Q3) (20 + d, 0)) := by
      rw [flush_app, flush_q3 hQ3, flush, if_neg (show ¬ (20 + d = 28 ∨ 20 + d = 29) by omega)]
      rfl
    refine ih m (cnt + 1) _ τ2 k2 (L + L2) (u2 + 1) q2 (updN K2 u2 (2 + d, 0)) R2 (Q3 ++ [(20 + d, 0)]) (sAr (2 + d) s s2) (by omega) (by omega) (by omega) d2 ⟨⟨?_, ?_, m3, m4, by omega, by omega, ?_, ?_, m9⟩, cxF_trans (cxF_trans (cxF_trans f1 hc1) d4) s4, pzF_trans (pzF_trans f2 a3) d5, d6.trans (a5.trans f3), by omega, ?_, ?_, ?_, ?_, ?_, fun r h => hr1 r (d13 r h)⟩
    · rw [← Nat.add_assoc]
      exact s3
    · rw [eapp, ← Nat.add_assoc]
      exact m2
    · rw [eapp]
      exact m7
    · rw [eapp]
      exact m8
    · exact eqOn_trans eK (eqOn_trans (eqOn_mono d8 (Nat.le_refl _) b3) (eqOn_mono (updN_on K2 0 u2 _) (Nat.le_refl _) (by omega)))
    · exact eqOn_trans eR (eqOn_trans (eqOn_mono (flush_on hQ2 q R) (Nat.le_refl _) b4) (eqOn_mono d9 (Nat.le_refl _) (by omega)))
    · intro x hx
      rcases List.mem_append.mp hx with hx | hx
      · exact ⟨(d10 x hx).1, (d10 x hx).2.1, by have := (d10 x hx).2.2; omega⟩
      · rcases List.mem_cons.mp hx with rfl | hx
        · exact ⟨by show 20 ≤ 20 + d; omega, by show 20 + d ≤ 23; omega, by show 5 ≤ bindN (20 + d); omega⟩
        · cases hx
    · exact segC_ar (segC_on sC (eqOn_trans (eqOn_mono d8 (Nat.zero_le _) (Nat.le_refl _)) (eqOn_mono (updN_on K2 0 u2 _) (Nat.zero_le _) (by omega)))) (segC_on d11 (updN_on K2 u u2 _)) b3 (by omega) b2 (by omega) (by omega) (by omega) (updN_s _ _ _)
    · rw [hfl, hwt1]
      exact segR_ar (v1 := q + wt Q) (v2 := q2 + wt Q3) (segR_on sR (eqOn_trans (eqOn_mono d9 (Nat.zero_le _) (Nat.le_refl _)) (eqOn_trans (eqOn_mono (flush_on hQ3 q2 R2) (Nat.zero_le _) (by omega)) (eqOn_mono (updN_on (flush Q3 q2 R2).2 0 (q2 + wt Q3) _) (Nat.zero_le _) (by omega))))) (segR_on d12 (updN_on _ (q + wt Q) (q2 + wt Q3) _)) (by omega) (by omega) b2 (by omega) hd (updN_s _ _ _)
theorem mid_lo_Sum {g : Nat → Nat} {T C y t : Nat} {σ0 τ0 : xS} {k0 n0 u0 q0 a : Nat} {K0 R0 : Nat → Nat × Nat} {P : List (Nat × Nat)} {σ τ : xS} {k L u q : Nat} {K R : Nat → Nat × Nat} {Q : List (Nat × Nat)} {s : (Nat → Int64) → Option Int64} (h : mid g T C y t 6 σ0 τ0 k0 n0 u0 q0 a K0 R0 P σ τ k L u q K R Q s) : mid g T C y t 5 σ0 τ0 k0 n0 u0 q0 a K0 R0 P σ τ k L u q K R Q s := by
  obtain ⟨h1, h2, h3, h4, h5, h6, h7, h8, h9, h10, h11⟩ := h
  exact ⟨h1, h2, h3, h4, h5, h6, h7, fun x hx => ⟨(h8 x hx).1, (h8 x hx).2.1, by have := (h8 x hx).2.2; omega⟩, h9, h10, h11⟩
theorem topB_up_Sum {P : List (Nat × Nat)} (h : topB P 5) : topB P 6 := by
  cases P with
  | nil => trivial
  | cons x P => exact Nat.lt_succ_of_lt h
theorem P_SumH {g : Nat → Nat} {T C y a : Nat} (hX : TX g T C) {kS : Int32 → xS → Option (Int32 × xS)} (hS : a < 8 → SumH g T C y 5 kS (a + 1)) : SumH g T C y 5 (F_X5_readSum kS) a := by
  intro σ τ k n u q K R P h hP
  have hT1 := hX.1
  have hT2 := hX.2.1
  unfold F_X5_readSum
  rcases P_TermH hX hS _ _ _ _ _ _ _ _ _ h (topB_up_Sum hP) with hf | ⟨σ2, τ2, k2, L2, u2, q2, K2, R2, Q3, s2, d1, d2, d3⟩
  · left
    obtain ⟨σ', τf, kf, g1, g2⟩ := hf
    rw [g1, bd_eq, if_pos rfl, cz_0]
    exact ⟨σ', τf, kf, rfl, g2⟩
  · rw [d1, bd_eq, if_neg (by decide), nm_eq2]
    have := d3.1.2.2.2.1
    exact P_Sum_loop hX hS hP (C - k2) FU 0 σ2 τ2 k2 L2 u2 q2 K2 R2 Q3 s2 (Nat.le_refl _) (by unfold FU; omega) (Nat.zero_le _) d2 (mid_lo_Sum d3)
theorem P_SumD {g : Nat → Nat} {T C y : Nat} (hX : TX g T C) (d : Nat) : ∀ a, a ≤ 8 → 9 ≤ a + d → SumH g T C y 5 (F_X5_readSumD d) a := by
  induction d with
  | zero =>
    intro a h1 h2
    omega
  | succ d ih =>
    intro a h1 h2 σ τ k n u q K R P h hP
    rw [F_X5_readSumD]
    exact P_SumH hX (fun ha => ih (a + 1) (by omega) (by omega)) σ τ k n u q K R P h hP
end
