section
/-! ===== plain tests, both readers in step ===== -/
theorem tesC_b {K : Nat → Nat × Nat} {u v L : Nat} {c : (Nat → Int64) → Option Bool} (b : Bool) (h : tsegC K u v L (if (!b) = true then sNt c else c)) : tsegC K u v L (if b = true then sNt (sNt c) else sNt c) := by
  cases b with
  | true =>
    rw [if_pos rfl, sNt2]
    rw [if_neg (by decide)] at h
    exact h
  | false =>
    rw [if_neg (by decide)]
    rw [if_pos (by decide)] at h
    exact h
theorem P_71 {g : Nat → Nat} {T C a t : Nat} {kT : Int32 → xS → Option (Int32 × xS)} (hX : TX g T C) {b : Bool} {e : Nat} (he : (b = true ∧ e = 1) ∨ (b = false ∧ e = 0)) {σ τ : xS} {k n u q : Nat} {K R : Nat → Nat × Nat} {P : List (Nat × Nat)} {rC : Option (Int32 × xS)} (hu : u + e ≤ k) (h : outT g T C t 4 false 0 σ τ k n u q a K R P rC) : outT g T C t 3 b e σ τ k n u q a K R P (bd rC fun v σ9 => if v = 0 then cz 0 (some (0, σ9)) else F_X5_readPlain_71 kT (if b = true then 1 else 0) σ9) := by
  have hT1 := hX.1
  have hT2 := hX.2.1
  rcases h with hf | ⟨σ2, τ2, k2, L, u2, q2, K2, R2, Q, c, d1, d2, d3⟩
  · left
    obtain ⟨σ', τf, kf, f1, f2⟩ := hf
    rw [f1, bd_eq, if_pos rfl, cz_0]
    exact ⟨σ', τf, kf, rfl, f2⟩
  obtain ⟨⟨m1, m2, m3, m4, m5, m6, m7, m8, m9⟩, d4, d5, d6, d7, d8, d9, d10, d11, d12, d13⟩ := d3
  have hQ : ∀ x, x ∈ Q → 20 ≤ x.1 ∧ x.1 ≤ 29 ∧ 3 ≤ bindN x.1 ∧ ((x.1 = 28 ∨ x.1 = 29) → q ≤ x.2) := fun x hx => by
    have := d10 x hx
    exact ⟨this.1, this.2.1, by omega, this.2.2.2⟩
  have hx : exT 3 (kd g T k2) := ⟨fun z => absurd z (by decide), fun z => absurd z (by decide)⟩
  rw [d1, bd_eq, if_neg (by decide)]
  rw [if_neg (by decide)] at d11
  unfold F_X5_readPlain_71
  rcases he with ⟨rfl, rfl⟩ | ⟨rfl, rfl⟩
  · obtain ⟨s1, s3, s4⟩ := PI_step m1 (show u2 < 400 by omega) (a := 9) (x := 0) ⟨show 9 ≤ 12 by omega, show 0 < 2000 by decide, fun z => absurd z (show ¬ 9 = 1 by omega)⟩
    rw [if_pos rfl, if_neg (by decide), show F_X5_step 9 0 = F_X5_step (nI 9) (nI 0) from rfl, s1, bd_eq, cz_1]
    refine Or.inr ⟨_, τ2, k2, L, u2 + 1, q2, updN K2 u2 (9, 0), R2, Q, c, rfl, hx, ⟨s3, m2, m3, m4, m5, by omega, m7, m8, m9⟩, cxF_trans d4 s4, d5, d6, by omega, eqOn_trans d8 (eqOn_mono (updN_on K2 0 u2 _) (Nat.le_refl _) (by omega)), d9, hQ, ?_, d12, d13⟩
    rw [if_pos rfl]
    exact tsegC_nt (tsegC_on d11 (updN_on K2 u u2 _)) (by omega) (updN_s _ _ _)
  · rw [if_pos (show (if false = true then (1 : Int32) else 0) = 0 by decide), cz_1]
    refine Or.inr ⟨_, τ2, k2, L, u2, q2, K2, R2, Q, c, rfl, hx, ⟨m1, m2, m3, m4, m5, m6, m7, m8, m9⟩, d4, d5, d6, d7, d8, d9, hQ, ?_, d12, d13⟩
    rw [if_neg (by decide)]
    exact d11
theorem outT_t {g : Nat → Nat} {T C a lo : Nat} {b : Bool} {e : Nat} {σ τ : xS} {k n u q : Nat} {K R : Nat → Nat × Nat} {P : List (Nat × Nat)} {rC : Option (Int32 × xS)} (h1 : ∀ r, RLr C k 1 1 τ r → RLr C k 1 0 τ r) (h : outT g T C 1 lo b e σ τ k n u q a K R P rC) : outT g T C 0 lo b e σ τ k n u q a K R P rC := by
  rcases h with hf | ⟨σ2, τ2, k2, L, u2, q2, K2, R2, Q, c, d1, d2, d3, d4, d5, d6, d7, d8, d9, d10, d11, d12, d13⟩
  · left
    obtain ⟨σ', τf, kf, f1, f2, f3, f4, f5, f6, f7, f8⟩ := hf
    exact ⟨σ', τf, kf, f1, f2, f3, f4, f5, f6, f7, h1 _ f8⟩
  · exact Or.inr ⟨σ2, τ2, k2, L, u2, q2, K2, R2, Q, c, d1, d2, d3, d4, d5, d6, d7, d8, d9, d10, d11, d12, fun r hr => h1 r (d13 r hr)⟩
theorem P_41 {g : Nat → Nat} {T C a : Nat} (hX : TX g T C) {kT : Int32 → xS → Option (Int32 × xS)} (hT : a < 8 → TestH g T C 1 kT (a + 1)) {b : Bool} {e : Nat} (he : (b = true ∧ e = 1) ∨ (b = false ∧ e = 0)) {σ τ : xS} {k n u q : Nat} {K R : Nat → Nat × Nat} {P : List (Nat × Nat)} (h : LkS g T C σ τ k n u q a K R P) (hP : topB P 4) (hi : inn P = 99 ∨ inn P = 30) (hu : u + e ≤ k) (c : kd g T k ≠ 273) : outT g T C 0 3 b e σ τ k n u q a K R P (F_X5_readPlain_41 kT (nI a) (if b = true then 1 else 0) σ) := by
  have hLS := h
  obtain ⟨l1, l2, l3, l4, l5, l6, l7, l8, l9⟩ := h
  have hkd := kd_le hX (TpR_g l2.1) l4
  unfold F_X5_readPlain_41
  rw [PI_tok hX l1 l4, bd_eq]
  by_cases c4 : kd g T k = 40
  · rw [if_pos (show nI (kd g T k) = 40 by rw [c4]; rfl)]
    exact P_71 hX he hu (P_tbr hX hT hLS c4)
  · rw [if_neg (show ¬ nI (kd g T k) = 40 from nI_ne (b := 40) (by omega) (by decide) c4)]
    have hR := R_pl hX l2 l4
    rw [if_neg c, if_neg c4] at hR
    exact P_71 hX he hu (outT_t (fun r => RL_01 hR) (P_cmp hX hLS hP hi))
theorem P_plain_loop {g : Nat → Nat} {T C a : Nat} (hX : TX g T C) {kT : Int32 → xS → Option (Int32 × xS)} (hT : a < 8 → TestH g T C 1 kT (a + 1)) (w : Nat) : ∀ (m cnt : Nat) (b : Bool) (e : Nat) (σ τ : xS) (k n u q : Nat) (K R : Nat → Nat × Nat) (P : List (Nat × Nat)), C - k ≤ w → w < m → cnt ≤ k → ((b = true ∧ e = 1) ∨ (b = false ∧ e = 0)) → LkS g T C σ τ k n u q a K R P → topB P 4 → (inn P = 99 ∨ inn P = 30) → u + e ≤ k → outT g T C 0 3 b e σ τ k n u q a K R P (F_X5_readPlain_4 kT m (nI a) (if b = true then 1 else 0) (nI cnt) σ) := by
  have hT1 := hX.1
  have hT2 := hX.2.1
  induction w with
  | zero =>
    intro m cnt b e σ τ k n u q K R P hw hm hc he h hP hi hu
    obtain ⟨m, rfl⟩ : ∃ q, m = q + 1 := ⟨m - 1, by omega⟩
    have l1 := h.1
    have l4 := h.2.2.2.1
    have hk : k = C := by omega
    have h276 : kd g T k = 276 := by rw [hk]; exact kd_C hX
    rw [F_X5_readPlain_4, if_neg (show ¬ (400 : Int32) < nI cnt from nI_nlt (a := 400) (b := cnt) (by omega) (by decide)), PI_tok hX l1 l4, bd_eq, if_neg (show ¬ nI (kd g T k) = 273 by rw [h276]; decide)]
    exact P_41 hX hT he h hP hi hu (by omega)
  | succ w ih =>
    intro m cnt b e σ τ k n u q K R P hw hm hc he h hP hi hu
    obtain ⟨m, rfl⟩ : ∃ q, m = q + 1 := ⟨m - 1, by omega⟩
    have hLS := h
    obtain ⟨l1, l2, l3, l4, l5, l6, l7, l8, l9⟩ := h
    have hkd := kd_le hX (TpR_g l2.1) l4
    rw [F_X5_readPlain_4, if_neg (show ¬ (400 : Int32) < nI cnt from nI_nlt (a := 400) (b := cnt) (by omega) (by decide)), PI_tok hX l1 l4, bd_eq]
    by_cases c : kd g T k = 273
    rotate_left
    · rw [if_neg (show ¬ nI (kd g T k) = 273 from nI_ne (b := 273) (by omega) (by decide) c)]
      exact P_41 hX hT he hLS hP hi hu c
    have hkC := kd_end hX l4 (by omega)
    obtain ⟨n1, n2⟩ := PI_next hX l1 hkC
    have hR := R_pl hX l2 l4
    rw [if_pos c] at hR
    obtain ⟨a1, a2, a3⟩ := RI_push l2 (show P.length < 400 by omega) 27 0 (by decide) (by decide)
    obtain ⟨τ2, b1, b2, b3, b4, b5⟩ := RI_next hX a2 l4
    rw [show F_X12_push 27 0 τ = F_X12_push (nI 27) (nI 0) τ from rfl, a1, bd_eq, b1, bd_eq] at hR
    have hr1 : ∀ r, RLr C (k + 1) 1 0 τ2 r → RLr C k 1 0 τ r := fun r => RL_0 (t' := 0) l3 hR (by have : rk 0 = 2 := rfl; omega)
    have hw1 : wt ((27, 0) :: P) = 1 + wt P := rfl
    have hl1 : ((27, 0) :: P).length = P.length + 1 := rfl
    have hLS1 : LkS g T C (uI σ 756 (nI (k + 1))) τ2 (k + 1) n u q a K R ((27, 0) :: P) := ⟨n2, b2, b4.trans l3, by omega, l5, by omega, by omega, by omega, l9⟩
    have hc1 := cxF_I σ (k := 756) (nI (k + 1)) (by decide)
    have hF : (if nI (kd g T k) = 273 then (if (if b = true then (1 : Int32) else 0) = 0 then F_X5_readPlain_30 kT (F_X5_readPlain_4 kT m) (nI a) (nI cnt) 1 σ else F_X5_readPlain_30 kT (F_X5_readPlain_4 kT m) (nI a) (nI cnt) 0 σ) else F_X5_readPlain_41 kT (nI a) (if b = true then 1 else 0) σ) = F_X5_readPlain_4 kT m (nI a) (if (!b) = true then 1 else 0) (nI (cnt + 1)) (uI σ 756 (nI (k + 1))) := by
      rw [if_pos (show nI (kd g T k) = 273 by rw [c]; rfl)]
      unfold F_X5_readPlain_30
      rw [n1, bd_eq2, bd_eq2, nI_1, nm_eq2, nm_eq2]
      cases b with
      | true => rw [if_neg (by decide), if_neg (by decide)]
      | false => rw [if_pos (by decide), if_pos (by decide)]
    rw [hF]
    have hin : inn ((27, 0) :: P) = 99 ∨ inn ((27, 0) :: P) = 30 := hi
    have he1 : e ≤ 1 := by omega
    rcases ih m (cnt + 1) (!b) (1 - e) _ _ _ _ _ _ _ _ _ (by omega) (by omega) (by omega) (by cases b <;> simp at he ⊢ <;> omega) hLS1 (show bindN 27 < 4 by decide) hin (by omega) with hf | ⟨σ3, τ3, k3, L, u3, q3, K3, R3, Q, cc, d1, d2, d3, d4, d5, d6, d7, d8, d9, d10, d11, d12, d13⟩
    · left
      exact fail_mono hf hc1 (pzF_trans a3 b3) hr1
    obtain ⟨m1, m2, m3, m4, m5, m6, m7, m8, m9⟩ := d3
    have eapp : Q ++ [(27, 0)] ++ P = Q ++ (27, 0) :: P := List.append_assoc _ _ _
    have hwt1 : wt (Q ++ [(27, 0)]) = wt Q + 1 := by
      rw [wt_app]
      rfl
    have hln1 : (Q ++ [(27, 0)]).length = Q.length + 1 := List.length_append
    have hfl : flush (Q ++ [(27, 0)]) q3 R3 = (q3 + wt Q + 1, updN (flush Q q3 R3).2 (q3 + wt Q) (27, 0)) := by
      rw [flush_app, flush_q9 d10, flush, if_neg (by decide)]
      rfl
    refine Or.inr ⟨σ3, τ3, k3, L, u3, q3, K3, R3, Q ++ [(27, 0)], sNt cc, d1, d2, ⟨m1, ?_, m3, m4, m5, m6, ?_, ?_, m9⟩, cxF_trans hc1 d4, pzF_trans (pzF_trans a3 b3) d5, d6.trans b5, by omega, d8, d9, ?_, tesC_b b d11, ?_, fun r hr => hr1 r (d13 r hr)⟩
    · rw [eapp]
      exact m2
    · rw [eapp]
      exact m7
    · rw [eapp]
      exact m8
    · intro x hx
      rcases List.mem_append.mp hx with hx | hx
      · exact d10 x hx
      · rcases List.mem_cons.mp hx with rfl | hx
        · exact ⟨by decide, by decide, by decide, fun z => absurd z (show ¬ ((27 : Nat) = 28 ∨ (27 : Nat) = 29) by decide)⟩
        · cases hx
    · rw [hfl, hwt1]
      exact segR_nt (v := q3 + wt Q) (segR_on d12 (updN_on _ q (q3 + wt Q) _)) (by omega) (by omega) (updN_s _ _ _)
theorem P_plain {g : Nat → Nat} {T C a : Nat} (hX : TX g T C) {kT : Int32 → xS → Option (Int32 × xS)} (hT : a < 8 → TestH g T C 1 kT (a + 1)) : TestH g T C 3 (F_X5_readPlain kT) a := by
  intro σ τ k n u q K R P h hP hi
  have hT1 := hX.1
  have hT2 := hX.2.1
  have hP4 : topB P 4 := by
    cases P with
    | nil => trivial
    | cons x P => exact Nat.lt_succ_of_lt hP
  unfold F_X5_readPlain
  rw [nm_eq2, nm_eq2]
  exact P_plain_loop hX hT (C - k) FU 0 false 0 σ τ k n u q K R P (Nat.le_refl _) (by unfold FU; omega) (Nat.zero_le _) (Or.inr ⟨rfl, rfl⟩) h hP4 hi (by have := h.2.2.2.2.2.1; omega)
end
