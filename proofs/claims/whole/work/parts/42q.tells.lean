section
/-! ===== what is told, on both sides ===== -/
theorem ansL_bd (v : Int64) (most : Int32) (hm : 0 ≤ most) : 0 ≤ (ansL v most.toInt64).toInt ∧ (ansL v most.toInt64).toInt ≤ most.toInt := by
  have h0 : 0 ≤ most.toInt := by
    rw [Int32.le_iff_toInt_le] at hm
    exact hm
  have h2 := Int32.toInt_lt most
  have hM : most.toInt64.toInt = most.toInt := Int32.toInt_toInt64 most
  have hx : ∀ x : Int64, 0 ≤ x.toInt → x.toInt ≤ most.toInt → 0 ≤ x.toInt32.toInt ∧ x.toInt32.toInt ≤ most.toInt := by
    intro x hx1 hx2
    have e : x.toInt32.toInt = x.toInt := by
      rw [Int64.toInt_toInt32]
      apply Int.bmod_eq_of_le_mul_two
      · rw [show ((2 ^ 32 : Nat) : Int) = 4294967296 from rfl]
        omega
      · rw [show ((2 ^ 32 : Nat) : Int) = 4294967296 from rfl]
        omega
    rw [e]
    exact ⟨hx1, hx2⟩
  have z0 : (0 : Int64).toInt = 0 := rfl
  unfold ansL mxL mnL
  split
  · split
    · exact hx 0 (by omega) (by omega)
    · exact hx _ (by omega) (by omega)
  · rename_i hh
    rw [Int64.lt_iff_toInt_lt] at hh
    split
    · exact hx 0 (by omega) (by omega)
    · rename_i h3
      rw [Int64.lt_iff_toInt_lt] at h3
      exact hx _ (by omega) (by omega)
theorem ansL_in {wo most : Int32} (h1 : 0 ≤ wo) (h2 : wo ≤ most) : ansL wo.toInt64 most.toInt64 = wo := by
  have e : wo.toInt64.toInt32 = wo := by
    apply Int32.toInt_inj.mp
    have h1 := Int32.le_toInt wo
    have h2 := Int32.toInt_lt wo
    rw [Int64.toInt_toInt32, Int32.toInt_toInt64]
    apply Int.bmod_eq_of_le_mul_two
    · rw [show ((2 ^ 32 : Nat) : Int) = 4294967296 from rfl]
      omega
    · rw [show ((2 ^ 32 : Nat) : Int) = 4294967296 from rfl]
      omega
  unfold ansL mxL mnL
  rw [if_neg (show ¬ most.toInt64 < wo.toInt64 from Int64.not_lt.mpr ((i64_le wo most).mpr h2)), if_neg (show ¬ wo.toInt64 < 0 from Int64.not_lt.mpr ((i64_le 0 wo).mpr h1)), e]
theorem ansL_0 (v : Int64) : ansL v (0 : Int32).toInt64 = 0 := by
  have h := ansL_bd v 0 (by decide)
  apply Int32.toInt_inj.mp
  have e : (0 : Int32).toInt = 0 := rfl
  omega
/-- the ten words that a law is told of, as the reference sets them -/
def envR (τ : xS) (b : Nat) (price since : Int32) (k : Nat) : Int64 :=
  if k = 1 then (nI b).toInt64 else if k = 2 then (sA τ 3 (13 + 5 * b + 0)).toInt64 else if k = 3 then (sA τ 3 (13 + 5 * b + 1)).toInt64 else if k = 4 then (sA τ 3 (13 + 5 * b + 2) + sI τ 34).toInt64
  else if k = 5 then price.toInt64 else if k = 6 then (sI τ 33).toInt64 else if k = 7 then ((sA τ 3 7 + sI τ 34) - (sA τ 3 7 + sI τ 34) / 52 * 52).toInt64 else if k = 8 then (sA τ 3 8).toInt64 else if k = 9 then (sI τ 35).toInt64 else since.toInt64
theorem nz_y {β : Type} {y : Int32} (h : ¬ y = 0) (k : Option β) : nz y k = k := if_neg h
theorem nm_eq2 {α β : Type} (a : α) (k : α → β) : nm a k = k a := congrArg (fun x => x) (rfl : nm a k = k a)
theorem bd_eq2 {ρ β : Type} (r : ρ) (s : xS) (k : ρ → xS → Option β) : bd (some (r, s)) k = k r s := congrArg (fun x => x) (rfl : bd (some (r, s)) k = k r s)
theorem R_tells_eq {h b : Nat} (hb : b < 10) {price since wo most : Int32} {τ : xS} (hF : ¬ sA τ 3 2 = -1) : ∃ τ1, F_X12_tells (nI h) (nI b) price since wo most τ = F_X12_tells_171 FU (nI h) most wo.toInt64 (nI 0) τ1 ∧ frT τ τ1 ∧ sI τ1 27 = 150 + 900 * sA τ 3 2 ∧ ∀ k, 1 ≤ k → k < 11 → sL τ1 28 k = envR τ b price since k := by
  obtain ⟨T, hT⟩ : ∃ T, T = uI τ 27 (150 + 900 * sA τ 3 2) := ⟨_, rfl⟩
  have hA : sA T 3 = sA τ 3 := by rw [hT]; rfl
  have hB : ∀ (f : Nat → Int64) (w : Nat), w < 5 → F_X12_ofBook (nI b) (nI w) (uL T 28 f) = some (sA τ 3 (13 + 5 * b + w), uL T 28 f) := fun f w hw => by rw [R_ofBook hb hw, sA_uL, hA]
  have g0 : ∀ f : Nat → Int64, F_X12_ofBook (nI b) 0 (uL T 28 f) = some (sA τ 3 (13 + 5 * b + 0), uL T 28 f) := fun f => hB f 0 (by decide)
  have g1 : ∀ f : Nat → Int64, F_X12_ofBook (nI b) 1 (uL T 28 f) = some (sA τ 3 (13 + 5 * b + 1), uL T 28 f) := fun f => hB f 1 (by decide)
  have g2 : ∀ f : Nat → Int64, F_X12_ofBook (nI b) 2 (uL T 28 f) = some (sA τ 3 (13 + 5 * b + 2), uL T 28 f) := fun f => hB f 2 (by decide)
  have r7 : ∀ (f : Nat → Int64) (k : Int32 → Option (Int32 × xS)), rd 5550 (sA (uL T 28 f) 3) 7 k = k (sA τ 3 7) := fun f k => by rw [rdL7, sA_uL, hA]
  have r8 : ∀ (f : Nat → Int64) (k : Int32 → Option (Int32 × xS)), rd 5550 (sA (uL T 28 f) 3) 8 k = k (sA τ 3 8) := fun f k => by rw [rdL8, sA_uL, hA]
  have h33 : ∀ f : Nat → Int64, sI (uL T 28 f) 33 = sI τ 33 := fun f => by rw [hT]; rfl
  have h34 : ∀ f : Nat → Int64, sI (uL T 28 f) 34 = sI τ 34 := fun f => by rw [hT]; rfl
  have h35 : ∀ f : Nat → Int64, sI (uL T 28 f) 35 = sI τ 35 := fun f => by rw [hT]; rfl
  unfold F_X12_tells
  rw [rdL2, if_neg hF, rdL2, show nI 0 = (0 : Int32) from rfl, nm_eq, ← hT]
  simp only [nm_eq2, g0, g1, g2, bd_eq2, ck13_1, ck13_2, ck13_3, ck13_4, ck13_5, ck13_6, ck13_7, ck13_8, ck13_9, ck13_10, r7, r8, uL_uL, sL_s, h33, h34, h35, nz_y (show ¬ (52 : Int32) = 0 by decide), cl1, cl2, cl3, cl4, cl5, cl6, cl7, cl8, cl9, cl10]
  refine ⟨_, rfl, ?_, ?_, fun k h1 h2 => ?_⟩
  · rw [hT]
    exact ⟨fun _ => rfl, fun k h1 _ => if_neg h1, fun _ _ _ => rfl, fun k h1 h2 => if_neg h1, fun _ => rfl, rfl⟩
  · rw [hT]
    rfl
  · rcases (show k = 1 ∨ k = 2 ∨ k = 3 ∨ k = 4 ∨ k = 5 ∨ k = 6 ∨ k = 7 ∨ k = 8 ∨ k = 9 ∨ k = 10 by omega) with rfl | rfl | rfl | rfl | rfl | rfl | rfl | rfl | rfl | rfl <;> rfl
theorem told_tells {σ τ : xS} (hS : SimSt σ τ) {h b : Nat} (hh : h < 4) (hb : b < 10) {price since : Int32} (he : ∀ k, k < 10 → (sA σ 45 k).toInt64 = envR τ b price since (k + 1)) {wo most woC mostC : Int32} (w1 : 0 ≤ wo) (w2 : wo ≤ most) (hc : h < 3 → woC = wo ∧ mostC = most) (hc3 : h = 3 → woC = -1 ∧ mostC = 0 ∧ wo = 0 ∧ most = 1) : ∃ (rC r : Int32) (σ' τ' : xS), F_X0_told (nI (10 + h)) mostC woC σ = some (rC, σ') ∧ F_X12_tells (nI h) (nI b) price since wo most τ = some (r, τ') ∧ frS σ σ' ∧ frT τ τ' ∧ (h < 3 → rC = r) ∧ (h = 3 → (rC = -1 ∧ r = 0) ∨ (rC = 0 ∧ r = 1)) ∧ 0 ≤ r.toInt ∧ r.toInt ≤ most.toInt := by
  obtain ⟨m0, mm, em, -⟩ := cntL hS
  have eF : sI σ 88 = sA τ 3 2 := hS.1 2 (by decide)
  have hseg := hS.2.1.1 2 (by decide)
  have hlo : -1 ≤ (sA τ 3 2).toInt := hseg.1
  have hlt := hS.2.1.2.1
  have w0 : 0 ≤ wo.toInt := by
    rw [Int32.le_iff_toInt_le] at w1
    exact w1
  have w2' : wo.toInt ≤ most.toInt := by
    rw [Int32.le_iff_toInt_le] at w2
    exact w2
  have hm : 0 ≤ most := Int32.le_trans w1 w2
  obtain ⟨m0, mm, em, em2⟩ := cntL hS
  by_cases hF : sA τ 3 2 = -1
  · refine ⟨woC, wo, σ, τ, ?_, ?_, frS_refl σ, frT_refl τ, fun h3 => (hc h3).1, fun h3 => Or.inl ⟨(hc3 h3).1, (hc3 h3).2.2.1⟩, w0, w2'⟩
    · unfold F_X0_told F_X7_lawInForce
      rw [show sI σ (16 * (5 + 0) + 8) = -1 from eF.trans hF, if_pos (by decide), bd_eq]
      rfl
    · unfold F_X12_tells
      rw [rdL2, if_pos hF]
  · have hF0 : 0 ≤ (sA τ 3 2).toInt := by
      have : (sA τ 3 2).toInt ≠ -1 := fun q => hF (Int32.toInt_inj.mp q)
      omega
    rw [em2, nI_toInt (by omega)] at hlt
    obtain ⟨f, hf, ef⟩ := i_of (x := sA τ 3 2) (N := m0) hF0 hlt (by omega)
    obtain ⟨g, p, l1, l2, l3⟩ := hS.2.2 f (by rw [em2, nI_toInt (by omega)]; omega)
    obtain ⟨m, z, hd, st, a, bb, d, K, R, sm, cd, hL⟩ := l3
    obtain ⟨τ1, t1, t2, t3, t4⟩ := R_tells_eq (h := h) hb (price := price) (since := since) (wo := wo) (most := most) hF
    have ebs : 150 + 900 * sA τ 3 2 = nI (150 + 900 * f) := by
      rw [ef]
      show nI 150 + nI 900 * nI f = _
      rw [pk_mul, nI_add]
    have hm12 := hL.1
    obtain ⟨s, σ', c1, c2, c3⟩ := C_told_loop hL (g := g) hh (e := envR τ b price since) mostC woC m FU σ (by unfold FU; omega) (Nat.le_refl _) l2 he
    obtain ⟨τ', r1, r2⟩ := R_told_loop hL (h := h) hh (bs := 150 + 900 * f) (e := envR τ b price since) (by omega) most wo.toInt64 m FU 0 wo.toInt64 τ1 (by unfold FU; omega) (by omega) (fun k hk => by rw [t2.1]) (t3.trans ebs) t4 rfl
    rw [clamp_eq _ _ hm] at r1
    have hC : F_X0_told (nI (10 + h)) mostC woC σ = some ((match lastT h hd (fun c => clV (hd c) (sm c (envR τ b price since)) (cd c (envR τ b price since))) m with
      | none => woC
      | some _ => ansL s mostC.toInt64), σ') := by
      unfold F_X0_told F_X7_lawInForce
      have e1 : sI σ (16 * (5 + 0) + 8) = nI f := eF.trans ef
      have e2 : sI σ (16 * (5 + 0) + 7) = nI m0 := em
      rw [e1, e2, if_neg (nI_pos (by omega)), if_neg (nI_ge (by omega) (by omega)), ck_n (by omega) (by decide), nI_clamp (by omega), show sQ σ (41 + 0) f = some g from l1, mo_some, bd_eq, mo_some]
      have hlw : ∀ {β : Type} (k : xP → Option β), lw σ g k = k p := fun k => by
        unfold lw
        rw [l2]
      rw [hlw, nm_eq, hL.2.1]
      exact c1
    have hbd := ansL_bd ((lastT h hd (fun c => clV (hd c) (sm c (envR τ b price since)) (cd c (envR τ b price since))) m).getD wo.toInt64) most hm
    refine ⟨_, _, σ', τ', hC, t1.trans r1, c3, frT_trans t2 r2.1, fun h3 => ?_, fun h3 => ?_, hbd⟩
    · obtain ⟨q1, q2⟩ := hc h3
      subst q1
      subst q2
      cases ho : lastT h hd (fun c => clV (hd c) (sm c (envR τ b price since)) (cd c (envR τ b price since))) m with
      | none => exact (ansL_in w1 w2).symm
      | some v =>
        rw [ho] at c2
        show ansL s mostC.toInt64 = ansL v mostC.toInt64
        rw [c2 v rfl h3]
    · obtain ⟨q1, q2, q3, q4⟩ := hc3 h3
      subst q1
      subst q2
      subst q3
      subst q4
      cases ho : lastT h hd (fun c => clV (hd c) (sm c (envR τ b price since)) (cd c (envR τ b price since))) m with
      | none => exact Or.inl ⟨rfl, by decide⟩
      | some v =>
        refine Or.inr ⟨ansL_0 s, ?_⟩
        have hv : v = 1 := by
          have hall : ∀ c x, lastT h hd (fun c => clV (hd c) (sm c (envR τ b price since)) (cd c (envR τ b price since))) c = some x → x = 1 := by
            intro c
            induction c with
            | zero =>
              intro x hx
              exact (no_some hx).elim
            | succ c ih =>
              intro x hx
              by_cases hq : hd c = h
              · rw [lastT, if_pos hq] at hx
                have hx2 : (match clV (hd c) (sm c (envR τ b price since)) (cd c (envR τ b price since)) with
                  | some v => some v
                  | none => lastT h hd (fun c => clV (hd c) (sm c (envR τ b price since)) (cd c (envR τ b price since))) c) = some x := hx
                cases hv2 : clV (hd c) (sm c (envR τ b price since)) (cd c (envR τ b price since)) with
                | none =>
                  rw [hv2] at hx2
                  exact ih x hx2
                | some y =>
                  rw [hv2] at hx2
                  have hxy : y = x := by
                    cases hx2
                    rfl
                  unfold clV at hv2
                  split at hv2
                  · rw [if_neg (by omega)] at hv2
                    cases hv2
                    exact hxy.symm
                  · exact (no_some hv2).elim
              · rw [lastT, if_neg hq] at hx
                exact ih x hx
          exact hall m v ho
        subst hv
        decide
/-! ===== what Sim does not see ===== -/
def KC (σ σ' : xS) : Prop := (∀ k, k < 44 ∨ k = 100 ∨ k = 101 → sA σ' k = sA σ k) ∧ (∀ k, k < 704 → sI σ' k = sI σ k) ∧ (∀ k, sQ σ' k = sQ σ k) ∧ sP σ' = sP σ
def KR (τ τ' : xS) : Prop := (∀ k, k = 2 ∨ k = 3 ∨ k = 4 ∨ k = 5 ∨ k = 7 ∨ k = 42 ∨ k = 43 → sA τ' k = sA τ k) ∧ (∀ k, k = 1 ∨ k = 6 ∨ k = 8 ∨ k = 13 ∨ k = 44 → sI τ' k = sI τ k) ∧ sL τ' 25 = sL τ 25 ∧ sL τ' 26 = sL τ 26
theorem KC_refl (σ : xS) : KC σ σ := ⟨fun _ _ => rfl, fun _ _ => rfl, fun _ => rfl, rfl⟩
theorem KR_refl (σ : xS) : KR σ σ := ⟨fun _ _ => rfl, fun _ _ => rfl, rfl, rfl⟩
theorem KC_trans {σ σ1 σ2 : xS} (h : KC σ σ1) (g : KC σ1 σ2) : KC σ σ2 := ⟨fun k hk => (g.1 k hk).trans (h.1 k hk), fun k hk => (g.2.1 k hk).trans (h.2.1 k hk), fun k => (g.2.2.1 k).trans (h.2.2.1 k), g.2.2.2.trans h.2.2.2⟩
theorem KR_trans {σ σ1 σ2 : xS} (h : KR σ σ1) (g : KR σ1 σ2) : KR σ σ2 := ⟨fun k hk => (g.1 k hk).trans (h.1 k hk), fun k hk => (g.2.1 k hk).trans (h.2.1 k hk), g.2.2.1.trans h.2.2.1, g.2.2.2.trans h.2.2.2⟩
theorem KC_S {σ σ' : xS} (h : frS σ σ') : KC σ σ' := ⟨fun k _ => h.1 k, fun k hk => h.2.1 k (by omega), h.2.2.2.2.1, h.2.2.2.2.2⟩
theorem KR_T {σ σ' : xS} (h : frT σ σ') : KR σ σ' := ⟨fun k _ => h.1 k, fun k hk => h.2.1 k (by omega) (by omega), h.2.2.2.1 25 (by decide) (by decide), h.2.2.2.1 26 (by decide) (by decide)⟩
theorem KC_A (σ : xS) {k : Nat} (f : Nat → Int32) (hk : 44 ≤ k ∧ k < 100) : KC σ (uA σ k f) := ⟨fun j hj => if_neg (by omega), fun _ _ => rfl, fun _ => rfl, rfl⟩
theorem KR_I (σ : xS) {k : Nat} (v : Int32) (hk : 20 ≤ k ∧ k < 44) : KR σ (uI σ k v) := ⟨fun _ _ => rfl, fun j hj => if_neg (by omega), rfl, rfl⟩
theorem rowC_keep {σ σ' : xS} (h : KC σ σ') {t : Nat} (ht : t < 3) (k : Nat) : rowC σ' t k = rowC σ t k := by
  have hA := fun j hj => h.1 j (Or.inl hj)
  have hI := h.2.1
  unfold rowC
  rw [hI _ (by omega), hI _ (by omega), hI _ (by omega), hI _ (by omega), hI _ (by omega), hI _ (by omega), hI _ (by omega), hA _ (by omega), hA _ (by omega), hA _ (by omega), hA _ (by omega), hA _ (by omega), hA _ (by omega)]
theorem Sim_keep {σ σ' τ τ' : xS} (h : Sim σ τ) (hC : KC σ σ') (hR : KR τ τ') : Sim σ' τ' := by
  obtain ⟨hS, hI, hT, hM, hD, hc1, hc2, hc3⟩ := h
  obtain ⟨r1, r2, r3, r4⟩ := hR
  have a3 := r1 3 (by decide)
  have a7 := r1 7 (by decide)
  have a2 := r1 2 (by decide)
  have a42 := r1 42 (by decide)
  have a43 := r1 43 (by decide)
  have i1 := r2 1 (by decide)
  have i6 := r2 6 (by decide)
  have i8 := r2 8 (by decide)
  have i13 := r2 13 (by decide)
  have i44 := r2 44 (by decide)
  refine ⟨⟨fun k hk => ?_, ?_, ?_⟩, SimIm_of hI (hC.1 2 (by decide)) (fun k => ⟨rowC_keep hC (by decide) k, rowC_keep hC (by decide) k⟩) ⟨hC.2.2.1 42, hC.2.2.1 43⟩ hC.2.2.2 (r1 5 (by decide)) (r1 4 (by decide)), ?_, ?_, ?_, ?_, r3.trans hc2, r4.trans hc3⟩
  · rw [rowC_keep hC (by decide), a3]
    exact hS.1 k hk
  · rw [a3]
    exact hS.2.1
  · exact lawsOK_of hS.2.2 (hC.2.2.1 41) hC.2.2.2 a3
  · unfold SimTp
    rw [i8, a7, hC.2.1 11 (by decide), hC.1 3 (by decide)]
    exact hT
  · unfold SimMi
    rw [i13, i6, i1, a2, hC.2.1 12 (by decide), hC.2.1 13 (by decide), hC.2.1 14 (by decide), hC.1 4 (by decide)]
    exact hM
  · unfold SimDi
    rw [i44, a42, a43, hC.1 100 (by decide), hC.1 101 (by decide)]
    exact hD
  · intro t j i ht hq
    rw [hC.2.2.1] at hq
    rw [hC.2.2.2]
    exact hc1 t j i ht hq
theorem SimSt_keep {σ σ' τ τ' : xS} (h : SimSt σ τ) (hC : KC σ σ') (hR : KR τ τ') : SimSt σ' τ' := by
  have a3 := hR.1 3 (by decide)
  refine ⟨fun k hk => ?_, ?_, lawsOK_of h.2.2 (hC.2.2.1 41) hC.2.2.2 a3⟩
  · rw [rowC_keep hC (by decide), a3]
    exact h.1 k hk
  · rw [a3]
    exact h.2.1
/-! ===== about a book ===== -/
theorem C_about {σ τ : xS} (h : SimSt σ τ) {b c : Nat} (e1 : sI σ 131 = nI c) (hc : c ≤ 10) (hb : b < c) (lt : Int32) : ∃ W : Nat → Int32, F_X0_about (nI b) lt σ = some ((), uA σ 45 W) ∧ W 0 = nI b ∧ W 1 = sA τ 3 (13 + 5 * b + 0) ∧ W 2 = sA τ 3 (13 + 5 * b + 1) ∧ W 3 = sA τ 3 (13 + 5 * b + 2) + lt ∧ W 4 = sA τ 3 (13 + 5 * b + 3) ∧ W 5 = sA τ 3 (13 + 5 * b + 4) ∧ W 6 = (sA τ 3 7 + lt) - (sA τ 3 7 + lt) / 52 * 52 ∧ W 7 = sA τ 3 8 ∧ W 8 = 0 ∧ W 9 = 0 := by
  have g : ∀ (W : Nat → Int32) (w : Nat), w < 5 → F_X6_get 0 (nI b) (nI w) (uA σ 45 W) = some (sA τ 3 (13 + 5 * b + w), uA σ 45 W) := by
    intro W w hw
    have x : F_X6_get 0 (nI b) (nI w) (uA σ 45 W) = some (sA σ 9 (b * 5 + w), uA σ 45 W) := C_getY (r := 0) (σ := uA σ 45 W) e1 (show c ≤ 10 from hc) hb hw
    rw [x, cell_book h (by omega) hw]
  have g0 : ∀ W, F_X6_get 0 (nI b) 0 (uA σ 45 W) = some (sA τ 3 (13 + 5 * b + 0), uA σ 45 W) := fun W => g W 0 (by decide)
  have g1 : ∀ W, F_X6_get 0 (nI b) 1 (uA σ 45 W) = some (sA τ 3 (13 + 5 * b + 1), uA σ 45 W) := fun W => g W 1 (by decide)
  have g2 : ∀ W, F_X6_get 0 (nI b) 2 (uA σ 45 W) = some (sA τ 3 (13 + 5 * b + 2), uA σ 45 W) := fun W => g W 2 (by decide)
  have g3 : ∀ W, F_X6_get 0 (nI b) 3 (uA σ 45 W) = some (sA τ 3 (13 + 5 * b + 3), uA σ 45 W) := fun W => g W 3 (by decide)
  have g4 : ∀ W, F_X6_get 0 (nI b) 4 (uA σ 45 W) = some (sA τ 3 (13 + 5 * b + 4), uA σ 45 W) := fun W => g W 4 (by decide)
  have t0 : ∀ W : Nat → Int32, sA (uA σ 45 W) 38 0 = sA τ 3 7 := fun W => cell_term h (i := 0) (by decide)
  have t1 : ∀ W : Nat → Int32, sA (uA σ 45 W) 38 1 = sA τ 3 8 := fun W => cell_term h (i := 1) (by decide)
  unfold F_X0_about
  simp only [ck10_0, ck10_1, ck10_2, ck10_3, ck10_4, ck10_5, ck10_6, ck10_7, ck10_8, ck10_9, nm_eq, bd_eq, uA_uA, sA_s, cl0, cl1, cl2, cl3, cl4, cl5, cl6, cl7, cl8, cl9, g0, g1, g2, g3, g4, rd6_0, rd6_1, t0, t1, nz_y (show ¬ (52 : Int32) = 0 by decide)]
  exact ⟨_, rfl, rfl, rfl, rfl, rfl, rfl, rfl, rfl, rfl, rfl, rfl⟩
/-- the reference's words that go with them -/
theorem env_of {σ τ : xS} {b : Nat} {price since : Int32} {W : Nat → Int32} (w0 : W 0 = nI b) (w1 : W 1 = sA τ 3 (13 + 5 * b + 0)) (w2 : W 2 = sA τ 3 (13 + 5 * b + 1)) (w3 : W 3 = sA τ 3 (13 + 5 * b + 2) + sI τ 34) (w4 : W 4 = price) (w5 : W 5 = sI τ 33) (w6 : W 6 = (sA τ 3 7 + sI τ 34) - (sA τ 3 7 + sI τ 34) / 52 * 52) (w7 : W 7 = sA τ 3 8) (w8 : W 8 = sI τ 35) (w9 : W 9 = since) : ∀ k, k < 10 → (sA (uA σ 45 W) 45 k).toInt64 = envR τ b price since (k + 1) := by
  intro k hk
  rw [sA_s]
  rcases (show k = 0 ∨ k = 1 ∨ k = 2 ∨ k = 3 ∨ k = 4 ∨ k = 5 ∨ k = 6 ∨ k = 7 ∨ k = 8 ∨ k = 9 by omega) with rfl | rfl | rfl | rfl | rfl | rfl | rfl | rfl | rfl | rfl
  · rw [w0]; rfl
  · rw [w1]; rfl
  · rw [w2]; rfl
  · rw [w3]; rfl
  · rw [w4]; rfl
  · rw [w5]; rfl
  · rw [w6]; rfl
  · rw [w7]; rfl
  · rw [w8]; rfl
  · rw [w9]; rfl
end
