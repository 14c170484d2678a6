section
/-! ===== a clause, both sides ===== -/
def cxC (σ σ' : xS) : Prop := (∀ k, k ∉ [48, 49, 50] → sA σ' k = sA σ k) ∧ (∀ k, k ∉ [756, 757, 758, 759] → sI σ' k = sI σ k) ∧ (∀ k, sJ σ' k = sJ σ k) ∧ (∀ k, sL σ' k = sL σ k) ∧ (∀ k, sQ σ' k = sQ σ k) ∧ sP σ' = sP σ
theorem cxC_trans {σ σ1 σ2 : xS} (h : cxC σ σ1) (g : cxC σ1 σ2) : cxC σ σ2 := ⟨fun k h1 => (g.1 k h1).trans (h.1 k h1), fun k h1 => (g.2.1 k h1).trans (h.2.1 k h1), fun k => (g.2.2.1 k).trans (h.2.2.1 k), fun k => (g.2.2.2.1 k).trans (h.2.2.2.1 k), fun k => (g.2.2.2.2.1 k).trans (h.2.2.2.2.1 k), g.2.2.2.2.2.trans h.2.2.2.2.2⟩
theorem cxC_F {σ σ' : xS} (h : cxF σ σ') : cxC σ σ' := ⟨fun k hk => h.1 k (fun z => hk (by rw [z]; decide)), h.2⟩
theorem cxC_A (σ : xS) {k : Nat} (v : Nat → Int32) (hk : k ∈ [48, 49, 50]) : cxC σ (uA σ k v) := ⟨fun j h1 => if_neg (fun (q : j = k) => h1 (by rw [q]; exact hk)), fun _ _ => rfl, fun _ => rfl, fun _ => rfl, fun _ => rfl, rfl⟩
def failC (g : Nat → Nat) (T C : Nat) (σ τ : xS) (rC : Option (Int32 × xS)) (rR : Option (Unit × xS)) : Prop := ∃ (σ' τf : xS) (kf : Nat), rC = some (0, σ') ∧ rR = some ((), τf) ∧ cxC σ σ' ∧ pzC τ τf ∧ kf ≤ C ∧ sI σ' 759 = nI (plT g T kf) ∧ sI τf 14 = 1 ∧ sI τf 13 = nI (plT g T kf)
def okCl (g : Nat → Nat) (T C : Nat) (σ τ : xS) (k n u q m : Nat) (K R : Nat → Nat × Nat) (rC : Option (Int32 × xS)) (rR : Option (Unit × xS)) : Prop := ∃ (σ' τ' : xS) (k' n' u' q' b h : Nat) (K' R' : Nat → Nat × Nat) (s : (Nat → Int64) → Option Int64) (c : (Nat → Int64) → Option Bool), rC = some (1, σ') ∧ rR = some ((), τ') ∧ LkJ g T C σ' τ' k' n' u' q' K' R' ∧ cxC σ σ' ∧ pzC τ τ' ∧ sI τ' 13 = sI τ 13 ∧ sI τ' 15 = nI (m + 1) ∧ (k < k' ∧ u ≤ u' ∧ q ≤ b ∧ b ≤ q' ∧ h < 4) ∧ eqOn K K' 0 u ∧ eqOn R R' 0 q ∧ sA σ' 48 = upd (sA σ 48) m (nI (10 + h)) ∧ sA σ' 49 = upd (sA σ 49) m (nI u) ∧ (∀ i, i < 8 * m → sA τ' 16 i = sA τ 16 i) ∧ sA τ' 16 (8 * m) = nI h ∧ sA τ' 16 (8 * m + 3) = nI q ∧ sA τ' 16 (8 * m + 4) = nI b ∧ sA τ' 16 (8 * m + 5) = nI b ∧ sA τ' 16 (8 * m + 6) = nI q' ∧ clS K' u u' h s c ∧ clT R' q b q' h s c
theorem kd_sub2 {a : Nat} (h : a < 266) : nI a - 256 < 10 := by
  have : ∀ a, a < 266 → nI a - 256 < 10 := by decide +kernel
  exact this a h
theorem R_cl0 {g : Nat → Nat} {T C : Nat} (hX : TX g T C) {τ : xS} {k n q : Nat} {R : Nat → Nat × Nat} (h : RJ g T τ k n q R) (hk : k ≤ C) (h14 : sI τ 14 = 0) (hc : ¬ (266 ≤ kd g T k ∧ kd g T k < 270) ∨ 12 ≤ sI τ 15) : F_X12_readClause τ = some ((), flS τ) := by
  obtain ⟨a1, a2, a3, a4, a5⟩ := RJ_must0 h h14
  have h54 : ∀ y, F_X12_readClause_54 y 0 τ = some ((), flS τ) := by
    intro y
    unfold F_X12_readClause_54
    rw [a1, bd_eq, a4, if_neg (by decide)]
  rw [R_heads hX h hk]
  by_cases c : 266 ≤ kd g T k ∧ kd g T k < 270
  · rw [if_pos c, if_pos (hc.resolve_left (fun z => z c)), h54]
  · rw [if_neg c, h54]
theorem P_clause {g : Nat → Nat} {T C : Nat} (hX : TX g T C) {σ τ : xS} {k n u q m : Nat} {K R : Nat → Nat × Nat} (hm : m < 12) (h15 : sI τ 15 = nI m) (h : LkJ g T C σ τ k n u q K R) : failC g T C σ τ (F_X5_readClause (nI m) σ) (F_X12_readClause τ) ∨ okCl g T C σ τ k n u q m K R (F_X5_readClause (nI m) σ) (F_X12_readClause τ) := by
  have hT1 := hX.1
  have hT2 := hX.2.1
  obtain ⟨l1, l2, l3, l4, l5, l6, l7⟩ := h
  have hkd := kd_le hX (TpR_g l2.1) l4
  unfold F_X5_readClause
  rw [PI_tok hX l1 l4, bd_eq, nm_eq2]
  by_cases c : 266 ≤ kd g T k ∧ kd g T k < 270
  rotate_left
  · left
    obtain ⟨a1, a2, a3, a4, a5⟩ := RJ_must0 l2 l3
    have h21 : F_X5_readClause_21 σ = some (0, uI σ 759 (nI (plT g T k))) := by
      unfold F_X5_readClause_21
      rw [PI_fails hX l1 l4, bd_eq, cz_0]
    rw [R_cl0 hX l2 l4 l3 (Or.inl c)]
    refine ⟨uI σ 759 (nI (plT g T k)), flS τ, k, ?_, rfl, cxC_F (cxF_I _ _ (by decide)), pzC_F a3, l4, rfl, a4, a5⟩
    by_cases c2 : kd g T k < 266
    · rw [if_pos (kd_sub2 c2)]
      exact h21
    · rw [show nI (kd g T k) - 256 = nI (kd g T k - 256) from pk_sub (b := 256) (by omega), if_neg (show ¬ nI (kd g T k - 256) < 10 from nI_nlt (b := 10) (by omega) (by omega)), if_neg (show ¬ nI (kd g T k - 256) ≤ 13 from nI_ge (a := 13) (by omega) (by omega))]
      exact h21
  obtain ⟨hh, ehh, hh4⟩ : ∃ hh, kd g T k = 266 + hh ∧ hh < 4 := ⟨kd g T k - 266, by omega, by omega⟩
  have hkC := kd_end hX l4 (by omega)
  -- the class
  have hP1 : PI g T C (uA (uA σ 48 (upd (sA σ 48) m (nI (10 + hh)))) 49 (upd (sA σ 49) m (nI u))) k n u K := ⟨l1.1, l1.2.1, l1.2.2.1, l1.2.2.2.1, l1.2.2.2.2⟩
  obtain ⟨n1, n2⟩ := PI_next hX hP1 hkC
  have e758 : sI (uA σ 48 (upd (sA σ 48) m (nI (10 + hh)))) 758 = nI u := l1.2.2.2.1
  have e10 : nI (kd g T k) - 256 = nI (kd g T k - 256) := pk_sub (b := 256) (by omega)
  rw [e10, show kd g T k - 256 = 10 + hh by omega, if_neg (show ¬ nI (10 + hh) < 10 from nI_nlt (b := 10) (by omega) (by omega)), if_pos (show nI (10 + hh) ≤ 13 from nI_le (b := 13) (by omega) (by decide)), ck_n (by omega) (by decide), nm_eq2, ck_n (by omega) (by decide), nI_clamp (by omega), e758, nm_eq2]
  rw [show sA (uA σ 48 (upd (sA σ 48) m (nI (10 + hh)))) 49 = sA σ 49 from rfl, n1, bd_eq]
  have hcx : cxC σ (uI (uA (uA σ 48 (upd (sA σ 48) m (nI (10 + hh)))) 49 (upd (sA σ 49) m (nI u))) 756 (nI (k + 1))) := cxC_trans (cxC_trans (cxC_A _ _ (by decide)) (cxC_A _ _ (by decide))) (cxC_F (cxF_I _ _ (by decide)))
  have s48 : sA (uI (uA (uA σ 48 (upd (sA σ 48) m (nI (10 + hh)))) 49 (upd (sA σ 49) m (nI u))) 756 (nI (k + 1))) 48 = upd (sA σ 48) m (nI (10 + hh)) := rfl
  have s49 : sA (uI (uA (uA σ 48 (upd (sA σ 48) m (nI (10 + hh)))) 49 (upd (sA σ 49) m (nI u))) 756 (nI (k + 1))) 49 = upd (sA σ 49) m (nI u) := rfl
  generalize uI (uA (uA σ 48 (upd (sA σ 48) m (nI (10 + hh)))) 49 (upd (sA σ 49) m (nI u))) 756 (nI (k + 1)) = σ1 at *
  -- the reference
  obtain ⟨τ1, a1, a2, a3, a4, a5⟩ := RJ_must1 hX l2 l4 l3 (x := 1) (by decide)
  obtain ⟨f, f1, f2⟩ := R_75 (p := 8 * m) (by omega) (nI hh) 8 FU 0 τ1 (by unfold FU; omega) rfl
  have e15 : sI τ1 15 = nI m := (a3.2.1 15 (by decide)).trans h15
  have hRc : F_X12_readClause τ = tl75 (nI hh) (nI (8 * m)) (uA τ1 16 f) := by
    rw [R_heads hX l2 l4, if_pos c, if_neg (show ¬ 12 ≤ sI τ 15 by rw [h15]; exact nI_ge (b := 12) (by omega) (by decide)), ehh, show 266 + hh - 266 = hh by omega]
    unfold F_X12_readClause_54
    rw [a1, bd_eq, a4, if_pos rfl, e15, nm_eq2, nm_eq2, ← f1]
    congr 1
    exact (Int32.ofNat_mul 8 m).symm
  rw [hRc]
  unfold tl75
  have e17 : ∀ f' v, sI (uI (uA (uA τ1 16 f) 16 f') 15 v) 17 = nI q := fun f' v => a2.2.2.2.1
  have e15' : ∀ f', sI (uA (uA τ1 16 f) 16 f') 15 + 1 = nI (m + 1) := fun f' => by
    show sI τ1 15 + 1 = _
    rw [e15, nI_1]
  rw [ck_n (by omega) (by decide), nm_eq2, e15', nm_eq2, show nI (8 * m) + 3 = nI (8 * m + 3) from nI_add _ 3, ck_n (by omega) (by decide), e17, nm_eq2, nI_clamp (by omega), nI_clamp (by omega)]
  have hR2 : RJ g T (uA (uI (uA (uA τ1 16 f) 16 (upd (sA (uA τ1 16 f) 16) (8 * m) (nI hh))) 15 (nI (m + 1))) 16 (upd (sA (uI (uA (uA τ1 16 f) 16 (upd (sA (uA τ1 16 f) 16) (8 * m) (nI hh))) 15 (nI (m + 1))) 16) (8 * m + 3) (nI q))) (k + 1) n q R := RJ_16 (RJ_15 (RJ_16 (RJ_16 a2 _) _) _) _
  have hpz : pzC τ (uA (uI (uA (uA τ1 16 f) 16 (upd (sA (uA τ1 16 f) 16) (8 * m) (nI hh))) 15 (nI (m + 1))) 16 (upd (sA (uI (uA (uA τ1 16 f) 16 (upd (sA (uA τ1 16 f) 16) (8 * m) (nI hh))) 15 (nI (m + 1))) 16) (8 * m + 3) (nI q))) := pzC_trans (pzC_trans (pzC_trans (pzC_trans (pzC_F a3) (pzC_A _ _)) (pzC_A _ _)) (pzC_15 _ _)) (pzC_A _ _)
  have x14 : sI (uA (uI (uA (uA τ1 16 f) 16 (upd (sA (uA τ1 16 f) 16) (8 * m) (nI hh))) 15 (nI (m + 1))) 16 (upd (sA (uI (uA (uA τ1 16 f) 16 (upd (sA (uA τ1 16 f) 16) (8 * m) (nI hh))) 15 (nI (m + 1))) 16) (8 * m + 3) (nI q))) 14 = 0 := a4
  have x13 : sI (uA (uI (uA (uA τ1 16 f) 16 (upd (sA (uA τ1 16 f) 16) (8 * m) (nI hh))) 15 (nI (m + 1))) 16 (upd (sA (uI (uA (uA τ1 16 f) 16 (upd (sA (uA τ1 16 f) 16) (8 * m) (nI hh))) 15 (nI (m + 1))) 16) (8 * m + 3) (nI q))) 13 = sI τ 13 := a5
  have x15 : sI (uA (uI (uA (uA τ1 16 f) 16 (upd (sA (uA τ1 16 f) 16) (8 * m) (nI hh))) 15 (nI (m + 1))) 16 (upd (sA (uI (uA (uA τ1 16 f) 16 (upd (sA (uA τ1 16 f) 16) (8 * m) (nI hh))) 15 (nI (m + 1))) 16) (8 * m + 3) (nI q))) 15 = nI (m + 1) := rfl
  have x16 : sA (uA (uI (uA (uA τ1 16 f) 16 (upd (sA (uA τ1 16 f) 16) (8 * m) (nI hh))) 15 (nI (m + 1))) 16 (upd (sA (uI (uA (uA τ1 16 f) 16 (upd (sA (uA τ1 16 f) 16) (8 * m) (nI hh))) 15 (nI (m + 1))) 16) (8 * m + 3) (nI q))) 16 = upd (upd f (8 * m) (nI hh)) (8 * m + 3) (nI q) := rfl
  generalize uA (uI (uA (uA τ1 16 f) 16 (upd (sA (uA τ1 16 f) 16) (8 * m) (nI hh))) 15 (nI (m + 1))) 16 (upd (sA (uI (uA (uA τ1 16 f) 16 (upd (sA (uA τ1 16 f) 16) (8 * m) (nI hh))) 15 (nI (m + 1))) 16) (8 * m + 3) (nI q)) = τ2 at *
  have y0 : sA τ2 16 (8 * m) = nI hh := by rw [x16, upd_n _ _ (by omega), upd_s _ _ rfl]
  have y3 : sA τ2 16 (8 * m + 3) = nI q := by rw [x16, upd_s _ _ rfl]
  have yl : ∀ i, i < 8 * m → sA τ2 16 i = sA τ 16 i := fun i hi => by rw [x16, upd_n _ _ (by omega), upd_n _ _ (by omega), f2 i hi, a3.1 16 (by decide)]
  have hE1 : LkJ g T C σ1 τ2 (k + 1) n u q K R := ⟨n2, hR2, x14, by omega, l5, by omega, by omega⟩
  have hx3 : (nI (10 + hh) = 13) ↔ hh = 3 := by
    rw [show (13 : Int32) = nI 13 from rfl, nI_eq (by omega) (by omega)]
    omega
  have h3 : ((3 : Int32) ≤ nI hh) ↔ 3 ≤ hh := by
    rw [show (3 : Int32) = nI 3 from rfl, nI_leI (by omega) (by omega)]
  by_cases c3 : hh = 3
  · rw [if_pos (hx3.mpr c3), if_pos (h3.mpr (by omega))]
    rcases T_tail hX (p := 8 * m) (by omega) hE1 with hf | ⟨σ', τ', k', n', u', q', L, K', R', cc, d1, d2, d3, d4, d5, d6, d7, d8, d9, d10, d11, d12, d13, d14, d15⟩
    · left
      obtain ⟨σ', τf, kf, g1, g2, g3, g4, g5⟩ := hf
      exact ⟨σ', τf, kf, g1, g2, cxC_trans hcx (cxC_F g3), pzC_trans hpz g4, g5⟩
    · right
      have hs : clS K' u u' hh (fun _ => none) cc ∧ clT R' q q q' hh (fun _ => none) cc := by
        rcases d15 with ⟨z1, z2, z3⟩ | ⟨z1, z2, z3⟩
        · subst z1 z2 z3
          exact cl_0 _ _ _ _ _ (by omega)
        · exact cl_t z2 z3 d8.2.2.2 (by omega) (by omega)
      exact ⟨σ', τ', k', n', u', q', q, hh, K', R', _, cc, d1, d2, d3, cxC_trans hcx (cxC_F d4), pzC_trans hpz d5, d6.trans x13, d7.trans x15, ⟨by omega, by omega, Nat.le_refl _, by omega, hh4⟩, d9, d10, (d4.1 48 (by decide)).trans s48, (d4.1 49 (by decide)).trans s49, fun i hi => (d11 i (by omega) (by omega) (by omega)).trans (yl i hi), (d11 _ (by omega) (by omega) (by omega)).trans y0, (d11 _ (by omega) (by omega) (by omega)).trans y3, d12, d13, d14, hs.1, hs.2⟩
  rw [if_neg (fun z => c3 (hx3.mp z)), if_neg (fun z => c3 (by have := h3.mp z; omega))]
  rcases E_sumJ hX hE1 with hf | ⟨σ2, τ3, k2, L2, u2, q2, K2, R2, s, b1, b2, ⟨b3, b4, b5, b6, b7, b8, b9⟩, b10, b11⟩
  · left
    obtain ⟨σ', τf, kf, g1, g2, g3, g4, g5, g6, g7, g8⟩ := hf
    have hF : F_X12_readClause_135 (nI (8 * m)) τf = some ((), uA (uA (uA τf 16 (upd (sA τf 16) (8 * m + 4) (sI τf 17))) 16 (upd (upd (sA τf 16) (8 * m + 4) (sI τf 17)) (8 * m + 5) (sI τf 17))) 16 (upd (upd (upd (sA τf 16) (8 * m + 4) (sI τf 17)) (8 * m + 5) (sI τf 17)) (8 * m + 6) (sI τf 17))) := by
      rw [R_135 (by omega)]
      show (if sI τf 14 = 0 then _ else F_X12_readClause_185 (nI (8 * m)) _) = _
      rw [g7, if_neg (by decide), R_185 (by omega)]
      rfl
    rw [g1, bd_eq, if_pos rfl, cz_0, g2, bd_eq, hF]
    exact ⟨σ', _, kf, rfl, rfl, cxC_trans hcx (cxC_F g3), pzC_trans (pzC_trans hpz (pzC_F g4)) (pzC_trans (pzC_trans (pzC_A _ _) (pzC_A _ _)) (pzC_A _ _)), g5, g6, g7, g8⟩
  obtain ⟨m1, m2, m3, m4, m5, m6, m7⟩ := b3
  obtain ⟨s1, s2, s3⟩ := PI_step m1 (show u2 < 400 by omega) (a := 12) (x := 0) ⟨show 12 ≤ 12 by omega, show 0 < 2000 by decide, fun z => absurd z (show ¬ 12 = 1 by omega)⟩
  rw [b1, bd_eq, if_neg (by decide), show F_X5_step 12 0 = F_X5_step (nI 12) (nI 0) from rfl, s1, bd_eq, b2, bd_eq]
  have hE2 : LkJ g T C (stS σ2 u2 12 0) τ3 k2 (n + L2) (u2 + 1) q2 (updN K2 u2 (12, 0)) R2 := ⟨s2, RJ_of m2, m3, m4, m5, by omega, m7⟩
  rcases T_tail hX (p := 8 * m) (by omega) hE2 with hf | ⟨σ', τ', k', n', u', q', L, K', R', cc, d1, d2, d3, d4, d5, d6, d7, d8, d9, d10, d11, d12, d13, d14, d15⟩
  · left
    obtain ⟨σ', τf, kf, g1, g2, g3, g4, g5⟩ := hf
    exact ⟨σ', τf, kf, g1, g2, cxC_trans hcx (cxC_F (cxF_trans (cxF_trans b4 s3) g3)), pzC_trans hpz (pzC_trans (pzC_F b5) g4), g5⟩
  · right
    have eK : eqOn K2 K' 0 u2 := eqOn_trans (updN_on K2 0 u2 _) (eqOn_mono d9 (Nat.le_refl _) (by omega))
    have eT : K' u2 = (12, 0) := by rw [d9 u2 (Nat.zero_le _) (by omega), updN_s]
    have g1 : segC K' u u2 L2 s := segC_on b10 (eqOn_mono eK (Nat.zero_le _) (Nat.le_refl _))
    have g2 : segR R' q q2 L2 s := segR_on b11 (eqOn_mono d10 (Nat.zero_le _) (Nat.le_refl _))
    have hs : clS K' u u' hh s cc ∧ clT R' q q2 q' hh s cc := by
      rcases d15 with ⟨z1, z2, z3⟩ | ⟨z1, z2, z3⟩
      · subst z1 z2 z3
        exact cl_s g1 g2 (by omega) (by omega) (by omega) (by omega) eT
      · exact cl_st g1 g2 z2 z3 (by omega) (by omega) (by omega) d8.2.2.2 (by omega) (by omega) (by omega) (by omega) eT
    have hb16 : ∀ i, sA τ3 16 i = sA τ2 16 i := fun i => by rw [b5.1 16 (by decide)]
    exact ⟨σ', τ', k', n', u', q', q2, hh, K', R', s, cc, d1, d2, d3, cxC_trans hcx (cxC_F (cxF_trans (cxF_trans b4 s3) d4)), pzC_trans hpz (pzC_trans (pzC_F b5) d5), d6.trans (b6.trans x13), d7.trans ((b5.2.1 15 (by decide)).trans x15), ⟨by omega, by omega, by omega, by omega, hh4⟩, eqOn_trans b8 (eqOn_mono eK (Nat.le_refl _) (by omega)), eqOn_trans b9 (eqOn_mono d10 (Nat.le_refl _) (by omega)), ((d4.1 48 (by decide)).trans ((s3.1 48 (by decide)).trans (b4.1 48 (by decide)))).trans s48, ((d4.1 49 (by decide)).trans ((s3.1 49 (by decide)).trans (b4.1 49 (by decide)))).trans s49, fun i hi => ((d11 i (by omega) (by omega) (by omega)).trans (hb16 i)).trans (yl i hi), ((d11 _ (by omega) (by omega) (by omega)).trans (hb16 _)).trans y0, ((d11 _ (by omega) (by omega) (by omega)).trans (hb16 _)).trans y3, d12, d13, d14, hs.1, hs.2⟩
end
