section
/-! ===== behind a clause's sum: 'if' and a test, or nothing ===== -/
def failF (g : Nat → Nat) (T C : Nat) (σ τ : xS) (rC : Option (Int32 × xS)) (rR : Option (Unit × xS)) : Prop := ∃ (σ' τf : xS) (kf : Nat), rC = some (0, σ') ∧ rR = some ((), τf) ∧ cxF σ σ' ∧ pzC τ τf ∧ kf ≤ C ∧ sI σ' 759 = nI (plT g T kf) ∧ sI τf 14 = 1 ∧ sI τf 13 = nI (plT g T kf)
theorem R_185 {p : Nat} (hp : p + 8 ≤ 96) (τ : xS) : F_X12_readClause_185 (nI p) τ = some ((), uA τ 16 (upd (sA τ 16) (p + 6) (sI τ 17))) := by
  unfold F_X12_readClause_185
  rw [show nI p + 6 = nI (p + 6) from nI_add p 6, ck_n (by omega) (by decide), nm_eq, nI_clamp (by omega)]
theorem R_135 {p : Nat} (hp : p + 8 ≤ 96) (τ : xS) : F_X12_readClause_135 (nI p) τ = (fun σ18 : xS => if (sI σ18 14) = 0 then (bd (F_X12_isWord 294 σ18) fun v20 σ19 => if v20 = 0 then (F_X12_readClause_185 (nI p) σ19) else (bd (F_X12_next σ19) fun _ σ21 => bd (F_X12_readExpression 1 σ21) fun _ σ22 => F_X12_readClause_185 (nI p) σ22)) else (F_X12_readClause_185 (nI p) σ18)) (uA (uA τ 16 (upd (sA τ 16) (p + 4) (sI τ 17))) 16 (upd (upd (sA τ 16) (p + 4) (sI τ 17)) (p + 5) (sI τ 17))) := by
  unfold F_X12_readClause_135
  rw [show nI p + 4 = nI (p + 4) from nI_add p 4, show nI p + 5 = nI (p + 5) from nI_add p 5, ck_n (by omega) (by decide), nm_eq, ck_n (by omega) (by decide), nm_eq, nI_clamp (by omega), nI_clamp (by omega)]
  rfl
theorem T_tail {g : Nat → Nat} {T C : Nat} (hX : TX g T C) {σ τ : xS} {k n u q p : Nat} {K R : Nat → Nat × Nat} (hp : p + 8 ≤ 96) (h : LkJ g T C σ τ k n u q K R) : failF g T C σ τ (F_X5_readClause_70 σ) (F_X12_readClause_135 (nI p) τ) ∨ ∃ (σ' τ' : xS) (k' n' u' q' L : Nat) (K' R' : Nat → Nat × Nat) (c : (Nat → Int64) → Option Bool), F_X5_readClause_70 σ = some (1, σ') ∧ F_X12_readClause_135 (nI p) τ = some ((), τ') ∧ LkJ g T C σ' τ' k' n' u' q' K' R' ∧ cxF σ σ' ∧ pzC τ τ' ∧ sI τ' 13 = sI τ 13 ∧ sI τ' 15 = sI τ 15 ∧ (k ≤ k' ∧ n ≤ n' ∧ u ≤ u' ∧ q ≤ q') ∧ eqOn K K' 0 u ∧ eqOn R R' 0 q ∧ (∀ i, i ≠ p + 4 → i ≠ p + 5 → i ≠ p + 6 → sA τ' 16 i = sA τ 16 i) ∧ sA τ' 16 (p + 4) = nI q ∧ sA τ' 16 (p + 5) = nI q ∧ sA τ' 16 (p + 6) = nI q' ∧ ((u' = u ∧ q' = q ∧ c = (fun _ => some true)) ∨ (L ≤ 50 ∧ tsegC K' u u' L c ∧ segR R' q q' L (asL c))) := by
  have hT1 := hX.1
  have hT2 := hX.2.1
  have h00 := h
  obtain ⟨l1, l2, l3, l4, l5, l6, l7⟩ := h
  have hkd := kd_le hX (TpR_g l2.1) l4
  have e17 := l2.2.2.2.1
  rw [R_135 hp, e17]
  have hf1 : pzC τ (uA (uA τ 16 (upd (sA τ 16) (p + 4) (nI q))) 16 (upd (upd (sA τ 16) (p + 4) (nI q)) (p + 5) (nI q))) := pzC_trans (pzC_A _ _) (pzC_A _ _)
  have hR1 := RJ_16 (RJ_16 l2 (upd (sA τ 16) (p + 4) (nI q))) (upd (upd (sA τ 16) (p + 4) (nI q)) (p + 5) (nI q))
  have e16 : sA (uA (uA τ 16 (upd (sA τ 16) (p + 4) (nI q))) 16 (upd (upd (sA τ 16) (p + 4) (nI q)) (p + 5) (nI q))) 16 = upd (upd (sA τ 16) (p + 4) (nI q)) (p + 5) (nI q) := rfl
  have e14 : sI (uA (uA τ 16 (upd (sA τ 16) (p + 4) (nI q))) 16 (upd (upd (sA τ 16) (p + 4) (nI q)) (p + 5) (nI q))) 14 = 0 := l3
  have e13 : sI (uA (uA τ 16 (upd (sA τ 16) (p + 4) (nI q))) 16 (upd (upd (sA τ 16) (p + 4) (nI q)) (p + 5) (nI q))) 13 = sI τ 13 := rfl
  have e15 : sI (uA (uA τ 16 (upd (sA τ 16) (p + 4) (nI q))) 16 (upd (upd (sA τ 16) (p + 4) (nI q)) (p + 5) (nI q))) 15 = sI τ 15 := rfl
  generalize uA (uA τ 16 (upd (sA τ 16) (p + 4) (nI q))) 16 (upd (upd (sA τ 16) (p + 4) (nI q)) (p + 5) (nI q)) = τ1 at *
  show failF g T C σ τ (F_X5_readClause_70 σ) (if (sI τ1 14) = 0 then (bd (F_X12_isWord 294 τ1) fun v20 σ19 => if v20 = 0 then (F_X12_readClause_185 (nI p) σ19) else (bd (F_X12_next σ19) fun _ σ21 => bd (F_X12_readExpression 1 σ21) fun _ σ22 => F_X12_readClause_185 (nI p) σ22)) else (F_X12_readClause_185 (nI p) τ1)) ∨ ∃ (σ' τ' : xS) (k' n' u' q' L : Nat) (K' R' : Nat → Nat × Nat) (c : (Nat → Int64) → Option Bool), F_X5_readClause_70 σ = some (1, σ') ∧ (if (sI τ1 14) = 0 then (bd (F_X12_isWord 294 τ1) fun v20 σ19 => if v20 = 0 then (F_X12_readClause_185 (nI p) σ19) else (bd (F_X12_next σ19) fun _ σ21 => bd (F_X12_readExpression 1 σ21) fun _ σ22 => F_X12_readClause_185 (nI p) σ22)) else (F_X12_readClause_185 (nI p) τ1)) = some ((), τ') ∧ _
  rw [e14, if_pos rfl, show F_X12_isWord 294 = F_X12_isWord (zL (cod 14 : Nat)) from rfl, R_isWd hR1.1 hR1.2.1 (plT_le hX l4) (show 14 < 18 by decide), bd_eq, ib2]
  unfold F_X5_readClause_70
  rw [PI_tok hX l1 l4, bd_eq]
  have v4 : ∀ x y : Int32, upd (upd (upd (sA τ 16) (p + 4) (nI q)) (p + 5) (nI q)) (p + 6) x (p + 4) = nI q := fun x y => by
    rw [upd_n _ _ (by omega), upd_n _ _ (by omega), upd_s _ _ rfl]
  have v5 : ∀ x : Int32, upd (upd (upd (sA τ 16) (p + 4) (nI q)) (p + 5) (nI q)) (p + 6) x (p + 5) = nI q := fun x => by
    rw [upd_n _ _ (by omega), upd_s _ _ rfl]
  have v0 : ∀ (x : Int32) i, i ≠ p + 4 → i ≠ p + 5 → i ≠ p + 6 → upd (upd (upd (sA τ 16) (p + 4) (nI q)) (p + 5) (nI q)) (p + 6) x i = sA τ 16 i := fun x i h1 h2 h3 => by
    rw [upd_n _ _ h3, upd_n _ _ h2, upd_n _ _ h1]
  by_cases c : kd g T k = 270
  rotate_left
  · right
    rw [if_neg (show ¬ nI (kd g T k) = 270 from nI_ne (b := 270) (by omega) (by decide) c), cz_1, if_neg (show ¬ tkK g T (plT g T k) = 256 + 14 from c), R_185 hp, e16, hR1.2.2.2.1]
    refine ⟨σ, _, k, n, u, q, 0, K, R, _, rfl, rfl, ⟨l1, RJ_16 hR1 _, e14, l4, l5, l6, l7⟩, cxF_refl σ, pzC_trans hf1 (pzC_A _ _), e13, e15, ⟨Nat.le_refl _, Nat.le_refl _, Nat.le_refl _, Nat.le_refl _⟩, eqOn_refl _ _ _, eqOn_refl _ _ _, v0 _, v4 _ 0, v5 _, upd_s _ _ rfl, Or.inl ⟨rfl, rfl, rfl⟩⟩
  have hkC := kd_end hX l4 (by omega)
  obtain ⟨n1, n2⟩ := PI_next hX l1 hkC
  obtain ⟨τ2, t1, t2, t3, t4, t5⟩ := RJ_next hX hR1 l4
  rw [if_pos (show nI (kd g T k) = 270 by rw [c]; rfl), n1, bd_eq, if_pos (show tkK g T (plT g T k) = 256 + 14 from c), t1, bd_eq]
  have hc1 := cxF_I σ (k := 756) (nI (k + 1)) (by decide)
  rcases E_testJ hX (σ := uI σ 756 (nI (k + 1))) (τ := τ2) ⟨n2, t2, t4.trans e14, by omega, l5, by omega, by omega⟩ with hf | ⟨σ3, τ3, k3, L, u3, q3, K3, R3, cc, d1, d2, ⟨d3, d4, d5, d6, d7, d8, d9⟩, d10, d11⟩
  · left
    obtain ⟨σ', τf, kf, f1, f2, f3, f4, f5, f6, f7, f8⟩ := hf
    rw [f1, bd_eq, cz_0, f2, bd_eq, R_185 hp]
    exact ⟨σ', _, kf, rfl, rfl, cxF_trans hc1 f3, pzC_trans (pzC_trans hf1 (pzC_F (pzF_trans t3 f4))) (pzC_A _ _), f5, f6, f7, f8⟩
  · right
    obtain ⟨m1, m2, m3, m4, m5, m6, m7⟩ := d3
    have e16' : sA τ3 16 = upd (upd (sA τ 16) (p + 4) (nI q)) (p + 5) (nI q) := by
      rw [d5.1 16 (by decide), t3.1 16 (by decide), e16]
    rw [d1, bd_eq, cz_1, d2, bd_eq, R_185 hp, e16', m2.2.2.2.1]
    refine ⟨σ3, _, k3, n + L, u3, q3, L, K3, R3, cc, rfl, rfl, ⟨m1, RJ_16 (RJ_of m2) _, m3, m4, m5, m6, m7⟩, cxF_trans hc1 d4, pzC_trans (pzC_trans hf1 (pzC_F (pzF_trans t3 d5))) (pzC_A _ _), d6.trans (t5.trans e13), ((d5.2.1 15 (by decide)).trans (t3.2.1 15 (by decide))).trans e15, ⟨by omega, by omega, by omega, by omega⟩, d8, d9, v0 _, v4 _ 0, v5 _, upd_s _ _ rfl, Or.inr ⟨by omega, d10, d11⟩⟩
end
