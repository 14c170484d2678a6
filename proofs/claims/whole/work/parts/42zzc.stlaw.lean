section
/-! ===== law: class and reference ===== -/
theorem KC_cx {σ σ' : xS} (h : cxC σ σ') : KC σ σ' := ⟨fun k hk => h.1 k (fun z => by
  have : ∀ j, j ∈ [48, 49, 50] → 44 ≤ j ∧ j < 100 := by decide
  have := this k z
  omega), fun k hk => h.2.1 k (fun z => by
  have : ∀ j, j ∈ [756, 757, 758, 759] → 704 ≤ j := by decide
  have := this k z
  omega), h.2.2.2.2.1, h.2.2.2.2.2⟩
theorem KC_12 {σ σ' : xS} (h : KC σ σ') (f : Int32) : KC (uI σ 12 f) (uI σ' 12 f) := ⟨h.1, fun k hk => by
  show (if k = 12 then f else sI σ' k) = if k = 12 then f else sI σ k
  rw [h.2.1 k hk], h.2.2⟩
theorem KC_far (σ : xS) {k : Nat} (v : Int32) (hk : 704 ≤ k) : KC σ (uI σ k v) := ⟨fun _ _ => rfl, fun j hj => if_neg (by omega), fun _ => rfl, rfl⟩
theorem KR_law {τ τ2 τc : xS} {f : Int32} (hf : frN (uI (uI (uI (uI τ 0 0) 10 0) 14 0) 13 (-1)) τ2) (hp : pzC (uI (uI (uI τ2 15 0) 17 0) 20 0) τc) (h13 : sI τc 13 = f) : KR (uI (uI τ 8 0) 13 f) (uI τc 8 0) := by
  refine ⟨fun k hk => ?_, fun k hk => ?_, (hp.2.2.2.1 25).trans (hf.2.2.2.1 25), (hp.2.2.2.1 26).trans (hf.2.2.2.1 26)⟩
  · rcases hk with rfl | rfl | rfl | rfl | rfl | rfl | rfl
    · exact (hp.1 2 (by decide)).trans (hf.1 2)
    · exact (hp.1 3 (by decide)).trans (hf.1 3)
    · exact (hp.1 4 (by decide)).trans (hf.1 4)
    · exact (hp.1 5 (by decide)).trans (hf.1 5)
    · exact (hp.1 7 (by decide)).trans (hf.1 7)
    · exact (hp.1 42 (by decide)).trans (hf.1 42)
    · exact (hp.1 43 (by decide)).trans (hf.1 43)
  · rcases hk with rfl | rfl | rfl | rfl | rfl
    · exact (hp.2.1 1 (by decide)).trans (hf.2.1 1 (by decide) (by decide) (by decide))
    · exact (hp.2.1 6 (by decide)).trans (hf.2.1 6 (by decide) (by decide) (by decide))
    · rfl
    · exact h13
    · exact (hp.2.1 44 (by decide)).trans (hf.2.1 44 (by decide) (by decide) (by decide))
theorem C_read {g : Nat → Nat} {T : Nat} {σ : xS} (hT : TpC g T σ) : ∃ (C : Nat) (σ' : xS), F_X5_read (nI T) σ = F_X5_read_31 FU 0 σ' ∧ KC σ σ' ∧ TX g T C ∧ PI g T C σ' 0 0 0 (fun _ => (0, 0)) := by
  have hT4 := hT.1
  obtain ⟨C, σ2, h1, h2, h3, h4, h5, h6⟩ := C_cut hT T FU 0 0 0 (uI σ 819 0) (by unfold FU; omega) (by omega) (Nat.le_refl _) (Nat.le_refl _) (KC_far σ 0 (by decide)) rfl rfl (fun j hj => absurd hj (Nat.not_lt_zero _))
  have e0 : nI 0 = (0 : Int32) := rfl
  rw [e0] at h1
  have em : mnI (nI T) 400 = nI T := by
    have := mnI_n (a := T) (b := 400) (by omega) (by decide)
    rw [Nat.min_eq_left hT4] at this
    exact this
  refine ⟨C, uI (uI (uI (uI σ2 756 0) 757 0) 758 0) 759 (-1), ?_, KC_trans (KC_trans (KC_trans (KC_trans h2 (KC_far _ _ (by decide))) (KC_far _ _ (by decide))) (KC_far _ _ (by decide))) (KC_far _ _ (by decide)), ⟨h3, hT4, h5, h6⟩, ⟨h4.1, h4.2, rfl⟩, rfl, rfl, rfl, fun j hj => absurd hj (Nat.not_lt_zero _)⟩
  unfold F_X5_read F_X9_cut
  rw [em, nm_eq2, nm_eq2, nm_eq2, nm_eq2, h1, bd_eq2, nm_eq2, nm_eq2, nm_eq2, nm_eq2, nm_eq2]
theorem R_law0 {g : Nat → Nat} {T n : Nat} {τ : xS} (hT : TpR g T τ) (hw : sL τ 25 = sL τ0 25 ∧ sL τ 26 = sL τ0 26) (hn : n < 6) (h1 : sA τ 3 1 = nI n) : ∃ τ2, F_X12_law τ = (bd (F_X12_readClause (uI (uI (uI τ2 15 0) 17 0) 20 0)) fun _ σ14 => F_X12_law_51 FU σ14) ∧ frN (uI (uI (uI (uI τ 0 0) 10 0) 14 0) 13 (-1)) τ2 ∧ RJ g T (uI (uI (uI τ2 15 0) 17 0) 20 0) 0 0 0 (fun _ => (0, 0)) ∧ sI (uI (uI (uI τ2 15 0) 17 0) 20 0) 14 = 0 ∧ sI (uI (uI (uI τ2 15 0) 17 0) 20 0) 13 = -1 := by
  have hT2 : TpR g T (uI (uI (uI (uI τ 0 0) 10 0) 14 0) 13 (-1)) := ⟨hT.1, hT.2.1, hT.2.2⟩
  obtain ⟨τ2, a1, a2, a3⟩ := R_next (p := 0) (Nat.zero_le _) hT2 rfl
  have hT3 := TpR_N hT2 a2
  refine ⟨τ2, ?_, a2, ⟨⟨hT3.1, hT3.2.1, hT3.2.2⟩, a3, rfl, rfl, (fun j hj => absurd hj (Nat.not_lt_zero _)), (a2.2.2.2.1 25).trans hw.1, (a2.2.2.2.1 26).trans hw.2⟩, a2.2.1 14 (by decide) (by decide) (by decide), a2.2.1 13 (by decide) (by decide) (by decide)⟩
  have hb : F_X12_begin (uI τ 0 0) = some ((), τ2) := by
    unfold F_X12_begin
    rw [nm_eq2, cz_0, nm_eq2, nm_eq2, a1, bd_eq2]
  unfold F_X12_law
  rw [nm_eq2, rdL1, show sA (uI τ 0 0) 3 1 = nI n from h1, if_neg (show ¬ nI n = 6 from nI_ne (b := 6) (by omega) (by decide) (by omega)), hb, bd_eq2, nm_eq2, nm_eq2, nm_eq2]
theorem C_made {σ : xS} {m u : Nat} (hm : m ≤ 12) (hu : u ≤ 400) (h758 : sI σ 758 = nI u) (hq : qIn σ) : F_X5_made (nI m) σ = some (some (sP σ).length, uP (uA σ 49 (upd (sA σ 49) m (nI u))) (sP σ ++ [(nI m, (m, sA σ 48), (m + 1, upd (sA σ 49) m (nI u)), (u, sA σ 50))])) := by
  unfold F_X5_made
  rw [ck_n (by omega) (by decide), nm_eq2, nI_clamp (by omega), h758]
  have e1 : sI (uA σ 49 (upd (sA σ 49) m (nI u))) 758 = nI u := h758
  have e2 : sP (uA σ 49 (upd (sA σ 49) m (nI u))) = sP σ := rfl
  have e3 : sA (uA σ 49 (upd (sA σ 49) m (nI u))) 48 = sA σ 48 := rfl
  have e4 : sA (uA σ 49 (upd (sA σ 49) m (nI u))) 49 = upd (sA σ 49) m (nI u) := sA_s _ _ _
  have e5 : sA (uA σ 49 (upd (sA σ 49) m (nI u))) 50 = sA σ 50 := rfl
  rw [e1, e2, e3, e4, e5, nI_clamp (by omega)]
  refine if_neg ?_
  intro z
  rcases z with z | z | z | z | z
  · exact nI_pos (by omega) z
  · exact absurd z (show ¬ (12 : Int32) < nI m from nI_nlt (a := 12) hm (by decide))
  · exact nI_pos (by omega) z
  · exact absurd z (show ¬ (400 : Int32) < nI u from nI_nlt (a := 400) hu (by decide))
  · exact z hq
theorem lw_n {β : Type} {σ : xS} {i : Nat} {p : xP} (h : (sP σ)[i]? = some p) (k : xP → Option β) : lw σ i k = k p := by
  unfold lw
  rw [h]
theorem st_law : ∀ (σ τ : xS), Sim σ τ → ∀ (_ : Unit), ∃ (r : Int32) (σ1 τ1 : xS), F_X11_law σ = some (r, σ1) ∧ F_X12_law τ = some (r, τ1) ∧ Sim σ1 τ1 := by
  intro σ τ h _
  obtain ⟨n, hn, e87, e31⟩ := cntL h.1
  obtain ⟨T, hT, e8⟩ : ∃ t, t < 401 ∧ sI τ 8 = nI t := i_of h.2.2.1.2.1.1 (by have := h.2.2.1.2.1.2; omega) (by decide)
  have e11 : sI σ 11 = nI T := h.2.2.1.1.trans e8
  by_cases h6 : n = 6
  · have hs : Sim (uI σ 11 0) (uI (uI τ 0 0) 8 0) := ⟨h.1, SimIm_of h.2.1 rfl (fun k => ⟨rfl, rfl⟩) ⟨rfl, rfl⟩ rfl rfl rfl, ⟨rfl, (show (0 : Int) ≤ (0 : Int32).toInt ∧ (0 : Int32).toInt ≤ 400 by decide), h.2.2.1.2.2⟩, h.2.2.2⟩
    refine ⟨-5, refC (uI σ 11 0) (-5), refR (uI (uI τ 0 0) 8 0) (-5), ?_, ?_, Sim_ref (Or.inr (Or.inr (Or.inl rfl))) hs⟩
    · unfold F_X11_law
      rw [nm_eq2, nm_eq2, show sI (uI σ 11 0) 87 = nI n from e87, h6, if_neg (by decide), C_refused (Or.inr (Or.inr (Or.inl rfl))), bd_eq2]
    · unfold F_X12_law
      rw [nm_eq2, rdL1, show sA (uI τ 0 0) 3 1 = nI n from e31, h6, if_pos (show nI 6 = 6 from rfl), nm_eq2, R_t5, bd_eq2]
  have hg : ∀ j, j < 400 → sA τ 7 j = nI (sA τ 7 j).toNatClampNeg ∧ (sA τ 7 j).toNatClampNeg ≤ 255 := by
    intro j hj
    obtain ⟨x, hx, e⟩ : ∃ t, t < 256 ∧ sA τ 7 j = nI t := i_of (h.2.2.1.2.2 j hj).2.1 (by have := (h.2.2.1.2.2 j hj).2.2; omega) (by decide)
    rw [e, nI_clamp (by omega)]
    exact ⟨rfl, by omega⟩
  have hTc : TpC (fun j => (sA τ 7 j).toNatClampNeg) T (uI σ 11 0) := ⟨by omega, fun j hj => ⟨(h.2.2.1.2.2 j hj).1.trans (hg j hj).1, (hg j hj).2⟩⟩
  have hTr : TpR (fun j => (sA τ 7 j).toNatClampNeg) T τ := ⟨by omega, e8, hg⟩
  generalize (fun j => (sA τ 7 j).toNatClampNeg) = g at hTc hTr
  obtain ⟨C, σ2, r1, r2, hX, hP⟩ := C_read hTc
  obtain ⟨τ2, t1, t2, t3, t4, t5⟩ := R_law0 hTr h.2.2.2.2.2.2 (show n < 6 by omega) e31
  have e0 : nI 0 = (0 : Int32) := rfl
  have hl := L_loop hX 12 0 FU FU σ2 (uI (uI (uI τ2 15 0) 17 0) 20 0) 0 0 0 0 (fun _ => (0, 0)) (fun _ => (0, 0)) (fun _ => 0) (fun _ => 0) (fun _ => 0) (fun _ => 0) (fun _ => 0) (fun _ _ => none) (fun _ _ => none) (by unfold FU; omega) (by unfold FU; omega) rfl rfl ⟨hP, t3, t4, Nat.zero_le _, Nat.zero_le _, Nat.le_refl _, Nat.le_refl _⟩ ⟨rfl, fun c hc => absurd hc (Nat.not_lt_zero _)⟩
  rw [e0, ← r1, ← t1] at hl
  have hl6 : nI n < 6 := nI_lt (b := 6) (by omega) (by decide)
  rcases hl with ⟨σ', τf, kf, g1, g2, g3, g4, g5, g6, g7, g8⟩ | ⟨σc, τc, m, k, nn, u, q, K, R, hd, st, a, b, d, sm, cd, g1, g2, g3, g4, g5, g6, g7, g8, g9⟩
  · refine ⟨-6, refC (uI σ' 12 (nI (plT g T kf))) (-6), refR (uI τf 8 0) (-6), ?_, by rw [g2, R_97f g7], Sim_ref (Or.inr (Or.inr (Or.inr rfl))) (Sim_keep (Sim_1112 h (nI (plT g T kf))) (KC_12 (KC_trans r2 (KC_cx g3)) _) (KR_law t2 g4 g8))⟩
    unfold F_X11_law
    rw [nm_eq2, nm_eq2, show sI (uI σ 11 0) 87 = nI n from e87, if_pos hl6, e11, g1, bd_eq2, mo_none, nm_eq2, g6, C_refused (Or.inr (Or.inr (Or.inr rfl))), bd_eq2]
  have hq : q ≤ 400 := by
    have := hX.1
    have := hX.2.1
    have := g3.2.2.2.1
    have := g3.2.2.2.2.2.2
    omega
  have hu : u ≤ 400 := by
    have := hX.1
    have := hX.2.1
    have := g3.2.2.2.1
    have := g3.2.2.2.2.2.1
    omega
  have hK : KC (uI σ 11 0) σc := KC_trans r2 (KC_cx g4)
  have h758 : sI σc 758 = nI u := g3.1.2.2.2.1
  have h759 : sI σc 759 = -1 := g3.1.1.2.2
  have h87 : sI σc 87 = nI n := (hK.2.1 87 (by decide)).trans e87
  have hqI : qIn σc := by
    intro t j i ht hq
    rw [hK.2.2.1] at hq
    rw [hK.2.2.2]
    exact h.2.2.2.2.2.1 t j i ht hq
  have h3 : sA τc 3 = sA τ 3 := (g5.1 3 (by decide)).trans (t2.1 3)
  have hb : Sim (uI (uA σc 49 (upd (sA σc 49) m (nI u))) 12 (-1)) (uI τc 8 0) := Sim_keep (Sim_1112 h (-1)) (KC_12 (KC_trans hK (KC_A σc _ (by decide))) (-1)) (KR_law t2 g5 (g6.trans t5))
  have hN := Sim_acc (Sim_newlaw (p := (nI m, (m, sA σc 48), (m + 1, upd (sA σc 49) m (nI u)), (u, sA σc 50))) (ρ := rwL τc n m q) hb (show n < 6 by omega) (show sA τc 3 1 = nI n by rw [h3]; exact e31) (rwL_1 τc n m q) (fun i h1 hi => rwL_old τc g8 h1 hi) (law_rel (l := n) (Nat.le_trans hX.1 hX.2.1) g8 g3 g9))
  refine ⟨nI n, _, _, ?_, g2.trans (R_97 (show n < 6 by omega) g8 hq g3.2.2.1 g7 g3.2.1.2.2.2.1 (by rw [h3]; exact e31)), hN⟩
  have hlen : ∀ p : xP, (sP σc ++ [p])[(sP σc).length]? = some p := fun p => by
    rw [List.getElem?_append_right (Nat.le_refl _), Nat.sub_self]
    rfl
  unfold F_X11_law
  rw [nm_eq2, nm_eq2, show sI (uI σ 11 0) 87 = nI n from e87, if_pos hl6, e11, g1, C_made g8 hu h758 hqI, bd_eq2, mo_some, nm_eq2]
  have e759 : ∀ l, sI (uP (uA σc 49 (upd (sA σc 49) m (nI u))) l) 759 = -1 := fun _ => h759
  rw [e759, lw_n (hlen _)]
  have e87' : ∀ l, sI (uI (uP (uA σc 49 (upd (sA σc 49) m (nI u))) l) 12 (-1)) 87 = nI n := fun _ => h87
  have e87q : ∀ l f, sI (uQ (uI (uP (uA σc 49 (upd (sA σc 49) m (nI u))) l) 12 (-1)) 41 f) 87 = nI n := fun _ _ => h87
  rw [e87', ck_n (by omega) (by decide), nm_eq2, nI_clamp (by omega), e87q, nI_1, nm_eq2, C_accepted, bd_eq2, sI_s, show nI (n + 1) - 1 = nI n from pk_sub (b := 1) (by omega)]
  rfl
end
