/-! ===== the relation of the class's and the reference's states ===== -/
/-- a stock of the class, laid out as the reference's row -/
def rowC (σ : xS) (t k : Nat) : Int32 :=
  if k = 0 then sI σ (16 * (8 + 2 * (5 * t)) + 3)
  else if k = 1 then sI σ (16 * (5 + t) + 7)
  else if k = 2 then sI σ (16 * (5 + t) + 8)
  else if k = 3 then sI σ (16 * (8 + 2 * (5 * t + 1)) + 3)
  else if k = 4 then sI σ (16 * (8 + 2 * (5 * t + 2)) + 3)
  else if k = 5 then sI σ (16 * (8 + 2 * (5 * t + 3)) + 3)
  else if k = 6 then sI σ (16 * (8 + 2 * (5 * t + 4)) + 3)
  else if k < 13 then sA σ (38 + t) (k - 7)
  else if k < 63 then sA σ (9 + 2 * (5 * t)) (k - 13)
  else if k < 99 then sA σ (9 + 2 * (5 * t + 1)) (k - 63)
  else if k < 123 then sA σ (9 + 2 * (5 * t + 2)) (k - 99)
  else if k < 133 then sA σ (9 + 2 * (5 * t + 3)) (k - 123)
  else sA σ (9 + 2 * (5 * t + 4)) (k - 133)
/-- the least and the greatest that a place of a row can hold -/
def loT (k : Nat) : Int := if k = 2 then -1 else if k = 12 then 1 else 0
def hiT (k : Nat) : Int :=
  if k < 7 then [10, 6, 5, 12, 8, 10, 6].getD k 0
  else if k < 13 then [51, 1, 99, 999, 9, 99].getD (k - 7) 0
  else if k < 63 then [9, 999, 99, 999, 2].getD ((k - 13) % 5) 0
  else if k < 99 then [20, 20, 9999].getD ((k - 63) % 3) 0
  else if k < 123 then [9, 99, 999].getD ((k - 99) % 3) 0
  else if k < 133 then 999
  else 100
def segOK (ρ : Nat → Int32) : Prop := (∀ k, k < 145 → loT k ≤ (ρ k).toInt ∧ (ρ k).toInt ≤ hiT k) ∧ (ρ 2).toInt < (ρ 1).toInt ∧ ∀ i, i < 12 → (ρ (64 + 3 * i)).toInt ≤ (ρ (63 + 3 * i)).toInt ∧ ((i : Int) < (ρ 3).toInt → 1 ≤ (ρ (63 + 3 * i)).toInt)
/-- a law of the class and a law's text in the reference's row tell alike -/
def lawRel (p : xP) (ρ : Nat → Int32) : Prop := ∃ (m z : Nat) (hd st a b d : Nat → Nat) (K R : Nat → Nat × Nat) (sm : Nat → (Nat → Int64) → Option Int64) (cd : Nat → (Nat → Int64) → Option Bool), lawBy p ρ m z hd st a b d K R sm cd
def lawsOK (σ : xS) (t : Nat) (ρ : Nat → Int32) : Prop := ∀ i : Nat, (i : Int) < (ρ 1).toInt → ∃ (d : Nat) (p : xP), sQ σ (41 + t) i = some d ∧ (sP σ)[d]? = some p ∧ lawRel p (fun k => ρ (150 + 900 * i + k))
def SimSt (σ τ : xS) : Prop := (∀ k, k < 145 → rowC σ 0 k = sA τ 3 k) ∧ segOK (sA τ 3) ∧ lawsOK σ 0 (sA τ 3)
def SimIm (σ τ : xS) : Prop := ∀ i, i < 2 → sA σ 2 i = sA τ 5 i ∧ (sA τ 5 i = 0 ∨ sA τ 5 i = 1) ∧ (sA τ 5 i = 1 → (∀ k, k < 145 → rowC σ (1 + i) k = sA τ 4 (5550 * i + k)) ∧ segOK (fun k => sA τ 4 (5550 * i + k)) ∧ lawsOK σ (1 + i) (fun k => sA τ 4 (5550 * i + k)))
def SimTp (σ τ : xS) : Prop := sI σ 11 = sI τ 8 ∧ (0 ≤ (sI τ 8).toInt ∧ (sI τ 8).toInt ≤ 400) ∧ ∀ j, j < 400 → sA σ 3 j = sA τ 7 j ∧ 0 ≤ (sA τ 7 j).toInt ∧ (sA τ 7 j).toInt ≤ 255
def SimMi (σ τ : xS) : Prop := sI σ 12 = sI τ 13 ∧ sI σ 13 = sI τ 6 ∧ sI σ 14 = sI τ 1 ∧ ∀ j, j < 7 → sA σ 4 j = sA τ 2 j
def SimDi (σ τ : xS) : Prop := (0 ≤ (sI τ 44).toInt ∧ (sI τ 44).toInt ≤ 10) ∧ ∀ j : Nat, j < 10 → sA σ 100 j = (if (j : Int) < (sI τ 44).toInt then sA τ 42 j else -1) ∧ sA σ 101 j = (if (j : Int) < (sI τ 44).toInt then sA τ 43 j else -1)
def SimCo (σ τ : xS) : Prop := qIn σ ∧ sL τ 25 = sL τ0 25 ∧ sL τ 26 = sL τ0 26
def Sim (σ τ : xS) : Prop := SimSt σ τ ∧ SimIm σ τ ∧ SimTp σ τ ∧ SimMi σ τ ∧ SimDi σ τ ∧ SimCo σ τ
theorem lawsOK_of {σ σ' : xS} {t : Nat} {ρ ρ' : Nat → Int32} (h : lawsOK σ t ρ) (hq : sQ σ' (41 + t) = sQ σ (41 + t)) (hp : sP σ' = sP σ) (hr : ρ' = ρ) : lawsOK σ' t ρ' := by
  subst hr
  intro i hi
  obtain ⟨d, p, h1, h2, h3⟩ := h i hi
  exact ⟨d, p, by rw [hq]; exact h1, by rw [hp]; exact h2, h3⟩
theorem SimIm_of {σ σ' τ τ' : xS} (h : SimIm σ τ) (h2 : sA σ' 2 = sA σ 2) (e : ∀ k, rowC σ' 1 k = rowC σ 1 k ∧ rowC σ' 2 k = rowC σ 2 k) (hq : sQ σ' 42 = sQ σ 42 ∧ sQ σ' 43 = sQ σ 43) (hp : sP σ' = sP σ) (h5 : sA τ' 5 = sA τ 5) (h4 : sA τ' 4 = sA τ 4) : SimIm σ' τ' := by
  intro i hi
  obtain ⟨a1, a2, a3⟩ := h i hi
  refine ⟨by rw [h2, h5]; exact a1, by rw [h5]; exact a2, fun h1 => ?_⟩
  rw [h5] at h1
  obtain ⟨b1, b2, b3⟩ := a3 h1
  have ei : ∀ k, rowC σ' (1 + i) k = rowC σ (1 + i) k := fun k => by
    rcases (show i = 0 ∨ i = 1 by omega) with rfl | rfl
    · exact (e k).1
    · exact (e k).2
  have eq : sQ σ' (41 + (1 + i)) = sQ σ (41 + (1 + i)) := by
    rcases (show i = 0 ∨ i = 1 by omega) with rfl | rfl
    · exact hq.1
    · exact hq.2
  rw [h4]
  exact ⟨fun k hk => by rw [ei]; exact b1 k hk, b2, lawsOK_of b3 eq hp rfl⟩
/-! ===== refused, accepted ===== -/
def refC (σ : xS) (v : Int32) : xS := uA (uI σ 14 v) 4 (upd (sA σ 4) (-v).toNatClampNeg (sA σ 4 (-v).toNatClampNeg + 1))
def refR (τ : xS) (v : Int32) : xS := uA (uI τ 1 v) 2 (upd (sA τ 2) (-v).toNatClampNeg (sA τ 2 (-v).toNatClampNeg + 1))
def isRef (v : Int32) : Prop := v = -1 ∨ v = -2 ∨ v = -5 ∨ v = -6
theorem C_refused {v : Int32} (hv : isRef v) (σ : xS) : F_X11_refused v σ = some (v, refC σ v) := by
  have hin : vp_in (-v) 7 := by rcases hv with rfl | rfl | rfl | rfl <;> exact vp_in_dec (by decide)
  unfold F_X11_refused
  rw [nm_eq, rd_y hin, ck_y hin, nm_eq]
  rfl
theorem C_accepted (v : Int32) (σ : xS) : F_X11_accepted v σ = some (v, uI σ 14 0) := rfl
theorem R_tellN {v : Int32} (hv : isRef v) (τ : xS) : F_X12_tell v τ = some (v, refR τ v) := by
  have hin : vp_in (-v) 7 := by rcases hv with rfl | rfl | rfl | rfl <;> exact vp_in_dec (by decide)
  have hn : ¬ 0 ≤ v := by rcases hv with rfl | rfl | rfl | rfl <;> decide
  unfold F_X12_tell F_X12_tell_10
  rw [if_neg hn, nm_eq, if_neg hn, rd_y hin, ck_y hin, nm_eq]
  rfl
theorem R_tellP {v : Int32} (hv : 0 ≤ v) (τ : xS) : F_X12_tell v τ = some (v, uI τ 1 0) := by
  unfold F_X12_tell F_X12_tell_10
  rw [if_pos hv, nm_eq, if_pos hv]
theorem Sim_thr {σ τ : xS} (h : Sim σ τ) : Sim σ (uI τ 0 0) := h
theorem Sim_acc {σ τ : xS} (h : Sim σ τ) : Sim (uI σ 14 0) (uI τ 1 0) := ⟨h.1, (SimIm_of h.2.1 rfl (fun k => ⟨rfl, rfl⟩) ⟨rfl, rfl⟩ rfl rfl rfl), h.2.2.1, ⟨h.2.2.2.1.1, h.2.2.2.1.2.1, rfl, h.2.2.2.1.2.2.2⟩, h.2.2.2.2.1, h.2.2.2.2.2⟩
theorem Sim_ref {σ τ : xS} {v : Int32} (hv : isRef v) (h : Sim σ τ) : Sim (refC σ v) (refR τ v) := by
  refine ⟨h.1, (SimIm_of h.2.1 rfl (fun k => ⟨rfl, rfl⟩) ⟨rfl, rfl⟩ rfl rfl rfl), h.2.2.1, ⟨h.2.2.2.1.1, h.2.2.2.1.2.1, rfl, fun j hj => ?_⟩, h.2.2.2.2.1, h.2.2.2.2.2⟩
  have h4 := h.2.2.2.1.2.2.2
  have hl : (-v).toNatClampNeg < 7 := by rcases hv with rfl | rfl | rfl | rfl <;> decide
  show upd (sA σ 4) _ _ j = upd (sA τ 2) _ _ j
  unfold upd
  rw [h4 _ hl, h4 j hj]
/-! ===== the steps that only read ===== -/
theorem st_foxed : ∀ (σ τ : xS), Sim σ τ → ∀ (_ : Unit), ∃ (r : Int32) (σ1 τ1 : xS), F_X11_foxed σ = some (r, σ1) ∧ F_X12_foxed τ = some (r, τ1) ∧ Sim σ1 τ1 := fun σ τ h _ => ⟨_, σ, uI τ 0 0, rfl, by rw [h.2.2.2.1.2.1]; rfl, h⟩
theorem st_fault : ∀ (σ τ : xS), Sim σ τ → ∀ (_ : Unit), ∃ (r : Int32) (σ1 τ1 : xS), F_X11_fault σ = some (r, σ1) ∧ F_X12_fault τ = some (r, τ1) ∧ Sim σ1 τ1 := fun σ τ h _ => ⟨_, σ, uI τ 0 0, rfl, by rw [h.2.2.2.1.1]; rfl, h⟩
theorem st_status : ∀ (σ τ : xS), Sim σ τ → ∀ (_ : Unit), ∃ (r : Int32) (σ1 τ1 : xS), F_X11_status σ = some (r, σ1) ∧ F_X12_status τ = some (r, τ1) ∧ Sim σ1 τ1 := fun σ τ h _ => ⟨_, σ, uI τ 0 0, rfl, by rw [h.2.2.2.1.2.2.1]; rfl, h⟩
theorem st_end : ∀ (σ τ : xS), Sim σ τ → ∀ (a1 : Int32), ∃ (r : Int32) (σ1 τ1 : xS), F_X11_end a1 σ = some (r, σ1) ∧ F_X12_end a1 τ = some (r, τ1) ∧ Sim σ1 τ1 := by
  intro σ τ h a1
  obtain ⟨e8, hr, ht⟩ := h.2.2.1
  by_cases h1 : a1 < 0
  · refine ⟨-1, σ, uI τ 0 0, ?_, ?_, h⟩
    · unfold F_X11_end
      rw [C_isWithin, bd_eq, if_pos (b2_0.mpr fun q => absurd q.1 (Int32.not_le.mpr h1))]
    · unfold F_X12_end
      rw [nm_eq, if_pos h1]
  · by_cases h2 : a1 ≤ sI σ 11
    · refine ⟨a1, uI σ 11 a1, uI (uI τ 0 0) 8 a1, ?_, ?_, h.1, (SimIm_of h.2.1 rfl (fun k => ⟨rfl, rfl⟩) ⟨rfl, rfl⟩ rfl rfl rfl), ⟨rfl, ?_, ht⟩, h.2.2.2⟩
      · unfold F_X11_end
        rw [C_isWithin, bd_eq, if_neg (fun q => b2_0.mp q ⟨Int32.not_lt.mp h1, h2⟩), nm_eq]
      · unfold F_X12_end
        rw [nm_eq, if_neg h1, if_pos (show a1 ≤ sI (uI τ 0 0) 8 from e8 ▸ h2), nm_eq]
      · have h3 := Int32.not_lt.mp h1
        rw [e8] at h2
        rw [Int32.le_iff_toInt_le] at h2 h3
        show 0 ≤ a1.toInt ∧ a1.toInt ≤ 400
        have e0 : (0 : Int32).toInt = 0 := rfl
        omega
    · refine ⟨-1, σ, uI τ 0 0, ?_, ?_, h⟩
      · unfold F_X11_end
        rw [C_isWithin, bd_eq, if_pos (b2_0.mpr fun q => h2 q.2)]
      · unfold F_X12_end
        rw [nm_eq, if_neg h1, if_neg (show ¬ a1 ≤ sI (uI τ 0 0) 8 from e8 ▸ h2)]
