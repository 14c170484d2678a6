/-! ===== pure steps: the stock's calls ===== -/
/-- all that the relation reads, but the stock, stands as it was (class, reference) -/
def kpC (σ σ' : xS) : Prop := sA σ' 2 = sA σ 2 ∧ (∀ k, rowC σ' 1 k = rowC σ 1 k ∧ rowC σ' 2 k = rowC σ 2 k) ∧ sQ σ' = sQ σ ∧ sP σ' = sP σ ∧ (sI σ' 11 = sI σ 11 ∧ sI σ' 12 = sI σ 12 ∧ sI σ' 13 = sI σ 13 ∧ sI σ' 14 = sI σ 14) ∧ sA σ' 3 = sA σ 3 ∧ sA σ' 4 = sA σ 4 ∧ sA σ' 100 = sA σ 100 ∧ sA σ' 101 = sA σ 101
def kpR (τ τ' : xS) : Prop := sA τ' 4 = sA τ 4 ∧ sA τ' 5 = sA τ 5 ∧ sA τ' 7 = sA τ 7 ∧ sA τ' 2 = sA τ 2 ∧ sA τ' 42 = sA τ 42 ∧ sA τ' 43 = sA τ 43 ∧ (sI τ' 8 = sI τ 8 ∧ sI τ' 13 = sI τ 13 ∧ sI τ' 6 = sI τ 6 ∧ sI τ' 1 = sI τ 1 ∧ sI τ' 44 = sI τ 44) ∧ sL τ' 25 = sL τ 25 ∧ sL τ' 26 = sL τ 26
theorem Sim_st {σ σ' τ τ' : xS} (h : Sim σ τ) (hk : kpC σ σ') (hr : kpR τ τ') (hs : SimSt σ' τ') : Sim σ' τ' := by
  obtain ⟨hS, hI, hT, hM, hD, hC⟩ := h
  obtain ⟨c1, c2, c3, c4, ⟨c5, c6, c7, c8⟩, c9, c10, c11, c12⟩ := hk
  obtain ⟨r1, r2, r3, r4, r5, r6, ⟨r7, r8, r9, r10, r11⟩, r12, r13⟩ := hr
  refine ⟨hs, SimIm_of hI c1 c2 ⟨by rw [c3], by rw [c3]⟩ c4 r2 r1, ?_, ?_, ?_, ?_⟩
  · unfold SimTp
    rw [c5, r7, c9, r3]
    exact hT
  · unfold SimMi
    rw [c6, c7, c8, c10, r8, r9, r10, r4]
    exact hM
  · unfold SimDi
    rw [c11, c12, r11, r5, r6]
    exact hD
  · unfold SimCo qIn
    rw [c3, c4, r12, r13]
    exact hC
def Row (σ : xS) (ρ : Nat → Int32) : Prop := ∀ k, k < 145 → rowC σ 0 k = ρ k
theorem upd_comm (f : Nat → Int32) {a b : Nat} (x y : Int32) (h : a ≠ b) : upd (upd f a x) b y = upd (upd f b y) a x := by
  funext k
  unfold upd
  by_cases h1 : k = a
  · simp only [if_pos h1, if_neg (show ¬ k = b by omega)]
  · by_cases h2 : k = b
    · simp only [if_neg h1, if_pos h2]
    · simp only [if_neg h1, if_neg h2]
theorem up_up {α : Type} (f : Nat → α) (k : Nat) (x y : α) : va_up (va_up f k x) k y = va_up f k y := by
  funext j
  unfold va_up
  by_cases h : j = k
  · rw [if_pos h, if_pos h]
  · rw [if_neg h, if_neg h, if_neg h]
theorem uA_uA (σ : xS) (k : Nat) (f g : Nat → Int32) : uA (uA σ k f) k g = uA σ k g := by
  show ((va_up (va_up σ.1 k f) k g, σ.2) : xS) = (va_up σ.1 k g, σ.2)
  rw [up_up]
theorem uI_uI (σ : xS) (k : Nat) (f g : Int32) : uI (uI σ k f) k g = uI σ k g := by
  show ((σ.1, σ.2.1, va_up (va_up σ.2.2.1 k f) k g, σ.2.2.2) : xS) = (σ.1, σ.2.1, va_up σ.2.2.1 k g, σ.2.2.2)
  rw [up_up]
theorem uL_uL (σ : xS) (k : Nat) (f g : Nat → Int64) : uL (uL σ k f) k g = uL σ k g := by
  show ((σ.1, va_up (va_up σ.2.1 k f) k g, σ.2.2) : xS) = (σ.1, va_up σ.2.1 k g, σ.2.2)
  rw [up_up]
theorem sA_s (σ : xS) (k : Nat) (f : Nat → Int32) : sA (uA σ k f) k = f := if_pos rfl
theorem sI_s (σ : xS) (k : Nat) (f : Int32) : sI (uI σ k f) k = f := if_pos rfl
theorem sL_s (σ : xS) (k : Nat) (f : Nat → Int64) : sL (uL σ k f) k = f := if_pos rfl
theorem sJ_s (σ : xS) (k : Nat) (f : Int64) : sJ (uJ σ k f) k = f := if_pos rfl
theorem lawsOK_cg {σ σ' : xS} {ρ ρ' : Nat → Int32} (h : lawsOK σ 0 ρ) (hq : sQ σ' = sQ σ) (hp : sP σ' = sP σ) (h1 : ρ' 1 = ρ 1) (h2 : ∀ k, 150 ≤ k → ρ' k = ρ k) : lawsOK σ' 0 ρ' := by
  intro i hi
  rw [h1] at hi
  obtain ⟨d, p, a1, a2, a3⟩ := h i hi
  refine ⟨d, p, by rw [hq]; exact a1, by rw [hp]; exact a2, ?_⟩
  have e : (fun k => ρ' (150 + 900 * i + k)) = fun k => ρ (150 + 900 * i + k) := by
    funext k
    exact h2 _ (by omega)
  rw [e]
  exact a3
def segB (ρ : Nat → Int32) : Prop := ∀ k, k < 145 → loT k ≤ (ρ k).toInt ∧ (ρ k).toInt ≤ hiT k
theorem segB_upd {ρ : Nat → Int32} {k0 : Nat} {v : Int32} (h : segB ρ) (hv : loT k0 ≤ v.toInt ∧ v.toInt ≤ hiT k0) : segB (upd ρ k0 v) := by
  intro k hk
  unfold upd
  by_cases e : k = k0
  · rw [if_pos e, e]
    exact hv
  · rw [if_neg e]
    exact h k hk
theorem loT_0 {k : Nat} (h : k ≠ 2) (h2 : k ≠ 12) : loT k = 0 := by
  unfold loT
  rw [if_neg h, if_neg h2]
theorem bnd {n k : Nat} (h : k ≠ 2) (h2 : k ≠ 12) (hn : n < 2 ^ 31) (hh : (n : Int) ≤ hiT k) : loT k ≤ (nI n).toInt ∧ (nI n).toInt ≤ hiT k := by
  rw [loT_0 h h2, nI_toInt hn]
  exact ⟨Int.natCast_nonneg n, hh⟩
theorem nI_inj {a b : Nat} (ha : a < 2 ^ 31) (hb : b < 2 ^ 31) (h : nI a = nI b) : a = b := (nI_eq ha hb).mp h
theorem nI_ne {a b : Nat} (ha : a < 2 ^ 31) (hb : b < 2 ^ 31) (h : a ≠ b) : ¬ nI a = nI b := fun q => h (nI_inj ha hb q)
theorem nI_m1 {a : Nat} (ha : a < 2 ^ 31) : ¬ nI a = -1 := fun q => by
  have e := congrArg Int32.toInt q
  rw [nI_toInt ha] at e
  have : (-1 : Int32).toInt = -1 := rfl
  omega

theorem Row_u9 {σ : xS} {ρ : Nat → Int32} {j : Nat} {v : Int32} (h : Row σ ρ) (hj : j < 50) : Row (uA σ 9 (upd (sA σ 9) j v)) (upd ρ (13 + j) v) := fun k hk => by
  rw [rowC_u9 σ j v hj k hk, h k hk]
  rfl
theorem Row_u11 {σ : xS} {ρ : Nat → Int32} {j : Nat} {v : Int32} (h : Row σ ρ) (hj : j < 36) : Row (uA σ 11 (upd (sA σ 11) j v)) (upd ρ (63 + j) v) := fun k hk => by
  rw [rowC_u11 σ j v hj k hk, h k hk]
  rfl
theorem Row_u13 {σ : xS} {ρ : Nat → Int32} {j : Nat} {v : Int32} (h : Row σ ρ) (hj : j < 24) : Row (uA σ 13 (upd (sA σ 13) j v)) (upd ρ (99 + j) v) := fun k hk => by
  rw [rowC_u13 σ j v hj k hk, h k hk]
  rfl
theorem Row_u15 {σ : xS} {ρ : Nat → Int32} {j : Nat} {v : Int32} (h : Row σ ρ) (hj : j < 10) : Row (uA σ 15 (upd (sA σ 15) j v)) (upd ρ (123 + j) v) := fun k hk => by
  rw [rowC_u15 σ j v hj k hk, h k hk]
  rfl
theorem Row_u17 {σ : xS} {ρ : Nat → Int32} {j : Nat} {v : Int32} (h : Row σ ρ) (hj : j < 12) : Row (uA σ 17 (upd (sA σ 17) j v)) (upd ρ (133 + j) v) := fun k hk => by
  rw [rowC_u17 σ j v hj k hk, h k hk]
  rfl
theorem Row_u38 {σ : xS} {ρ : Nat → Int32} {j : Nat} {v : Int32} (h : Row σ ρ) (hj : j < 6) : Row (uA σ 38 (upd (sA σ 38) j v)) (upd ρ (7 + j) v) := fun k hk => by
  rw [rowC_u38 σ j v hj k hk, h k hk]
  rfl
theorem Row_s0 {σ : xS} {ρ : Nat → Int32} {v : Int32} (h : Row σ ρ) : Row (uI σ 131 v) (upd ρ 0 v) := fun k hk => by
  rw [rowC_s0 σ v k hk, h k hk]
  rfl
theorem Row_s1 {σ : xS} {ρ : Nat → Int32} {v : Int32} (h : Row σ ρ) : Row (uI σ 87 v) (upd ρ 1 v) := fun k hk => by
  rw [rowC_s1 σ v k hk, h k hk]
  rfl
theorem Row_s2 {σ : xS} {ρ : Nat → Int32} {v : Int32} (h : Row σ ρ) : Row (uI σ 88 v) (upd ρ 2 v) := fun k hk => by
  rw [rowC_s2 σ v k hk, h k hk]
  rfl
theorem Row_s3 {σ : xS} {ρ : Nat → Int32} {v : Int32} (h : Row σ ρ) : Row (uI σ 163 v) (upd ρ 3 v) := fun k hk => by
  rw [rowC_s3 σ v k hk, h k hk]
  rfl
theorem Row_s4 {σ : xS} {ρ : Nat → Int32} {v : Int32} (h : Row σ ρ) : Row (uI σ 195 v) (upd ρ 4 v) := fun k hk => by
  rw [rowC_s4 σ v k hk, h k hk]
  rfl
theorem Row_s5 {σ : xS} {ρ : Nat → Int32} {v : Int32} (h : Row σ ρ) : Row (uI σ 227 v) (upd ρ 5 v) := fun k hk => by
  rw [rowC_s5 σ v k hk, h k hk]
  rfl
theorem Row_s6 {σ : xS} {ρ : Nat → Int32} {v : Int32} (h : Row σ ρ) : Row (uI σ 259 v) (upd ρ 6 v) := fun k hk => by
  rw [rowC_s6 σ v k hk, h k hk]
  rfl
theorem st_of : ∀ (σ τ : xS), Sim σ τ → ∀ (a1 a2 : Int32), ∃ (r : Int32) (σ1 τ1 : xS), F_X11_of a1 a2 σ = some (r, σ1) ∧ F_X12_of a1 a2 τ = some (r, τ1) ∧ Sim σ1 τ1 := by
  intro σ τ0 h0 a1 a2
  have h := Sim_thr h0
  unfold F_X11_of F_X12_of
  simp only [nm_eq]
  generalize uI τ0 0 0 = τ at h ⊢
  obtain ⟨c, hc, e1, e2⟩ := cnt0 h.1
  simp only [R_isBook, R_i0_4, bd_eq, ib2, e2]
  by_cases h1 : 0 ≤ a1 ∧ a1 < nI c
  · rw [if_pos h1]
    by_cases h2 : 0 ≤ a2 ∧ a2 ≤ 4
    · rw [if_pos h2]
      obtain ⟨i, hi, rfl⟩ := idxlt h1 rfl (by omega)
      obtain ⟨w, hw, rfl⟩ := idxle h2 (c := 4) rfl (by omega)
      rw [C_getY (r := 0) e1 (show c ≤ 10 from hc) hi (show w < 5 by omega), bd_eq, R_ofBook (by omega) (by omega), bd_eq]
      refine ⟨_, _, _, rfl, ?_, h⟩
      rw [← cell_book h.1 (by omega) (by omega)]
      rfl
    · rw [if_neg h2, C_getN (r := 0), bd_eq]
      · exact ⟨_, _, _, rfl, rfl, h⟩
      · by_cases h3 : a2 < 0
        · exact Or.inr (Or.inl h3)
        · refine Or.inr (Or.inr ?_)
          show (5 : Int32) ≤ a2
          have h4 : ¬ a2 ≤ 4 := fun q => h2 ⟨Int32.not_lt.mp h3, q⟩
          rw [Int32.le_iff_toInt_le] at h4 ⊢
          have e4 : (4 : Int32).toInt = 4 := rfl
          have e5 : (5 : Int32).toInt = 5 := rfl
          omega
  · rw [if_neg h1, C_getN (r := 0) (Or.inl (show ¬ (0 ≤ a1 ∧ a1 < sI σ 131) by rw [e1]; exact h1)), bd_eq]
    exact ⟨_, _, _, rfl, rfl, h⟩
theorem R_fits (a v : Int32) (τ : xS) : F_X12_fits a v τ = some (b2 ((0 ≤ a ∧ a ≤ 4) ∧ (0 ≤ v ∧ v ≤ tB a.toNatClampNeg)), τ) := by
  unfold F_X12_fits
  by_cases h : 0 ≤ a ∧ a ≤ 4
  · obtain ⟨w, hw, rfl⟩ := idxle h (c := 4) rfl (by omega)
    rcases (show w = 0 ∨ w = 1 ∨ w = 2 ∨ w = 3 ∨ w = 4 by omega) with rfl | rfl | rfl | rfl | rfl
    · rw [if_pos (by decide), R_i0_9, bd_eq, cz_b2]
      exact congrArg (fun x => some (x, τ)) (b2_iff ⟨fun q => ⟨h, q⟩, fun q => q.2⟩)
    · rw [if_neg (by decide), if_pos (by decide), R_i0_999, bd_eq, cz_b2]
      exact congrArg (fun x => some (x, τ)) (b2_iff ⟨fun q => ⟨h, q⟩, fun q => q.2⟩)
    · rw [if_neg (by decide), if_neg (by decide), if_pos (by decide), R_i0_99, bd_eq, cz_b2]
      exact congrArg (fun x => some (x, τ)) (b2_iff ⟨fun q => ⟨h, q⟩, fun q => q.2⟩)
    · rw [if_neg (by decide), if_neg (by decide), if_neg (by decide), if_pos (by decide), R_i0_999, bd_eq, cz_b2]
      exact congrArg (fun x => some (x, τ)) (b2_iff ⟨fun q => ⟨h, q⟩, fun q => q.2⟩)
    · rw [if_neg (by decide), if_neg (by decide), if_neg (by decide), if_neg (by decide), if_pos (by decide), R_i0_2, bd_eq, cz_b2]
      exact congrArg (fun x => some (x, τ)) (b2_iff ⟨fun q => ⟨h, q⟩, fun q => q.2⟩)
  · rw [if_neg (fun q => h (by rw [q]; decide)), if_neg (fun q => h (by rw [q]; decide)), if_neg (fun q => h (by rw [q]; decide)), if_neg (fun q => h (by rw [q]; decide)), if_neg (fun q => h (by rw [q]; decide)), cz_0]
    unfold b2
    rw [if_neg (fun q => h q.1)]
theorem R_isTerm (a v : Int32) (τ : xS) : F_X12_isTerm a v τ = some (b2 ((0 ≤ a ∧ a ≤ 5) ∧ (tL a.toNatClampNeg ≤ v ∧ v ≤ tM a.toNatClampNeg)), τ) := by
  unfold F_X12_isTerm
  by_cases h : 0 ≤ a ∧ a ≤ 5
  · obtain ⟨w, hw, rfl⟩ := idxle h (c := 5) rfl (by omega)
    rcases (show w = 0 ∨ w = 1 ∨ w = 2 ∨ w = 3 ∨ w = 4 ∨ w = 5 by omega) with rfl | rfl | rfl | rfl | rfl | rfl
    · rw [if_pos (by decide), R_i0_51, bd_eq, cz_b2]
      exact congrArg (fun x => some (x, τ)) (b2_iff ⟨fun q => ⟨h, q⟩, fun q => q.2⟩)
    · rw [if_neg (by decide), if_pos (by decide), R_i0_1, bd_eq, cz_b2]
      exact congrArg (fun x => some (x, τ)) (b2_iff ⟨fun q => ⟨h, q⟩, fun q => q.2⟩)
    · rw [if_neg (by decide), if_neg (by decide), if_pos (by decide), R_i0_99, bd_eq, cz_b2]
      exact congrArg (fun x => some (x, τ)) (b2_iff ⟨fun q => ⟨h, q⟩, fun q => q.2⟩)
    · rw [if_neg (by decide), if_neg (by decide), if_neg (by decide), if_pos (by decide), R_i0_999, bd_eq, cz_b2]
      exact congrArg (fun x => some (x, τ)) (b2_iff ⟨fun q => ⟨h, q⟩, fun q => q.2⟩)
    · rw [if_neg (by decide), if_neg (by decide), if_neg (by decide), if_neg (by decide), if_pos (by decide), R_i0_9, bd_eq, cz_b2]
      exact congrArg (fun x => some (x, τ)) (b2_iff ⟨fun q => ⟨h, q⟩, fun q => q.2⟩)
    · rw [if_neg (by decide), if_neg (by decide), if_neg (by decide), if_neg (by decide), if_neg (by decide), if_pos (by decide), R_i1_99, bd_eq, cz_b2]
      exact congrArg (fun x => some (x, τ)) (b2_iff ⟨fun q => ⟨h, q⟩, fun q => q.2⟩)
  · rw [if_neg (fun q => h (by rw [q]; decide)), if_neg (fun q => h (by rw [q]; decide)), if_neg (fun q => h (by rw [q]; decide)), if_neg (fun q => h (by rw [q]; decide)), if_neg (fun q => h (by rw [q]; decide)), if_neg (fun q => h (by rw [q]; decide)), cz_0]
    unfold b2
    rw [if_neg (fun q => h q.1)]
theorem has_if {α : Type} (r : Nat) (a : Int32) (σ : xS) {c : Nat} (e : sI σ (16 * (8 + 2 * r) + 3) = nI c) (A : Int32 → xS → Option α) : bd (F_X6_has r a σ) A = A (b2 (0 ≤ a ∧ a < nI c)) σ := by
  rw [C_has, bd_eq, e]
theorem SimSt_mk {σ σ' τ τ' : xS} (h : SimSt σ τ) (hr : Row σ' (sA τ' 3)) (hs : segOK (sA τ' 3)) (hq : sQ σ' = sQ σ) (hp : sP σ' = sP σ) (h1 : sA τ' 3 1 = sA τ 3 1) (h2 : ∀ k, 150 ≤ k → sA τ' 3 k = sA τ 3 k) : SimSt σ' τ' := ⟨hr, hs, lawsOK_cg h.2.2 hq hp h1 h2⟩

theorem st_put : ∀ (σ τ : xS), Sim σ τ → ∀ (a1 a2 a3 : Int32), ∃ (r : Int32) (σ1 τ1 : xS), F_X11_put a1 a2 a3 σ = some (r, σ1) ∧ F_X12_put a1 a2 a3 τ = some (r, τ1) ∧ Sim σ1 τ1 := by
  intro σ τ0 h0 a1 a2 a3
  have h := Sim_thr h0
  unfold F_X11_put F_X12_put F_X11_put_22
  simp only [nm_eq]
  generalize uI τ0 0 0 = τ at h ⊢
  obtain ⟨c, hc, e1, e2⟩ := cnt0 h.1
  simp only [R_fits, R_isBook, C_isWithin, bd_eq, ib2, e2, C_r1, C_r2, R_t1, R_t2, R_i0_4, has_if 0 a1 σ e1]
  by_cases h2 : 0 ≤ a2 ∧ a2 ≤ 4
  · obtain ⟨w, hw, rfl⟩ := idxle h2 (c := 4) rfl (by omega)
    rw [if_pos h2, rd_n (by omega) (by decide), nI_clamp (by omega)]
    by_cases h3 : 0 ≤ a3 ∧ a3 ≤ tB w
    · simp only [if_pos h3, if_pos (And.intro h2 h3)]
      by_cases h1 : 0 ≤ a1 ∧ a1 < nI c
      · simp only [if_pos h1]
        obtain ⟨i, hi, rfl⟩ := idxlt h1 rfl (by omega)
        have ei : (13 : Int32) + (5 * nI i) + nI w = nI (13 + (i * 5 + w)) := by
          show nI 13 + nI 5 * nI i + nI w = _
          rw [pk_mul, nI_add, nI_add, show 13 + 5 * i + w = 13 + (i * 5 + w) by omega]
        rw [C_getY (r := 0) e1 (show c ≤ 10 from hc) hi (show w < 5 by omega), bd_eq, C_setY (r := 0) e1 (show c ≤ 10 from hc) hi (show w < 5 by omega), bd_eq, C_accepted, bd_eq, ei, R_change (by omega), bd_eq]
        refine ⟨_, _, _, rfl, ?_, Sim_acc (σ := uA σ 9 (upd (sA σ 9) (i * 5 + w) a3)) (τ := uA τ 3 (upd (sA τ 3) (13 + (i * 5 + w)) a3)) (Sim_st h ⟨rfl, fun k => ⟨rfl, rfl⟩, rfl, rfl, ⟨rfl, rfl, rfl, rfl⟩, rfl, rfl, rfl, rfl⟩ ⟨rfl, rfl, rfl, rfl, rfl, rfl, ⟨rfl, rfl, rfl, rfl, rfl⟩, rfl, rfl⟩ (SimSt_upd h.1 (by omega) (by omega) (rowC_u9 σ (i * 5 + w) a3 (by omega)) (segOK_upd h.1.2.1 (by omega) (by omega) (by omega) ?_) rfl rfl))⟩
        · rw [show 13 + (i * 5 + w) = 13 + 5 * i + w by omega, ← cell_book h.1 (by omega) (by omega)]
          rfl
        · rw [show 13 + (i * 5 + w) = 13 + 5 * i + w by omega, hi_book i (by omega) w (by omega), loT_0 (by omega) (by omega)]
          rw [Int32.le_iff_toInt_le, Int32.le_iff_toInt_le] at h3
          rcases (show w = 0 ∨ w = 1 ∨ w = 2 ∨ w = 3 ∨ w = 4 by omega) with rfl | rfl | rfl | rfl | rfl <;> exact h3
      · simp only [if_neg h1]
        exact ⟨_, _, _, rfl, rfl, Sim_ref (Or.inr (Or.inl rfl)) h⟩
    · simp only [if_neg h3, if_neg (fun q : (0 ≤ nI w ∧ nI w ≤ 4) ∧ (0 ≤ a3 ∧ a3 ≤ tB w) => h3 q.2)]
      exact ⟨_, _, _, rfl, rfl, Sim_ref (Or.inl rfl) h⟩
  · simp only [if_neg h2, if_neg (fun q : (_ ∧ _) ∧ (_ ∧ _) => h2 q.1)]
    exact ⟨_, _, _, rfl, rfl, Sim_ref (Or.inl rfl) h⟩
theorem st_terms : ∀ (σ τ : xS), Sim σ τ → ∀ (a1 a2 : Int32), ∃ (r : Int32) (σ1 τ1 : xS), F_X11_terms a1 a2 σ = some (r, σ1) ∧ F_X12_terms a1 a2 τ = some (r, τ1) ∧ Sim σ1 τ1 := by
  intro σ τ0 h0 a1 a2
  have h := Sim_thr h0
  unfold F_X11_terms F_X12_terms F_X11_terms_26
  simp only [nm_eq]
  generalize uI τ0 0 0 = τ at h ⊢
  simp only [R_isTerm, C_isWithin, bd_eq, ib2, C_r1, R_t1]
  by_cases h2 : 0 ≤ a1 ∧ a1 ≤ 5
  · obtain ⟨w, hw, rfl⟩ := idxle h2 (c := 5) rfl (by omega)
    rw [if_pos h2, rd_n (by omega) (by decide), rd_n (by omega) (by decide), nI_clamp (by omega)]
    by_cases h3 : tL w ≤ a2 ∧ a2 ≤ tM w
    · simp only [if_pos h3, if_pos (And.intro h2 h3)]
      rw [rd_n (by omega) (by decide), ck_n (by omega) (by decide), C_accepted, bd_eq, show (7 : Int32) + nI w = nI (7 + w) from nI_add 7 w, R_change (by omega), bd_eq]
      refine ⟨_, _, _, rfl, ?_, Sim_acc (σ := uA σ 38 (upd (sA σ 38) w a2)) (τ := uA τ 3 (upd (sA τ 3) (7 + w) a2)) (Sim_st h ⟨rfl, fun k => ⟨rfl, rfl⟩, rfl, rfl, ⟨rfl, rfl, rfl, rfl⟩, rfl, rfl, rfl, rfl⟩ ⟨rfl, rfl, rfl, rfl, rfl, rfl, ⟨rfl, rfl, rfl, rfl, rfl⟩, rfl, rfl⟩ (SimSt_upd h.1 (by omega) (by omega) (rowC_u38 σ w a2 (by omega)) (segOK_upd h.1.2.1 (by omega) (by omega) (by omega) ?_) rfl rfl))⟩
      · rw [← cell_term h.1 (by omega)]
      · rw [Int32.le_iff_toInt_le, Int32.le_iff_toInt_le] at h3
        rcases (show w = 0 ∨ w = 1 ∨ w = 2 ∨ w = 3 ∨ w = 4 ∨ w = 5 by omega) with rfl | rfl | rfl | rfl | rfl | rfl <;> exact h3
    · simp only [if_neg h3, if_neg (fun q : (0 ≤ nI w ∧ nI w ≤ 5) ∧ (tL w ≤ a2 ∧ a2 ≤ tM w) => h3 q.2)]
      exact ⟨_, _, _, rfl, rfl, Sim_ref (Or.inl rfl) h⟩
  · simp only [if_neg h2, if_neg (fun q : (_ ∧ _) ∧ (_ ∧ _) => h2 q.1)]
    exact ⟨_, _, _, rfl, rfl, Sim_ref (Or.inl rfl) h⟩
