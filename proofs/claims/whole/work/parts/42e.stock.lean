/-! ===== pure steps: the stock ===== -/
theorem ib2 {α : Type} {p : Prop} [Decidable p] (A B : α) : (if b2 p = 0 then A else B) = if p then B else A := by
  by_cases h : p
  · rw [if_pos h, if_neg (fun q => b2_0.mp q h)]
  · rw [if_neg h, if_pos (b2_0.mpr h)]
theorem R_i0_9 (a : Int32) (τ : xS) : F_X12_in a.toInt64 0 9 τ = some (b2 (0 ≤ a ∧ a ≤ 9), τ) := R_inI a 0 9 τ
theorem R_i0_999 (a : Int32) (τ : xS) : F_X12_in a.toInt64 0 999 τ = some (b2 (0 ≤ a ∧ a ≤ 999), τ) := R_inI a 0 999 τ
theorem R_i0_99 (a : Int32) (τ : xS) : F_X12_in a.toInt64 0 99 τ = some (b2 (0 ≤ a ∧ a ≤ 99), τ) := R_inI a 0 99 τ
theorem R_i0_2 (a : Int32) (τ : xS) : F_X12_in a.toInt64 0 2 τ = some (b2 (0 ≤ a ∧ a ≤ 2), τ) := R_inI a 0 2 τ
theorem R_i0_51 (a : Int32) (τ : xS) : F_X12_in a.toInt64 0 51 τ = some (b2 (0 ≤ a ∧ a ≤ 51), τ) := R_inI a 0 51 τ
theorem R_i0_1 (a : Int32) (τ : xS) : F_X12_in a.toInt64 0 1 τ = some (b2 (0 ≤ a ∧ a ≤ 1), τ) := R_inI a 0 1 τ
theorem R_i0_4 (a : Int32) (τ : xS) : F_X12_in a.toInt64 0 4 τ = some (b2 (0 ≤ a ∧ a ≤ 4), τ) := R_inI a 0 4 τ
theorem R_i1_99 (a : Int32) (τ : xS) : F_X12_in a.toInt64 1 99 τ = some (b2 (1 ≤ a ∧ a ≤ 99), τ) := R_inI a 1 99 τ
theorem R_i0_2000 (a : Int32) (τ : xS) : F_X12_in a.toInt64 0 2000 τ = some (b2 (0 ≤ a ∧ a ≤ 2000), τ) := R_inI a 0 2000 τ
theorem R_i1_6 (a : Int32) (τ : xS) : F_X12_in a.toInt64 1 6 τ = some (b2 (1 ≤ a ∧ a ≤ 6), τ) := R_inI a 1 6 τ
theorem R_i0_6 (a : Int32) (τ : xS) : F_X12_in a.toInt64 0 6 τ = some (b2 (0 ≤ a ∧ a ≤ 6), τ) := R_inI a 0 6 τ
theorem R_i1_20 (a : Int32) (τ : xS) : F_X12_in a.toInt64 1 20 τ = some (b2 (1 ≤ a ∧ a ≤ 20), τ) := R_inI a 1 20 τ
theorem R_i0_9999 (a : Int32) (τ : xS) : F_X12_in a.toInt64 0 9999 τ = some (b2 (0 ≤ a ∧ a ≤ 9999), τ) := R_inI a 0 9999 τ
theorem R_i0_10 (a : Int32) (τ : xS) : F_X12_in a.toInt64 0 10 τ = some (b2 (0 ≤ a ∧ a ≤ 10), τ) := R_inI a 0 10 τ
theorem R_i0_100 (a : Int32) (τ : xS) : F_X12_in a.toInt64 0 100 τ = some (b2 (0 ≤ a ∧ a ≤ 100), τ) := R_inI a 0 100 τ
theorem R_i12_17 (a : Int32) (τ : xS) : F_X12_in a.toInt64 12 17 τ = some (b2 (12 ≤ a ∧ a ≤ 17), τ) := R_inI a 12 17 τ
theorem R_i0_1000000 (a : Int32) (τ : xS) : F_X12_in a.toInt64 0 1000000 τ = some (b2 (0 ≤ a ∧ a ≤ 1000000), τ) := R_inI a 0 1000000 τ
theorem R_i1_40 (a : Int32) (τ : xS) : F_X12_in a.toInt64 1 40 τ = some (b2 (1 ≤ a ∧ a ≤ 40), τ) := R_inI a 1 40 τ
theorem R_i24_26 (a : Int32) (τ : xS) : F_X12_in a.toInt64 24 26 τ = some (b2 (24 ≤ a ∧ a ≤ 26), τ) := R_inI a 24 26 τ
theorem R_i20_23 (a : Int32) (τ : xS) : F_X12_in a.toInt64 20 23 τ = some (b2 (20 ≤ a ∧ a ≤ 23), τ) := R_inI a 20 23 τ
theorem R_t1 (τ : xS) : F_X12_tell (-1) τ = some (-1, refR τ (-1)) := R_tellN (Or.inl rfl) τ
theorem R_t2 (τ : xS) : F_X12_tell (-2) τ = some (-2, refR τ (-2)) := R_tellN (Or.inr (Or.inl rfl)) τ
theorem R_t5 (τ : xS) : F_X12_tell (-5) τ = some (-5, refR τ (-5)) := R_tellN (Or.inr (Or.inr (Or.inl rfl))) τ
theorem R_t6 (τ : xS) : F_X12_tell (-6) τ = some (-6, refR τ (-6)) := R_tellN (Or.inr (Or.inr (Or.inr rfl))) τ
theorem C_r1 (σ : xS) : F_X11_refused (-1) σ = some (-1, refC σ (-1)) := C_refused (Or.inl rfl) σ
theorem C_r2 (σ : xS) : F_X11_refused (-2) σ = some (-2, refC σ (-2)) := C_refused (Or.inr (Or.inl rfl)) σ
theorem C_r5 (σ : xS) : F_X11_refused (-5) σ = some (-5, refC σ (-5)) := C_refused (Or.inr (Or.inr (Or.inl rfl))) σ
theorem C_r6 (σ : xS) : F_X11_refused (-6) σ = some (-6, refC σ (-6)) := C_refused (Or.inr (Or.inr (Or.inr rfl))) σ
theorem R_tN {n : Nat} (h : n < 2 ^ 31) (τ : xS) : F_X12_tell (nI n) τ = some (nI n, uI τ 1 0) := R_tellP (nI_pos' h) τ
theorem S_r1 {σ τ : xS} (h : Sim σ τ) : Sim (refC σ (-1)) (refR (uI τ 0 0) (-1)) := Sim_ref (Or.inl rfl) (Sim_thr h)
theorem S_r2 {σ τ : xS} (h : Sim σ τ) : Sim (refC σ (-2)) (refR (uI τ 0 0) (-2)) := Sim_ref (Or.inr (Or.inl rfl)) (Sim_thr h)
theorem S_r5 {σ τ : xS} (h : Sim σ τ) : Sim (refC σ (-5)) (refR (uI τ 0 0) (-5)) := Sim_ref (Or.inr (Or.inr (Or.inl rfl))) (Sim_thr h)
theorem S_r6 {σ τ : xS} (h : Sim σ τ) : Sim (refC σ (-6)) (refR (uI τ 0 0) (-6)) := Sim_ref (Or.inr (Or.inr (Or.inr rfl))) (Sim_thr h)
theorem idxlt {x N : Int32} {c : Nat} (h : 0 ≤ x ∧ x < N) (e : N = nI c) (hc : c < 2 ^ 31) : ∃ i, i < c ∧ x = nI i := by
  obtain ⟨h1, h2⟩ := h
  rw [e, Int32.lt_iff_toInt_lt, nI_toInt hc] at h2
  rw [Int32.le_iff_toInt_le] at h1
  exact i_of h1 h2 hc
theorem idxle {x N : Int32} {c : Nat} (h : 0 ≤ x ∧ x ≤ N) (e : N = nI c) (hc : c + 1 < 2 ^ 31) : ∃ i, i ≤ c ∧ x = nI i := by
  obtain ⟨h1, h2⟩ := h
  rw [e, Int32.le_iff_toInt_le, nI_toInt (by omega)] at h2
  rw [Int32.le_iff_toInt_le] at h1
  have e0 : (0 : Int32).toInt = 0 := rfl
  obtain ⟨i, hi, e1⟩ := i_of (x := x) (N := c + 1) (by omega) (by omega) hc
  exact ⟨i, by omega, e1⟩
/-- a place of the row as a number -/
theorem seg_nat {ρ : Nat → Int32} (h : segOK ρ) {k : Nat} (hk : k < 145) (h2 : k ≠ 2) : ∃ n : Nat, (n : Int) ≤ hiT k ∧ ρ k = nI n ∧ (k = 12 → 1 ≤ n) := by
  obtain ⟨a1, a2⟩ := h.1 k hk
  have hb : hiT k ≤ 9999 := by
    unfold hiT
    split
    · rename_i h7
      rcases (show k = 0 ∨ k = 1 ∨ k = 2 ∨ k = 3 ∨ k = 4 ∨ k = 5 ∨ k = 6 by omega) with rfl | rfl | rfl | rfl | rfl | rfl | rfl <;> decide
    · split
      · rename_i h7 h13
        rcases (show k = 7 ∨ k = 8 ∨ k = 9 ∨ k = 10 ∨ k = 11 ∨ k = 12 by omega) with rfl | rfl | rfl | rfl | rfl | rfl <;> decide
      · split
        · rcases (show (k - 13) % 5 = 0 ∨ (k - 13) % 5 = 1 ∨ (k - 13) % 5 = 2 ∨ (k - 13) % 5 = 3 ∨ (k - 13) % 5 = 4 by omega) with e | e | e | e | e <;> rw [e] <;> decide
        · split
          · rcases (show (k - 63) % 3 = 0 ∨ (k - 63) % 3 = 1 ∨ (k - 63) % 3 = 2 by omega) with e | e | e <;> rw [e] <;> decide
          · split
            · rcases (show (k - 99) % 3 = 0 ∨ (k - 99) % 3 = 1 ∨ (k - 99) % 3 = 2 by omega) with e | e | e <;> rw [e] <;> decide
            · split <;> decide
  have hl : 0 ≤ loT k := by
    unfold loT
    rw [if_neg h2]
    split <;> decide
  obtain ⟨n, hn, e⟩ := i_of (x := ρ k) (N := 10000) (by omega) (by omega) (by decide)
  refine ⟨n, ?_, e, fun e12 => ?_⟩
  · rw [e, nI_toInt (by omega)] at a2
    exact a2
  · subst e12
    rw [e, nI_toInt (by omega)] at a1
    have : loT 12 = 1 := rfl
    omega
theorem hi_book (i : Nat) (hi : i < 10) (w : Nat) (hw : w < 5) : hiT (13 + 5 * i + w) = [9, 999, 99, 999, 2].getD w 0 := by
  unfold hiT
  rw [if_neg (by omega), if_neg (by omega), if_pos (by omega), show (13 + 5 * i + w - 13) % 5 = w by omega]
theorem hi_box (i : Nat) (hi : i < 12) (w : Nat) (hw : w < 3) : hiT (63 + 3 * i + w) = [20, 20, 9999].getD w 0 := by
  unfold hiT
  rw [if_neg (by omega), if_neg (by omega), if_neg (by omega), if_pos (by omega), show (63 + 3 * i + w - 63) % 3 = w by omega]
theorem hi_card (i : Nat) (hi : i < 8) (w : Nat) (hw : w < 3) : hiT (99 + 3 * i + w) = [9, 99, 999].getD w 0 := by
  unfold hiT
  rw [if_neg (by omega), if_neg (by omega), if_neg (by omega), if_neg (by omega), if_pos (by omega), show (99 + 3 * i + w - 99) % 3 = w by omega]
theorem hi_oct (i : Nat) (hi : i < 10) : hiT (123 + i) = 999 := by
  unfold hiT
  rw [if_neg (by omega), if_neg (by omega), if_neg (by omega), if_neg (by omega), if_neg (by omega), if_pos (by omega)]
theorem hi_mark (i : Nat) (hi : i < 12) : hiT (133 + i) = 100 := by
  unfold hiT
  rw [if_neg (by omega), if_neg (by omega), if_neg (by omega), if_neg (by omega), if_neg (by omega), if_neg (by omega)]

theorem cnt0 {σ τ : xS} (h : SimSt σ τ) : ∃ c : Nat, c ≤ 10 ∧ sI σ 131 = nI c ∧ sA τ 3 0 = nI c := by
  obtain ⟨n, h1, h2, -⟩ := seg_nat h.2.1 (k := 0) (by decide) (by decide)
  have e : hiT 0 = 10 := rfl
  have e2 : rowC σ 0 0 = sI σ 131 := rfl
  exact ⟨n, by omega, by rw [← e2, h.1 0 (by decide), h2], h2⟩
theorem cnt1 {σ τ : xS} (h : SimSt σ τ) : ∃ c : Nat, c ≤ 12 ∧ sI σ 163 = nI c ∧ sA τ 3 3 = nI c := by
  obtain ⟨n, h1, h2, -⟩ := seg_nat h.2.1 (k := 3) (by decide) (by decide)
  have e : hiT 3 = 12 := rfl
  have e2 : rowC σ 0 3 = sI σ 163 := rfl
  exact ⟨n, by omega, by rw [← e2, h.1 3 (by decide), h2], h2⟩
theorem cnt2 {σ τ : xS} (h : SimSt σ τ) : ∃ c : Nat, c ≤ 8 ∧ sI σ 195 = nI c ∧ sA τ 3 4 = nI c := by
  obtain ⟨n, h1, h2, -⟩ := seg_nat h.2.1 (k := 4) (by decide) (by decide)
  have e : hiT 4 = 8 := rfl
  have e2 : rowC σ 0 4 = sI σ 195 := rfl
  exact ⟨n, by omega, by rw [← e2, h.1 4 (by decide), h2], h2⟩
theorem cnt3 {σ τ : xS} (h : SimSt σ τ) : ∃ c : Nat, c ≤ 10 ∧ sI σ 227 = nI c ∧ sA τ 3 5 = nI c := by
  obtain ⟨n, h1, h2, -⟩ := seg_nat h.2.1 (k := 5) (by decide) (by decide)
  have e : hiT 5 = 10 := rfl
  have e2 : rowC σ 0 5 = sI σ 227 := rfl
  exact ⟨n, by omega, by rw [← e2, h.1 5 (by decide), h2], h2⟩
theorem cnt4 {σ τ : xS} (h : SimSt σ τ) : ∃ c : Nat, c ≤ 6 ∧ sI σ 259 = nI c ∧ sA τ 3 6 = nI c := by
  obtain ⟨n, h1, h2, -⟩ := seg_nat h.2.1 (k := 6) (by decide) (by decide)
  have e : hiT 6 = 6 := rfl
  have e2 : rowC σ 0 6 = sI σ 259 := rfl
  exact ⟨n, by omega, by rw [← e2, h.1 6 (by decide), h2], h2⟩
theorem cntL {σ τ : xS} (h : SimSt σ τ) : ∃ c : Nat, c ≤ 6 ∧ sI σ 87 = nI c ∧ sA τ 3 1 = nI c := by
  obtain ⟨n, h1, h2, -⟩ := seg_nat h.2.1 (k := 1) (by decide) (by decide)
  have e : hiT 1 = 6 := rfl
  have e2 : rowC σ 0 1 = sI σ 87 := rfl
  exact ⟨n, by omega, by rw [← e2, h.1 1 (by decide), h2], h2⟩
theorem cell_book {σ τ : xS} (h : SimSt σ τ) {i w : Nat} (hi : i < 10) (hw : w < 5) : sA σ 9 (i * 5 + w) = sA τ 3 (13 + 5 * i + w) := by
  have e := h.1 (13 + 5 * i + w) (by omega)
  rw [show 13 + 5 * i + w = 13 + (i * 5 + w) by omega, rowC_i9 _ _ (by omega)] at e
  rw [e, show 13 + 5 * i + w = 13 + (i * 5 + w) by omega]
theorem cell_box {σ τ : xS} (h : SimSt σ τ) {i w : Nat} (hi : i < 12) (hw : w < 3) : sA σ 11 (i * 3 + w) = sA τ 3 (63 + 3 * i + w) := by
  have e := h.1 (63 + 3 * i + w) (by omega)
  rw [show 63 + 3 * i + w = 63 + (i * 3 + w) by omega, rowC_i11 _ _ (by omega)] at e
  rw [e, show 63 + 3 * i + w = 63 + (i * 3 + w) by omega]
theorem cell_card {σ τ : xS} (h : SimSt σ τ) {i w : Nat} (hi : i < 8) (hw : w < 3) : sA σ 13 (i * 3 + w) = sA τ 3 (99 + 3 * i + w) := by
  have e := h.1 (99 + 3 * i + w) (by omega)
  rw [show 99 + 3 * i + w = 99 + (i * 3 + w) by omega, rowC_i13 _ _ (by omega)] at e
  rw [e, show 99 + 3 * i + w = 99 + (i * 3 + w) by omega]
theorem cell_oct {σ τ : xS} (h : SimSt σ τ) {i : Nat} (hi : i < 10) : sA σ 15 i = sA τ 3 (123 + i) := by
  have e := h.1 (123 + i) (by omega)
  rw [rowC_i15 _ _ (by omega)] at e
  exact e
theorem cell_mark {σ τ : xS} (h : SimSt σ τ) {i w : Nat} (hi : i < 6) (hw : w < 2) : sA σ 17 (i * 2 + w) = sA τ 3 (133 + 2 * i + w) := by
  have e := h.1 (133 + 2 * i + w) (by omega)
  rw [show 133 + 2 * i + w = 133 + (i * 2 + w) by omega, rowC_i17 _ _ (by omega)] at e
  rw [e, show 133 + 2 * i + w = 133 + (i * 2 + w) by omega]
theorem cell_term {σ τ : xS} (h : SimSt σ τ) {i : Nat} (hi : i < 6) : sA σ 38 i = sA τ 3 (7 + i) := by
  have e := h.1 (7 + i) (by omega)
  rw [rowC_i38 _ _ (by omega)] at e
  exact e
theorem Sim_of_st {σ σ' τ τ' : xS} (h : Sim σ τ) (hs : SimSt σ' τ') (hi : SimIm σ' τ') (ht : SimTp σ' τ') (hm : SimMi σ' τ') (hd : SimDi σ' τ') (hc : SimCo σ' τ') : Sim σ' τ' := ⟨hs, hi, ht, hm, hd, hc⟩
