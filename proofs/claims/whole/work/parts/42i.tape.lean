/-! ===== pure steps: a row taken out; the tape ===== -/
theorem cp_y {β : Type} {n0 n1 a b n : Nat} (h0 : a + n ≤ n0) (h1 : b + n ≤ n1) (ha : a < 2 ^ 31) (hb : b < 2 ^ 31) (hn : n < 2 ^ 31) (k : Option β) : cp n0 n1 (nI a) (nI b) (nI n) k = k := by
  unfold cp
  rw [nI_clamp ha, nI_clamp hb, nI_clamp hn, if_neg]
  rintro (h | h | h | h | h)
  · exact nI_pos ha h
  · exact nI_pos hb h
  · exact nI_pos hn h
  · omega
  · omega
theorem C_removeY {r i c : Nat} {σ : xS} (hc : sI σ (16 * (8 + 2 * r) + 3) = nI c) (hcap : c ≤ capN r) (hi : i < c) : F_X6_remove r (nI i) σ = some ((), uI (uA σ (9 + 2 * r) (va_cpy (sA σ (9 + 2 * r)) (sA σ (9 + 2 * r)) ((i + 1) * widN r) (i * widN r) ((c - i - 1) * widN r))) (16 * (8 + 2 * r) + 3) (nI (c - 1))) := by
  obtain ⟨e1, e2, e3, e4, e5, e6⟩ := tab_r r
  have hb : capN r * widN r ≤ 60 := Nat.le_trans (Nat.mul_le_mul e6 e5) (by decide)
  have h1 : (i + 1) * widN r + (c - i - 1) * widN r = c * widN r := by
    rw [← Nat.add_mul, show i + 1 + (c - i - 1) = c by omega]
  have h2 : c * widN r ≤ capN r * widN r := Nat.mul_le_mul_right _ hcap
  have h3 : i * widN r ≤ (i + 1) * widN r := Nat.mul_le_mul_right _ (by omega)
  unfold F_X6_remove
  rw [C_hasY hc (by omega) hi, bd_eq, if_neg (by decide), hc, nI_1, pk_sub (by omega), show nI (c - i) - 1 = nI (c - i - 1) from pk_sub (b := 1) (by omega), e2, pk_mul, pk_mul, pk_mul, e3, cp_y (by omega) (by omega) (by omega) (by omega) (by omega), nm_eq, nm_eq, nI_clamp (by omega), nI_clamp (by omega), nI_clamp (by omega), sI_uA, hc, show nI c - 1 = nI (c - 1) from pk_sub (b := 1) (by omega)]
/-- the row with one taken out -/
def outF (f : Nat → Int32) (s j E : Nat) : Nat → Int32 := fun q => if j ≤ q ∧ q < E then f (q + s) else f q
theorem R_out_loop {s E : Nat} (hs : 1 ≤ s) (hE : E + s ≤ 5550) {y1 y4 : Int32} (m : Nat) : ∀ (n j : Nat) (τ : xS), m < n → j + m = E → y1 + nI s * (y4 - 1) = nI E → F_X12_out_7 n y1 (nI s) y4 (nI j) τ = some ((), uA τ 3 (outF (sA τ 3) s j E)) := by
  induction m with
  | zero =>
    intro n j τ hn hj hy
    obtain ⟨n', rfl⟩ : ∃ n', n = n' + 1 := ⟨n - 1, by omega⟩
    unfold F_X12_out_7
    rw [hy, if_pos (nI_le (by omega) (by omega))]
    congr 2
    have e : outF (sA τ 3) s j E = sA τ 3 := by
      funext q
      exact if_neg (by omega)
    rw [e]
    show τ = (va_up τ.1 3 (τ.1 3), τ.2)
    have e2 : va_up τ.1 3 (τ.1 3) = τ.1 := by
      funext q
      unfold va_up
      by_cases h : q = 3
      · rw [if_pos h, h]
      · rw [if_neg h]
    rw [e2]
  | succ m ih =>
    intro n j τ hn hj hy
    obtain ⟨n', rfl⟩ : ∃ n', n = n' + 1 := ⟨n - 1, by omega⟩
    unfold F_X12_out_7
    rw [hy, if_neg (nI_ge (by omega) (by omega)), nI_add, rd_n (by omega) (by decide), ck_n (by omega) (by decide), nm_eq, nm_eq, nI_clamp (by omega), nI_1, ih n' (j + 1) _ (by omega) (by omega) hy, uA_uA, sA_s]
    congr 3
    funext q
    unfold outF upd
    by_cases h1 : q = j
    · subst h1
      rw [if_neg (by omega), if_pos rfl, if_pos (by omega)]
    · by_cases h2 : j ≤ q ∧ q < E
      · rw [if_pos (by omega), if_neg (by omega), if_pos h2]
      · rw [if_neg (by omega), if_neg h1, if_neg h2]
theorem R_outY {s from1 i c : Nat} (hs : 1 ≤ s) (hs2 : s ≤ 5) (hc : c ≤ 12) (hf : from1 ≤ 100) (hi : i < c) (τ : xS) : F_X12_out (nI from1) (nI s) (nI i) (nI c) τ = some ((), uA τ 3 (outF (sA τ 3) s (from1 + s * i) (from1 + s * (c - 1)))) := by
  have h1 : s * (c - 1) ≤ 5 * 12 := Nat.mul_le_mul hs2 (by omega)
  have h2 : s * i ≤ s * (c - 1) := Nat.mul_le_mul_left _ (by omega)
  unfold F_X12_out
  rw [nm_eq, pk_mul, nI_add]
  exact R_out_loop hs (by omega) (from1 + s * (c - 1) - (from1 + s * i)) FU _ τ (by unfold FU; omega) (by omega) (by rw [show nI c - 1 = nI (c - 1) from pk_sub (b := 1) (by omega), pk_mul, nI_add])

theorem rowC_G9 (σ : xS) (g : Nat → Int32) : ∀ k, k < 145 → rowC (uA σ 9 g) 0 k = if 13 ≤ k ∧ k < 63 then g (k - 13) else rowC σ 0 k := by
  intro k hk
  rcases (show k = 0 ∨ k = 1 ∨ k = 2 ∨ k = 3 ∨ k = 4 ∨ k = 5 ∨ k = 6 ∨ (7 ≤ k ∧ k < 13) ∨ (13 ≤ k ∧ k < 63) ∨ (63 ≤ k ∧ k < 99) ∨ (99 ≤ k ∧ k < 123) ∨ (123 ≤ k ∧ k < 133) ∨ (133 ≤ k ∧ k < 145) by omega) with rfl | rfl | rfl | rfl | rfl | rfl | rfl | h | h | h | h | h | h
  · rw [if_neg (by omega)]; rfl
  · rw [if_neg (by omega)]; rfl
  · rw [if_neg (by omega)]; rfl
  · rw [if_neg (by omega)]; rfl
  · rw [if_neg (by omega)]; rfl
  · rw [if_neg (by omega)]; rfl
  · rw [if_neg (by omega)]; rfl
  · rw [rowC_r7 _ _ _ h, rowC_r7 _ _ _ h, if_neg (by omega)]; rfl
  · rw [rowC_r13 _ _ _ h, if_pos (by omega)]; rfl
  · rw [rowC_r63 _ _ _ h, rowC_r63 _ _ _ h, if_neg (by omega)]; rfl
  · rw [rowC_r99 _ _ _ h, rowC_r99 _ _ _ h, if_neg (by omega)]; rfl
  · rw [rowC_r123 _ _ _ h, rowC_r123 _ _ _ h, if_neg (by omega)]; rfl
  · rw [rowC_r133 _ _ _ h, rowC_r133 _ _ _ h, if_neg (by omega)]; rfl
theorem rowC_G11 (σ : xS) (g : Nat → Int32) : ∀ k, k < 145 → rowC (uA σ 11 g) 0 k = if 63 ≤ k ∧ k < 99 then g (k - 63) else rowC σ 0 k := by
  intro k hk
  rcases (show k = 0 ∨ k = 1 ∨ k = 2 ∨ k = 3 ∨ k = 4 ∨ k = 5 ∨ k = 6 ∨ (7 ≤ k ∧ k < 13) ∨ (13 ≤ k ∧ k < 63) ∨ (63 ≤ k ∧ k < 99) ∨ (99 ≤ k ∧ k < 123) ∨ (123 ≤ k ∧ k < 133) ∨ (133 ≤ k ∧ k < 145) by omega) with rfl | rfl | rfl | rfl | rfl | rfl | rfl | h | h | h | h | h | h
  · rw [if_neg (by omega)]; rfl
  · rw [if_neg (by omega)]; rfl
  · rw [if_neg (by omega)]; rfl
  · rw [if_neg (by omega)]; rfl
  · rw [if_neg (by omega)]; rfl
  · rw [if_neg (by omega)]; rfl
  · rw [if_neg (by omega)]; rfl
  · rw [rowC_r7 _ _ _ h, rowC_r7 _ _ _ h, if_neg (by omega)]; rfl
  · rw [rowC_r13 _ _ _ h, rowC_r13 _ _ _ h, if_neg (by omega)]; rfl
  · rw [rowC_r63 _ _ _ h, if_pos (by omega)]; rfl
  · rw [rowC_r99 _ _ _ h, rowC_r99 _ _ _ h, if_neg (by omega)]; rfl
  · rw [rowC_r123 _ _ _ h, rowC_r123 _ _ _ h, if_neg (by omega)]; rfl
  · rw [rowC_r133 _ _ _ h, rowC_r133 _ _ _ h, if_neg (by omega)]; rfl
theorem rowC_G13 (σ : xS) (g : Nat → Int32) : ∀ k, k < 145 → rowC (uA σ 13 g) 0 k = if 99 ≤ k ∧ k < 123 then g (k - 99) else rowC σ 0 k := by
  intro k hk
  rcases (show k = 0 ∨ k = 1 ∨ k = 2 ∨ k = 3 ∨ k = 4 ∨ k = 5 ∨ k = 6 ∨ (7 ≤ k ∧ k < 13) ∨ (13 ≤ k ∧ k < 63) ∨ (63 ≤ k ∧ k < 99) ∨ (99 ≤ k ∧ k < 123) ∨ (123 ≤ k ∧ k < 133) ∨ (133 ≤ k ∧ k < 145) by omega) with rfl | rfl | rfl | rfl | rfl | rfl | rfl | h | h | h | h | h | h
  · rw [if_neg (by omega)]; rfl
  · rw [if_neg (by omega)]; rfl
  · rw [if_neg (by omega)]; rfl
  · rw [if_neg (by omega)]; rfl
  · rw [if_neg (by omega)]; rfl
  · rw [if_neg (by omega)]; rfl
  · rw [if_neg (by omega)]; rfl
  · rw [rowC_r7 _ _ _ h, rowC_r7 _ _ _ h, if_neg (by omega)]; rfl
  · rw [rowC_r13 _ _ _ h, rowC_r13 _ _ _ h, if_neg (by omega)]; rfl
  · rw [rowC_r63 _ _ _ h, rowC_r63 _ _ _ h, if_neg (by omega)]; rfl
  · rw [rowC_r99 _ _ _ h, if_pos (by omega)]; rfl
  · rw [rowC_r123 _ _ _ h, rowC_r123 _ _ _ h, if_neg (by omega)]; rfl
  · rw [rowC_r133 _ _ _ h, rowC_r133 _ _ _ h, if_neg (by omega)]; rfl
theorem st_drop : ∀ (σ τ : xS), Sim σ τ → ∀ (a1 : Int32), ∃ (r : Int32) (σ1 τ1 : xS), F_X11_drop a1 σ = some (r, σ1) ∧ F_X12_drop a1 τ = some (r, τ1) ∧ Sim σ1 τ1 := by
  intro σ τ0 h0 a1
  have h := Sim_thr h0
  unfold F_X11_drop F_X12_drop F_X11_removed
  simp only [nm_eq]
  generalize uI τ0 0 0 = τ at h ⊢
  obtain ⟨c, hc, e1, e2⟩ := cnt0 h.1
  simp only [R_isBook, rdL0, e2, bd_eq, ib2, has_if 0 a1 σ e1, C_r2, R_t2]
  by_cases p : 0 ≤ a1 ∧ a1 < nI c
  rotate_left
  · simp only [if_neg p]
    exact ⟨_, _, _, rfl, rfl, Sim_ref (Or.inr (Or.inl rfl)) h⟩
  simp only [if_pos p]
  obtain ⟨i, hi, rfl⟩ := idxlt p rfl (by omega)
  have s1 : F_X6_remove 0 (nI i) σ = some ((), uI (uA σ 9 (va_cpy (sA σ 9) (sA σ 9) ((i + 1) * 5) (i * 5) ((c - i - 1) * 5))) 131 (nI (c - 1))) := C_removeY (r := 0) e1 (show c ≤ 10 from hc) hi
  have s2 : F_X12_out 13 5 (nI i) (nI c) τ = some ((), uA τ 3 (outF (sA τ 3) 5 (13 + 5 * i) (13 + 5 * (c - 1)))) := R_outY (s := 5) (from1 := 13) (by decide) (by decide) (by omega) (by decide) hi τ
  have s3 : sI (uI (uA σ 9 (va_cpy (sA σ 9) (sA σ 9) ((i + 1) * 5) (i * 5) ((c - i - 1) * 5))) 131 (nI (c - 1))) 131 = nI (c - 1) := rfl
  have s4 : outF (sA τ 3) 5 (13 + 5 * i) (13 + 5 * (c - 1)) 0 = nI c := by
    rw [← e2]
    exact if_neg (by omega)
  simp only [s1, s2, bd_eq, s3, C_accepted, sA_s, rdL0, ckL0, cl0, nm_eq, uA_uA, s4]
  rw [upd_s _ _ rfl, show nI c - 1 = nI (c - 1) from pk_sub (b := 1) (by omega), R_tN (by omega), bd_eq]
  have hr : Row (uI (uA σ 9 (va_cpy (sA σ 9) (sA σ 9) ((i + 1) * 5) (i * 5) ((c - i - 1) * 5))) 131 (nI (c - 1))) (upd (outF (sA τ 3) 5 (13 + 5 * i) (13 + 5 * (c - 1))) 0 (nI (c - 1))) := by
    have g1 : Row (uA σ 9 (va_cpy (sA σ 9) (sA σ 9) ((i + 1) * 5) (i * 5) ((c - i - 1) * 5))) (outF (sA τ 3) 5 (13 + 5 * i) (13 + 5 * (c - 1))) := by
      intro q hq
      rw [rowC_G9 _ _ q hq]
      unfold outF
      by_cases z : 13 ≤ q ∧ q < 63
      · rw [if_pos z]
        by_cases z2 : 13 + 5 * i ≤ q ∧ q < 13 + 5 * (c - 1)
        · rw [if_pos z2, pk_cpy_in (by omega) (by omega), ← h.1.1 (q + 5) (by omega), show q + 5 = 13 + ((i + 1) * 5 + (q - 13 - i * 5)) by omega, rowC_i9 _ _ (by omega)]
        · rw [if_neg z2, pk_cpy_out (by omega), ← h.1.1 q (by omega), ← rowC_i9 σ (q - 13) (by omega), show 13 + (q - 13) = q by omega]
      · rw [if_neg z, if_neg (by omega)]
        exact h.1.1 q hq
    exact Row_s0 g1
  have hB : segB (outF (sA τ 3) 5 (13 + 5 * i) (13 + 5 * (c - 1))) := by
    intro q hq0
    unfold outF
    by_cases z2 : 13 + 5 * i ≤ q ∧ q < 13 + 5 * (c - 1)
    rotate_left
    · rw [if_neg z2]
      exact h.1.2.1.1 q hq0
    rw [if_pos z2]
    have hq : hiT (q + 5) = hiT q := by
      have a1 := hi_book ((q - 13) / 5) (by omega) ((q - 13) % 5) (by omega)
      have a2 := hi_book ((q - 13) / 5 + 1) (by omega) ((q - 13) % 5) (by omega)
      rw [show 13 + 5 * ((q - 13) / 5) + (q - 13) % 5 = q by omega] at a1
      rw [show 13 + 5 * ((q - 13) / 5 + 1) + (q - 13) % 5 = q + 5 by omega] at a2
      rw [a1, a2]
    have hz := h.1.2.1.1 (q + 5) (by omega)
    rw [hq, loT_0 (by omega) (by omega)] at hz
    rw [loT_0 (by omega) (by omega)]
    exact hz
  have hs : segOK (upd (outF (sA τ 3) 5 (13 + 5 * i) (13 + 5 * (c - 1))) 0 (nI (c - 1))) := segOK_of (segB_upd hB (bnd (by decide) (by decide) (by omega) (show ((c - 1 : Nat) : Int) ≤ 10 by omega))) (by
      rw [upd_n _ _ (show 2 ≠ 0 by decide), upd_n _ _ (show 1 ≠ 0 by decide)]
      unfold outF
      rw [if_neg (by omega), if_neg (by omega)]
      exact h.1.2.1.2.1) (fun j hj => by
      rw [upd_n _ _ (show 64 + 3 * j ≠ 0 by omega), upd_n _ _ (show 63 + 3 * j ≠ 0 by omega), upd_n _ _ (show 3 ≠ 0 by omega)]
      unfold outF
      rw [if_neg (by omega), if_neg (by omega), if_neg (by omega)]
      exact h.1.2.1.2.2 j hj)
  exact ⟨_, _, _, rfl, rfl, Sim_acc (σ := uI (uA σ 9 (va_cpy (sA σ 9) (sA σ 9) ((i + 1) * 5) (i * 5) ((c - i - 1) * 5))) 131 (nI (c - 1))) (τ := uA τ 3 (upd (outF (sA τ 3) 5 (13 + 5 * i) (13 + 5 * (c - 1))) 0 (nI (c - 1)))) (Sim_st h ⟨rfl, fun k => ⟨rfl, rfl⟩, rfl, rfl, ⟨rfl, rfl, rfl, rfl⟩, rfl, rfl, rfl, rfl⟩ ⟨rfl, rfl, rfl, rfl, rfl, rfl, ⟨rfl, rfl, rfl, rfl, rfl⟩, rfl, rfl⟩ (SimSt_mk h.1 hr hs rfl rfl (by
    show (upd (outF (sA τ 3) 5 (13 + 5 * i) (13 + 5 * (c - 1))) 0 (nI (c - 1))) 1 = sA τ 3 1
    rw [upd_n _ _ (show 1 ≠ 0 by decide)]
    exact if_neg (by omega)) (fun kk hkk => by
    show (upd (outF (sA τ 3) 5 (13 + 5 * i) (13 + 5 * (c - 1))) 0 (nI (c - 1))) kk = sA τ 3 kk
    rw [upd_n _ _ (show kk ≠ 0 by omega)]
    exact if_neg (by omega))))⟩
theorem st_unbox : ∀ (σ τ : xS), Sim σ τ → ∀ (a1 : Int32), ∃ (r : Int32) (σ1 τ1 : xS), F_X11_unbox a1 σ = some (r, σ1) ∧ F_X12_unbox a1 τ = some (r, τ1) ∧ Sim σ1 τ1 := by
  intro σ τ0 h0 a1
  have h := Sim_thr h0
  unfold F_X11_unbox F_X12_unbox F_X11_removed
  simp only [nm_eq]
  generalize uI τ0 0 0 = τ at h ⊢
  obtain ⟨c, hc, e1, e2⟩ := cnt1 h.1
  simp only [rdL3, e2, R_below, bd_eq, ib2, has_if 1 a1 σ e1, C_r2, R_t2]
  by_cases p : 0 ≤ a1 ∧ a1 < nI c
  rotate_left
  · simp only [if_neg p]
    exact ⟨_, _, _, rfl, rfl, Sim_ref (Or.inr (Or.inl rfl)) h⟩
  simp only [if_pos p]
  obtain ⟨i, hi, rfl⟩ := idxlt p rfl (by omega)
  have s1 : F_X6_remove 1 (nI i) σ = some ((), uI (uA σ 11 (va_cpy (sA σ 11) (sA σ 11) ((i + 1) * 3) (i * 3) ((c - i - 1) * 3))) 163 (nI (c - 1))) := C_removeY (r := 1) e1 (show c ≤ 12 from hc) hi
  have s2 : F_X12_out 63 3 (nI i) (nI c) τ = some ((), uA τ 3 (outF (sA τ 3) 3 (63 + 3 * i) (63 + 3 * (c - 1)))) := R_outY (s := 3) (from1 := 63) (by decide) (by decide) (by omega) (by decide) hi τ
  have s3 : sI (uI (uA σ 11 (va_cpy (sA σ 11) (sA σ 11) ((i + 1) * 3) (i * 3) ((c - i - 1) * 3))) 163 (nI (c - 1))) 163 = nI (c - 1) := rfl
  have s4 : outF (sA τ 3) 3 (63 + 3 * i) (63 + 3 * (c - 1)) 3 = nI c := by
    rw [← e2]
    exact if_neg (by omega)
  simp only [s1, s2, bd_eq, s3, C_accepted, sA_s, rdL3, ckL3, cl3, nm_eq, uA_uA, s4]
  rw [upd_s _ _ rfl, show nI c - 1 = nI (c - 1) from pk_sub (b := 1) (by omega), R_tN (by omega), bd_eq]
  have hr : Row (uI (uA σ 11 (va_cpy (sA σ 11) (sA σ 11) ((i + 1) * 3) (i * 3) ((c - i - 1) * 3))) 163 (nI (c - 1))) (upd (outF (sA τ 3) 3 (63 + 3 * i) (63 + 3 * (c - 1))) 3 (nI (c - 1))) := by
    have g1 : Row (uA σ 11 (va_cpy (sA σ 11) (sA σ 11) ((i + 1) * 3) (i * 3) ((c - i - 1) * 3))) (outF (sA τ 3) 3 (63 + 3 * i) (63 + 3 * (c - 1))) := by
      intro q hq
      rw [rowC_G11 _ _ q hq]
      unfold outF
      by_cases z : 63 ≤ q ∧ q < 99
      · rw [if_pos z]
        by_cases z2 : 63 + 3 * i ≤ q ∧ q < 63 + 3 * (c - 1)
        · rw [if_pos z2, pk_cpy_in (by omega) (by omega), ← h.1.1 (q + 3) (by omega), show q + 3 = 63 + ((i + 1) * 3 + (q - 63 - i * 3)) by omega, rowC_i11 _ _ (by omega)]
        · rw [if_neg z2, pk_cpy_out (by omega), ← h.1.1 q (by omega), ← rowC_i11 σ (q - 63) (by omega), show 63 + (q - 63) = q by omega]
      · rw [if_neg z, if_neg (by omega)]
        exact h.1.1 q hq
    exact Row_s3 g1
  have hB : segB (outF (sA τ 3) 3 (63 + 3 * i) (63 + 3 * (c - 1))) := by
    intro q hq0
    unfold outF
    by_cases z2 : 63 + 3 * i ≤ q ∧ q < 63 + 3 * (c - 1)
    rotate_left
    · rw [if_neg z2]
      exact h.1.2.1.1 q hq0
    rw [if_pos z2]
    have hq : hiT (q + 3) = hiT q := by
      have a1 := hi_box ((q - 63) / 3) (by omega) ((q - 63) % 3) (by omega)
      have a2 := hi_box ((q - 63) / 3 + 1) (by omega) ((q - 63) % 3) (by omega)
      rw [show 63 + 3 * ((q - 63) / 3) + (q - 63) % 3 = q by omega] at a1
      rw [show 63 + 3 * ((q - 63) / 3 + 1) + (q - 63) % 3 = q + 3 by omega] at a2
      rw [a1, a2]
    have hz := h.1.2.1.1 (q + 3) (by omega)
    rw [hq, loT_0 (by omega) (by omega)] at hz
    rw [loT_0 (by omega) (by omega)]
    exact hz
  have hs : segOK (upd (outF (sA τ 3) 3 (63 + 3 * i) (63 + 3 * (c - 1))) 3 (nI (c - 1))) := segOK_of (segB_upd hB (bnd (by decide) (by decide) (by omega) (show ((c - 1 : Nat) : Int) ≤ 12 by omega))) (by
      rw [upd_n _ _ (show 2 ≠ 3 by decide), upd_n _ _ (show 1 ≠ 3 by decide)]
      unfold outF
      rw [if_neg (by omega), if_neg (by omega)]
      exact h.1.2.1.2.1) (fun j hj => by
      rw [upd_n _ _ (show 64 + 3 * j ≠ 3 by omega), upd_n _ _ (show 63 + 3 * j ≠ 3 by omega), upd_s _ _ rfl, nI_toInt (by omega)]
      unfold outF
      have hm := h.1.2.1.2.2
      rw [e2, nI_toInt (by omega)] at hm
      by_cases hz : 63 + 3 * i ≤ 63 + 3 * j ∧ 63 + 3 * j < 63 + 3 * (c - 1)
      · rw [if_pos (show 63 + 3 * i ≤ 64 + 3 * j ∧ 64 + 3 * j < 63 + 3 * (c - 1) by omega), if_pos hz, show 64 + 3 * j + 3 = 64 + 3 * (j + 1) by omega, show 63 + 3 * j + 3 = 63 + 3 * (j + 1) by omega]
        exact ⟨(hm (j + 1) (by omega)).1, fun _ => (hm (j + 1) (by omega)).2 (by omega)⟩
      · rw [if_neg (show ¬ (63 + 3 * i ≤ 64 + 3 * j ∧ 64 + 3 * j < 63 + 3 * (c - 1)) by omega), if_neg hz]
        exact ⟨(hm j hj).1, fun hq => (hm j hj).2 (by omega)⟩)
  exact ⟨_, _, _, rfl, rfl, Sim_acc (σ := uI (uA σ 11 (va_cpy (sA σ 11) (sA σ 11) ((i + 1) * 3) (i * 3) ((c - i - 1) * 3))) 163 (nI (c - 1))) (τ := uA τ 3 (upd (outF (sA τ 3) 3 (63 + 3 * i) (63 + 3 * (c - 1))) 3 (nI (c - 1)))) (Sim_st h ⟨rfl, fun k => ⟨rfl, rfl⟩, rfl, rfl, ⟨rfl, rfl, rfl, rfl⟩, rfl, rfl, rfl, rfl⟩ ⟨rfl, rfl, rfl, rfl, rfl, rfl, ⟨rfl, rfl, rfl, rfl, rfl⟩, rfl, rfl⟩ (SimSt_mk h.1 hr hs rfl rfl (by
    show (upd (outF (sA τ 3) 3 (63 + 3 * i) (63 + 3 * (c - 1))) 3 (nI (c - 1))) 1 = sA τ 3 1
    rw [upd_n _ _ (show 1 ≠ 3 by decide)]
    exact if_neg (by omega)) (fun kk hkk => by
    show (upd (outF (sA τ 3) 3 (63 + 3 * i) (63 + 3 * (c - 1))) 3 (nI (c - 1))) kk = sA τ 3 kk
    rw [upd_n _ _ (show kk ≠ 3 by omega)]
    exact if_neg (by omega))))⟩
theorem st_uncard : ∀ (σ τ : xS), Sim σ τ → ∀ (a1 : Int32), ∃ (r : Int32) (σ1 τ1 : xS), F_X11_uncard a1 σ = some (r, σ1) ∧ F_X12_uncard a1 τ = some (r, τ1) ∧ Sim σ1 τ1 := by
  intro σ τ0 h0 a1
  have h := Sim_thr h0
  unfold F_X11_uncard F_X12_uncard F_X11_removed
  simp only [nm_eq]
  generalize uI τ0 0 0 = τ at h ⊢
  obtain ⟨c, hc, e1, e2⟩ := cnt2 h.1
  simp only [R_isCard, rdL4, e2, bd_eq, ib2, has_if 2 a1 σ e1, C_r2, R_t2]
  by_cases p : 0 ≤ a1 ∧ a1 < nI c
  rotate_left
  · simp only [if_neg p]
    exact ⟨_, _, _, rfl, rfl, Sim_ref (Or.inr (Or.inl rfl)) h⟩
  simp only [if_pos p]
  obtain ⟨i, hi, rfl⟩ := idxlt p rfl (by omega)
  have s1 : F_X6_remove 2 (nI i) σ = some ((), uI (uA σ 13 (va_cpy (sA σ 13) (sA σ 13) ((i + 1) * 3) (i * 3) ((c - i - 1) * 3))) 195 (nI (c - 1))) := C_removeY (r := 2) e1 (show c ≤ 8 from hc) hi
  have s2 : F_X12_out 99 3 (nI i) (nI c) τ = some ((), uA τ 3 (outF (sA τ 3) 3 (99 + 3 * i) (99 + 3 * (c - 1)))) := R_outY (s := 3) (from1 := 99) (by decide) (by decide) (by omega) (by decide) hi τ
  have s3 : sI (uI (uA σ 13 (va_cpy (sA σ 13) (sA σ 13) ((i + 1) * 3) (i * 3) ((c - i - 1) * 3))) 195 (nI (c - 1))) 195 = nI (c - 1) := rfl
  have s4 : outF (sA τ 3) 3 (99 + 3 * i) (99 + 3 * (c - 1)) 4 = nI c := by
    rw [← e2]
    exact if_neg (by omega)
  simp only [s1, s2, bd_eq, s3, C_accepted, sA_s, rdL4, ckL4, cl4, nm_eq, uA_uA, s4]
  rw [upd_s _ _ rfl, show nI c - 1 = nI (c - 1) from pk_sub (b := 1) (by omega), R_tN (by omega), bd_eq]
  have hr : Row (uI (uA σ 13 (va_cpy (sA σ 13) (sA σ 13) ((i + 1) * 3) (i * 3) ((c - i - 1) * 3))) 195 (nI (c - 1))) (upd (outF (sA τ 3) 3 (99 + 3 * i) (99 + 3 * (c - 1))) 4 (nI (c - 1))) := by
    have g1 : Row (uA σ 13 (va_cpy (sA σ 13) (sA σ 13) ((i + 1) * 3) (i * 3) ((c - i - 1) * 3))) (outF (sA τ 3) 3 (99 + 3 * i) (99 + 3 * (c - 1))) := by
      intro q hq
      rw [rowC_G13 _ _ q hq]
      unfold outF
      by_cases z : 99 ≤ q ∧ q < 123
      · rw [if_pos z]
        by_cases z2 : 99 + 3 * i ≤ q ∧ q < 99 + 3 * (c - 1)
        · rw [if_pos z2, pk_cpy_in (by omega) (by omega), ← h.1.1 (q + 3) (by omega), show q + 3 = 99 + ((i + 1) * 3 + (q - 99 - i * 3)) by omega, rowC_i13 _ _ (by omega)]
        · rw [if_neg z2, pk_cpy_out (by omega), ← h.1.1 q (by omega), ← rowC_i13 σ (q - 99) (by omega), show 99 + (q - 99) = q by omega]
      · rw [if_neg z, if_neg (by omega)]
        exact h.1.1 q hq
    exact Row_s4 g1
  have hB : segB (outF (sA τ 3) 3 (99 + 3 * i) (99 + 3 * (c - 1))) := by
    intro q hq0
    unfold outF
    by_cases z2 : 99 + 3 * i ≤ q ∧ q < 99 + 3 * (c - 1)
    rotate_left
    · rw [if_neg z2]
      exact h.1.2.1.1 q hq0
    rw [if_pos z2]
    have hq : hiT (q + 3) = hiT q := by
      have a1 := hi_card ((q - 99) / 3) (by omega) ((q - 99) % 3) (by omega)
      have a2 := hi_card ((q - 99) / 3 + 1) (by omega) ((q - 99) % 3) (by omega)
      rw [show 99 + 3 * ((q - 99) / 3) + (q - 99) % 3 = q by omega] at a1
      rw [show 99 + 3 * ((q - 99) / 3 + 1) + (q - 99) % 3 = q + 3 by omega] at a2
      rw [a1, a2]
    have hz := h.1.2.1.1 (q + 3) (by omega)
    rw [hq, loT_0 (by omega) (by omega)] at hz
    rw [loT_0 (by omega) (by omega)]
    exact hz
  have hs : segOK (upd (outF (sA τ 3) 3 (99 + 3 * i) (99 + 3 * (c - 1))) 4 (nI (c - 1))) := segOK_of (segB_upd hB (bnd (by decide) (by decide) (by omega) (show ((c - 1 : Nat) : Int) ≤ 8 by omega))) (by
      rw [upd_n _ _ (show 2 ≠ 4 by decide), upd_n _ _ (show 1 ≠ 4 by decide)]
      unfold outF
      rw [if_neg (by omega), if_neg (by omega)]
      exact h.1.2.1.2.1) (fun j hj => by
      rw [upd_n _ _ (show 64 + 3 * j ≠ 4 by omega), upd_n _ _ (show 63 + 3 * j ≠ 4 by omega), upd_n _ _ (show 3 ≠ 4 by omega)]
      unfold outF
      rw [if_neg (by omega), if_neg (by omega), if_neg (by omega)]
      exact h.1.2.1.2.2 j hj)
  exact ⟨_, _, _, rfl, rfl, Sim_acc (σ := uI (uA σ 13 (va_cpy (sA σ 13) (sA σ 13) ((i + 1) * 3) (i * 3) ((c - i - 1) * 3))) 195 (nI (c - 1))) (τ := uA τ 3 (upd (outF (sA τ 3) 3 (99 + 3 * i) (99 + 3 * (c - 1))) 4 (nI (c - 1)))) (Sim_st h ⟨rfl, fun k => ⟨rfl, rfl⟩, rfl, rfl, ⟨rfl, rfl, rfl, rfl⟩, rfl, rfl, rfl, rfl⟩ ⟨rfl, rfl, rfl, rfl, rfl, rfl, ⟨rfl, rfl, rfl, rfl, rfl⟩, rfl, rfl⟩ (SimSt_mk h.1 hr hs rfl rfl (by
    show (upd (outF (sA τ 3) 3 (99 + 3 * i) (99 + 3 * (c - 1))) 4 (nI (c - 1))) 1 = sA τ 3 1
    rw [upd_n _ _ (show 1 ≠ 4 by decide)]
    exact if_neg (by omega)) (fun kk hkk => by
    show (upd (outF (sA τ 3) 3 (99 + 3 * i) (99 + 3 * (c - 1))) 4 (nI (c - 1))) kk = sA τ 3 kk
    rw [upd_n _ _ (show kk ≠ 4 by omega)]
    exact if_neg (by omega))))⟩
theorem byte_eq (x s : Int32) (k : Nat) (hk : k = 0 ∨ k = 8 ∨ k = 16 ∨ k = 24) (h1 : ((s.toUInt32 &&& Int32.toUInt32 31).toBitVec % 32).toNat = k) (h2 : ((s &&& 31).toBitVec.smod 32).toNat = k) : ((x.toUInt32 >>> (s.toUInt32 &&& Int32.toUInt32 31)).toInt32) &&& 255 = (x >>> (s &&& 31)) &&& 255 := by
  apply Int32.toBitVec_inj.mp
  have e1 : (x.toUInt32 >>> (s.toUInt32 &&& Int32.toUInt32 31)).toInt32.toBitVec = x.toBitVec >>> k := by
    rw [← h1]
    exact UInt32.toBitVec_shiftRight _ _
  have e2 : (x >>> (s &&& 31)).toBitVec = x.toBitVec.sshiftRight k := by
    rw [← h2]
    rfl
  show (x.toUInt32 >>> (s.toUInt32 &&& Int32.toUInt32 31)).toInt32.toBitVec &&& (255 : Int32).toBitVec = (x >>> (s &&& 31)).toBitVec &&& (255 : Int32).toBitVec
  rw [e1, e2]
  apply BitVec.eq_of_getLsbD_eq
  intro i hi
  rw [BitVec.getLsbD_and, BitVec.getLsbD_and]
  by_cases h8 : i < 8
  · congr 1
    rw [BitVec.getLsbD_ushiftRight, BitVec.getLsbD_sshiftRight, if_pos (show k + i < 32 by omega), decide_eq_false (show ¬ 32 ≤ i by omega)]
    rfl
  · have h9 : ((255 : Int32).toBitVec).getLsbD i = false := by
      show Nat.testBit 255 i = false
      exact Nat.testBit_lt_two_pow (Nat.lt_of_lt_of_le (show 255 < 2 ^ 8 by decide) (Nat.pow_le_pow_right (by decide) (by omega)))
    rw [h9, Bool.and_false, Bool.and_false]
theorem feed_byte {σ τ : xS} (h : Sim σ τ) {t : Nat} (ht : t < 400) (e : sI τ 8 = nI t) {b : Int32} (hb : 0 ≤ b.toInt ∧ b.toInt ≤ 255) : Sim (uI (uA σ 3 (upd (sA σ 3) t b)) 11 (nI (t + 1))) (uI (uA τ 7 (upd (sA τ 7) t b)) 8 (nI (t + 1))) := by
  obtain ⟨hS, hI, hT, hM, hD, hC⟩ := h
  refine ⟨hS, SimIm_of hI rfl (fun k => ⟨rfl, rfl⟩) ⟨rfl, rfl⟩ rfl rfl rfl, ⟨rfl, ?_, fun j hj => ?_⟩, hM, hD, hC⟩
  · show 0 ≤ (nI (t + 1)).toInt ∧ (nI (t + 1)).toInt ≤ 400
    rw [nI_toInt (by omega)]
    omega
  · show upd (sA σ 3) t b j = upd (sA τ 7) t b j ∧ 0 ≤ (upd (sA τ 7) t b j).toInt ∧ (upd (sA τ 7) t b j).toInt ≤ 255
    unfold upd
    by_cases ej : j = t
    · rw [if_pos ej, if_pos ej]
      exact ⟨rfl, hb⟩
    · rw [if_neg ej, if_neg ej]
      exact hT.2.2 j hj
theorem byte_rng (x : Int32) : 0 ≤ (x &&& 255).toInt ∧ (x &&& 255).toInt ≤ 255 := by
  obtain ⟨j, hj, e⟩ := pk_andE x (m := 255) 8 (by decide)
  rw [e, nI_toInt (by omega)]
  omega
theorem feed_1 {σ τ : xS} (h : Sim σ τ) {t n n' : Nat} (ht : t < 400) (e : sI τ 8 = nI t) (a s : Int32) (k : Nat) (hk : k = 0 ∨ k = 8 ∨ k = 16 ∨ k = 24) (h0 : ¬ s < 0) (h1 : ((s.toUInt32 &&& Int32.toUInt32 31).toBitVec % 32).toNat = k) (h2 : ((s &&& 31).toBitVec.smod 32).toNat = k) : ∃ σ' τ', F_X11_feedNumber_3 (n + 1) a s σ = F_X11_feedNumber_3 n a (s + (-8)) σ' ∧ F_X12_four_3 (n' + 1) a s τ = F_X12_four_3 n' a (s + (-8)) τ' ∧ Sim σ' τ' ∧ sI τ' 8 = nI (t + 1) := by
  have e2 : sI σ 11 = nI t := h.2.2.1.1.trans e
  refine ⟨_, _, ?_, ?_, feed_byte h ht e (byte_rng (a >>> (s &&& 31))), rfl⟩
  · rw [F_X11_feedNumber_3, if_neg h0, e2, if_neg (show ¬ (400 : Int32) ≤ nI t from nI_ge (b := 400) ht (by decide)), ck_n ht (by decide), byte_eq a s k hk h1 h2]
    simp only [nm_eq]
    rw [sI_uA, e2, nI_1, nI_clamp (by omega)]
  · rw [F_X12_four_3, if_neg h0, e, ck_n ht (by decide)]
    simp only [nm_eq]
    rw [sI_uA, e, nI_1, nI_clamp (by omega)]
theorem feed_4 {σ τ : xS} (h : Sim σ τ) {t : Nat} (ht : t + 4 ≤ 400) (e : sI τ 8 = nI t) (a : Int32) : ∃ σ' τ', F_X11_feedNumber a σ = some ((), σ') ∧ F_X12_four a τ = some ((), τ') ∧ Sim σ' τ' ∧ sI τ' 8 = nI (t + 4) := by
  unfold F_X11_feedNumber F_X12_four
  rw [nm_eq, nm_eq, show FU = 99995 + 1 + 1 + 1 + 1 + 1 from rfl]
  obtain ⟨σ1, τ1, x1, y1, s1, f1⟩ := feed_1 (n := 99995 + 1 + 1 + 1 + 1) (n' := 99995 + 1 + 1 + 1 + 1) h (by omega) e a 24 24 (by decide) (by decide) (by decide) (by decide)
  obtain ⟨σ2, τ2, x2, y2, s2, f2⟩ := feed_1 (n := 99995 + 1 + 1 + 1) (n' := 99995 + 1 + 1 + 1) s1 (by omega) f1 a 16 16 (by decide) (by decide) (by decide) (by decide)
  obtain ⟨σ3, τ3, x3, y3, s3, f3⟩ := feed_1 (n := 99995 + 1 + 1) (n' := 99995 + 1 + 1) s2 (by omega) f2 a 8 8 (by decide) (by decide) (by decide) (by decide)
  obtain ⟨σ4, τ4, x4, y4, s4, f4⟩ := feed_1 (n := 99995 + 1) (n' := 99995 + 1) s3 (by omega) f3 a 0 0 (by decide) (by decide) (by decide) (by decide)
  refine ⟨σ4, τ4, ?_, ?_, s4, f4⟩
  · rw [x1, show (24 : Int32) + (-8) = 16 by decide, x2, show (16 : Int32) + (-8) = 8 by decide, x3, show (8 : Int32) + (-8) = 0 by decide, x4, F_X11_feedNumber_3, if_pos (by decide)]
  · rw [y1, show (24 : Int32) + (-8) = 16 by decide, y2, show (16 : Int32) + (-8) = 8 by decide, y3, show (8 : Int32) + (-8) = 0 by decide, y4, F_X12_four_3, if_pos (by decide)]
theorem st_feed : ∀ (σ τ : xS), Sim σ τ → ∀ (a1 a2 a3 a4 a5 : Int32), ∃ (r : Int32) (σ1 τ1 : xS), F_X11_feed a1 a2 a3 a4 a5 σ = some (r, σ1) ∧ F_X12_feed a1 a2 a3 a4 a5 τ = some (r, τ1) ∧ Sim σ1 τ1 := by
  intro σ τ0 h0 a1 a2 a3 a4 a5
  have h := Sim_thr h0
  unfold F_X11_feed F_X12_feed
  simp only [nm_eq]
  generalize uI τ0 0 0 = τ at h ⊢
  obtain ⟨t, ht, e⟩ : ∃ t, t < 401 ∧ sI τ 8 = nI t := i_of h.2.2.1.2.1.1 (by have := h.2.2.1.2.1.2; omega) (by decide)
  have e2 : sI σ 11 = nI t := h.2.2.1.1.trans e
  have e3 : nI t + 20 = nI (t + 20) := nI_add t 20
  simp only [e, e2, e3]
  by_cases p : t + 20 ≤ 400
  · have p2 : nI (t + 20) ≤ 400 := nI_le (b := 400) p (by decide)
    simp only [if_pos p2]
    obtain ⟨σ1, τ1, x1, y1, s1, f1⟩ := feed_4 h (t := t) (by omega) e a1
    obtain ⟨σ2, τ2, x2, y2, s2, f2⟩ := feed_4 s1 (by omega) f1 a2
    obtain ⟨σ3, τ3, x3, y3, s3, f3⟩ := feed_4 s2 (by omega) f2 a3
    obtain ⟨σ4, τ4, x4, y4, s4, f4⟩ := feed_4 s3 (by omega) f3 a4
    obtain ⟨σ5, τ5, x5, y5, s5, f5⟩ := feed_4 s4 (by omega) f4 a5
    simp only [x1, x2, x3, x4, x5, y1, y2, y3, y4, y5, bd_eq]
    exact ⟨_, _, _, rfl, by rw [s5.2.2.1.1], s5⟩
  · have p2 : ¬ nI (t + 20) ≤ 400 := nI_ge (a := 400) (by omega) (by omega)
    simp only [if_neg p2]
    exact ⟨_, _, _, rfl, rfl, h⟩
theorem kpC0_of {σ σ' : xS} (h : kpC σ σ') : kpC0 σ σ' := by
  obtain ⟨c1, c2, c3, c4, ⟨c5, c6, c7, c8⟩, c9, c10, c11, c12⟩ := h
  exact ⟨c1, c2, c3, c4, c6, c9, c10, c11, c12⟩
theorem kpR0_of {σ σ' : xS} (h : kpR σ σ') : kpR0 σ σ' := by
  obtain ⟨r1, r2, r3, r4, r5, r6, ⟨r7, r8, r9, r10, r11⟩, r12, r13⟩ := h
  exact ⟨r1, r2, r3, r4, r5, r6, r8, r11, r12, r13⟩
theorem row_loop (had : Nat) (hh : had ≤ 400) (m : Nat) : ∀ (n n' k came : Nat) (σ τ : xS), m < n → m < n' → had ≤ k + 3 * m → k ≤ 402 → came ≤ k → sI σ 11 = nI had → (∀ j, j < 400 → sA σ 3 j = sA τ 7 j ∧ 0 ≤ (sA τ 7 j).toInt ∧ (sA τ 7 j).toInt ≤ 255) → SimSt σ τ → sI σ 13 = sI τ 6 → ∃ r σ' τ', F_X11_row_23 n (nI came) (nI k) σ = some (r, σ') ∧ F_X12_row_35 n' (nI had) (nI came) (nI k) τ = some (r, τ') ∧ SimSt σ' τ' ∧ kpC0 σ σ' ∧ kpR0 τ τ' ∧ sI σ' 11 = 0 ∧ sI τ' 8 = sI τ 8 ∧ sI σ' 13 = sI τ' 6 ∧ sI σ' 14 = sI τ' 1 := by
  induction m with
  | zero =>
    intro n n' k came σ τ hn hn' hk hk2 hcm e11 hT hS e13
    obtain ⟨n, rfl⟩ : ∃ q, n = q + 1 := ⟨n - 1, by omega⟩
    obtain ⟨n', rfl⟩ : ∃ q, n' = q + 1 := ⟨n' - 1, by omega⟩
    rw [F_X11_row_23, F_X12_row_35, e11]
    have p : nI had ≤ nI k := nI_le (by omega) (by omega)
    simp only [if_pos p, nm_eq, C_accepted, bd_eq]
    rw [R_tN (by omega), bd_eq]
    exact ⟨_, _, _, rfl, rfl, hS, ⟨rfl, fun k => ⟨rfl, rfl⟩, rfl, rfl, rfl, rfl, rfl, rfl, rfl⟩, ⟨rfl, rfl, rfl, rfl, rfl, rfl, rfl, rfl, rfl, rfl⟩, rfl, rfl, e13, rfl⟩
  | succ m ih =>
    intro n n' k came σ τ hn hn' hk hk2 hcm e11 hT hS e13
    obtain ⟨n, rfl⟩ : ∃ q, n = q + 1 := ⟨n - 1, by omega⟩
    obtain ⟨n', rfl⟩ : ∃ q, n' = q + 1 := ⟨n' - 1, by omega⟩
    rw [F_X11_row_23, F_X12_row_35, e11]
    by_cases hp : had ≤ k
    · have p : nI had ≤ nI k := nI_le hp (by omega)
      simp only [if_pos p, nm_eq, C_accepted, bd_eq]
      rw [R_tN (by omega), bd_eq]
      exact ⟨_, _, _, rfl, rfl, hS, ⟨rfl, fun k => ⟨rfl, rfl⟩, rfl, rfl, rfl, rfl, rfl, rfl, rfl⟩, ⟨rfl, rfl, rfl, rfl, rfl, rfl, rfl, rfl, rfl, rfl⟩, rfl, rfl, e13, rfl⟩
    have p : ¬ nI had ≤ nI k := nI_ge (by omega) (by omega)
    have e2 : nI k + 2 = nI (k + 2) := nI_add k 2
    have e3 : nI k + 3 = nI (k + 3) := nI_add k 3
    have e4 : nI k + 1 = nI (k + 1) := nI_add k 1
    obtain ⟨c, hc, c1, c2⟩ := cnt0 hS
    have hno : ∃ r σ' τ', (nm (uI σ 13 ((sI σ 13) + 1)) fun σ11 => nm (nI k + 3) fun x12 => (F_X11_row_23 n) (nI came) x12 σ11) = some (r, σ') ∧ F_X12_row_103 (F_X12_row_35 n') (nI had) (nI came) (nI k) τ = some (r, τ') ∧ SimSt σ' τ' ∧ kpC0 σ σ' ∧ kpR0 τ τ' ∧ sI σ' 11 = 0 ∧ sI τ' 8 = sI τ 8 ∧ sI σ' 13 = sI τ' 6 ∧ sI σ' 14 = sI τ' 1 := by
      unfold F_X12_row_103
      simp only [nm_eq, e3]
      obtain ⟨r, σ', τ', z1, z2, z3, z4, z5, z6, z7, z8⟩ := ih n n' (k + 3) came (uI σ 13 (sI σ 13 + 1)) (uI τ 6 (sI τ 6 + 1)) (by omega) (by omega) (by omega) (by omega) (by omega) e11 hT hS (by show sI σ 13 + 1 = sI τ 6 + 1; rw [e13])
      exact ⟨r, σ', τ', z1, z2, z3, z4, z5, z6, z7, z8⟩
    simp only [if_neg p]
    unfold F_X11_bookFromTape
    rw [e2, e11]
    by_cases q1 : had ≤ k + 2
    · have q : nI had ≤ nI (k + 2) := nI_le q1 (by omega)
      simp only [if_pos q, cz_0, bd_eq]
      exact hno
    have q : ¬ nI had ≤ nI (k + 2) := nI_ge (by omega) (by omega)
    obtain ⟨b0, b0a, b0b⟩ := hT k (by omega)
    obtain ⟨b1, b1a, b1b⟩ := hT (k + 1) (by omega)
    obtain ⟨b2', b2a, b2b⟩ := hT (k + 2) (by omega)
    simp only [if_neg q, rdL0, rd5_0, c2, e4]
    have t0 : tB 0 = 9 := rfl
    rw [rd_n (by omega) (by decide), rd_n (n := 400) (i := k) (by omega) (by decide), b0, t0]
    simp only [rd_n (n := 400) (f := sA τ 7) (i := k) (by omega) (by decide), rd_n (n := 400) (f := sA σ 3) (i := k) (by omega) (by decide), rd_n (n := 400) (f := sA σ 3) (i := k + 1) (by omega) (by decide), rd_n (n := 400) (f := sA σ 3) (i := k + 2) (by omega) (by decide), rd_n (n := 400) (f := sA τ 7) (i := k + 1) (by omega) (by decide), rd_n (n := 400) (f := sA τ 7) (i := k + 2) (by omega) (by decide), b0, b1, b2']
    by_cases q2 : sA τ 7 k ≤ 9
    rotate_left
    · have q3 : 10 ≤ sA τ 7 k := by
        rw [Int32.le_iff_toInt_le] at q2 ⊢
        have y9 : (9 : Int32).toInt = 9 := rfl
        have y10 : (10 : Int32).toInt = 10 := rfl
        omega
      simp only [if_neg q2, if_pos q3, cz_0, bd_eq, ite_self]
      exact hno
    have q3 : ¬ 10 ≤ sA τ 7 k := by
      rw [Int32.le_iff_toInt_le] at q2 ⊢
      have y9 : (9 : Int32).toInt = 9 := rfl
      have y10 : (10 : Int32).toInt = 10 := rfl
      omega
    simp only [if_pos q2, if_neg q3]
    by_cases q4 : c = 10
    · subst q4
      have q5 : (10 : Int32) ≤ nI 10 := by decide
      rw [addBook_no c1, bd_eq, if_pos rfl, cz_0, bd_eq, if_pos rfl]
      simp only [if_pos q5]
      exact hno
    have q5 : ¬ (10 : Int32) ≤ nI c := nI_ge (b := 10) (by omega) (by decide)
    have y0 : (0 : Int32).toInt = 0 := rfl
    have y999 : (999 : Int32).toInt = 999 := rfl
    obtain ⟨σ1, τ1, w1, w2, w3, w4, w5, w6⟩ := addBook_sim hS (c := c) (by omega) c1 c2 (a := sA τ 7 k) (b := sA τ 7 (k + 1)) (d := 0) (e := sA τ 7 (k + 2)) (f := 0) ⟨by rw [Int32.le_iff_toInt_le]; omega, q2⟩ ⟨by rw [Int32.le_iff_toInt_le]; omega, by rw [Int32.le_iff_toInt_le]; omega⟩ (by decide) ⟨by rw [Int32.le_iff_toInt_le]; omega, by rw [Int32.le_iff_toInt_le]; omega⟩ (by decide)
    rw [w1, bd_eq, if_neg (nI_m1 (by omega)), cz_1, bd_eq, if_neg (by decide), if_neg q5, w2, bd_eq]
    simp only [nm_eq, e3, nI_1]
    have k1 := w4
    obtain ⟨-, -, -, -, ⟨k11, -, k13, -⟩, k3, -, -, -⟩ := k1
    have k2 := w5
    obtain ⟨-, -, k7, -, -, -, ⟨k8, -, k6, -, -⟩, -, -⟩ := k2
    obtain ⟨r, σ', τ', z1, z2, z3, z4, z5, z6, z7, z8⟩ := ih n n' (k + 3) (came + 1) σ1 τ1 (by omega) (by omega) (by omega) (by omega) (by omega) (k11.trans e11) (by rw [k3, k7]; exact hT) w3 (by rw [k13, k6]; exact e13)
    exact ⟨r, σ', τ', z1, z2, z3, kpC0_trans (kpC0_of w4) z4, kpR0_trans (kpR0_of w5) z5, z6, z7.trans k8, z8⟩
theorem st_row : ∀ (σ τ : xS), Sim σ τ → ∀ (_ : Unit), ∃ (r : Int32) (σ1 τ1 : xS), F_X11_row  σ = some (r, σ1) ∧ F_X12_row  τ = some (r, τ1) ∧ Sim σ1 τ1 := by
  intro σ τ0 h0 _
  have h := Sim_thr h0
  unfold F_X11_row F_X12_row
  simp only [nm_eq]
  generalize uI τ0 0 0 = τ at h ⊢
  obtain ⟨t, ht, e⟩ : ∃ t, t < 401 ∧ sI τ 8 = nI t := i_of h.2.2.1.2.1.1 (by have := h.2.2.1.2.1.2; omega) (by decide)
  have e2 : sI σ 11 = nI t := h.2.2.1.1.trans e
  simp only [e, e2, C_r6, R_t6, bd_eq]
  by_cases p : t = 0
  · have p2 : nI t = 0 := by rw [p]; rfl
    simp only [if_pos p2]
    have hz : uI τ 8 0 = τ := by
      rw [p] at e
      show (τ.1, τ.2.1, va_up τ.2.2.1 8 0, τ.2.2.2) = τ
      have ez : va_up τ.2.2.1 8 (0 : Int32) = τ.2.2.1 := by
        funext q
        unfold va_up
        by_cases hq : q = 8
        · rw [if_pos hq, hq]
          exact e.symm
        · rw [if_neg hq]
      rw [ez]
    rw [hz]
    exact ⟨_, _, _, rfl, rfl, Sim_ref (Or.inr (Or.inr (Or.inr rfl))) h⟩
  · have p2 : ¬ nI t = 0 := nI_ne0 (by omega) (by omega)
    simp only [if_neg p2]
    obtain ⟨r, σ', τ', z1, z2, z3, z4, z5, z6, z7, z8, z9⟩ := row_loop t (by omega) 134 FU FU 0 0 (uI σ 13 0) (uI (uI τ 8 0) 6 0) (by decide) (by decide) (by omega) (by omega) (by omega) e2 h.2.2.1.2.2 h.1 rfl
    have z7' : sI τ' 8 = 0 := z7
    exact ⟨r, σ', τ', z1, z2, Sim_st0 h z4 z5 z3 (z6.trans z7'.symm) (by rw [z7']; decide) z8 z9⟩
