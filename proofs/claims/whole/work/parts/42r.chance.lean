section
/-! ===== chance, asks, wants, stands ===== -/
theorem i_le {x : Int32} {c : Nat} (h1 : 0 ≤ x.toInt) (h2 : x.toInt ≤ (c : Int)) (hc : c + 1 < 2 ^ 31) : ∃ n : Nat, n ≤ c ∧ x = nI n := by
  obtain ⟨i, hi, e⟩ := i_of (x := x) (N := c + 1) h1 (by omega) hc
  exact ⟨i, by omega, e⟩
theorem R_asTold {b : Nat} (hb : b < 10) (τ : xS) : F_X12_asTold (nI b) τ = some ((), uI (uI (uI τ 33 (sA τ 3 (13 + 5 * b + 4))) 34 0) 35 0) := by
  unfold F_X12_asTold
  rw [show F_X12_ofBook (nI b) 4 τ = _ from R_ofBook hb (w := 4) (by decide) τ, bd_eq, nm_eq, nm_eq, nm_eq]
/-- how likely a book sells -/
theorem sells_eq {σ τ : xS} (hS : SimSt σ τ) {b : Nat} (hb : b < 10) {price : Int32} {W : Nat → Int32} (he : ∀ k, k < 10 → (sA (uA σ 45 W) 45 k).toInt64 = envR τ b price 0 (k + 1)) : ∃ (r : Nat) (σ' τ' : xS), r ≤ 100 ∧ F_X0_sells (uA σ 45 W) = some (nI r, σ') ∧ F_X12_sells (nI b) price τ = some (nI r, τ') ∧ KC σ σ' ∧ frT τ τ' ∧ frS (uA σ 45 W) σ' := by
  obtain ⟨rC, r, σ', τ', h1, h2, h3, h4, h5, -, h6, h7⟩ := told_tells (SimSt_keep hS (KC_A σ W (k := 45) (by decide)) (KR_refl τ)) (h := 0) (by decide) hb (price := price) (since := 0) he (wo := 10) (most := 100) (woC := 10) (mostC := 100) (by decide) (by decide) (fun _ => ⟨rfl, rfl⟩) (fun q => absurd q (by decide))
  have h5' := h5 (by decide)
  subst h5'
  obtain ⟨n, hn, rfl⟩ := i_le (c := 100) h6 h7 (by decide)
  refine ⟨n, σ', τ', hn, ?_, ?_, KC_trans (KC_A σ W (k := 45) (by decide)) (KC_S h3), h4, h3⟩
  · unfold F_X0_sells
    rw [show F_X0_told 10 100 10 (uA σ 45 W) = _ from h1, bd_eq]
  · unfold F_X12_sells
    rw [show F_X12_tells 0 (nI b) price 0 10 100 τ = _ from h2, bd_eq]
theorem R_isB {σ τ : xS} {c : Nat} (e2 : sA τ 3 0 = nI c) (a : Int32) : F_X12_isBook a τ = some (b2 (0 ≤ a ∧ a < nI c), τ) := by rw [R_isBook, e2]
theorem st_chance : ∀ (σ τ : xS), Sim σ τ → ∀ (a1 a2 a3 a4 : Int32), ∃ (r : Int32) (σ1 τ1 : xS), F_X11_chance a1 a2 a3 a4 σ = some (r, σ1) ∧ F_X12_chance a1 a2 a3 a4 τ = some (r, τ1) ∧ Sim σ1 τ1 := by
  intro σ τ0 h0 a1 a2 a3 a4
  have h := Sim_thr h0
  unfold F_X11_chance F_X12_chance
  simp only [nm_eq]
  generalize uI τ0 0 0 = τ at h ⊢
  obtain ⟨c, hc, e1, e2⟩ := cnt0 h.1
  simp only [R_isB (σ := σ) e2, R_i0_2000, R_i0_51, R_i0_999, C_isWithin, bd_eq, ib2, has_if 0 a1 σ e1]
  by_cases p : 0 ≤ a1 ∧ a1 < nI c
  rotate_left
  · simp only [if_neg p]
    exact ⟨_, _, _, rfl, rfl, h⟩
  by_cases p2 : 0 ≤ a2 ∧ a2 ≤ 2000
  rotate_left
  · simp only [if_pos p, if_neg p2]
    exact ⟨_, _, _, rfl, rfl, h⟩
  by_cases p3 : 0 ≤ a3 ∧ a3 ≤ 51
  rotate_left
  · simp only [if_pos p, if_pos p2, if_neg p3]
    exact ⟨_, _, _, rfl, rfl, h⟩
  by_cases p4 : 0 ≤ a4 ∧ a4 ≤ 999
  rotate_left
  · simp only [if_pos p, if_pos p2, if_pos p3, if_neg p4]
    exact ⟨_, _, _, rfl, rfl, h⟩
  simp only [if_pos p, if_pos p2, if_pos p3, if_pos p4]
  obtain ⟨b, hb, rfl⟩ := idxlt p rfl (by omega)
  obtain ⟨W, hW, w0, w1, w2, w3, w4, w5, w6, w7, w8, w9⟩ := C_about h.1 e1 hc hb a3
  rw [hW, bd_eq, R_asTold (by omega), bd_eq, ck10_4, ck10_8]
  simp only [sA_s, uA_uA, cl4, cl8]
  have hS2 : SimSt σ (uI (uI (uI (uI (uI τ 33 (sA τ 3 (13 + 5 * b + 4))) 34 0) 35 0) 34 a3) 35 a4) := h.1
  obtain ⟨r, σ', τ', hr, q1, q2, q3, q4, -⟩ := sells_eq hS2 (b := b) (by omega) (price := a2) (W := upd (upd W 4 a2) 8 a4) (env_of (since := 0) w0 w1 w2 w3 rfl w5 w6 w7 rfl w9)
  rw [q1, bd_eq, q2, bd_eq]
  exact ⟨_, _, _, rfl, rfl, Sim_keep h q3 (KR_trans (KR_trans (KR_trans (KR_trans (KR_trans (KR_I _ _ (by decide)) (KR_I _ _ (by decide))) (KR_I _ _ (by decide))) (KR_I _ _ (by decide))) (KR_I _ _ (by decide))) (KR_T q4))⟩
/-- what a book draws in on the table -/
theorem draws_eq {σ τ : xS} (hS : SimSt σ τ) {b c : Nat} (e1 : sI σ 131 = nI c) (hc : c ≤ 10) (hb : b < c) : ∃ (r : Nat) (σ' τ' : xS), r ≤ 99 ∧ F_X0_drawsOnTable (nI b) (sI τ 34) σ = some (nI r, σ') ∧ F_X12_drawsOf (nI b) τ = some (nI r, τ') ∧ KC σ σ' ∧ (∃ τ1, τ1 = uI (uI τ 33 1) 35 0 ∧ frT τ1 τ') ∧ (∃ W, frS (uA σ 45 W) σ') := by
  obtain ⟨W, hW, w0, w1, w2, w3, w4, w5, w6, w7, w8, w9⟩ := C_about hS e1 hc hb (sI τ 34)
  have hS2 : SimSt (uA σ 45 (upd W 5 1)) (uI (uI τ 33 1) 35 0) := SimSt_keep (show SimSt σ (uI (uI τ 33 1) 35 0) from hS) (KC_A σ _ (k := 45) (by decide)) (KR_refl _)
  obtain ⟨rC, r, σ', τ', h1, h2, h3, h4, h5, -, h6, h7⟩ := told_tells hS2 (h := 1) (b := b) (by decide) (by omega) (price := sA τ 3 (13 + 5 * b + 3)) (since := 0) (env_of (τ := uI (uI τ 33 1) 35 0) w0 w1 w2 w3 w4 rfl w6 w7 w8 w9) (wo := 0) (most := 99) (woC := 0) (mostC := 99) (by decide) (by decide) (fun _ => ⟨rfl, rfl⟩) (fun q => absurd q (by decide))
  have h5' := h5 (by decide)
  subst h5'
  obtain ⟨n, hn, rfl⟩ := i_le (c := 99) h6 h7 (by decide)
  refine ⟨n, σ', τ', hn, ?_, ?_, KC_trans (KC_A σ _ (k := 45) (by decide)) (KC_S h3), ⟨_, rfl, h4⟩, ⟨_, h3⟩⟩
  · unfold F_X0_drawsOnTable
    rw [hW, bd_eq, ck10_5, nm_eq, sA_s, uA_uA, cl5, show F_X0_told 11 99 0 (uA σ 45 (upd W 5 1)) = _ from h1, bd_eq]
  · unfold F_X12_drawsOf
    rw [nm_eq, nm_eq, show F_X12_ofBook (nI b) 3 (uI (uI τ 33 1) 35 0) = some (sA τ 3 (13 + 5 * b + 3), uI (uI τ 33 1) 35 0) from R_ofBook (i := b) (w := 3) (by omega) (by decide) _, bd_eq, show F_X12_tells 1 (nI b) (sA τ 3 (13 + 5 * b + 3)) 0 0 99 (uI (uI τ 33 1) 35 0) = _ from h2, bd_eq]
/-- whether the dealer takes a book -/
theorem takes_eq {σ τ : xS} (hS : SimSt σ τ) {b : Nat} (hb : b < 10) {price : Int32} {W : Nat → Int32} (w0 : W 0 = nI b) (w1 : W 1 = sA τ 3 (13 + 5 * b + 0)) (w2 : W 2 = sA τ 3 (13 + 5 * b + 1)) (w3 : W 3 = sA τ 3 (13 + 5 * b + 2) + sI τ 34) (w4 : W 4 = price) (w5 : W 5 = sA τ 3 (13 + 5 * b + 4)) (w6 : W 6 = (sA τ 3 7 + sI τ 34) - (sA τ 3 7 + sI τ 34) / 52 * 52) (w7 : W 7 = sA τ 3 8) (w8 : W 8 = 0) (w9 : W 9 = 0) : ∃ (r : Bool) (σ' τ' : xS), F_X0_dealerTakes (uA σ 45 W) = some (b2 (r = true), σ') ∧ F_X12_isTaken (nI b) price τ = some (b2 (r = true), τ') ∧ KC σ σ' ∧ (∃ τ1, τ1 = uI (uI τ 33 (sA τ 3 (13 + 5 * b + 4))) 35 0 ∧ frT τ1 τ') ∧ frS (uA σ 45 W) σ' := by
  have hS2 : SimSt (uA σ 45 W) (uI (uI τ 33 (sA τ 3 (13 + 5 * b + 4))) 35 0) := SimSt_keep (show SimSt σ (uI (uI τ 33 (sA τ 3 (13 + 5 * b + 4))) 35 0) from hS) (KC_A σ _ (k := 45) (by decide)) (KR_refl _)
  obtain ⟨rC, r, σ', τ', h1, h2, h3, h4, -, h5, -, -⟩ := told_tells hS2 (h := 3) (b := b) (by decide) hb (price := price) (since := 0) (env_of (τ := uI (uI τ 33 (sA τ 3 (13 + 5 * b + 4))) 35 0) w0 w1 w2 w3 w4 w5 w6 w7 w8 w9) (wo := 0) (most := 1) (woC := -1) (mostC := 0) (by decide) (by decide) (fun q => absurd q (by decide)) (fun _ => ⟨rfl, rfl, rfl, rfl⟩)
  have hR : F_X12_isTaken (nI b) price τ = (if r = 1 then cz 1 (some (1, τ')) else cz 0 (some (0, τ'))) := by
    unfold F_X12_isTaken
    rw [show F_X12_ofBook (nI b) 4 τ = _ from R_ofBook hb (w := 4) (by decide) τ, bd_eq, nm_eq, nm_eq, show F_X12_tells 3 (nI b) price 0 0 1 (uI (uI τ 33 (sA τ 3 (13 + 5 * b + 4))) 35 0) = _ from h2, bd_eq]
  have hC : F_X0_dealerTakes (uA σ 45 W) = (if rC = -1 then cz 0 (some (0, σ')) else cz 1 (some (1, σ'))) := by
    unfold F_X0_dealerTakes
    rw [show F_X0_told 13 0 (-1) (uA σ 45 W) = _ from h1, bd_eq]
  have hk : KC σ σ' := KC_trans (KC_A σ _ (k := 45) (by decide)) (KC_S h3)
  rcases h5 rfl with ⟨e1, e2⟩ | ⟨e1, e2⟩
  · subst e1
    subst e2
    exact ⟨false, σ', τ', hC.trans (cz_0 _), hR.trans (cz_0 _), hk, ⟨_, rfl, h4⟩, h3⟩
  · subst e1
    subst e2
    exact ⟨true, σ', τ', hC.trans (cz_1 _), hR.trans (cz_1 _), hk, ⟨_, rfl, h4⟩, h3⟩
theorem st_asks : ∀ (σ τ : xS), Sim σ τ → ∀ (a1 a2 : Int32), ∃ (r : Int32) (σ1 τ1 : xS), F_X11_asks a1 a2 σ = some (r, σ1) ∧ F_X12_asks a1 a2 τ = some (r, τ1) ∧ Sim σ1 τ1 := by
  intro σ τ0 h0 a1 a2
  have h := Sim_thr h0
  unfold F_X11_asks F_X12_asks
  simp only [nm_eq]
  generalize uI τ0 0 0 = τ at h ⊢
  obtain ⟨c, hc, e1, e2⟩ := cnt0 h.1
  simp only [R_isB (σ := σ) e2, R_i0_1, C_isWithin, bd_eq, ib2, has_if 0 a1 σ e1]
  by_cases p : 0 ≤ a1 ∧ a1 < nI c
  rotate_left
  · simp only [if_neg p]
    exact ⟨_, _, _, rfl, rfl, h⟩
  by_cases p2 : 0 ≤ a2 ∧ a2 ≤ 1
  rotate_left
  · simp only [if_pos p, if_neg p2]
    exact ⟨_, _, _, rfl, rfl, h⟩
  simp only [if_pos p, if_pos p2]
  obtain ⟨b, hb, rfl⟩ := idxlt p rfl (by omega)
  have h2 : Sim σ (uI τ 34 0) := Sim_keep h (KC_refl σ) (KR_I τ 0 (by decide))
  by_cases p3 : a2 = 0
  · rw [if_pos p3, if_pos p3]
    obtain ⟨r, σ', τ', hr, q1, q2, q3, ⟨τ1, t1, t2⟩, -⟩ := draws_eq h2.1 e1 hc hb
    have q1' : F_X0_drawsOnTable (nI b) 0 σ = _ := q1
    rw [q1', q2, bd_eq, bd_eq]
    refine ⟨_, _, _, rfl, rfl, Sim_keep h2 q3 ?_⟩
    subst t1
    exact KR_trans (KR_trans (KR_I _ _ (by decide)) (KR_I _ _ (by decide))) (KR_T t2)
  · rw [if_neg p3, if_neg p3]
    obtain ⟨W, hW, w0, w1, w2, w3, w4, w5, w6, w7, w8, w9⟩ := C_about h.1 e1 hc hb 0
    obtain ⟨r, σ', τ', q1, q2, q3, ⟨τ1, t1, t2⟩, -⟩ := takes_eq h2.1 (b := b) (by omega) (price := sA τ 3 (13 + 5 * b + 3)) w0 w1 w2 w3 w4 w5 w6 w7 w8 w9
    rw [hW, bd_eq, q1, bd_eq, show F_X12_ofBook (nI b) 3 (uI τ 34 0) = some (sA τ 3 (13 + 5 * b + 3), uI τ 34 0) from R_ofBook (i := b) (w := 3) (by omega) (by decide) _, bd_eq, q2, bd_eq, ib2, ib2]
    have hf : Sim σ' τ' := by
      refine Sim_keep h2 q3 ?_
      subst t1
      exact KR_trans (KR_trans (KR_I _ _ (by decide)) (KR_I _ _ (by decide))) (KR_T t2)
    cases r
    · rw [if_neg (by decide), if_neg (by decide)]
      exact ⟨_, _, _, rfl, rfl, hf⟩
    · rw [if_pos rfl, if_pos rfl]
      exact ⟨_, _, _, rfl, rfl, hf⟩
/-- whether a card's writer still wants a book -/
theorem wants_eq {σ τ : xS} (hS : SimSt σ τ) {b c j cj : Nat} (e1 : sI σ 131 = nI c) (hc : c ≤ 10) (hb : b < c) (f1 : sI σ 195 = nI cj) (hcj : cj ≤ 8) (hj : j < cj) : ∃ (r : Nat) (σ' τ' : xS), r ≤ 100 ∧ F_X0_stillWanted (nI j) (nI b) σ = some (nI r, σ') ∧ F_X12_wantsOf (nI j) (nI b) τ = some (nI r, τ') ∧ KC σ σ' ∧ (∃ τ1, τ1 = uI (uI (uI τ 33 (sA τ 3 (13 + 5 * b + 4))) 34 0) 35 0 ∧ frT τ1 τ') ∧ (∃ W, frS (uA σ 45 W) σ') := by
  obtain ⟨W, hW, w0, w1, w2, w3, w4, w5, w6, w7, w8, w9⟩ := C_about hS e1 hc hb 0
  have hS2 : SimSt (uA σ 45 (upd W 9 (sA τ 3 (99 + 3 * j + 1)))) (uI (uI (uI τ 33 (sA τ 3 (13 + 5 * b + 4))) 34 0) 35 0) := SimSt_keep (show SimSt σ (uI (uI (uI τ 33 (sA τ 3 (13 + 5 * b + 4))) 34 0) 35 0) from hS) (KC_A σ _ (k := 45) (by decide)) (KR_refl _)
  obtain ⟨rC, r, σ', τ', h1, h2, h3, h4, h5, -, h6, h7⟩ := told_tells hS2 (h := 2) (b := b) (by decide) (by omega) (price := sA τ 3 (13 + 5 * b + 3)) (since := sA τ 3 (99 + 3 * j + 1)) (env_of (τ := uI (uI (uI τ 33 (sA τ 3 (13 + 5 * b + 4))) 34 0) 35 0) w0 w1 w2 w3 w4 w5 w6 w7 w8 rfl) (wo := 50) (most := 100) (woC := 50) (mostC := 100) (by decide) (by decide) (fun _ => ⟨rfl, rfl⟩) (fun q => absurd q (by decide))
  have h5' := h5 (by decide)
  subst h5'
  obtain ⟨n, hn, rfl⟩ := i_le (c := 100) h6 h7 (by decide)
  refine ⟨n, σ', τ', hn, ?_, ?_, KC_trans (KC_A σ _ (k := 45) (by decide)) (KC_S h3), ⟨_, rfl, h4⟩, ⟨_, h3⟩⟩
  · have g : F_X6_get 2 (nI j) 1 (uA σ 45 W) = some (sA σ 13 (j * 3 + 1), uA σ 45 W) := C_getY (r := 2) (w := 1) (σ := uA σ 45 W) f1 (show cj ≤ 8 from hcj) hj (by decide)
    unfold F_X0_stillWanted
    rw [hW, bd_eq, g, bd_eq, cell_card hS (by omega) (by decide), ck10_9, nm_eq, sA_s, uA_uA, cl9, show F_X0_told 12 100 50 (uA σ 45 (upd W 9 (sA τ 3 (99 + 3 * j + 1)))) = _ from h1, bd_eq]
  · have ei : (99 : Int32) + 3 * nI j + 1 = nI (99 + 3 * j + 1) := by
      show nI 99 + nI 3 * nI j + nI 1 = _
      rw [pk_mul, nI_add, nI_add]
    unfold F_X12_wantsOf
    rw [R_asTold (by omega), bd_eq, show F_X12_ofBook (nI b) 3 (uI (uI (uI τ 33 (sA τ 3 (13 + 5 * b + 4))) 34 0) 35 0) = some (sA τ 3 (13 + 5 * b + 3), uI (uI (uI τ 33 (sA τ 3 (13 + 5 * b + 4))) 34 0) 35 0) from R_ofBook (i := b) (w := 3) (by omega) (by decide) _, bd_eq, ei, rd_n (by omega) (by decide)]
    rw [show F_X12_tells 2 (nI b) (sA τ 3 (13 + 5 * b + 3)) (sA (uI (uI (uI τ 33 (sA τ 3 (13 + 5 * b + 4))) 34 0) 35 0) 3 (99 + 3 * j + 1)) 50 100 (uI (uI (uI τ 33 (sA τ 3 (13 + 5 * b + 4))) 34 0) 35 0) = _ from h2, bd_eq]
theorem st_wants : ∀ (σ τ : xS), Sim σ τ → ∀ (a1 a2 : Int32), ∃ (r : Int32) (σ1 τ1 : xS), F_X11_wants a1 a2 σ = some (r, σ1) ∧ F_X12_wants a1 a2 τ = some (r, τ1) ∧ Sim σ1 τ1 := by
  intro σ τ0 h0 a1 a2
  have h := Sim_thr h0
  unfold F_X11_wants F_X12_wants
  simp only [nm_eq]
  generalize uI τ0 0 0 = τ at h ⊢
  obtain ⟨c, hc, e1, e2⟩ := cnt0 h.1
  obtain ⟨cj, hcj, f1, f2⟩ := cnt2 h.1
  have hIC : F_X12_isCard a1 τ = some (b2 (0 ≤ a1 ∧ a1 < nI cj), τ) := by rw [R_isCard, f2]
  simp only [R_isB (σ := σ) e2, hIC, C_isWithin, bd_eq, ib2, has_if 2 a1 σ f1, has_if 0 a2 σ e1]
  by_cases p : 0 ≤ a1 ∧ a1 < nI cj
  rotate_left
  · simp only [if_neg p]
    exact ⟨_, _, _, rfl, rfl, h⟩
  by_cases p2 : 0 ≤ a2 ∧ a2 < nI c
  rotate_left
  · simp only [if_pos p, if_neg p2]
    exact ⟨_, _, _, rfl, rfl, h⟩
  simp only [if_pos p, if_pos p2]
  obtain ⟨j, hj, rfl⟩ := idxlt p rfl (by omega)
  obtain ⟨b, hb, rfl⟩ := idxlt p2 rfl (by omega)
  obtain ⟨r, σ', τ', hr, q1, q2, q3, ⟨τ1, t1, t2⟩, -⟩ := wants_eq h.1 e1 hc hb f1 hcj hj
  rw [q1, q2, bd_eq, bd_eq]
  refine ⟨_, _, _, rfl, rfl, Sim_keep h q3 ?_⟩
  subst t1
  exact KR_trans (KR_trans (KR_trans (KR_I _ _ (by decide)) (KR_I _ _ (by decide))) (KR_I _ _ (by decide))) (KR_T t2)
theorem stands_loop {b c k : Nat} (hc : c ≤ 10) (hb : b < c) (m : Nat) : ∀ (n n' i : Nat) (v : Int64) (a2 : Int32) (σ τ : xS), Sim σ τ → sI σ 131 = nI c → m < n → m < n' → i + m = k → a2 = nI k → k ≤ 6 → sI τ 33 = sA τ 3 (13 + 5 * b + 4) → sI τ 35 = 0 → ∃ (r : Int64) (σ1 τ1 : xS), F_X11_stands_33 n (nI b) a2 v (nI i) σ = some (r, σ1) ∧ F_X12_stands_39 n' (nI b) a2 v (nI i) τ = some (r, τ1) ∧ Sim σ1 τ1 := by
  induction m with
  | zero =>
    intro n n' i v a2 σ τ h e1 hn hn' hi ha hk p33 p35
    obtain ⟨n, rfl⟩ : ∃ q, n = q + 1 := ⟨n - 1, by omega⟩
    obtain ⟨n', rfl⟩ : ∃ q, n' = q + 1 := ⟨n' - 1, by omega⟩
    rw [F_X11_stands_33, F_X12_stands_39, ha, if_pos (nI_le (by omega) (by omega)), if_pos (nI_le (by omega) (by omega))]
    exact ⟨_, _, _, rfl, rfl, h⟩
  | succ m ih =>
    intro n n' i v a2 σ τ h e1 hn hn' hi ha hk p33 p35
    obtain ⟨n, rfl⟩ : ∃ q, n = q + 1 := ⟨n - 1, by omega⟩
    obtain ⟨n', rfl⟩ : ∃ q, n' = q + 1 := ⟨n' - 1, by omega⟩
    obtain ⟨W, hW, w0, w1, w2, w3, w4, w5, w6, w7, w8, w9⟩ := C_about h.1 e1 hc hb (nI i)
    have hS2 : SimSt σ (uI τ 34 (nI i)) := h.1
    obtain ⟨r, σ', τ', hr, q1, q2, q3, q4, -⟩ := sells_eq hS2 (b := b) (by omega) (price := sA τ 3 (13 + 5 * b + 3)) (W := W) (env_of (τ := uI τ 34 (nI i)) (since := 0) w0 w1 w2 w3 w4 (w5.trans p33.symm) w6 w7 (w8.trans p35.symm) w9)
    have hKR : KR τ τ' := KR_trans (KR_I τ (nI i) (k := 34) (by decide)) (KR_T q4)
    have hd : ((100 : Int32) - nI r).toInt64 = 100 - (nI r).toInt64 := by
      have e9 : (100 : Int32) - nI r = nI (100 - r) := pk_sub (a := 100) hr
      rw [e9, zL_n (by omega), zL_n (by omega), show (100 : Int64) = zL 100 from rfl, zL_sub]
      congr 1
      omega
    rw [F_X11_stands_33, F_X12_stands_39, ha, if_neg (nI_ge (by omega) (by omega)), if_neg (nI_ge (by omega) (by omega)), hW, bd_eq, q1, bd_eq, nm_eq, nm_eq, nm_eq, show F_X12_ofBook (nI b) 3 (uI τ 34 (nI i)) = some (sA τ 3 (13 + 5 * b + 3), uI τ 34 (nI i)) from R_ofBook (i := b) (w := 3) (by omega) (by decide) _, bd_eq, q2, bd_eq, hd]
    simp only [nm_eq, nI_1]
    refine ih n n' (i + 1) _ (nI k) σ' τ' (Sim_keep h q3 hKR) (by rw [q3.2.1 131 (by decide)]; exact e1) (by omega) (by omega) (by omega) rfl hk ?_ ?_
    · rw [q4.2.1 33 (by decide) (by decide), q4.1 3]
      exact p33
    · rw [q4.2.1 35 (by decide) (by decide)]
      exact p35
theorem st_stands : ∀ (σ τ : xS), Sim σ τ → ∀ (a1 a2 : Int32), ∃ (r : Int64) (σ1 τ1 : xS), F_X11_stands a1 a2 σ = some (r, σ1) ∧ F_X12_stands a1 a2 τ = some (r, τ1) ∧ Sim σ1 τ1 := by
  intro σ τ0 h0 a1 a2
  have h := Sim_thr h0
  unfold F_X11_stands F_X12_stands
  simp only [nm_eq]
  generalize uI τ0 0 0 = τ at h ⊢
  obtain ⟨c, hc, e1, e2⟩ := cnt0 h.1
  simp only [R_isB (σ := σ) e2, R_i0_6, C_isWithin, bd_eq, ib2, has_if 0 a1 σ e1]
  by_cases p : 0 ≤ a1 ∧ a1 < nI c
  rotate_left
  · simp only [if_neg p]
    exact ⟨_, _, _, rfl, rfl, h⟩
  by_cases p2 : 0 ≤ a2 ∧ a2 ≤ 6
  rotate_left
  · simp only [if_pos p, if_neg p2]
    exact ⟨_, _, _, rfl, rfl, h⟩
  simp only [if_pos p, if_pos p2]
  obtain ⟨b, hb, rfl⟩ := idxlt p rfl (by omega)
  obtain ⟨k, hk, rfl⟩ := idxle p2 (c := 6) rfl (by omega)
  rw [R_asTold (by omega), bd_eq]
  obtain ⟨r, σ1, τ1, r1, r2, r3⟩ := stands_loop (k := k) hc hb k FU FU 0 1 (nI k) σ (uI (uI (uI τ 33 (sA τ 3 (13 + 5 * b + 4))) 34 0) 35 0) (Sim_keep h (KC_refl σ) (KR_trans (KR_trans (KR_I _ _ (by decide)) (KR_I _ _ (by decide))) (KR_I _ _ (by decide)))) e1 (by unfold FU; omega) (by unfold FU; omega) (by omega) rfl hk rfl rfl
  exact ⟨r, σ1, τ1, r1, r2, r3⟩
end
