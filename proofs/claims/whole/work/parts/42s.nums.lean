section
/-! ===== what is told, as numbers of the first state alone ===== -/
/-- the reference's state, said where, when, with how many -/
def atT (τ : xS) (pl lt cw : Int32) : xS := uI (uI (uI τ 33 pl) 34 lt) 35 cw
def tdN (τ : xS) (h b : Nat) (pl lt pr cw since wo most : Int32) : Int32 := match F_X12_tells (nI h) (nI b) pr since wo most (atT τ pl lt cw) with
  | some (r, _) => r
  | none => 0
/-- the class's ten words that go with it -/
def wdT (τ : xS) (b : Nat) (pl lt pr cw since : Int32) (W : Nat → Int32) : Prop := W 0 = nI b ∧ W 1 = sA τ 3 (13 + 5 * b + 0) ∧ W 2 = sA τ 3 (13 + 5 * b + 1) ∧ W 3 = sA τ 3 (13 + 5 * b + 2) + lt ∧ W 4 = pr ∧ W 5 = pl ∧ W 6 = (sA τ 3 7 + lt) - (sA τ 3 7 + lt) / 52 * 52 ∧ W 7 = sA τ 3 8 ∧ W 8 = cw ∧ W 9 = since
theorem wdT_env {σ τ τ1 : xS} {b : Nat} {pl lt pr cw since : Int32} {W : Nat → Int32} (h : wdT τ b pl lt pr cw since W) (h3 : sA τ1 3 = sA τ 3) (h33 : sI τ1 33 = pl) (h34 : sI τ1 34 = lt) (h35 : sI τ1 35 = cw) : ∀ k, k < 10 → (sA (uA σ 45 W) 45 k).toInt64 = envR τ1 b pr since (k + 1) := by
  obtain ⟨w0, w1, w2, w3, w4, w5, w6, w7, w8, w9⟩ := h
  exact env_of w0 (by rw [h3]; exact w1) (by rw [h3]; exact w2) (by rw [h3, h34]; exact w3) w4 (by rw [h33]; exact w5) (by rw [h3, h34]; exact w6) (by rw [h3]; exact w7) (by rw [h35]; exact w8) w9
theorem SimSt_3 {σ τ τ1 : xS} (h : SimSt σ τ) (h3 : sA τ1 3 = sA τ 3) : SimSt σ τ1 := by
  unfold SimSt
  rw [h3]
  exact h
/-- the words of a book, as they must be -/
def wdC (τ : xS) (b : Nat) (pl lt pr cw since : Int32) : Nat → Int32 := fun k => if k = 0 then nI b else if k = 1 then sA τ 3 (13 + 5 * b + 0) else if k = 2 then sA τ 3 (13 + 5 * b + 1) else if k = 3 then sA τ 3 (13 + 5 * b + 2) + lt else if k = 4 then pr else if k = 5 then pl else if k = 6 then (sA τ 3 7 + lt) - (sA τ 3 7 + lt) / 52 * 52 else if k = 7 then sA τ 3 8 else if k = 8 then cw else since
theorem wdC_ok (τ : xS) (b : Nat) (pl lt pr cw since : Int32) : wdT τ b pl lt pr cw since (wdC τ b pl lt pr cw since) := ⟨rfl, rfl, rfl, rfl, rfl, rfl, rfl, rfl, rfl, rfl⟩
theorem td_both {σ τ : xS} (hS : SimSt σ τ) {h b : Nat} (hh : h < 4) (hb : b < 10) {pl lt pr cw since wo most woC mostC : Int32} (w1 : 0 ≤ wo) (w2 : wo ≤ most) (hc : h < 3 → woC = wo ∧ mostC = most) (hc3 : h = 3 → woC = -1 ∧ mostC = 0 ∧ wo = 0 ∧ most = 1) {W : Nat → Int32} (hW : wdT τ b pl lt pr cw since W) {τ1 : xS} (h3 : sA τ1 3 = sA τ 3) (h33 : sI τ1 33 = pl) (h34 : sI τ1 34 = lt) (h35 : sI τ1 35 = cw) : ∃ (rC r : Int32) (σ' τ' : xS), F_X0_told (nI (10 + h)) mostC woC (uA σ 45 W) = some (rC, σ') ∧ F_X12_tells (nI h) (nI b) pr since wo most τ1 = some (r, τ') ∧ frS (uA σ 45 W) σ' ∧ frT τ1 τ' ∧ (h < 3 → rC = r) ∧ (h = 3 → (rC = -1 ∧ r = 0) ∨ (rC = 0 ∧ r = 1)) ∧ 0 ≤ r.toInt ∧ r.toInt ≤ most.toInt :=
  told_tells (SimSt_keep (SimSt_3 hS h3) (KC_A σ W (k := 45) (by decide)) (KR_refl τ1)) hh hb (wdT_env hW h3 h33 h34 h35) w1 w2 hc hc3
theorem td_det {σ τ : xS} (hS : SimSt σ τ) {h b : Nat} (hh : h < 4) (hb : b < 10) {pl lt pr cw since wo most woC mostC : Int32} (w1 : 0 ≤ wo) (w2 : wo ≤ most) (hc : h < 3 → woC = wo ∧ mostC = most) (hc3 : h = 3 → woC = -1 ∧ mostC = 0 ∧ wo = 0 ∧ most = 1) {W : Nat → Int32} (hW : wdT τ b pl lt pr cw since W) {τ1 : xS} (h3 : sA τ1 3 = sA τ 3) (h33 : sI τ1 33 = pl) (h34 : sI τ1 34 = lt) (h35 : sI τ1 35 = cw) : ∃ (rC : Int32) (σ' τ' : xS), F_X0_told (nI (10 + h)) mostC woC (uA σ 45 W) = some (rC, σ') ∧ F_X12_tells (nI h) (nI b) pr since wo most τ1 = some (tdN τ h b pl lt pr cw since wo most, τ') ∧ frS (uA σ 45 W) σ' ∧ frT τ1 τ' ∧ (h < 3 → rC = tdN τ h b pl lt pr cw since wo most) ∧ (h = 3 → (rC = -1 ∧ tdN τ h b pl lt pr cw since wo most = 0) ∨ (rC = 0 ∧ tdN τ h b pl lt pr cw since wo most = 1)) ∧ 0 ≤ (tdN τ h b pl lt pr cw since wo most).toInt ∧ (tdN τ h b pl lt pr cw since wo most).toInt ≤ most.toInt := by
  obtain ⟨rC, r, σ', τ', a1, a2, a3, a4, a5, a6, a7, a8⟩ := td_both hS hh hb w1 w2 hc hc3 hW h3 h33 h34 h35
  obtain ⟨rC2, r2, σ2, τ2, b1, b2', b3, b4, b5, b6, b7, b8⟩ := td_both hS hh hb w1 w2 hc hc3 hW (τ1 := atT τ pl lt cw) rfl rfl rfl rfl
  have e : rC = rC2 := by
    rw [a1] at b1
    cases b1
    rfl
  have e2 : tdN τ h b pl lt pr cw since wo most = r2 := by
    unfold tdN
    rw [b2']
  have e3 : r = r2 := by
    by_cases q : h < 3
    · rw [← a5 q, ← b5 q, e]
    · rcases a6 (by omega) with ⟨x1, x2⟩ | ⟨x1, x2⟩ <;> rcases b6 (by omega) with ⟨y1, y2⟩ | ⟨y1, y2⟩
      · rw [x2, y2]
      · exact absurd (x1.symm.trans (e.trans y1)) (by decide)
      · exact absurd (x1.symm.trans (e.trans y1)) (by decide)
      · rw [x2, y2]
  rw [e2, ← e3]
  exact ⟨rC, σ', τ', a1, a2, a3, a4, a5, a6, a7, a8⟩
/-- how likely a book sells: place, weeks from now, price, crowd -/
def slN (τ : xS) (b : Nat) (pl lt pr cw : Int32) : Nat := (tdN τ 0 b pl lt pr cw 0 10 100).toNatClampNeg
theorem slN_ok {σ τ : xS} (hS : SimSt σ τ) {b : Nat} (hb : b < 10) (pl lt pr cw : Int32) : slN τ b pl lt pr cw ≤ 100 ∧ tdN τ 0 b pl lt pr cw 0 10 100 = nI (slN τ b pl lt pr cw) := by
  obtain ⟨rC, σ', τ', -, -, -, -, -, -, h7, h8⟩ := td_det hS (h := 0) (by decide) hb (pr := pr) (since := 0) (wo := 10) (most := 100) (woC := 10) (mostC := 100) (by decide) (by decide) (fun _ => ⟨rfl, rfl⟩) (fun q => absurd q (by decide)) (wdC_ok τ b pl lt pr cw 0) (τ1 := atT τ pl lt cw) rfl rfl rfl rfl
  obtain ⟨n, hn, e⟩ := i_le (c := 100) h7 h8 (by decide)
  unfold slN
  rw [e, nI_clamp (by omega)]
  exact ⟨hn, rfl⟩
theorem sl_C {σ τ : xS} (hS : SimSt σ τ) {b : Nat} (hb : b < 10) {pl lt pr cw : Int32} {W : Nat → Int32} (hW : wdT τ b pl lt pr cw 0 W) : ∃ σ', F_X0_sells (uA σ 45 W) = some (nI (slN τ b pl lt pr cw), σ') ∧ frS (uA σ 45 W) σ' := by
  obtain ⟨rC, σ', τ', h1, -, h3, -, h5, -⟩ := td_det hS (h := 0) (by decide) hb (since := 0) (wo := 10) (most := 100) (woC := 10) (mostC := 100) (by decide) (by decide) (fun _ => ⟨rfl, rfl⟩) (fun q => absurd q (by decide)) hW (τ1 := atT τ pl lt cw) rfl rfl rfl rfl
  refine ⟨σ', ?_, h3⟩
  unfold F_X0_sells
  rw [show F_X0_told 10 100 10 (uA σ 45 W) = _ from h1, bd_eq, h5 (by decide), (slN_ok hS hb pl lt pr cw).2]
theorem sl_R {σ τ : xS} (hS : SimSt σ τ) {b : Nat} (hb : b < 10) (pr : Int32) {τ1 : xS} (h3 : sA τ1 3 = sA τ 3) : ∃ τ', F_X12_sells (nI b) pr τ1 = some (nI (slN τ b (sI τ1 33) (sI τ1 34) pr (sI τ1 35)), τ') ∧ frT τ1 τ' := by
  obtain ⟨rC, σ', τ', -, h2, -, h4, -⟩ := td_det hS (h := 0) (by decide) hb (pr := pr) (since := 0) (wo := 10) (most := 100) (woC := 10) (mostC := 100) (by decide) (by decide) (fun _ => ⟨rfl, rfl⟩) (fun q => absurd q (by decide)) (wdC_ok τ b (sI τ1 33) (sI τ1 34) pr (sI τ1 35) 0) (τ1 := τ1) h3 rfl rfl rfl
  refine ⟨τ', ?_, h4⟩
  unfold F_X12_sells
  rw [show F_X12_tells 0 (nI b) pr 0 10 100 τ1 = _ from h2, bd_eq, (slN_ok hS hb _ _ pr _).2]
/-- what a book draws in on the table, so many weeks from now -/
def drN (τ : xS) (b : Nat) (lt : Int32) : Nat := (tdN τ 1 b 1 lt (sA τ 3 (13 + 5 * b + 3)) 0 0 0 99).toNatClampNeg
theorem dr_C {σ τ : xS} (hS : SimSt σ τ) {b c : Nat} (e1 : sI σ 131 = nI c) (hc : c ≤ 10) (hb : b < c) (lt : Int32) : drN τ b lt ≤ 99 ∧ ∃ (σ' : xS) (W : Nat → Int32), F_X0_drawsOnTable (nI b) lt σ = some (nI (drN τ b lt), σ') ∧ frS (uA σ 45 W) σ' := by
  obtain ⟨W, hW, w0, w1, w2, w3, w4, w5, w6, w7, w8, w9⟩ := C_about hS e1 hc hb lt
  obtain ⟨rC, σ', τ', h1, -, h3, -, h5, -, h7, h8⟩ := td_det hS (h := 1) (b := b) (by decide) (by omega) (pr := sA τ 3 (13 + 5 * b + 3)) (since := 0) (wo := 0) (most := 99) (woC := 0) (mostC := 99) (by decide) (by decide) (fun _ => ⟨rfl, rfl⟩) (fun q => absurd q (by decide)) (W := upd W 5 1) (pl := 1) (lt := lt) (cw := 0) ⟨w0, w1, w2, w3, w4, rfl, w6, w7, w8, w9⟩ (τ1 := atT τ 1 lt 0) rfl rfl rfl rfl
  obtain ⟨n, hn, e⟩ := i_le (c := 99) h7 h8 (by decide)
  have e2 : drN τ b lt = n := by
    unfold drN
    rw [e, nI_clamp (by omega)]
  rw [e2]
  refine ⟨hn, σ', upd W 5 1, ?_, h3⟩
  unfold F_X0_drawsOnTable
  rw [hW, bd_eq, ck10_5, nm_eq, sA_s, uA_uA, cl5, show F_X0_told 11 99 0 (uA σ 45 (upd W 5 1)) = _ from h1, bd_eq, h5 (by decide), e]
theorem dr_R {σ τ : xS} (hS : SimSt σ τ) {b : Nat} (hb : b < 10) {τ1 : xS} (h3 : sA τ1 3 = sA τ 3) : ∃ τ', F_X12_drawsOf (nI b) τ1 = some (nI (drN τ b (sI τ1 34)), τ') ∧ frT (uI (uI τ1 33 1) 35 0) τ' := by
  obtain ⟨rC, σ', τ', -, h2, -, h4, -, -, h7, h8⟩ := td_det hS (h := 1) (b := b) (by decide) hb (pr := sA τ 3 (13 + 5 * b + 3)) (since := 0) (wo := 0) (most := 99) (woC := 0) (mostC := 99) (by decide) (by decide) (fun _ => ⟨rfl, rfl⟩) (fun q => absurd q (by decide)) (wdC_ok τ b 1 (sI τ1 34) (sA τ 3 (13 + 5 * b + 3)) 0 0) (τ1 := uI (uI τ1 33 1) 35 0) h3 rfl rfl rfl
  obtain ⟨n, hn, e⟩ := i_le (c := 99) h7 h8 (by decide)
  have e2 : drN τ b (sI τ1 34) = n := by
    unfold drN
    rw [e, nI_clamp (by omega)]
  rw [e] at h2
  refine ⟨τ', ?_, h4⟩
  unfold F_X12_drawsOf
  rw [nm_eq, nm_eq, show F_X12_ofBook (nI b) 3 (uI (uI τ1 33 1) 35 0) = some (sA τ1 3 (13 + 5 * b + 3), uI (uI τ1 33 1) 35 0) from R_ofBook (i := b) (w := 3) hb (by decide) _, bd_eq, h3, show F_X12_tells 1 (nI b) (sA τ 3 (13 + 5 * b + 3)) 0 0 99 (uI (uI τ1 33 1) 35 0) = _ from h2, bd_eq, e2]
/-- whether the dealer takes a book at a price, so many weeks from now -/
def tkB (τ : xS) (b : Nat) (pr lt : Int32) : Bool := decide (tdN τ 3 b (sA τ 3 (13 + 5 * b + 4)) lt pr 0 0 0 1 = 1)
theorem tk_C {σ τ : xS} (hS : SimSt σ τ) {b : Nat} (hb : b < 10) {lt pr : Int32} {W : Nat → Int32} (hW : wdT τ b (sA τ 3 (13 + 5 * b + 4)) lt pr 0 0 W) : ∃ σ', F_X0_dealerTakes (uA σ 45 W) = some (b2 (tkB τ b pr lt = true), σ') ∧ frS (uA σ 45 W) σ' := by
  obtain ⟨rC, σ', τ', h1, -, h3, -, -, h6, -⟩ := td_det hS (h := 3) (by decide) hb (wo := 0) (most := 1) (woC := -1) (mostC := 0) (by decide) (by decide) (fun q => absurd q (by decide)) (fun _ => ⟨rfl, rfl, rfl, rfl⟩) hW (τ1 := atT τ (sA τ 3 (13 + 5 * b + 4)) lt 0) rfl rfl rfl rfl
  have hC : F_X0_dealerTakes (uA σ 45 W) = (if rC = -1 then cz 0 (some (0, σ')) else cz 1 (some (1, σ'))) := by
    unfold F_X0_dealerTakes
    rw [show F_X0_told 13 0 (-1) (uA σ 45 W) = _ from h1, bd_eq]
  refine ⟨σ', ?_, h3⟩
  unfold tkB
  rcases h6 rfl with ⟨e1, e2⟩ | ⟨e1, e2⟩
  · rw [hC, e1, e2]
    exact cz_0 _
  · rw [hC, e1, e2]
    exact cz_1 _
theorem tk_R {σ τ : xS} (hS : SimSt σ τ) {b : Nat} (hb : b < 10) (pr : Int32) {τ1 : xS} (h3 : sA τ1 3 = sA τ 3) : ∃ τ', F_X12_isTaken (nI b) pr τ1 = some (b2 (tkB τ b pr (sI τ1 34) = true), τ') ∧ frT (uI (uI τ1 33 (sA τ 3 (13 + 5 * b + 4))) 35 0) τ' := by
  obtain ⟨rC, σ', τ', -, h2, -, h4, -, h6, -⟩ := td_det hS (h := 3) (by decide) hb (pr := pr) (wo := 0) (most := 1) (woC := -1) (mostC := 0) (by decide) (by decide) (fun q => absurd q (by decide)) (fun _ => ⟨rfl, rfl, rfl, rfl⟩) (wdC_ok τ b (sA τ 3 (13 + 5 * b + 4)) (sI τ1 34) pr 0 0) (τ1 := uI (uI τ1 33 (sA τ 3 (13 + 5 * b + 4))) 35 0) h3 rfl rfl rfl
  have hR : F_X12_isTaken (nI b) pr τ1 = (if tdN τ 3 b (sA τ 3 (13 + 5 * b + 4)) (sI τ1 34) pr 0 0 0 1 = 1 then cz 1 (some (1, τ')) else cz 0 (some (0, τ'))) := by
    unfold F_X12_isTaken
    rw [show F_X12_ofBook (nI b) 4 τ1 = some (sA τ 3 (13 + 5 * b + 4), τ1) from by rw [← h3]; exact R_ofBook hb (w := 4) (by decide) τ1, bd_eq, nm_eq, nm_eq, show F_X12_tells 3 (nI b) pr 0 0 1 (uI (uI τ1 33 (sA τ 3 (13 + 5 * b + 4))) 35 0) = _ from h2, bd_eq]
  refine ⟨τ', ?_, h4⟩
  rw [hR]
  unfold tkB
  rcases h6 rfl with ⟨e1, e2⟩ | ⟨e1, e2⟩
  · rw [e2]
    exact cz_0 _
  · rw [e2]
    exact cz_1 _
/-- how likely a card's writer still wants a book -/
def wtN (τ : xS) (j b : Nat) : Nat := (tdN τ 2 b (sA τ 3 (13 + 5 * b + 4)) 0 (sA τ 3 (13 + 5 * b + 3)) 0 (sA τ 3 (99 + 3 * j + 1)) 50 100).toNatClampNeg
theorem wt_C {σ τ : xS} (hS : SimSt σ τ) {b c j cj : Nat} (e1 : sI σ 131 = nI c) (hc : c ≤ 10) (hb : b < c) (f1 : sI σ 195 = nI cj) (hcj : cj ≤ 8) (hj : j < cj) : wtN τ j b ≤ 100 ∧ ∃ (σ' : xS) (W : Nat → Int32), F_X0_stillWanted (nI j) (nI b) σ = some (nI (wtN τ j b), σ') ∧ frS (uA σ 45 W) σ' := by
  obtain ⟨W, hW, w0, w1, w2, w3, w4, w5, w6, w7, w8, w9⟩ := C_about hS e1 hc hb 0
  obtain ⟨rC, σ', τ', h1, -, h3, -, h5, -, h7, h8⟩ := td_det hS (h := 2) (b := b) (by decide) (by omega) (since := sA τ 3 (99 + 3 * j + 1)) (wo := 50) (most := 100) (woC := 50) (mostC := 100) (by decide) (by decide) (fun _ => ⟨rfl, rfl⟩) (fun q => absurd q (by decide)) (W := upd W 9 (sA τ 3 (99 + 3 * j + 1))) (pl := sA τ 3 (13 + 5 * b + 4)) (lt := 0) (cw := 0) ⟨w0, w1, w2, w3, w4, w5, w6, w7, w8, rfl⟩ (τ1 := atT τ (sA τ 3 (13 + 5 * b + 4)) 0 0) rfl rfl rfl rfl
  obtain ⟨n, hn, e⟩ := i_le (c := 100) h7 h8 (by decide)
  have e2 : wtN τ j b = n := by
    unfold wtN
    rw [e, nI_clamp (by omega)]
  rw [e2]
  refine ⟨hn, σ', upd W 9 (sA τ 3 (99 + 3 * j + 1)), ?_, h3⟩
  have g : F_X6_get 2 (nI j) 1 (uA σ 45 W) = some (sA σ 13 (j * 3 + 1), uA σ 45 W) := C_getY (r := 2) (w := 1) (σ := uA σ 45 W) f1 (show cj ≤ 8 from hcj) hj (by decide)
  unfold F_X0_stillWanted
  rw [hW, bd_eq, g, bd_eq, cell_card hS (by omega) (by decide), ck10_9, nm_eq, sA_s, uA_uA, cl9, show F_X0_told 12 100 50 (uA σ 45 (upd W 9 (sA τ 3 (99 + 3 * j + 1)))) = _ from h1, bd_eq, h5 (by decide), e]
theorem wt_R {σ τ : xS} (hS : SimSt σ τ) {b j : Nat} (hb : b < 10) (hj : j < 8) {τ1 : xS} (h3 : sA τ1 3 = sA τ 3) : ∃ τ', F_X12_wantsOf (nI j) (nI b) τ1 = some (nI (wtN τ j b), τ') ∧ frT (atT τ1 (sA τ 3 (13 + 5 * b + 4)) 0 0) τ' := by
  obtain ⟨rC, σ', τ', -, h2, -, h4, -, -, h7, h8⟩ := td_det hS (h := 2) (b := b) (by decide) (by omega) (wo := 50) (most := 100) (woC := 50) (mostC := 100) (by decide) (by decide) (fun _ => ⟨rfl, rfl⟩) (fun q => absurd q (by decide)) (wdC_ok τ b (sA τ 3 (13 + 5 * b + 4)) 0 (sA τ 3 (13 + 5 * b + 3)) 0 (sA τ 3 (99 + 3 * j + 1))) (τ1 := atT τ1 (sA τ 3 (13 + 5 * b + 4)) 0 0) h3 rfl rfl rfl
  obtain ⟨n, hn, e⟩ := i_le (c := 100) h7 h8 (by decide)
  have e2 : wtN τ j b = n := by
    unfold wtN
    rw [e, nI_clamp (by omega)]
  rw [e] at h2
  refine ⟨τ', ?_, h4⟩
  have ei : (99 : Int32) + 3 * nI j + 1 = nI (99 + 3 * j + 1) := by
    show nI 99 + nI 3 * nI j + nI 1 = _
    rw [pk_mul, nI_add, nI_add]
  have ea : F_X12_asTold (nI b) τ1 = some ((), atT τ1 (sA τ 3 (13 + 5 * b + 4)) 0 0) := by
    rw [R_asTold hb, h3]
    rfl
  unfold F_X12_wantsOf
  rw [ea, bd_eq, show F_X12_ofBook (nI b) 3 (atT τ1 (sA τ 3 (13 + 5 * b + 4)) 0 0) = some (sA τ1 3 (13 + 5 * b + 3), atT τ1 (sA τ 3 (13 + 5 * b + 4)) 0 0) from R_ofBook (i := b) (w := 3) hb (by decide) _, bd_eq, ei, rd_n (by omega) (by decide), show sA (atT τ1 (sA τ 3 (13 + 5 * b + 4)) 0 0) 3 = sA τ 3 from h3, h3]
  rw [show F_X12_tells 2 (nI b) (sA τ 3 (13 + 5 * b + 3)) (sA τ 3 (99 + 3 * j + 1)) 50 100 (atT τ1 (sA τ 3 (13 + 5 * b + 4)) 0 0) = _ from h2, bd_eq, e2]
end
