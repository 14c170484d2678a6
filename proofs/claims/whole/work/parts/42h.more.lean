/-! ===== pure steps: box, book, row, force, count, gone ===== -/
def kpC0 (σ σ' : xS) : Prop := sA σ' 2 = sA σ 2 ∧ (∀ k, rowC σ' 1 k = rowC σ 1 k ∧ rowC σ' 2 k = rowC σ 2 k) ∧ sQ σ' = sQ σ ∧ sP σ' = sP σ ∧ sI σ' 12 = sI σ 12 ∧ sA σ' 3 = sA σ 3 ∧ sA σ' 4 = sA σ 4 ∧ sA σ' 100 = sA σ 100 ∧ sA σ' 101 = sA σ 101
def kpR0 (τ τ' : xS) : Prop := sA τ' 4 = sA τ 4 ∧ sA τ' 5 = sA τ 5 ∧ sA τ' 7 = sA τ 7 ∧ sA τ' 2 = sA τ 2 ∧ sA τ' 42 = sA τ 42 ∧ sA τ' 43 = sA τ 43 ∧ sI τ' 13 = sI τ 13 ∧ sI τ' 44 = sI τ 44 ∧ sL τ' 25 = sL τ 25 ∧ sL τ' 26 = sL τ 26
theorem Sim_st0 {σ σ' τ τ' : xS} (h : Sim σ τ) (hk : kpC0 σ σ') (hr : kpR0 τ τ') (hs : SimSt σ' τ') (h11 : sI σ' 11 = sI τ' 8) (hrg : 0 ≤ (sI τ' 8).toInt ∧ (sI τ' 8).toInt ≤ 400) (h13 : sI σ' 13 = sI τ' 6) (h14 : sI σ' 14 = sI τ' 1) : Sim σ' τ' := by
  obtain ⟨hS, hI, hT, hM, hD, hC⟩ := h
  obtain ⟨c1, c2, c3, c4, c6, c9, c10, c11, c12⟩ := hk
  obtain ⟨r1, r2, r3, r4, r5, r6, r8, r11, r12, r13⟩ := hr
  refine ⟨hs, SimIm_of hI c1 c2 ⟨by rw [c3], by rw [c3]⟩ c4 r2 r1, ⟨h11, hrg, ?_⟩, ⟨?_, h13, h14, ?_⟩, ?_, ?_⟩
  · rw [c9, r3]
    exact hT.2.2
  · rw [c6, r8]
    exact hM.1
  · rw [c10, r4]
    exact hM.2.2.2
  · unfold SimDi
    rw [c11, c12, r11, r5, r6]
    exact hD
  · unfold SimCo qIn
    rw [c3, c4, r12, r13]
    exact hC
theorem kpC0_trans {a b c : xS} (h : kpC0 a b) (g : kpC0 b c) : kpC0 a c := by
  obtain ⟨c1, c2, c3, c4, c6, c9, c10, c11, c12⟩ := h
  obtain ⟨d1, d2, d3, d4, d6, d9, d10, d11, d12⟩ := g
  exact ⟨d1.trans c1, fun k => ⟨(d2 k).1.trans (c2 k).1, (d2 k).2.trans (c2 k).2⟩, d3.trans c3, d4.trans c4, d6.trans c6, d9.trans c9, d10.trans c10, d11.trans c11, d12.trans c12⟩
theorem kpR0_trans {a b c : xS} (h : kpR0 a b) (g : kpR0 b c) : kpR0 a c := by
  obtain ⟨c1, c2, c3, c4, c6, c9, c10, c11, c12, c13⟩ := h
  obtain ⟨d1, d2, d3, d4, d6, d9, d10, d11, d12, d13⟩ := g
  exact ⟨d1.trans c1, d2.trans c2, d3.trans c3, d4.trans c4, d6.trans c6, d9.trans c9, d10.trans c10, d11.trans c11, d12.trans c12, d13.trans c13⟩

theorem addBook_sim {σ τ : xS} (h : SimSt σ τ) {c : Nat} (hlt : c < 10) (e1 : sI σ 131 = nI c) (e2 : sA τ 3 0 = nI c) {a b d e f : Int32} (pa : 0 ≤ a ∧ a ≤ 9) (pb : 0 ≤ b ∧ b ≤ 999) (pd : 0 ≤ d ∧ d ≤ 99) (pe : 0 ≤ e ∧ e ≤ 999) (pf : 0 ≤ f ∧ f ≤ 2) : ∃ σ' τ', F_X11_addBook a b d e f σ = some (nI c, σ') ∧ F_X12_addBook a b d e f τ = some ((), τ') ∧ SimSt σ' τ' ∧ kpC σ σ' ∧ kpR τ τ' ∧ sA τ' 3 0 = nI (c + 1) := by
  unfold F_X11_addBook F_X12_addBook
  simp only [nm_eq]
  have s0 : F_X6_set 0 (nI c) 0 a (uI σ 131 (nI (c + 1))) = some ((), uA (uI σ 131 (nI (c + 1))) 9 (upd (sA (uI σ 131 (nI (c + 1))) 9) (c * 5 + 0) a)) := C_setY (r := 0) (i := c) (w := 0) (c := c + 1) (v := a) (σ := uI σ 131 (nI (c + 1))) rfl (show c + 1 ≤ 10 by omega) (Nat.lt_succ_self c) (show 0 < 5 by decide)
  have s1 : F_X6_set 0 (nI c) 1 b (uA (uI σ 131 (nI (c + 1))) 9 (upd (sA (uI σ 131 (nI (c + 1))) 9) (c * 5 + 0) a)) = some ((), uA (uA (uI σ 131 (nI (c + 1))) 9 (upd (sA (uI σ 131 (nI (c + 1))) 9) (c * 5 + 0) a)) 9 (upd (sA (uA (uI σ 131 (nI (c + 1))) 9 (upd (sA (uI σ 131 (nI (c + 1))) 9) (c * 5 + 0) a)) 9) (c * 5 + 1) b)) := C_setY (r := 0) (i := c) (w := 1) (c := c + 1) (v := b) (σ := uA (uI σ 131 (nI (c + 1))) 9 (upd (sA (uI σ 131 (nI (c + 1))) 9) (c * 5 + 0) a)) rfl (show c + 1 ≤ 10 by omega) (Nat.lt_succ_self c) (show 1 < 5 by decide)
  have s2 : F_X6_set 0 (nI c) 2 d (uA (uA (uI σ 131 (nI (c + 1))) 9 (upd (sA (uI σ 131 (nI (c + 1))) 9) (c * 5 + 0) a)) 9 (upd (sA (uA (uI σ 131 (nI (c + 1))) 9 (upd (sA (uI σ 131 (nI (c + 1))) 9) (c * 5 + 0) a)) 9) (c * 5 + 1) b)) = some ((), uA (uA (uA (uI σ 131 (nI (c + 1))) 9 (upd (sA (uI σ 131 (nI (c + 1))) 9) (c * 5 + 0) a)) 9 (upd (sA (uA (uI σ 131 (nI (c + 1))) 9 (upd (sA (uI σ 131 (nI (c + 1))) 9) (c * 5 + 0) a)) 9) (c * 5 + 1) b)) 9 (upd (sA (uA (uA (uI σ 131 (nI (c + 1))) 9 (upd (sA (uI σ 131 (nI (c + 1))) 9) (c * 5 + 0) a)) 9 (upd (sA (uA (uI σ 131 (nI (c + 1))) 9 (upd (sA (uI σ 131 (nI (c + 1))) 9) (c * 5 + 0) a)) 9) (c * 5 + 1) b)) 9) (c * 5 + 2) d)) := C_setY (r := 0) (i := c) (w := 2) (c := c + 1) (v := d) (σ := uA (uA (uI σ 131 (nI (c + 1))) 9 (upd (sA (uI σ 131 (nI (c + 1))) 9) (c * 5 + 0) a)) 9 (upd (sA (uA (uI σ 131 (nI (c + 1))) 9 (upd (sA (uI σ 131 (nI (c + 1))) 9) (c * 5 + 0) a)) 9) (c * 5 + 1) b)) rfl (show c + 1 ≤ 10 by omega) (Nat.lt_succ_self c) (show 2 < 5 by decide)
  have s3 : F_X6_set 0 (nI c) 3 e (uA (uA (uA (uI σ 131 (nI (c + 1))) 9 (upd (sA (uI σ 131 (nI (c + 1))) 9) (c * 5 + 0) a)) 9 (upd (sA (uA (uI σ 131 (nI (c + 1))) 9 (upd (sA (uI σ 131 (nI (c + 1))) 9) (c * 5 + 0) a)) 9) (c * 5 + 1) b)) 9 (upd (sA (uA (uA (uI σ 131 (nI (c + 1))) 9 (upd (sA (uI σ 131 (nI (c + 1))) 9) (c * 5 + 0) a)) 9 (upd (sA (uA (uI σ 131 (nI (c + 1))) 9 (upd (sA (uI σ 131 (nI (c + 1))) 9) (c * 5 + 0) a)) 9) (c * 5 + 1) b)) 9) (c * 5 + 2) d)) = some ((), uA (uA (uA (uA (uI σ 131 (nI (c + 1))) 9 (upd (sA (uI σ 131 (nI (c + 1))) 9) (c * 5 + 0) a)) 9 (upd (sA (uA (uI σ 131 (nI (c + 1))) 9 (upd (sA (uI σ 131 (nI (c + 1))) 9) (c * 5 + 0) a)) 9) (c * 5 + 1) b)) 9 (upd (sA (uA (uA (uI σ 131 (nI (c + 1))) 9 (upd (sA (uI σ 131 (nI (c + 1))) 9) (c * 5 + 0) a)) 9 (upd (sA (uA (uI σ 131 (nI (c + 1))) 9 (upd (sA (uI σ 131 (nI (c + 1))) 9) (c * 5 + 0) a)) 9) (c * 5 + 1) b)) 9) (c * 5 + 2) d)) 9 (upd (sA (uA (uA (uA (uI σ 131 (nI (c + 1))) 9 (upd (sA (uI σ 131 (nI (c + 1))) 9) (c * 5 + 0) a)) 9 (upd (sA (uA (uI σ 131 (nI (c + 1))) 9 (upd (sA (uI σ 131 (nI (c + 1))) 9) (c * 5 + 0) a)) 9) (c * 5 + 1) b)) 9 (upd (sA (uA (uA (uI σ 131 (nI (c + 1))) 9 (upd (sA (uI σ 131 (nI (c + 1))) 9) (c * 5 + 0) a)) 9 (upd (sA (uA (uI σ 131 (nI (c + 1))) 9 (upd (sA (uI σ 131 (nI (c + 1))) 9) (c * 5 + 0) a)) 9) (c * 5 + 1) b)) 9) (c * 5 + 2) d)) 9) (c * 5 + 3) e)) := C_setY (r := 0) (i := c) (w := 3) (c := c + 1) (v := e) (σ := uA (uA (uA (uI σ 131 (nI (c + 1))) 9 (upd (sA (uI σ 131 (nI (c + 1))) 9) (c * 5 + 0) a)) 9 (upd (sA (uA (uI σ 131 (nI (c + 1))) 9 (upd (sA (uI σ 131 (nI (c + 1))) 9) (c * 5 + 0) a)) 9) (c * 5 + 1) b)) 9 (upd (sA (uA (uA (uI σ 131 (nI (c + 1))) 9 (upd (sA (uI σ 131 (nI (c + 1))) 9) (c * 5 + 0) a)) 9 (upd (sA (uA (uI σ 131 (nI (c + 1))) 9 (upd (sA (uI σ 131 (nI (c + 1))) 9) (c * 5 + 0) a)) 9) (c * 5 + 1) b)) 9) (c * 5 + 2) d)) rfl (show c + 1 ≤ 10 by omega) (Nat.lt_succ_self c) (show 3 < 5 by decide)
  have s4 : F_X6_set 0 (nI c) 4 f (uA (uA (uA (uA (uI σ 131 (nI (c + 1))) 9 (upd (sA (uI σ 131 (nI (c + 1))) 9) (c * 5 + 0) a)) 9 (upd (sA (uA (uI σ 131 (nI (c + 1))) 9 (upd (sA (uI σ 131 (nI (c + 1))) 9) (c * 5 + 0) a)) 9) (c * 5 + 1) b)) 9 (upd (sA (uA (uA (uI σ 131 (nI (c + 1))) 9 (upd (sA (uI σ 131 (nI (c + 1))) 9) (c * 5 + 0) a)) 9 (upd (sA (uA (uI σ 131 (nI (c + 1))) 9 (upd (sA (uI σ 131 (nI (c + 1))) 9) (c * 5 + 0) a)) 9) (c * 5 + 1) b)) 9) (c * 5 + 2) d)) 9 (upd (sA (uA (uA (uA (uI σ 131 (nI (c + 1))) 9 (upd (sA (uI σ 131 (nI (c + 1))) 9) (c * 5 + 0) a)) 9 (upd (sA (uA (uI σ 131 (nI (c + 1))) 9 (upd (sA (uI σ 131 (nI (c + 1))) 9) (c * 5 + 0) a)) 9) (c * 5 + 1) b)) 9 (upd (sA (uA (uA (uI σ 131 (nI (c + 1))) 9 (upd (sA (uI σ 131 (nI (c + 1))) 9) (c * 5 + 0) a)) 9 (upd (sA (uA (uI σ 131 (nI (c + 1))) 9 (upd (sA (uI σ 131 (nI (c + 1))) 9) (c * 5 + 0) a)) 9) (c * 5 + 1) b)) 9) (c * 5 + 2) d)) 9) (c * 5 + 3) e)) = some ((), uA (uA (uA (uA (uA (uI σ 131 (nI (c + 1))) 9 (upd (sA (uI σ 131 (nI (c + 1))) 9) (c * 5 + 0) a)) 9 (upd (sA (uA (uI σ 131 (nI (c + 1))) 9 (upd (sA (uI σ 131 (nI (c + 1))) 9) (c * 5 + 0) a)) 9) (c * 5 + 1) b)) 9 (upd (sA (uA (uA (uI σ 131 (nI (c + 1))) 9 (upd (sA (uI σ 131 (nI (c + 1))) 9) (c * 5 + 0) a)) 9 (upd (sA (uA (uI σ 131 (nI (c + 1))) 9 (upd (sA (uI σ 131 (nI (c + 1))) 9) (c * 5 + 0) a)) 9) (c * 5 + 1) b)) 9) (c * 5 + 2) d)) 9 (upd (sA (uA (uA (uA (uI σ 131 (nI (c + 1))) 9 (upd (sA (uI σ 131 (nI (c + 1))) 9) (c * 5 + 0) a)) 9 (upd (sA (uA (uI σ 131 (nI (c + 1))) 9 (upd (sA (uI σ 131 (nI (c + 1))) 9) (c * 5 + 0) a)) 9) (c * 5 + 1) b)) 9 (upd (sA (uA (uA (uI σ 131 (nI (c + 1))) 9 (upd (sA (uI σ 131 (nI (c + 1))) 9) (c * 5 + 0) a)) 9 (upd (sA (uA (uI σ 131 (nI (c + 1))) 9 (upd (sA (uI σ 131 (nI (c + 1))) 9) (c * 5 + 0) a)) 9) (c * 5 + 1) b)) 9) (c * 5 + 2) d)) 9) (c * 5 + 3) e)) 9 (upd (sA (uA (uA (uA (uA (uI σ 131 (nI (c + 1))) 9 (upd (sA (uI σ 131 (nI (c + 1))) 9) (c * 5 + 0) a)) 9 (upd (sA (uA (uI σ 131 (nI (c + 1))) 9 (upd (sA (uI σ 131 (nI (c + 1))) 9) (c * 5 + 0) a)) 9) (c * 5 + 1) b)) 9 (upd (sA (uA (uA (uI σ 131 (nI (c + 1))) 9 (upd (sA (uI σ 131 (nI (c + 1))) 9) (c * 5 + 0) a)) 9 (upd (sA (uA (uI σ 131 (nI (c + 1))) 9 (upd (sA (uI σ 131 (nI (c + 1))) 9) (c * 5 + 0) a)) 9) (c * 5 + 1) b)) 9) (c * 5 + 2) d)) 9 (upd (sA (uA (uA (uA (uI σ 131 (nI (c + 1))) 9 (upd (sA (uI σ 131 (nI (c + 1))) 9) (c * 5 + 0) a)) 9 (upd (sA (uA (uI σ 131 (nI (c + 1))) 9 (upd (sA (uI σ 131 (nI (c + 1))) 9) (c * 5 + 0) a)) 9) (c * 5 + 1) b)) 9 (upd (sA (uA (uA (uI σ 131 (nI (c + 1))) 9 (upd (sA (uI σ 131 (nI (c + 1))) 9) (c * 5 + 0) a)) 9 (upd (sA (uA (uI σ 131 (nI (c + 1))) 9 (upd (sA (uI σ 131 (nI (c + 1))) 9) (c * 5 + 0) a)) 9) (c * 5 + 1) b)) 9) (c * 5 + 2) d)) 9) (c * 5 + 3) e)) 9) (c * 5 + 4) f)) := C_setY (r := 0) (i := c) (w := 4) (c := c + 1) (v := f) (σ := uA (uA (uA (uA (uI σ 131 (nI (c + 1))) 9 (upd (sA (uI σ 131 (nI (c + 1))) 9) (c * 5 + 0) a)) 9 (upd (sA (uA (uI σ 131 (nI (c + 1))) 9 (upd (sA (uI σ 131 (nI (c + 1))) 9) (c * 5 + 0) a)) 9) (c * 5 + 1) b)) 9 (upd (sA (uA (uA (uI σ 131 (nI (c + 1))) 9 (upd (sA (uI σ 131 (nI (c + 1))) 9) (c * 5 + 0) a)) 9 (upd (sA (uA (uI σ 131 (nI (c + 1))) 9 (upd (sA (uI σ 131 (nI (c + 1))) 9) (c * 5 + 0) a)) 9) (c * 5 + 1) b)) 9) (c * 5 + 2) d)) 9 (upd (sA (uA (uA (uA (uI σ 131 (nI (c + 1))) 9 (upd (sA (uI σ 131 (nI (c + 1))) 9) (c * 5 + 0) a)) 9 (upd (sA (uA (uI σ 131 (nI (c + 1))) 9 (upd (sA (uI σ 131 (nI (c + 1))) 9) (c * 5 + 0) a)) 9) (c * 5 + 1) b)) 9 (upd (sA (uA (uA (uI σ 131 (nI (c + 1))) 9 (upd (sA (uI σ 131 (nI (c + 1))) 9) (c * 5 + 0) a)) 9 (upd (sA (uA (uI σ 131 (nI (c + 1))) 9 (upd (sA (uI σ 131 (nI (c + 1))) 9) (c * 5 + 0) a)) 9) (c * 5 + 1) b)) 9) (c * 5 + 2) d)) 9) (c * 5 + 3) e)) rfl (show c + 1 ≤ 10 by omega) (Nat.lt_succ_self c) (show 4 < 5 by decide)
  have so : F_X6_open 0 σ = some (nI c, uI σ 131 (nI (c + 1))) := C_openY (r := 0) e1 (show c < 10 from hlt)
  rw [so, bd_eq, if_neg (nI_m1 (by omega))]
  rw [s0, bd_eq, s1, bd_eq, s2, bd_eq, s3, bd_eq, s4, bd_eq]
  have hr := (Row_u9 (j := c * 5 + 4) (v := f) (Row_u9 (j := c * 5 + 3) (v := e) (Row_u9 (j := c * 5 + 2) (v := d) (Row_u9 (j := c * 5 + 1) (v := b) (Row_u9 (j := c * 5 + 0) (v := a) (Row_s0 (v := nI (c + 1)) (show Row σ (sA τ 3) from h.1)) (by omega)) (by omega)) (by omega)) (by omega)) (by omega))
  have ei0 : (13 : Int32) + (5 * nI c) = nI (13 + (c * 5 + 0)) := by
    show nI 13 + nI 5 * nI c = _
    rw [pk_mul, nI_add, show 13 + 5 * c = 13 + (c * 5 + 0) by omega]
  have ei1 : nI (13 + (c * 5 + 0)) + 1 = nI (13 + (c * 5 + 1)) := nI_add _ 1
  have ei2 : nI (13 + (c * 5 + 0)) + 2 = nI (13 + (c * 5 + 2)) := nI_add _ 2
  have ei3 : nI (13 + (c * 5 + 0)) + 3 = nI (13 + (c * 5 + 3)) := nI_add _ 3
  have ei4 : nI (13 + (c * 5 + 0)) + 4 = nI (13 + (c * 5 + 4)) := nI_add _ 4
  rw [rdL0, e2, ei0, ck_n (show 13 + (c * 5 + 0) < 5550 by omega) (by decide), nI_clamp (show 13 + (c * 5 + 0) < 2 ^ 31 by omega), ei1, ck_n (show 13 + (c * 5 + 1) < 5550 by omega) (by decide), nI_clamp (show 13 + (c * 5 + 1) < 2 ^ 31 by omega), ei2, ck_n (show 13 + (c * 5 + 2) < 5550 by omega) (by decide), nI_clamp (show 13 + (c * 5 + 2) < 2 ^ 31 by omega), ei3, ck_n (show 13 + (c * 5 + 3) < 5550 by omega) (by decide), nI_clamp (show 13 + (c * 5 + 3) < 2 ^ 31 by omega), ei4, ck_n (show 13 + (c * 5 + 4) < 5550 by omega) (by decide), nI_clamp (show 13 + (c * 5 + 4) < 2 ^ 31 by omega)]
  simp only [uA_uA, sA_s, rdL0, ckL0, cl0, nm_eq]
  rw [upd_n _ _ (show 0 ≠ 13 + (c * 5 + 4) by omega), upd_n _ _ (show 0 ≠ 13 + (c * 5 + 3) by omega), upd_n _ _ (show 0 ≠ 13 + (c * 5 + 2) by omega), upd_n _ _ (show 0 ≠ 13 + (c * 5 + 1) by omega), upd_n _ _ (show 0 ≠ 13 + (c * 5 + 0) by omega), e2, nI_1]
  rw [upd_comm _ _ _ (show 0 ≠ 13 + (c * 5 + 0) by omega), upd_comm _ _ _ (show 0 ≠ 13 + (c * 5 + 1) by omega), upd_comm _ _ _ (show 0 ≠ 13 + (c * 5 + 2) by omega), upd_comm _ _ _ (show 0 ≠ 13 + (c * 5 + 3) by omega), upd_comm _ _ _ (show 0 ≠ 13 + (c * 5 + 4) by omega)] at hr
  simp only [uA_uA, sA_s] at hr
  have b0 : loT (13 + (c * 5 + 0)) ≤ a.toInt ∧ a.toInt ≤ hiT (13 + (c * 5 + 0)) := by
    have pp := pa
    rw [Int32.le_iff_toInt_le, Int32.le_iff_toInt_le] at pp
    rw [loT_0 (by omega) (by omega), show 13 + (c * 5 + 0) = 13 + 5 * c + 0 by omega, hi_book c (by omega) 0 (by decide)]
    exact pp
  have b1 : loT (13 + (c * 5 + 1)) ≤ b.toInt ∧ b.toInt ≤ hiT (13 + (c * 5 + 1)) := by
    have pp := pb
    rw [Int32.le_iff_toInt_le, Int32.le_iff_toInt_le] at pp
    rw [loT_0 (by omega) (by omega), show 13 + (c * 5 + 1) = 13 + 5 * c + 1 by omega, hi_book c (by omega) 1 (by decide)]
    exact pp
  have b2 : loT (13 + (c * 5 + 2)) ≤ d.toInt ∧ d.toInt ≤ hiT (13 + (c * 5 + 2)) := by
    have pp := pd
    rw [Int32.le_iff_toInt_le, Int32.le_iff_toInt_le] at pp
    rw [loT_0 (by omega) (by omega), show 13 + (c * 5 + 2) = 13 + 5 * c + 2 by omega, hi_book c (by omega) 2 (by decide)]
    exact pp
  have b3 : loT (13 + (c * 5 + 3)) ≤ e.toInt ∧ e.toInt ≤ hiT (13 + (c * 5 + 3)) := by
    have pp := pe
    rw [Int32.le_iff_toInt_le, Int32.le_iff_toInt_le] at pp
    rw [loT_0 (by omega) (by omega), show 13 + (c * 5 + 3) = 13 + 5 * c + 3 by omega, hi_book c (by omega) 3 (by decide)]
    exact pp
  have b4 : loT (13 + (c * 5 + 4)) ≤ f.toInt ∧ f.toInt ≤ hiT (13 + (c * 5 + 4)) := by
    have pp := pf
    rw [Int32.le_iff_toInt_le, Int32.le_iff_toInt_le] at pp
    rw [loT_0 (by omega) (by omega), show 13 + (c * 5 + 4) = 13 + 5 * c + 4 by omega, hi_book c (by omega) 4 (by decide)]
    exact pp
  have hs : segOK (upd (upd (upd (upd (upd (upd (sA τ 3) (13 + (c * 5 + 0)) a) (13 + (c * 5 + 1)) b) (13 + (c * 5 + 2)) d) (13 + (c * 5 + 3)) e) (13 + (c * 5 + 4)) f) 0 (nI (c + 1))) := segOK_of (segB_upd (segB_upd (segB_upd (segB_upd (segB_upd (segB_upd h.2.1.1 (k0 := 13 + (c * 5 + 0)) (v := a) b0) (k0 := 13 + (c * 5 + 1)) (v := b) b1) (k0 := 13 + (c * 5 + 2)) (v := d) b2) (k0 := 13 + (c * 5 + 3)) (v := e) b3) (k0 := 13 + (c * 5 + 4)) (v := f) b4) (k0 := 0) (v := nI (c + 1)) (bnd (by decide) (by decide) (by omega) (show ((c + 1 : Nat) : Int) ≤ 10 by omega))) (by rw [upd_n _ _ (show 2 ≠ 0 by decide), upd_n _ _ (show 2 ≠ 13 + (c * 5 + 4) by omega), upd_n _ _ (show 2 ≠ 13 + (c * 5 + 3) by omega), upd_n _ _ (show 2 ≠ 13 + (c * 5 + 2) by omega), upd_n _ _ (show 2 ≠ 13 + (c * 5 + 1) by omega), upd_n _ _ (show 2 ≠ 13 + (c * 5 + 0) by omega), upd_n _ _ (show 1 ≠ 0 by decide), upd_n _ _ (show 1 ≠ 13 + (c * 5 + 4) by omega), upd_n _ _ (show 1 ≠ 13 + (c * 5 + 3) by omega), upd_n _ _ (show 1 ≠ 13 + (c * 5 + 2) by omega), upd_n _ _ (show 1 ≠ 13 + (c * 5 + 1) by omega), upd_n _ _ (show 1 ≠ 13 + (c * 5 + 0) by omega)]; exact h.2.1.2.1) (fun i hi => by rw [upd_n _ _ (show 64 + 3 * i ≠ 0 by omega), upd_n _ _ (show 64 + 3 * i ≠ 13 + (c * 5 + 4) by omega), upd_n _ _ (show 64 + 3 * i ≠ 13 + (c * 5 + 3) by omega), upd_n _ _ (show 64 + 3 * i ≠ 13 + (c * 5 + 2) by omega), upd_n _ _ (show 64 + 3 * i ≠ 13 + (c * 5 + 1) by omega), upd_n _ _ (show 64 + 3 * i ≠ 13 + (c * 5 + 0) by omega), upd_n _ _ (show 63 + 3 * i ≠ 0 by omega), upd_n _ _ (show 63 + 3 * i ≠ 13 + (c * 5 + 4) by omega), upd_n _ _ (show 63 + 3 * i ≠ 13 + (c * 5 + 3) by omega), upd_n _ _ (show 63 + 3 * i ≠ 13 + (c * 5 + 2) by omega), upd_n _ _ (show 63 + 3 * i ≠ 13 + (c * 5 + 1) by omega), upd_n _ _ (show 63 + 3 * i ≠ 13 + (c * 5 + 0) by omega), upd_n _ _ (show 3 ≠ 0 by omega), upd_n _ _ (show 3 ≠ 13 + (c * 5 + 4) by omega), upd_n _ _ (show 3 ≠ 13 + (c * 5 + 3) by omega), upd_n _ _ (show 3 ≠ 13 + (c * 5 + 2) by omega), upd_n _ _ (show 3 ≠ 13 + (c * 5 + 1) by omega), upd_n _ _ (show 3 ≠ 13 + (c * 5 + 0) by omega)]; exact h.2.1.2.2 i hi)
  refine ⟨_, _, rfl, rfl, SimSt_mk (σ' := uA (uI σ 131 (nI (c + 1))) 9 (upd (upd (upd (upd (upd (sA (uI σ 131 (nI (c + 1))) 9) (c * 5 + 0) a) (c * 5 + 1) b) (c * 5 + 2) d) (c * 5 + 3) e) (c * 5 + 4) f)) (τ' := uA τ 3 (upd (upd (upd (upd (upd (upd (sA τ 3) (13 + (c * 5 + 0)) a) (13 + (c * 5 + 1)) b) (13 + (c * 5 + 2)) d) (13 + (c * 5 + 3)) e) (13 + (c * 5 + 4)) f) 0 (nI (c + 1)))) h hr hs rfl rfl (by show (upd (upd (upd (upd (upd (upd (sA τ 3) (13 + (c * 5 + 0)) a) (13 + (c * 5 + 1)) b) (13 + (c * 5 + 2)) d) (13 + (c * 5 + 3)) e) (13 + (c * 5 + 4)) f) 0 (nI (c + 1))) 1 = sA τ 3 1; rw [upd_n _ _ (show 1 ≠ 0 by decide), upd_n _ _ (show 1 ≠ 13 + (c * 5 + 4) by omega), upd_n _ _ (show 1 ≠ 13 + (c * 5 + 3) by omega), upd_n _ _ (show 1 ≠ 13 + (c * 5 + 2) by omega), upd_n _ _ (show 1 ≠ 13 + (c * 5 + 1) by omega), upd_n _ _ (show 1 ≠ 13 + (c * 5 + 0) by omega)]) (fun kk hkk => by show (upd (upd (upd (upd (upd (upd (sA τ 3) (13 + (c * 5 + 0)) a) (13 + (c * 5 + 1)) b) (13 + (c * 5 + 2)) d) (13 + (c * 5 + 3)) e) (13 + (c * 5 + 4)) f) 0 (nI (c + 1))) kk = sA τ 3 kk; rw [upd_n _ _ (show kk ≠ 0 by omega), upd_n _ _ (show kk ≠ 13 + (c * 5 + 4) by omega), upd_n _ _ (show kk ≠ 13 + (c * 5 + 3) by omega), upd_n _ _ (show kk ≠ 13 + (c * 5 + 2) by omega), upd_n _ _ (show kk ≠ 13 + (c * 5 + 1) by omega), upd_n _ _ (show kk ≠ 13 + (c * 5 + 0) by omega)]), ⟨rfl, fun k => ⟨rfl, rfl⟩, rfl, rfl, ⟨rfl, rfl, rfl, rfl⟩, rfl, rfl, rfl, rfl⟩, ⟨rfl, rfl, rfl, rfl, rfl, rfl, ⟨rfl, rfl, rfl, rfl, rfl⟩, rfl, rfl⟩, ?_⟩
  show (upd (upd (upd (upd (upd (upd (sA τ 3) (13 + (c * 5 + 0)) a) (13 + (c * 5 + 1)) b) (13 + (c * 5 + 2)) d) (13 + (c * 5 + 3)) e) (13 + (c * 5 + 4)) f) 0 (nI (c + 1))) 0 = _
  exact upd_s _ _ rfl
theorem addBook_no {σ : xS} (e1 : sI σ 131 = nI 10) (a b d e f : Int32) : F_X11_addBook a b d e f σ = some (-1, σ) := by
  unfold F_X11_addBook
  rw [C_openN (r := 0) e1 (show 10 = capN 0 from rfl), bd_eq, if_pos rfl]
theorem st_book : ∀ (σ τ : xS), Sim σ τ → ∀ (a1 a2 a3 a4 a5 : Int32), ∃ (r : Int32) (σ1 τ1 : xS), F_X11_book a1 a2 a3 a4 a5 σ = some (r, σ1) ∧ F_X12_book a1 a2 a3 a4 a5 τ = some (r, τ1) ∧ Sim σ1 τ1 := by
  intro σ τ0 h0 a1 a2 a3 a4 a5
  have h := Sim_thr h0
  unfold F_X11_book F_X12_book F_X11_bookCanBe F_X12_book_47
  simp only [nm_eq]
  generalize uI τ0 0 0 = τ at h ⊢
  obtain ⟨c, hc, e1, e2⟩ := cnt0 h.1
  have t0 : tB 0 = 9 := rfl
  have t1 : tB 1 = 999 := rfl
  have t2 : tB 2 = 99 := rfl
  have t3 : tB 3 = 999 := rfl
  have t4 : tB 4 = 2 := rfl
  have g1 : ∀ v, F_X12_fits 0 v τ = some (b2 (0 ≤ v ∧ v ≤ 9), τ) := fun v => (R_fits 0 v τ).trans (congrArg (fun x => some (x, τ)) (b2_iff ⟨fun q => q.2, fun q => ⟨by decide, q⟩⟩))
  have g2 : ∀ v, F_X12_fits 1 v τ = some (b2 (0 ≤ v ∧ v ≤ 999), τ) := fun v => (R_fits 1 v τ).trans (congrArg (fun x => some (x, τ)) (b2_iff ⟨fun q => q.2, fun q => ⟨by decide, q⟩⟩))
  have g3 : ∀ v, F_X12_fits 2 v τ = some (b2 (0 ≤ v ∧ v ≤ 99), τ) := fun v => (R_fits 2 v τ).trans (congrArg (fun x => some (x, τ)) (b2_iff ⟨fun q => q.2, fun q => ⟨by decide, q⟩⟩))
  have g4 : ∀ v, F_X12_fits 3 v τ = some (b2 (0 ≤ v ∧ v ≤ 999), τ) := fun v => (R_fits 3 v τ).trans (congrArg (fun x => some (x, τ)) (b2_iff ⟨fun q => q.2, fun q => ⟨by decide, q⟩⟩))
  have g5 : ∀ v, F_X12_fits 4 v τ = some (b2 (0 ≤ v ∧ v ≤ 2), τ) := fun v => (R_fits 4 v τ).trans (congrArg (fun x => some (x, τ)) (b2_iff ⟨fun q => q.2, fun q => ⟨by decide, q⟩⟩))
  simp only [g1, g2, g3, g4, g5, C_isWithin, bd_eq, ib2, rd5_0, rd5_1, rd5_2, rd5_3, rd5_4, t0, t1, t2, t3, t4, C_r1, C_r5, R_t1, R_t5, rdL0, e2]
  by_cases p0 : 0 ≤ a1 ∧ a1 ≤ 9
  rotate_left
  · simp only [if_neg p0, cz_0, bd_eq, if_pos, C_r1]
    exact ⟨_, _, _, rfl, rfl, Sim_ref (Or.inl rfl) h⟩
  simp only [if_pos p0]
  by_cases p1 : 0 ≤ a2 ∧ a2 ≤ 999
  rotate_left
  · simp only [if_neg p1, cz_0, bd_eq, if_pos, C_r1]
    exact ⟨_, _, _, rfl, rfl, Sim_ref (Or.inl rfl) h⟩
  simp only [if_pos p1]
  by_cases p2 : 0 ≤ a3 ∧ a3 ≤ 99
  rotate_left
  · simp only [if_neg p2, cz_0, bd_eq, if_pos, C_r1]
    exact ⟨_, _, _, rfl, rfl, Sim_ref (Or.inl rfl) h⟩
  simp only [if_pos p2]
  by_cases p3 : 0 ≤ a4 ∧ a4 ≤ 999
  rotate_left
  · simp only [if_neg p3, cz_0, bd_eq, if_pos, C_r1]
    exact ⟨_, _, _, rfl, rfl, Sim_ref (Or.inl rfl) h⟩
  simp only [if_pos p3]
  by_cases p4 : 0 ≤ a5 ∧ a5 ≤ 2
  rotate_left
  · simp only [if_neg p4, cz_0, bd_eq, if_pos, C_r1]
    exact ⟨_, _, _, rfl, rfl, Sim_ref (Or.inl rfl) h⟩
  simp only [if_pos p4]
  rw [cz_1, bd_eq, if_neg (by decide)]
  by_cases hcap : c = 10
  · have en : nI c = 10 := by rw [hcap]; rfl
    rw [addBook_no (by rw [e1, hcap]), bd_eq, if_pos rfl]
    simp only [if_pos en]
    exact ⟨_, _, _, rfl, rfl, Sim_ref (Or.inr (Or.inr (Or.inl rfl))) h⟩
  have hlt : c < 10 := by omega
  have en : ¬ nI c = 10 := nI_ne (b := 10) (by omega) (by decide) (by omega)
  obtain ⟨σ', τ', q1, q2, q3, q4, q5, q6⟩ := addBook_sim h.1 hlt e1 e2 p0 p1 p2 p3 p4
  rw [q1, bd_eq, if_neg (nI_m1 (by omega)), C_accepted, bd_eq, if_neg en, q2, bd_eq, q6, nI_pred, R_tN (by omega), bd_eq]
  exact ⟨_, _, _, rfl, rfl, Sim_acc (Sim_st h q4 q5 q3)⟩
theorem st_box : ∀ (σ τ : xS), Sim σ τ → ∀ (a1 a2 a3 : Int32), ∃ (r : Int32) (σ1 τ1 : xS), F_X11_box a1 a2 a3 σ = some (r, σ1) ∧ F_X12_box a1 a2 a3 τ = some (r, τ1) ∧ Sim σ1 τ1 := by
  intro σ τ0 h0 a1 a2 a3
  have h := Sim_thr h0
  unfold F_X11_box F_X12_box F_X11_box_30 F_X12_box_40
  simp only [nm_eq]
  generalize uI τ0 0 0 = τ at h ⊢
  obtain ⟨c, hc, e1, e2⟩ := cnt1 h.1
  simp only [R_i1_20, R_i0_r, R_i0_9999, C_isWithin, bd_eq, ib2, C_r1, C_r5, R_t1, R_t5, rdL3, e2]
  by_cases p0 : 1 ≤ a1 ∧ a1 ≤ 20
  rotate_left
  · simp only [if_neg p0]
    exact ⟨_, _, _, rfl, rfl, Sim_ref (Or.inl rfl) h⟩
  simp only [if_pos p0]
  by_cases p1 : 0 ≤ a2 ∧ a2 ≤ a1
  rotate_left
  · simp only [if_neg p1]
    exact ⟨_, _, _, rfl, rfl, Sim_ref (Or.inl rfl) h⟩
  simp only [if_pos p1]
  by_cases p2 : 0 ≤ a3 ∧ a3 ≤ 9999
  rotate_left
  · simp only [if_neg p2]
    exact ⟨_, _, _, rfl, rfl, Sim_ref (Or.inl rfl) h⟩
  simp only [if_pos p2]
  by_cases hcap : c = 12
  · have en : nI c = 12 := by rw [hcap]; rfl
    rw [C_openN (r := 1) e1 hcap, bd_eq, if_pos rfl]
    simp only [if_pos en]
    exact ⟨_, _, _, rfl, rfl, Sim_ref (Or.inr (Or.inr (Or.inl rfl))) h⟩
  have hlt : c < 12 := by omega
  have ei0 : (63 : Int32) + (3 * nI c) = nI (63 + (c * 3 + 0)) := by
    show nI 63 + nI 3 * nI c = _
    rw [pk_mul, nI_add, show 63 + 3 * c = 63 + (c * 3 + 0) by omega]
  have ei1 : nI (63 + (c * 3 + 0)) + 1 = nI (63 + (c * 3 + 1)) := nI_add _ 1
  have ei2 : nI (63 + (c * 3 + 0)) + 2 = nI (63 + (c * 3 + 2)) := nI_add _ 2
  have s0 : F_X6_set 1 (nI c) 0 a1 (uI σ 163 (nI (c + 1))) = some ((), uA (uI σ 163 (nI (c + 1))) 11 (upd (sA (uI σ 163 (nI (c + 1))) 11) (c * 3 + 0) a1)) := C_setY (r := 1) (i := c) (w := 0) (c := c + 1) (v := a1) (σ := uI σ 163 (nI (c + 1))) rfl (show c + 1 ≤ 12 by omega) (Nat.lt_succ_self c) (show 0 < 3 by decide)
  have s1 : F_X6_set 1 (nI c) 1 a2 (uA (uI σ 163 (nI (c + 1))) 11 (upd (sA (uI σ 163 (nI (c + 1))) 11) (c * 3 + 0) a1)) = some ((), uA (uA (uI σ 163 (nI (c + 1))) 11 (upd (sA (uI σ 163 (nI (c + 1))) 11) (c * 3 + 0) a1)) 11 (upd (sA (uA (uI σ 163 (nI (c + 1))) 11 (upd (sA (uI σ 163 (nI (c + 1))) 11) (c * 3 + 0) a1)) 11) (c * 3 + 1) a2)) := C_setY (r := 1) (i := c) (w := 1) (c := c + 1) (v := a2) (σ := uA (uI σ 163 (nI (c + 1))) 11 (upd (sA (uI σ 163 (nI (c + 1))) 11) (c * 3 + 0) a1)) rfl (show c + 1 ≤ 12 by omega) (Nat.lt_succ_self c) (show 1 < 3 by decide)
  have s2 : F_X6_set 1 (nI c) 2 a3 (uA (uA (uI σ 163 (nI (c + 1))) 11 (upd (sA (uI σ 163 (nI (c + 1))) 11) (c * 3 + 0) a1)) 11 (upd (sA (uA (uI σ 163 (nI (c + 1))) 11 (upd (sA (uI σ 163 (nI (c + 1))) 11) (c * 3 + 0) a1)) 11) (c * 3 + 1) a2)) = some ((), uA (uA (uA (uI σ 163 (nI (c + 1))) 11 (upd (sA (uI σ 163 (nI (c + 1))) 11) (c * 3 + 0) a1)) 11 (upd (sA (uA (uI σ 163 (nI (c + 1))) 11 (upd (sA (uI σ 163 (nI (c + 1))) 11) (c * 3 + 0) a1)) 11) (c * 3 + 1) a2)) 11 (upd (sA (uA (uA (uI σ 163 (nI (c + 1))) 11 (upd (sA (uI σ 163 (nI (c + 1))) 11) (c * 3 + 0) a1)) 11 (upd (sA (uA (uI σ 163 (nI (c + 1))) 11 (upd (sA (uI σ 163 (nI (c + 1))) 11) (c * 3 + 0) a1)) 11) (c * 3 + 1) a2)) 11) (c * 3 + 2) a3)) := C_setY (r := 1) (i := c) (w := 2) (c := c + 1) (v := a3) (σ := uA (uA (uI σ 163 (nI (c + 1))) 11 (upd (sA (uI σ 163 (nI (c + 1))) 11) (c * 3 + 0) a1)) 11 (upd (sA (uA (uI σ 163 (nI (c + 1))) 11 (upd (sA (uI σ 163 (nI (c + 1))) 11) (c * 3 + 0) a1)) 11) (c * 3 + 1) a2)) rfl (show c + 1 ≤ 12 by omega) (Nat.lt_succ_self c) (show 2 < 3 by decide)
  have so : F_X6_open 1 σ = some (nI c, uI σ 163 (nI (c + 1))) := C_openY (r := 1) e1 (show c < 12 from hlt)
  have en : ¬ nI c = 12 := nI_ne (b := 12) (by omega) (by decide) (by omega)
  rw [so, bd_eq, if_neg (nI_m1 (by omega))]
  rw [s0, bd_eq, s1, bd_eq, s2, bd_eq]
  have hr := (Row_u11 (j := c * 3 + 2) (v := a3) (Row_u11 (j := c * 3 + 1) (v := a2) (Row_u11 (j := c * 3 + 0) (v := a1) (Row_s3 (v := nI (c + 1)) (show Row σ (sA τ 3) from h.1.1)) (by omega)) (by omega)) (by omega))
  have ea : sI (uA (uA (uA (uI σ 163 (nI (c + 1))) 11 (upd (sA (uI σ 163 (nI (c + 1))) 11) (c * 3 + 0) a1)) 11 (upd (sA (uA (uI σ 163 (nI (c + 1))) 11 (upd (sA (uI σ 163 (nI (c + 1))) 11) (c * 3 + 0) a1)) 11) (c * 3 + 1) a2)) 11 (upd (sA (uA (uA (uI σ 163 (nI (c + 1))) 11 (upd (sA (uI σ 163 (nI (c + 1))) 11) (c * 3 + 0) a1)) 11 (upd (sA (uA (uI σ 163 (nI (c + 1))) 11 (upd (sA (uI σ 163 (nI (c + 1))) 11) (c * 3 + 0) a1)) 11) (c * 3 + 1) a2)) 11) (c * 3 + 2) a3)) 163 = nI (c + 1) := rfl
  rw [ea, C_accepted, bd_eq]
  simp only [if_neg en, nm_eq]
  rw [ei0, ck_n (show 63 + (c * 3 + 0) < 5550 by omega) (by decide), nI_clamp (show 63 + (c * 3 + 0) < 2 ^ 31 by omega), ei1, ck_n (show 63 + (c * 3 + 1) < 5550 by omega) (by decide), nI_clamp (show 63 + (c * 3 + 1) < 2 ^ 31 by omega), ei2, ck_n (show 63 + (c * 3 + 2) < 5550 by omega) (by decide), nI_clamp (show 63 + (c * 3 + 2) < 2 ^ 31 by omega)]
  simp only [uA_uA, sA_s, rdL3, ckL3, cl3, nm_eq]
  rw [upd_n _ _ (show 3 ≠ 63 + (c * 3 + 2) by omega), upd_n _ _ (show 3 ≠ 63 + (c * 3 + 1) by omega), upd_n _ _ (show 3 ≠ 63 + (c * 3 + 0) by omega), e2, nI_1, R_tN (by omega), bd_eq]
  rw [upd_comm _ _ _ (show 3 ≠ 63 + (c * 3 + 0) by omega), upd_comm _ _ _ (show 3 ≠ 63 + (c * 3 + 1) by omega), upd_comm _ _ _ (show 3 ≠ 63 + (c * 3 + 2) by omega)] at hr
  simp only [uA_uA, sA_s] at hr
  have z0 := p0
  have z1 := p1
  have z2 := p2
  rw [Int32.le_iff_toInt_le, Int32.le_iff_toInt_le] at z0 z1 z2
  have y0 : (0 : Int32).toInt = 0 := rfl
  have y1 : (1 : Int32).toInt = 1 := rfl
  have y20 : (20 : Int32).toInt = 20 := rfl
  have y99 : (9999 : Int32).toInt = 9999 := rfl
  have b0 : loT (63 + (c * 3 + 0)) ≤ a1.toInt ∧ a1.toInt ≤ hiT (63 + (c * 3 + 0)) := by
    rw [loT_0 (by omega) (by omega), show 63 + (c * 3 + 0) = 63 + 3 * c + 0 by omega, hi_box c (by omega) 0 (by decide)]
    show 0 ≤ a1.toInt ∧ a1.toInt ≤ 20
    omega
  have b1 : loT (63 + (c * 3 + 1)) ≤ a2.toInt ∧ a2.toInt ≤ hiT (63 + (c * 3 + 1)) := by
    rw [loT_0 (by omega) (by omega), show 63 + (c * 3 + 1) = 63 + 3 * c + 1 by omega, hi_box c (by omega) 1 (by decide)]
    show 0 ≤ a2.toInt ∧ a2.toInt ≤ 20
    omega
  have b2 : loT (63 + (c * 3 + 2)) ≤ a3.toInt ∧ a3.toInt ≤ hiT (63 + (c * 3 + 2)) := by
    rw [loT_0 (by omega) (by omega), show 63 + (c * 3 + 2) = 63 + 3 * c + 2 by omega, hi_box c (by omega) 2 (by decide)]
    show 0 ≤ a3.toInt ∧ a3.toInt ≤ 9999
    omega
  have hs : segOK (upd (upd (upd (upd (sA τ 3) (63 + (c * 3 + 0)) a1) (63 + (c * 3 + 1)) a2) (63 + (c * 3 + 2)) a3) 3 (nI (c + 1))) := segOK_of (segB_upd (segB_upd (segB_upd (segB_upd h.1.2.1.1 (k0 := 63 + (c * 3 + 0)) (v := a1) b0) (k0 := 63 + (c * 3 + 1)) (v := a2) b1) (k0 := 63 + (c * 3 + 2)) (v := a3) b2) (k0 := 3) (v := nI (c + 1)) (bnd (by decide) (by decide) (by omega) (show ((c + 1 : Nat) : Int) ≤ 12 by omega))) (by rw [upd_n _ _ (show 2 ≠ 3 by omega), upd_n _ _ (show 2 ≠ 63 + (c * 3 + 2) by omega), upd_n _ _ (show 2 ≠ 63 + (c * 3 + 1) by omega), upd_n _ _ (show 2 ≠ 63 + (c * 3 + 0) by omega), upd_n _ _ (show 1 ≠ 3 by omega), upd_n _ _ (show 1 ≠ 63 + (c * 3 + 2) by omega), upd_n _ _ (show 1 ≠ 63 + (c * 3 + 1) by omega), upd_n _ _ (show 1 ≠ 63 + (c * 3 + 0) by omega)]; exact h.1.2.1.2.1) (fun i hi => by
    by_cases ec : i = c
    · subst ec
      rw [upd_n _ _ (show 64 + 3 * i ≠ 3 by omega), upd_n _ _ (show 64 + 3 * i ≠ 63 + (i * 3 + 2) by omega), upd_s _ _ (show 64 + 3 * i = 63 + (i * 3 + 1) by omega)]
      rw [upd_n _ _ (show 63 + 3 * i ≠ 3 by omega), upd_n _ _ (show 63 + 3 * i ≠ 63 + (i * 3 + 2) by omega), upd_n _ _ (show 63 + 3 * i ≠ 63 + (i * 3 + 1) by omega), upd_s _ _ (show 63 + 3 * i = 63 + (i * 3 + 0) by omega)]
      exact ⟨z1.2, fun _ => z0.1⟩
    · rw [upd_n _ _ (show 64 + 3 * i ≠ 3 by omega), upd_n _ _ (show 64 + 3 * i ≠ 63 + (c * 3 + 2) by omega), upd_n _ _ (show 64 + 3 * i ≠ 63 + (c * 3 + 1) by omega), upd_n _ _ (show 64 + 3 * i ≠ 63 + (c * 3 + 0) by omega), upd_n _ _ (show 63 + 3 * i ≠ 3 by omega), upd_n _ _ (show 63 + 3 * i ≠ 63 + (c * 3 + 2) by omega), upd_n _ _ (show 63 + 3 * i ≠ 63 + (c * 3 + 1) by omega), upd_n _ _ (show 63 + 3 * i ≠ 63 + (c * 3 + 0) by omega), upd_s _ _ rfl, nI_toInt (by omega)]
      refine ⟨(h.1.2.1.2.2 i hi).1, fun hz => (h.1.2.1.2.2 i hi).2 ?_⟩
      rw [e2, nI_toInt (by omega)]
      omega)
  exact ⟨_, _, _, rfl, rfl, Sim_acc (σ := uA (uI σ 163 (nI (c + 1))) 11 (upd (upd (upd (sA (uI σ 163 (nI (c + 1))) 11) (c * 3 + 0) a1) (c * 3 + 1) a2) (c * 3 + 2) a3)) (τ := uA τ 3 (upd (upd (upd (upd (sA τ 3) (63 + (c * 3 + 0)) a1) (63 + (c * 3 + 1)) a2) (63 + (c * 3 + 2)) a3) 3 (nI (c + 1)))) (Sim_st h ⟨rfl, fun k => ⟨rfl, rfl⟩, rfl, rfl, ⟨rfl, rfl, rfl, rfl⟩, rfl, rfl, rfl, rfl⟩ ⟨rfl, rfl, rfl, rfl, rfl, rfl, ⟨rfl, rfl, rfl, rfl, rfl⟩, rfl, rfl⟩ (SimSt_mk h.1 hr hs rfl rfl (by show (upd (upd (upd (upd (sA τ 3) (63 + (c * 3 + 0)) a1) (63 + (c * 3 + 1)) a2) (63 + (c * 3 + 2)) a3) 3 (nI (c + 1))) 1 = sA τ 3 1; rw [upd_n _ _ (show 1 ≠ 3 by omega), upd_n _ _ (show 1 ≠ 63 + (c * 3 + 2) by omega), upd_n _ _ (show 1 ≠ 63 + (c * 3 + 1) by omega), upd_n _ _ (show 1 ≠ 63 + (c * 3 + 0) by omega)]) (fun kk hkk => by show (upd (upd (upd (upd (sA τ 3) (63 + (c * 3 + 0)) a1) (63 + (c * 3 + 1)) a2) (63 + (c * 3 + 2)) a3) 3 (nI (c + 1))) kk = sA τ 3 kk; rw [upd_n _ _ (show kk ≠ 3 by omega), upd_n _ _ (show kk ≠ 63 + (c * 3 + 2) by omega), upd_n _ _ (show kk ≠ 63 + (c * 3 + 1) by omega), upd_n _ _ (show kk ≠ 63 + (c * 3 + 0) by omega)])))⟩
theorem st_force : ∀ (σ τ : xS), Sim σ τ → ∀ (a1 : Int32), ∃ (r : Int32) (σ1 τ1 : xS), F_X11_force a1 σ = some (r, σ1) ∧ F_X12_force a1 τ = some (r, τ1) ∧ Sim σ1 τ1 := by
  intro σ τ0 h0 a1
  have h := Sim_thr h0
  unfold F_X11_force F_X12_force F_X12_force_28
  simp only [nm_eq]
  generalize uI τ0 0 0 = τ at h ⊢
  obtain ⟨c, hc, e1, e2⟩ := cntL h.1
  have em : (nI c - 1).toInt = (c : Int) - 1 := by
    have := pk_sub_toInt (a := c) (b := 1) (by omega) (by omega)
    exact this
  have eF : sI σ 88 = sA τ 3 2 := h.1.1 2 (by decide)
  have ch : F_X12_change 2 a1 τ = some (sA τ 3 2, uI (uA τ 3 (upd (sA τ 3) 2 a1)) 1 0) := R_change (i := 2) (by decide) a1 τ
  simp only [rdL1, e2, R_below, C_isWithin, bd_eq, ib2, e1, C_r2, R_t2, C_accepted, ch]
  by_cases p : -1 ≤ a1 ∧ a1 ≤ nI c - 1
  · have q := p
    rw [Int32.le_iff_toInt_le, Int32.le_iff_toInt_le, em] at q
    have y1 : (-1 : Int32).toInt = -1 := rfl
    have y0 : (0 : Int32).toInt = 0 := rfl
    have hs : Sim (uI (uI σ 88 a1) 14 0) (uI (uA τ 3 (upd (sA τ 3) 2 a1)) 1 0) := by
      have hr : Row (uI σ 88 a1) (upd (sA τ 3) 2 a1) := Row_s2 (show Row σ (sA τ 3) from h.1.1)
      have hb : loT 2 ≤ a1.toInt ∧ a1.toInt ≤ hiT 2 := by
        show -1 ≤ a1.toInt ∧ a1.toInt ≤ 5
        omega
      have hsg : segOK (upd (sA τ 3) 2 a1) := segOK_of (segB_upd h.1.2.1.1 hb) (by
        rw [upd_s _ _ rfl, upd_n _ _ (show 1 ≠ 2 by decide), e2, nI_toInt (by omega)]
        omega) (fun i hi => by
        rw [upd_n _ _ (show 64 + 3 * i ≠ 2 by omega), upd_n _ _ (show 63 + 3 * i ≠ 2 by omega), upd_n _ _ (show 3 ≠ 2 by omega)]
        exact h.1.2.1.2.2 i hi)
      exact Sim_acc (σ := uI σ 88 a1) (τ := uA τ 3 (upd (sA τ 3) 2 a1)) (Sim_st h ⟨rfl, fun k => ⟨rfl, rfl⟩, rfl, rfl, ⟨rfl, rfl, rfl, rfl⟩, rfl, rfl, rfl, rfl⟩ ⟨rfl, rfl, rfl, rfl, rfl, rfl, ⟨rfl, rfl, rfl, rfl, rfl⟩, rfl, rfl⟩ (SimSt_mk h.1 hr hsg rfl rfl (show upd (sA τ 3) 2 a1 1 = sA τ 3 1 from upd_n _ _ (by decide)) (fun k hk => show upd (sA τ 3) 2 a1 k = sA τ 3 k from upd_n _ _ (by omega))))
    simp only [if_pos p]
    by_cases p2 : a1 = -1
    · rw [if_pos p2]
      exact ⟨_, _, _, rfl, by rw [eF], hs⟩
    · rw [if_neg p2, if_pos]
      · exact ⟨_, _, _, rfl, by rw [eF], hs⟩
      · have h3 : a1.toInt ≠ -1 := fun e => p2 (Int32.toInt_inj.mp e)
        rw [Int32.le_iff_toInt_le, Int32.lt_iff_toInt_lt, nI_toInt (by omega)]
        omega
  · have q : ¬ (-1 ≤ a1.toInt ∧ a1.toInt ≤ (c : Int) - 1) := fun q => p (by
      rw [Int32.le_iff_toInt_le, Int32.le_iff_toInt_le, em]
      exact q)
    simp only [if_neg p]
    rw [if_neg (fun e => q (by rw [e]; exact ⟨Int.le_refl _, by show (-1 : Int) ≤ _; omega⟩)), if_neg]
    · exact ⟨_, _, _, rfl, rfl, Sim_ref (Or.inr (Or.inl rfl)) h⟩
    · intro z
      rw [Int32.le_iff_toInt_le, Int32.lt_iff_toInt_lt, nI_toInt (by omega)] at z
      have y0 : (0 : Int32).toInt = 0 := rfl
      omega
theorem st_count : ∀ (σ τ : xS), Sim σ τ → ∀ (a1 : Int32), ∃ (r : Int32) (σ1 τ1 : xS), F_X11_count a1 σ = some (r, σ1) ∧ F_X12_count a1 τ = some (r, τ1) ∧ Sim σ1 τ1 := by
  intro σ τ0 h0 a1
  have h := Sim_thr h0
  unfold F_X11_count F_X12_count
  simp only [nm_eq]
  generalize uI τ0 0 0 = τ at h ⊢
  obtain ⟨c0, -, a0, b0⟩ := cnt0 h.1
  obtain ⟨cl, -, al, bl⟩ := cntL h.1
  obtain ⟨c1, -, d1, b1⟩ := cnt1 h.1
  obtain ⟨c2, -, d2, b2x⟩ := cnt2 h.1
  obtain ⟨c3, -, d3, b3⟩ := cnt3 h.1
  obtain ⟨c4, -, d4, b4⟩ := cnt4 h.1
  have eF : sI σ 88 = sA τ 3 2 := h.1.1 2 (by decide)
  have eT : sI σ 11 = sI τ 8 := h.2.2.1.1
  have r1 : sA σ 4 1 = sA τ 2 1 := h.2.2.2.1.2.2.2 1 (by decide)
  have r2 : sA σ 4 2 = sA τ 2 2 := h.2.2.2.1.2.2.2 2 (by decide)
  have r5 : sA σ 4 5 = sA τ 2 5 := h.2.2.2.1.2.2.2 5 (by decide)
  have r6 : sA σ 4 6 = sA τ 2 6 := h.2.2.2.1.2.2.2 6 (by decide)
  simp only [a0, b0, al, bl, d1, b1, d2, b2x, d3, b3, d4, b4, eF, eT, rdL0, rdL1, rdL2, rdL3, rdL4, rdL5, rdL6, rd7_1, rd7_2, rd7_5, rd7_6, r1, r2, r5, r6, R_i12_17, C_isWithin, bd_eq, ib2]
  by_cases p0 : a1 = 0
  · simp only [if_pos p0]
    exact ⟨_, _, _, rfl, rfl, h⟩
  simp only [if_neg p0]
  by_cases p1 : a1 = 1
  · simp only [if_pos p1]
    exact ⟨_, _, _, rfl, rfl, h⟩
  simp only [if_neg p1]
  by_cases p2 : a1 = 2
  · simp only [if_pos p2]
    exact ⟨_, _, _, rfl, rfl, h⟩
  simp only [if_neg p2]
  by_cases p3 : a1 = 3
  · simp only [if_pos p3]
    exact ⟨_, _, _, rfl, rfl, h⟩
  simp only [if_neg p3]
  by_cases p4 : a1 = 4
  · simp only [if_pos p4]
    exact ⟨_, _, _, rfl, rfl, h⟩
  simp only [if_neg p4]
  by_cases p5 : a1 = 5
  · simp only [if_pos p5]
    exact ⟨_, _, _, rfl, rfl, h⟩
  simp only [if_neg p5]
  by_cases p6 : a1 = 6
  · simp only [if_pos p6]
    exact ⟨_, _, _, rfl, rfl, h⟩
  simp only [if_neg p6]
  by_cases p7 : a1 = 7
  · simp only [if_pos p7]
    exact ⟨_, _, _, rfl, rfl, h⟩
  simp only [if_neg p7]
  by_cases p8 : a1 = 8
  · simp only [if_pos p8]
    exact ⟨_, _, _, rfl, rfl, h⟩
  simp only [if_neg p8]
  by_cases p9 : a1 = 9
  · simp only [if_pos p9]
    exact ⟨_, _, _, rfl, rfl, h⟩
  simp only [if_neg p9]
  by_cases p10 : a1 = 10
  · simp only [if_pos p10]
    exact ⟨_, _, _, rfl, rfl, h⟩
  simp only [if_neg p10]
  by_cases p11 : a1 = 11
  · simp only [if_pos p11]
    exact ⟨_, _, _, rfl, rfl, h⟩
  simp only [if_neg p11]
  by_cases p : 12 ≤ a1 ∧ a1 ≤ 17
  · simp only [if_pos p]
    obtain ⟨j, hj, rfl⟩ : ∃ j, j < 18 ∧ a1 = nI j := by
      have q := p
      rw [Int32.le_iff_toInt_le, Int32.le_iff_toInt_le] at q
      have y1 : (12 : Int32).toInt = 12 := rfl
      have y0 : (17 : Int32).toInt = 17 := rfl
      exact i_of (by omega) (by omega) (by decide)
    have q := p
    rw [Int32.le_iff_toInt_le, Int32.le_iff_toInt_le, nI_toInt (by omega)] at q
    have y1 : (12 : Int32).toInt = 12 := rfl
    have f1 : nI j - 12 = nI (j - 12) := pk_sub (b := 12) (by omega)
    have f2 : (7 : Int32) + nI j - 12 = nI (7 + (j - 12)) := by
      show nI 7 + nI j - nI 12 = _
      rw [nI_add, pk_sub (by omega), show 7 + j - 12 = 7 + (j - 12) by omega]
    rw [f1, f2, rd_n (by omega) (by decide), rd_n (by omega) (by decide)]
    exact ⟨_, _, _, rfl, by rw [cell_term h.1 (by omega)], h⟩
  · simp only [if_neg p]
    exact ⟨_, _, _, rfl, rfl, h⟩
theorem st_gone : ∀ (σ τ : xS), Sim σ τ → ∀ (a1 a2 : Int32), ∃ (r : Int32) (σ1 τ1 : xS), F_X11_gone a1 a2 σ = some (r, σ1) ∧ F_X12_gone a1 a2 τ = some (r, τ1) ∧ Sim σ1 τ1 := by
  intro σ τ0 h0 a1 a2
  have h := Sim_thr h0
  unfold F_X11_gone F_X12_gone
  simp only [nm_eq]
  generalize uI τ0 0 0 = τ at h ⊢
  obtain ⟨⟨g1, g2⟩, g3⟩ := h.2.2.2.2.1
  simp only [R_below, R_i0_1, C_isWithin, bd_eq, ib2]
  by_cases p : 0 ≤ a1 ∧ a1 ≤ 9
  · obtain ⟨i, hi, rfl⟩ := idxle p (c := 9) rfl (by omega)
    obtain ⟨x1, x2⟩ := g3 i (by omega)
    simp only [if_pos p]
    by_cases p2 : 0 ≤ a2 ∧ a2 ≤ 1
    · simp only [if_pos p2]
      by_cases p3 : 0 ≤ nI i ∧ nI i < sI τ 44
      · have q3 := p3.2
        rw [Int32.lt_iff_toInt_lt, nI_toInt (by omega)] at q3
        simp only [if_pos p3]
        rw [if_pos q3] at x1 x2
        rw [rd_n (by omega) (by decide), rd_n (by omega) (by decide), rd_n (by omega) (by decide), rd_n (by omega) (by decide), x1, x2]
        by_cases p4 : a2 = 0
        · simp only [if_pos p4]
          exact ⟨_, _, _, rfl, rfl, h⟩
        · simp only [if_neg p4]
          exact ⟨_, _, _, rfl, rfl, h⟩
      · have q3 : ¬ (i : Int) < (sI τ 44).toInt := fun q => p3 ⟨nI_pos' (by omega), by rw [Int32.lt_iff_toInt_lt, nI_toInt (by omega)]; exact q⟩
        simp only [if_neg p3]
        rw [if_neg q3] at x1 x2
        rw [rd_n (by omega) (by decide), rd_n (by omega) (by decide), x1, x2]
        by_cases p4 : a2 = 0
        · simp only [if_pos p4]
          exact ⟨_, _, _, rfl, rfl, h⟩
        · simp only [if_neg p4]
          exact ⟨_, _, _, rfl, rfl, h⟩
    · simp only [if_neg p2]
      refine ⟨_, _, _, rfl, ?_, h⟩
      by_cases p3 : 0 ≤ nI i ∧ nI i < sI τ 44
      · rw [if_pos p3]
      · rw [if_neg p3]
  · simp only [if_neg p]
    rw [if_neg]
    · exact ⟨_, _, _, rfl, rfl, h⟩
    · intro z
      apply p
      refine ⟨z.1, ?_⟩
      have z2 := z.2
      rw [Int32.lt_iff_toInt_lt] at z2
      rw [Int32.le_iff_toInt_le]
      have y1 : (9 : Int32).toInt = 9 := rfl
      omega
