/-! ===== pure steps: rows added, emptied; counts ===== -/
theorem rdL0 {α β : Type} {f : Nat → α} (k : α → Option β) : rd 5550 f 0 k = k (f 0) := rd_n (i := 0) (by decide) (by decide) k
theorem ckL0 {β : Type} (k : Option β) : ck 5550 0 k = k := ck_n (i := 0) (by decide) (by decide) k
theorem cl0 : (0 : Int32).toNatClampNeg = 0 := rfl
theorem rdL1 {α β : Type} {f : Nat → α} (k : α → Option β) : rd 5550 f 1 k = k (f 1) := rd_n (i := 1) (by decide) (by decide) k
theorem ckL1 {β : Type} (k : Option β) : ck 5550 1 k = k := ck_n (i := 1) (by decide) (by decide) k
theorem cl1 : (1 : Int32).toNatClampNeg = 1 := rfl
theorem rdL2 {α β : Type} {f : Nat → α} (k : α → Option β) : rd 5550 f 2 k = k (f 2) := rd_n (i := 2) (by decide) (by decide) k
theorem ckL2 {β : Type} (k : Option β) : ck 5550 2 k = k := ck_n (i := 2) (by decide) (by decide) k
theorem cl2 : (2 : Int32).toNatClampNeg = 2 := rfl
theorem rdL3 {α β : Type} {f : Nat → α} (k : α → Option β) : rd 5550 f 3 k = k (f 3) := rd_n (i := 3) (by decide) (by decide) k
theorem ckL3 {β : Type} (k : Option β) : ck 5550 3 k = k := ck_n (i := 3) (by decide) (by decide) k
theorem cl3 : (3 : Int32).toNatClampNeg = 3 := rfl
theorem rdL4 {α β : Type} {f : Nat → α} (k : α → Option β) : rd 5550 f 4 k = k (f 4) := rd_n (i := 4) (by decide) (by decide) k
theorem ckL4 {β : Type} (k : Option β) : ck 5550 4 k = k := ck_n (i := 4) (by decide) (by decide) k
theorem cl4 : (4 : Int32).toNatClampNeg = 4 := rfl
theorem rdL5 {α β : Type} {f : Nat → α} (k : α → Option β) : rd 5550 f 5 k = k (f 5) := rd_n (i := 5) (by decide) (by decide) k
theorem ckL5 {β : Type} (k : Option β) : ck 5550 5 k = k := ck_n (i := 5) (by decide) (by decide) k
theorem cl5 : (5 : Int32).toNatClampNeg = 5 := rfl
theorem rdL6 {α β : Type} {f : Nat → α} (k : α → Option β) : rd 5550 f 6 k = k (f 6) := rd_n (i := 6) (by decide) (by decide) k
theorem ckL6 {β : Type} (k : Option β) : ck 5550 6 k = k := ck_n (i := 6) (by decide) (by decide) k
theorem cl6 : (6 : Int32).toNatClampNeg = 6 := rfl
theorem rdL7 {α β : Type} {f : Nat → α} (k : α → Option β) : rd 5550 f 7 k = k (f 7) := rd_n (i := 7) (by decide) (by decide) k
theorem ckL7 {β : Type} (k : Option β) : ck 5550 7 k = k := ck_n (i := 7) (by decide) (by decide) k
theorem cl7 : (7 : Int32).toNatClampNeg = 7 := rfl
theorem rdL8 {α β : Type} {f : Nat → α} (k : α → Option β) : rd 5550 f 8 k = k (f 8) := rd_n (i := 8) (by decide) (by decide) k
theorem ckL8 {β : Type} (k : Option β) : ck 5550 8 k = k := ck_n (i := 8) (by decide) (by decide) k
theorem cl8 : (8 : Int32).toNatClampNeg = 8 := rfl
theorem rdL9 {α β : Type} {f : Nat → α} (k : α → Option β) : rd 5550 f 9 k = k (f 9) := rd_n (i := 9) (by decide) (by decide) k
theorem ckL9 {β : Type} (k : Option β) : ck 5550 9 k = k := ck_n (i := 9) (by decide) (by decide) k
theorem cl9 : (9 : Int32).toNatClampNeg = 9 := rfl
theorem rdL10 {α β : Type} {f : Nat → α} (k : α → Option β) : rd 5550 f 10 k = k (f 10) := rd_n (i := 10) (by decide) (by decide) k
theorem ckL10 {β : Type} (k : Option β) : ck 5550 10 k = k := ck_n (i := 10) (by decide) (by decide) k
theorem cl10 : (10 : Int32).toNatClampNeg = 10 := rfl
theorem rdL11 {α β : Type} {f : Nat → α} (k : α → Option β) : rd 5550 f 11 k = k (f 11) := rd_n (i := 11) (by decide) (by decide) k
theorem ckL11 {β : Type} (k : Option β) : ck 5550 11 k = k := ck_n (i := 11) (by decide) (by decide) k
theorem cl11 : (11 : Int32).toNatClampNeg = 11 := rfl
theorem rdL12 {α β : Type} {f : Nat → α} (k : α → Option β) : rd 5550 f 12 k = k (f 12) := rd_n (i := 12) (by decide) (by decide) k
theorem ckL12 {β : Type} (k : Option β) : ck 5550 12 k = k := ck_n (i := 12) (by decide) (by decide) k
theorem cl12 : (12 : Int32).toNatClampNeg = 12 := rfl
theorem rdL20 {α β : Type} {f : Nat → α} (k : α → Option β) : rd 5550 f 20 k = k (f 20) := rd_n (i := 20) (by decide) (by decide) k
theorem ckL20 {β : Type} (k : Option β) : ck 5550 20 k = k := ck_n (i := 20) (by decide) (by decide) k
theorem cl20 : (20 : Int32).toNatClampNeg = 20 := rfl
theorem rd5_0 {α β : Type} {f : Nat → α} (k : α → Option β) : rd 5 f 0 k = k (f 0) := rd_n (i := 0) (by decide) (by decide) k
theorem ck5_0 {β : Type} (k : Option β) : ck 5 0 k = k := ck_n (i := 0) (by decide) (by decide) k
theorem rd5_1 {α β : Type} {f : Nat → α} (k : α → Option β) : rd 5 f 1 k = k (f 1) := rd_n (i := 1) (by decide) (by decide) k
theorem ck5_1 {β : Type} (k : Option β) : ck 5 1 k = k := ck_n (i := 1) (by decide) (by decide) k
theorem rd5_2 {α β : Type} {f : Nat → α} (k : α → Option β) : rd 5 f 2 k = k (f 2) := rd_n (i := 2) (by decide) (by decide) k
theorem ck5_2 {β : Type} (k : Option β) : ck 5 2 k = k := ck_n (i := 2) (by decide) (by decide) k
theorem rd5_3 {α β : Type} {f : Nat → α} (k : α → Option β) : rd 5 f 3 k = k (f 3) := rd_n (i := 3) (by decide) (by decide) k
theorem ck5_3 {β : Type} (k : Option β) : ck 5 3 k = k := ck_n (i := 3) (by decide) (by decide) k
theorem rd5_4 {α β : Type} {f : Nat → α} (k : α → Option β) : rd 5 f 4 k = k (f 4) := rd_n (i := 4) (by decide) (by decide) k
theorem ck5_4 {β : Type} (k : Option β) : ck 5 4 k = k := ck_n (i := 4) (by decide) (by decide) k
theorem rd6_0 {α β : Type} {f : Nat → α} (k : α → Option β) : rd 6 f 0 k = k (f 0) := rd_n (i := 0) (by decide) (by decide) k
theorem ck6_0 {β : Type} (k : Option β) : ck 6 0 k = k := ck_n (i := 0) (by decide) (by decide) k
theorem rd6_1 {α β : Type} {f : Nat → α} (k : α → Option β) : rd 6 f 1 k = k (f 1) := rd_n (i := 1) (by decide) (by decide) k
theorem ck6_1 {β : Type} (k : Option β) : ck 6 1 k = k := ck_n (i := 1) (by decide) (by decide) k
theorem rd6_2 {α β : Type} {f : Nat → α} (k : α → Option β) : rd 6 f 2 k = k (f 2) := rd_n (i := 2) (by decide) (by decide) k
theorem ck6_2 {β : Type} (k : Option β) : ck 6 2 k = k := ck_n (i := 2) (by decide) (by decide) k
theorem rd6_3 {α β : Type} {f : Nat → α} (k : α → Option β) : rd 6 f 3 k = k (f 3) := rd_n (i := 3) (by decide) (by decide) k
theorem ck6_3 {β : Type} (k : Option β) : ck 6 3 k = k := ck_n (i := 3) (by decide) (by decide) k
theorem rd6_4 {α β : Type} {f : Nat → α} (k : α → Option β) : rd 6 f 4 k = k (f 4) := rd_n (i := 4) (by decide) (by decide) k
theorem ck6_4 {β : Type} (k : Option β) : ck 6 4 k = k := ck_n (i := 4) (by decide) (by decide) k
theorem rd6_5 {α β : Type} {f : Nat → α} (k : α → Option β) : rd 6 f 5 k = k (f 5) := rd_n (i := 5) (by decide) (by decide) k
theorem ck6_5 {β : Type} (k : Option β) : ck 6 5 k = k := ck_n (i := 5) (by decide) (by decide) k
theorem rd7_0 {α β : Type} {f : Nat → α} (k : α → Option β) : rd 7 f 0 k = k (f 0) := rd_n (i := 0) (by decide) (by decide) k
theorem ck7_0 {β : Type} (k : Option β) : ck 7 0 k = k := ck_n (i := 0) (by decide) (by decide) k
theorem rd7_1 {α β : Type} {f : Nat → α} (k : α → Option β) : rd 7 f 1 k = k (f 1) := rd_n (i := 1) (by decide) (by decide) k
theorem ck7_1 {β : Type} (k : Option β) : ck 7 1 k = k := ck_n (i := 1) (by decide) (by decide) k
theorem rd7_2 {α β : Type} {f : Nat → α} (k : α → Option β) : rd 7 f 2 k = k (f 2) := rd_n (i := 2) (by decide) (by decide) k
theorem ck7_2 {β : Type} (k : Option β) : ck 7 2 k = k := ck_n (i := 2) (by decide) (by decide) k
theorem rd7_3 {α β : Type} {f : Nat → α} (k : α → Option β) : rd 7 f 3 k = k (f 3) := rd_n (i := 3) (by decide) (by decide) k
theorem ck7_3 {β : Type} (k : Option β) : ck 7 3 k = k := ck_n (i := 3) (by decide) (by decide) k
theorem rd7_4 {α β : Type} {f : Nat → α} (k : α → Option β) : rd 7 f 4 k = k (f 4) := rd_n (i := 4) (by decide) (by decide) k
theorem ck7_4 {β : Type} (k : Option β) : ck 7 4 k = k := ck_n (i := 4) (by decide) (by decide) k
theorem rd7_5 {α β : Type} {f : Nat → α} (k : α → Option β) : rd 7 f 5 k = k (f 5) := rd_n (i := 5) (by decide) (by decide) k
theorem ck7_5 {β : Type} (k : Option β) : ck 7 5 k = k := ck_n (i := 5) (by decide) (by decide) k
theorem rd7_6 {α β : Type} {f : Nat → α} (k : α → Option β) : rd 7 f 6 k = k (f 6) := rd_n (i := 6) (by decide) (by decide) k
theorem ck7_6 {β : Type} (k : Option β) : ck 7 6 k = k := ck_n (i := 6) (by decide) (by decide) k
theorem rd10_0 {α β : Type} {f : Nat → α} (k : α → Option β) : rd 10 f 0 k = k (f 0) := rd_n (i := 0) (by decide) (by decide) k
theorem ck10_0 {β : Type} (k : Option β) : ck 10 0 k = k := ck_n (i := 0) (by decide) (by decide) k
theorem rd10_1 {α β : Type} {f : Nat → α} (k : α → Option β) : rd 10 f 1 k = k (f 1) := rd_n (i := 1) (by decide) (by decide) k
theorem ck10_1 {β : Type} (k : Option β) : ck 10 1 k = k := ck_n (i := 1) (by decide) (by decide) k
theorem rd10_2 {α β : Type} {f : Nat → α} (k : α → Option β) : rd 10 f 2 k = k (f 2) := rd_n (i := 2) (by decide) (by decide) k
theorem ck10_2 {β : Type} (k : Option β) : ck 10 2 k = k := ck_n (i := 2) (by decide) (by decide) k
theorem rd10_3 {α β : Type} {f : Nat → α} (k : α → Option β) : rd 10 f 3 k = k (f 3) := rd_n (i := 3) (by decide) (by decide) k
theorem ck10_3 {β : Type} (k : Option β) : ck 10 3 k = k := ck_n (i := 3) (by decide) (by decide) k
theorem rd10_4 {α β : Type} {f : Nat → α} (k : α → Option β) : rd 10 f 4 k = k (f 4) := rd_n (i := 4) (by decide) (by decide) k
theorem ck10_4 {β : Type} (k : Option β) : ck 10 4 k = k := ck_n (i := 4) (by decide) (by decide) k
theorem rd10_5 {α β : Type} {f : Nat → α} (k : α → Option β) : rd 10 f 5 k = k (f 5) := rd_n (i := 5) (by decide) (by decide) k
theorem ck10_5 {β : Type} (k : Option β) : ck 10 5 k = k := ck_n (i := 5) (by decide) (by decide) k
theorem rd10_6 {α β : Type} {f : Nat → α} (k : α → Option β) : rd 10 f 6 k = k (f 6) := rd_n (i := 6) (by decide) (by decide) k
theorem ck10_6 {β : Type} (k : Option β) : ck 10 6 k = k := ck_n (i := 6) (by decide) (by decide) k
theorem rd10_7 {α β : Type} {f : Nat → α} (k : α → Option β) : rd 10 f 7 k = k (f 7) := rd_n (i := 7) (by decide) (by decide) k
theorem ck10_7 {β : Type} (k : Option β) : ck 10 7 k = k := ck_n (i := 7) (by decide) (by decide) k
theorem rd10_8 {α β : Type} {f : Nat → α} (k : α → Option β) : rd 10 f 8 k = k (f 8) := rd_n (i := 8) (by decide) (by decide) k
theorem ck10_8 {β : Type} (k : Option β) : ck 10 8 k = k := ck_n (i := 8) (by decide) (by decide) k
theorem rd10_9 {α β : Type} {f : Nat → α} (k : α → Option β) : rd 10 f 9 k = k (f 9) := rd_n (i := 9) (by decide) (by decide) k
theorem ck10_9 {β : Type} (k : Option β) : ck 10 9 k = k := ck_n (i := 9) (by decide) (by decide) k
theorem rd13_1 {α β : Type} {f : Nat → α} (k : α → Option β) : rd 13 f 1 k = k (f 1) := rd_n (i := 1) (by decide) (by decide) k
theorem ck13_1 {β : Type} (k : Option β) : ck 13 1 k = k := ck_n (i := 1) (by decide) (by decide) k
theorem rd13_2 {α β : Type} {f : Nat → α} (k : α → Option β) : rd 13 f 2 k = k (f 2) := rd_n (i := 2) (by decide) (by decide) k
theorem ck13_2 {β : Type} (k : Option β) : ck 13 2 k = k := ck_n (i := 2) (by decide) (by decide) k
theorem rd13_3 {α β : Type} {f : Nat → α} (k : α → Option β) : rd 13 f 3 k = k (f 3) := rd_n (i := 3) (by decide) (by decide) k
theorem ck13_3 {β : Type} (k : Option β) : ck 13 3 k = k := ck_n (i := 3) (by decide) (by decide) k
theorem rd13_4 {α β : Type} {f : Nat → α} (k : α → Option β) : rd 13 f 4 k = k (f 4) := rd_n (i := 4) (by decide) (by decide) k
theorem ck13_4 {β : Type} (k : Option β) : ck 13 4 k = k := ck_n (i := 4) (by decide) (by decide) k
theorem rd13_5 {α β : Type} {f : Nat → α} (k : α → Option β) : rd 13 f 5 k = k (f 5) := rd_n (i := 5) (by decide) (by decide) k
theorem ck13_5 {β : Type} (k : Option β) : ck 13 5 k = k := ck_n (i := 5) (by decide) (by decide) k
theorem rd13_6 {α β : Type} {f : Nat → α} (k : α → Option β) : rd 13 f 6 k = k (f 6) := rd_n (i := 6) (by decide) (by decide) k
theorem ck13_6 {β : Type} (k : Option β) : ck 13 6 k = k := ck_n (i := 6) (by decide) (by decide) k
theorem rd13_7 {α β : Type} {f : Nat → α} (k : α → Option β) : rd 13 f 7 k = k (f 7) := rd_n (i := 7) (by decide) (by decide) k
theorem ck13_7 {β : Type} (k : Option β) : ck 13 7 k = k := ck_n (i := 7) (by decide) (by decide) k
theorem rd13_8 {α β : Type} {f : Nat → α} (k : α → Option β) : rd 13 f 8 k = k (f 8) := rd_n (i := 8) (by decide) (by decide) k
theorem ck13_8 {β : Type} (k : Option β) : ck 13 8 k = k := ck_n (i := 8) (by decide) (by decide) k
theorem rd13_9 {α β : Type} {f : Nat → α} (k : α → Option β) : rd 13 f 9 k = k (f 9) := rd_n (i := 9) (by decide) (by decide) k
theorem ck13_9 {β : Type} (k : Option β) : ck 13 9 k = k := ck_n (i := 9) (by decide) (by decide) k
theorem rd13_10 {α β : Type} {f : Nat → α} (k : α → Option β) : rd 13 f 10 k = k (f 10) := rd_n (i := 10) (by decide) (by decide) k
theorem ck13_10 {β : Type} (k : Option β) : ck 13 10 k = k := ck_n (i := 10) (by decide) (by decide) k
theorem rd21_20 {α β : Type} {f : Nat → α} (k : α → Option β) : rd 21 f 20 k = k (f 20) := rd_n (i := 20) (by decide) (by decide) k
theorem ck21_20 {β : Type} (k : Option β) : ck 21 20 k = k := ck_n (i := 20) (by decide) (by decide) k
theorem R_i0_r (a b : Int32) (τ : xS) : F_X12_in a.toInt64 0 b.toInt64 τ = some (b2 (0 ≤ a ∧ a ≤ b), τ) := R_inI a 0 b τ
theorem segOK_of {ρ : Nat → Int32} (h : segB ρ) (h2 : (ρ 2).toInt < (ρ 1).toInt) (h3 : ∀ i, i < 12 → (ρ (64 + 3 * i)).toInt ≤ (ρ (63 + 3 * i)).toInt ∧ ((i : Int) < (ρ 3).toInt → 1 ≤ (ρ (63 + 3 * i)).toInt)) : segOK ρ := ⟨h, h2, h3⟩
theorem upd_n (f : Nat → Int32) {a k : Nat} (x : Int32) (h : k ≠ a) : upd f a x k = f k := if_neg h
theorem upd_s (f : Nat → Int32) {a k : Nat} (x : Int32) (h : k = a) : upd f a x k = x := if_pos h
theorem st_october : ∀ (σ τ : xS), Sim σ τ → ∀ (a1 : Int32), ∃ (r : Int32) (σ1 τ1 : xS), F_X11_october a1 σ = some (r, σ1) ∧ F_X12_october a1 τ = some (r, τ1) ∧ Sim σ1 τ1 := by
  intro σ τ0 h0 a1
  have h := Sim_thr h0
  unfold F_X11_october F_X12_october
  simp only [nm_eq]
  generalize uI τ0 0 0 = τ at h ⊢
  obtain ⟨c, hc, e1, e2⟩ := cnt3 h.1
  simp only [R_i0_999, C_isWithin, bd_eq, ib2, C_r1, C_r5, R_t1, R_t5, rdL5, e2]
  by_cases p0 : 0 ≤ a1 ∧ a1 ≤ 999
  rotate_left
  · simp only [if_neg p0]
    exact ⟨_, _, _, rfl, rfl, Sim_ref (Or.inl rfl) h⟩
  simp only [if_pos p0]
  by_cases hcap : c = 10
  · have en : nI c = 10 := by rw [hcap]; rfl
    rw [C_openN (r := 3) e1 hcap, bd_eq, if_pos rfl]
    simp only [if_pos en]
    exact ⟨_, _, _, rfl, rfl, Sim_ref (Or.inr (Or.inr (Or.inl rfl))) h⟩
  have hlt : c < 10 := by omega
  have ei0 : (123 : Int32) + nI c = nI (123 + (c * 1 + 0)) := by
    show nI 123 + nI c = _
    rw [nI_add, show 123 + c = 123 + (c * 1 + 0) by omega]
  have en : ¬ nI c = 10 := nI_ne (b := 10) (by omega) (by decide) (by omega)
  have so : F_X6_open 3 σ = some (nI c, uI σ 227 (nI (c + 1))) := C_openY (r := 3) e1 (show c < 10 from hlt)
  rw [so, bd_eq, if_neg (nI_m1 (by omega))]
  have s0 : F_X6_set 3 (nI c) 0 a1 (uI σ 227 (nI (c + 1))) = some ((), uA (uI σ 227 (nI (c + 1))) 15 (upd (sA (uI σ 227 (nI (c + 1))) 15) (c * 1 + 0) a1)) := C_setY (r := 3) (i := c) (w := 0) (c := c + 1) (v := a1) (σ := uI σ 227 (nI (c + 1))) rfl (show c + 1 ≤ 10 by omega) (Nat.lt_succ_self c) (show 0 < 1 by decide)
  rw [s0, bd_eq]
  have hr := (Row_u15 (j := c * 1 + 0) (v := a1) (Row_s5 (v := nI (c + 1)) (show Row σ (sA τ 3) from h.1.1)) (by omega))
  rw [C_accepted, bd_eq]
  simp only [if_neg en, nm_eq]
  rw [ei0, ck_n (show 123 + (c * 1 + 0) < 5550 by omega) (by decide), nI_clamp (show 123 + (c * 1 + 0) < 2 ^ 31 by omega)]
  simp only [uA_uA, sA_s, rdL5, ckL5, cl5, nm_eq]
  rw [upd_n _ _ (show 5 ≠ 123 + (c * 1 + 0) by omega), e2, nI_1, R_tN (by omega), bd_eq]
  rw [upd_comm _ _ _ (show 5 ≠ 123 + (c * 1 + 0) by omega)] at hr
  have b0 : loT (123 + (c * 1 + 0)) ≤ a1.toInt ∧ a1.toInt ≤ hiT (123 + (c * 1 + 0)) := by
    have pp := p0
    rw [Int32.le_iff_toInt_le, Int32.le_iff_toInt_le] at pp
    rw [loT_0 (by omega) (by omega), show 123 + (c * 1 + 0) = 123 + c by omega, hi_oct c (by omega)]
    exact pp
  have hs : segOK (upd (upd (sA τ 3) (123 + (c * 1 + 0)) a1) 5 (nI (c + 1))) := segOK_of (segB_upd (segB_upd h.1.2.1.1 (k0 := 123 + (c * 1 + 0)) (v := a1) b0) (k0 := 5) (v := nI (c + 1)) (bnd (by decide) (by decide) (by omega) (show ((c + 1 : Nat) : Int) ≤ 10 by omega))) (by rw [upd_n _ _ (show 2 ≠ 5 by decide), upd_n _ _ (show 2 ≠ 123 + (c * 1 + 0) by omega), upd_n _ _ (show 1 ≠ 5 by decide), upd_n _ _ (show 1 ≠ 123 + (c * 1 + 0) by omega)]; exact h.1.2.1.2.1) (fun i hi => by rw [upd_n _ _ (show 64 + 3 * i ≠ 5 by omega), upd_n _ _ (show 64 + 3 * i ≠ 123 + (c * 1 + 0) by omega), upd_n _ _ (show 63 + 3 * i ≠ 5 by omega), upd_n _ _ (show 63 + 3 * i ≠ 123 + (c * 1 + 0) by omega), upd_n _ _ (show 3 ≠ 5 by omega), upd_n _ _ (show 3 ≠ 123 + (c * 1 + 0) by omega)]; exact h.1.2.1.2.2 i hi)
  refine ⟨_, _, _, rfl, rfl, Sim_acc (σ := uA (uI σ 227 (nI (c + 1))) 15 (upd (sA (uI σ 227 (nI (c + 1))) 15) (c * 1 + 0) a1)) (τ := uA τ 3 (upd (upd (sA τ 3) (123 + (c * 1 + 0)) a1) 5 (nI (c + 1)))) (Sim_st h ⟨rfl, fun k => ⟨rfl, rfl⟩, rfl, rfl, ⟨rfl, rfl, rfl, rfl⟩, rfl, rfl, rfl, rfl⟩ ⟨rfl, rfl, rfl, rfl, rfl, rfl, ⟨rfl, rfl, rfl, rfl, rfl⟩, rfl, rfl⟩ (SimSt_mk h.1 hr hs rfl rfl (by show (upd (upd (sA τ 3) (123 + (c * 1 + 0)) a1) 5 (nI (c + 1))) 1 = sA τ 3 1; rw [upd_n _ _ (show 1 ≠ 5 by decide), upd_n _ _ (show 1 ≠ 123 + (c * 1 + 0) by omega)]) (fun kk hkk => by show (upd (upd (sA τ 3) (123 + (c * 1 + 0)) a1) 5 (nI (c + 1))) kk = sA τ 3 kk; rw [upd_n _ _ (show kk ≠ 5 by omega), upd_n _ _ (show kk ≠ 123 + (c * 1 + 0) by omega)])))⟩
theorem st_mark : ∀ (σ τ : xS), Sim σ τ → ∀ (a1 a2 : Int32), ∃ (r : Int32) (σ1 τ1 : xS), F_X11_mark a1 a2 σ = some (r, σ1) ∧ F_X12_mark a1 a2 τ = some (r, τ1) ∧ Sim σ1 τ1 := by
  intro σ τ0 h0 a1 a2
  have h := Sim_thr h0
  unfold F_X11_mark F_X12_mark F_X11_mark_20 F_X12_mark_29
  simp only [nm_eq]
  generalize uI τ0 0 0 = τ at h ⊢
  obtain ⟨c, hc, e1, e2⟩ := cnt4 h.1
  simp only [R_i0_100, C_isWithin, bd_eq, ib2, C_r1, C_r5, R_t1, R_t5, rdL6, e2]
  by_cases p0 : 0 ≤ a1 ∧ a1 ≤ 100
  rotate_left
  · simp only [if_neg p0]
    exact ⟨_, _, _, rfl, rfl, Sim_ref (Or.inl rfl) h⟩
  simp only [if_pos p0]
  by_cases p1 : 0 ≤ a2 ∧ a2 ≤ 100
  rotate_left
  · simp only [if_neg p1]
    exact ⟨_, _, _, rfl, rfl, Sim_ref (Or.inl rfl) h⟩
  simp only [if_pos p1]
  by_cases hcap : c = 6
  · have en : nI c = 6 := by rw [hcap]; rfl
    rw [C_openN (r := 4) e1 hcap, bd_eq, if_pos rfl]
    simp only [if_pos en]
    exact ⟨_, _, _, rfl, rfl, Sim_ref (Or.inr (Or.inr (Or.inl rfl))) h⟩
  have hlt : c < 6 := by omega
  have ei0 : (133 : Int32) + (2 * nI c) = nI (133 + (c * 2 + 0)) := by
    show nI 133 + nI 2 * nI c = _
    rw [pk_mul, nI_add, show 133 + 2 * c = 133 + (c * 2 + 0) by omega]
  have ei1 : nI (133 + (c * 2 + 0)) + 1 = nI (133 + (c * 2 + 1)) := nI_add _ 1
  have en : ¬ nI c = 6 := nI_ne (b := 6) (by omega) (by decide) (by omega)
  have so : F_X6_open 4 σ = some (nI c, uI σ 259 (nI (c + 1))) := C_openY (r := 4) e1 (show c < 6 from hlt)
  rw [so, bd_eq, if_neg (nI_m1 (by omega))]
  have s0 : F_X6_set 4 (nI c) 0 a1 (uI σ 259 (nI (c + 1))) = some ((), uA (uI σ 259 (nI (c + 1))) 17 (upd (sA (uI σ 259 (nI (c + 1))) 17) (c * 2 + 0) a1)) := C_setY (r := 4) (i := c) (w := 0) (c := c + 1) (v := a1) (σ := uI σ 259 (nI (c + 1))) rfl (show c + 1 ≤ 6 by omega) (Nat.lt_succ_self c) (show 0 < 2 by decide)
  have s1 : F_X6_set 4 (nI c) 1 a2 (uA (uI σ 259 (nI (c + 1))) 17 (upd (sA (uI σ 259 (nI (c + 1))) 17) (c * 2 + 0) a1)) = some ((), uA (uA (uI σ 259 (nI (c + 1))) 17 (upd (sA (uI σ 259 (nI (c + 1))) 17) (c * 2 + 0) a1)) 17 (upd (sA (uA (uI σ 259 (nI (c + 1))) 17 (upd (sA (uI σ 259 (nI (c + 1))) 17) (c * 2 + 0) a1)) 17) (c * 2 + 1) a2)) := C_setY (r := 4) (i := c) (w := 1) (c := c + 1) (v := a2) (σ := uA (uI σ 259 (nI (c + 1))) 17 (upd (sA (uI σ 259 (nI (c + 1))) 17) (c * 2 + 0) a1)) rfl (show c + 1 ≤ 6 by omega) (Nat.lt_succ_self c) (show 1 < 2 by decide)
  rw [s0, bd_eq]
  rw [s1, bd_eq]
  have hr := (Row_u17 (j := c * 2 + 1) (v := a2) (Row_u17 (j := c * 2 + 0) (v := a1) (Row_s6 (v := nI (c + 1)) (show Row σ (sA τ 3) from h.1.1)) (by omega)) (by omega))
  rw [C_accepted, bd_eq]
  simp only [if_neg en, nm_eq]
  rw [ei0, ck_n (show 133 + (c * 2 + 0) < 5550 by omega) (by decide), nI_clamp (show 133 + (c * 2 + 0) < 2 ^ 31 by omega), ei1, ck_n (show 133 + (c * 2 + 1) < 5550 by omega) (by decide), nI_clamp (show 133 + (c * 2 + 1) < 2 ^ 31 by omega)]
  simp only [uA_uA, sA_s, rdL6, ckL6, cl6, nm_eq]
  rw [upd_n _ _ (show 6 ≠ 133 + (c * 2 + 1) by omega), upd_n _ _ (show 6 ≠ 133 + (c * 2 + 0) by omega), e2, nI_1, R_tN (by omega), bd_eq]
  rw [upd_comm _ _ _ (show 6 ≠ 133 + (c * 2 + 0) by omega), upd_comm _ _ _ (show 6 ≠ 133 + (c * 2 + 1) by omega)] at hr
  simp only [uA_uA, sA_s] at hr
  have b0 : loT (133 + (c * 2 + 0)) ≤ a1.toInt ∧ a1.toInt ≤ hiT (133 + (c * 2 + 0)) := by
    have pp := p0
    rw [Int32.le_iff_toInt_le, Int32.le_iff_toInt_le] at pp
    rw [loT_0 (by omega) (by omega), show 133 + (c * 2 + 0) = 133 + (c * 2 + 0) by omega, hi_mark (c * 2 + 0) (by omega)]
    exact pp
  have b1 : loT (133 + (c * 2 + 1)) ≤ a2.toInt ∧ a2.toInt ≤ hiT (133 + (c * 2 + 1)) := by
    have pp := p1
    rw [Int32.le_iff_toInt_le, Int32.le_iff_toInt_le] at pp
    rw [loT_0 (by omega) (by omega), show 133 + (c * 2 + 1) = 133 + (c * 2 + 1) by omega, hi_mark (c * 2 + 1) (by omega)]
    exact pp
  have hs : segOK (upd (upd (upd (sA τ 3) (133 + (c * 2 + 0)) a1) (133 + (c * 2 + 1)) a2) 6 (nI (c + 1))) := segOK_of (segB_upd (segB_upd (segB_upd h.1.2.1.1 (k0 := 133 + (c * 2 + 0)) (v := a1) b0) (k0 := 133 + (c * 2 + 1)) (v := a2) b1) (k0 := 6) (v := nI (c + 1)) (bnd (by decide) (by decide) (by omega) (show ((c + 1 : Nat) : Int) ≤ 6 by omega))) (by rw [upd_n _ _ (show 2 ≠ 6 by decide), upd_n _ _ (show 2 ≠ 133 + (c * 2 + 1) by omega), upd_n _ _ (show 2 ≠ 133 + (c * 2 + 0) by omega), upd_n _ _ (show 1 ≠ 6 by decide), upd_n _ _ (show 1 ≠ 133 + (c * 2 + 1) by omega), upd_n _ _ (show 1 ≠ 133 + (c * 2 + 0) by omega)]; exact h.1.2.1.2.1) (fun i hi => by rw [upd_n _ _ (show 64 + 3 * i ≠ 6 by omega), upd_n _ _ (show 64 + 3 * i ≠ 133 + (c * 2 + 1) by omega), upd_n _ _ (show 64 + 3 * i ≠ 133 + (c * 2 + 0) by omega), upd_n _ _ (show 63 + 3 * i ≠ 6 by omega), upd_n _ _ (show 63 + 3 * i ≠ 133 + (c * 2 + 1) by omega), upd_n _ _ (show 63 + 3 * i ≠ 133 + (c * 2 + 0) by omega), upd_n _ _ (show 3 ≠ 6 by omega), upd_n _ _ (show 3 ≠ 133 + (c * 2 + 1) by omega), upd_n _ _ (show 3 ≠ 133 + (c * 2 + 0) by omega)]; exact h.1.2.1.2.2 i hi)
  refine ⟨_, _, _, rfl, rfl, Sim_acc (σ := uA (uI σ 259 (nI (c + 1))) 17 (upd (upd (sA (uI σ 259 (nI (c + 1))) 17) (c * 2 + 0) a1) (c * 2 + 1) a2)) (τ := uA τ 3 (upd (upd (upd (sA τ 3) (133 + (c * 2 + 0)) a1) (133 + (c * 2 + 1)) a2) 6 (nI (c + 1)))) (Sim_st h ⟨rfl, fun k => ⟨rfl, rfl⟩, rfl, rfl, ⟨rfl, rfl, rfl, rfl⟩, rfl, rfl, rfl, rfl⟩ ⟨rfl, rfl, rfl, rfl, rfl, rfl, ⟨rfl, rfl, rfl, rfl, rfl⟩, rfl, rfl⟩ (SimSt_mk h.1 hr hs rfl rfl (by show (upd (upd (upd (sA τ 3) (133 + (c * 2 + 0)) a1) (133 + (c * 2 + 1)) a2) 6 (nI (c + 1))) 1 = sA τ 3 1; rw [upd_n _ _ (show 1 ≠ 6 by decide), upd_n _ _ (show 1 ≠ 133 + (c * 2 + 1) by omega), upd_n _ _ (show 1 ≠ 133 + (c * 2 + 0) by omega)]) (fun kk hkk => by show (upd (upd (upd (sA τ 3) (133 + (c * 2 + 0)) a1) (133 + (c * 2 + 1)) a2) 6 (nI (c + 1))) kk = sA τ 3 kk; rw [upd_n _ _ (show kk ≠ 6 by omega), upd_n _ _ (show kk ≠ 133 + (c * 2 + 1) by omega), upd_n _ _ (show kk ≠ 133 + (c * 2 + 0) by omega)])))⟩
theorem st_card : ∀ (σ τ : xS), Sim σ τ → ∀ (a1 a2 a3 : Int32), ∃ (r : Int32) (σ1 τ1 : xS), F_X11_card a1 a2 a3 σ = some (r, σ1) ∧ F_X12_card a1 a2 a3 τ = some (r, τ1) ∧ Sim σ1 τ1 := by
  intro σ τ0 h0 a1 a2 a3
  have h := Sim_thr h0
  unfold F_X11_card F_X12_card F_X11_card_34 F_X12_card_41
  simp only [nm_eq]
  generalize uI τ0 0 0 = τ at h ⊢
  obtain ⟨c, hc, e1, e2⟩ := cnt2 h.1
  simp only [R_i0_9, R_i0_99, R_i0_999, C_isWithin, bd_eq, ib2, rd5_0, C_r1, C_r5, R_t1, R_t5, rdL4, e2]
  have q0 : tB 0 = 9 := rfl
  simp only [q0]
  by_cases p0 : 0 ≤ a1 ∧ a1 ≤ 9
  rotate_left
  · simp only [if_neg p0]
    exact ⟨_, _, _, rfl, rfl, Sim_ref (Or.inl rfl) h⟩
  simp only [if_pos p0]
  by_cases p1 : 0 ≤ a2 ∧ a2 ≤ 99
  rotate_left
  · simp only [if_neg p1]
    exact ⟨_, _, _, rfl, rfl, Sim_ref (Or.inl rfl) h⟩
  simp only [if_pos p1]
  by_cases p2 : 0 ≤ a3 ∧ a3 ≤ 999
  rotate_left
  · simp only [if_neg p2]
    exact ⟨_, _, _, rfl, rfl, Sim_ref (Or.inl rfl) h⟩
  simp only [if_pos p2]
  by_cases hcap : c = 8
  · have en : nI c = 8 := by rw [hcap]; rfl
    rw [C_openN (r := 2) e1 hcap, bd_eq, if_pos rfl]
    simp only [if_pos en]
    exact ⟨_, _, _, rfl, rfl, Sim_ref (Or.inr (Or.inr (Or.inl rfl))) h⟩
  have hlt : c < 8 := by omega
  have ei0 : (99 : Int32) + (3 * nI c) = nI (99 + (c * 3 + 0)) := by
    show nI 99 + nI 3 * nI c = _
    rw [pk_mul, nI_add, show 99 + 3 * c = 99 + (c * 3 + 0) by omega]
  have ei1 : nI (99 + (c * 3 + 0)) + 1 = nI (99 + (c * 3 + 1)) := nI_add _ 1
  have ei2 : nI (99 + (c * 3 + 0)) + 2 = nI (99 + (c * 3 + 2)) := nI_add _ 2
  have en : ¬ nI c = 8 := nI_ne (b := 8) (by omega) (by decide) (by omega)
  have so : F_X6_open 2 σ = some (nI c, uI σ 195 (nI (c + 1))) := C_openY (r := 2) e1 (show c < 8 from hlt)
  rw [so, bd_eq, if_neg (nI_m1 (by omega))]
  have s0 : F_X6_set 2 (nI c) 0 a1 (uI σ 195 (nI (c + 1))) = some ((), uA (uI σ 195 (nI (c + 1))) 13 (upd (sA (uI σ 195 (nI (c + 1))) 13) (c * 3 + 0) a1)) := C_setY (r := 2) (i := c) (w := 0) (c := c + 1) (v := a1) (σ := uI σ 195 (nI (c + 1))) rfl (show c + 1 ≤ 8 by omega) (Nat.lt_succ_self c) (show 0 < 3 by decide)
  have s1 : F_X6_set 2 (nI c) 1 a2 (uA (uI σ 195 (nI (c + 1))) 13 (upd (sA (uI σ 195 (nI (c + 1))) 13) (c * 3 + 0) a1)) = some ((), uA (uA (uI σ 195 (nI (c + 1))) 13 (upd (sA (uI σ 195 (nI (c + 1))) 13) (c * 3 + 0) a1)) 13 (upd (sA (uA (uI σ 195 (nI (c + 1))) 13 (upd (sA (uI σ 195 (nI (c + 1))) 13) (c * 3 + 0) a1)) 13) (c * 3 + 1) a2)) := C_setY (r := 2) (i := c) (w := 1) (c := c + 1) (v := a2) (σ := uA (uI σ 195 (nI (c + 1))) 13 (upd (sA (uI σ 195 (nI (c + 1))) 13) (c * 3 + 0) a1)) rfl (show c + 1 ≤ 8 by omega) (Nat.lt_succ_self c) (show 1 < 3 by decide)
  have s2 : F_X6_set 2 (nI c) 2 a3 (uA (uA (uI σ 195 (nI (c + 1))) 13 (upd (sA (uI σ 195 (nI (c + 1))) 13) (c * 3 + 0) a1)) 13 (upd (sA (uA (uI σ 195 (nI (c + 1))) 13 (upd (sA (uI σ 195 (nI (c + 1))) 13) (c * 3 + 0) a1)) 13) (c * 3 + 1) a2)) = some ((), uA (uA (uA (uI σ 195 (nI (c + 1))) 13 (upd (sA (uI σ 195 (nI (c + 1))) 13) (c * 3 + 0) a1)) 13 (upd (sA (uA (uI σ 195 (nI (c + 1))) 13 (upd (sA (uI σ 195 (nI (c + 1))) 13) (c * 3 + 0) a1)) 13) (c * 3 + 1) a2)) 13 (upd (sA (uA (uA (uI σ 195 (nI (c + 1))) 13 (upd (sA (uI σ 195 (nI (c + 1))) 13) (c * 3 + 0) a1)) 13 (upd (sA (uA (uI σ 195 (nI (c + 1))) 13 (upd (sA (uI σ 195 (nI (c + 1))) 13) (c * 3 + 0) a1)) 13) (c * 3 + 1) a2)) 13) (c * 3 + 2) a3)) := C_setY (r := 2) (i := c) (w := 2) (c := c + 1) (v := a3) (σ := uA (uA (uI σ 195 (nI (c + 1))) 13 (upd (sA (uI σ 195 (nI (c + 1))) 13) (c * 3 + 0) a1)) 13 (upd (sA (uA (uI σ 195 (nI (c + 1))) 13 (upd (sA (uI σ 195 (nI (c + 1))) 13) (c * 3 + 0) a1)) 13) (c * 3 + 1) a2)) rfl (show c + 1 ≤ 8 by omega) (Nat.lt_succ_self c) (show 2 < 3 by decide)
  rw [s0, bd_eq]
  rw [s1, bd_eq]
  rw [s2, bd_eq]
  have hr := (Row_u13 (j := c * 3 + 2) (v := a3) (Row_u13 (j := c * 3 + 1) (v := a2) (Row_u13 (j := c * 3 + 0) (v := a1) (Row_s4 (v := nI (c + 1)) (show Row σ (sA τ 3) from h.1.1)) (by omega)) (by omega)) (by omega))
  rw [C_accepted, bd_eq]
  simp only [if_neg en, nm_eq]
  rw [ei0, ck_n (show 99 + (c * 3 + 0) < 5550 by omega) (by decide), nI_clamp (show 99 + (c * 3 + 0) < 2 ^ 31 by omega), ei1, ck_n (show 99 + (c * 3 + 1) < 5550 by omega) (by decide), nI_clamp (show 99 + (c * 3 + 1) < 2 ^ 31 by omega), ei2, ck_n (show 99 + (c * 3 + 2) < 5550 by omega) (by decide), nI_clamp (show 99 + (c * 3 + 2) < 2 ^ 31 by omega)]
  simp only [uA_uA, sA_s, rdL4, ckL4, cl4, nm_eq]
  rw [upd_n _ _ (show 4 ≠ 99 + (c * 3 + 2) by omega), upd_n _ _ (show 4 ≠ 99 + (c * 3 + 1) by omega), upd_n _ _ (show 4 ≠ 99 + (c * 3 + 0) by omega), e2, nI_1, R_tN (by omega), bd_eq]
  rw [upd_comm _ _ _ (show 4 ≠ 99 + (c * 3 + 0) by omega), upd_comm _ _ _ (show 4 ≠ 99 + (c * 3 + 1) by omega), upd_comm _ _ _ (show 4 ≠ 99 + (c * 3 + 2) by omega)] at hr
  simp only [uA_uA, sA_s] at hr
  have b0 : loT (99 + (c * 3 + 0)) ≤ a1.toInt ∧ a1.toInt ≤ hiT (99 + (c * 3 + 0)) := by
    have pp := p0
    rw [Int32.le_iff_toInt_le, Int32.le_iff_toInt_le] at pp
    rw [loT_0 (by omega) (by omega), show 99 + (c * 3 + 0) = 99 + 3 * c + 0 by omega, hi_card c (by omega) 0 (by decide)]
    exact pp
  have b1 : loT (99 + (c * 3 + 1)) ≤ a2.toInt ∧ a2.toInt ≤ hiT (99 + (c * 3 + 1)) := by
    have pp := p1
    rw [Int32.le_iff_toInt_le, Int32.le_iff_toInt_le] at pp
    rw [loT_0 (by omega) (by omega), show 99 + (c * 3 + 1) = 99 + 3 * c + 1 by omega, hi_card c (by omega) 1 (by decide)]
    exact pp
  have b2 : loT (99 + (c * 3 + 2)) ≤ a3.toInt ∧ a3.toInt ≤ hiT (99 + (c * 3 + 2)) := by
    have pp := p2
    rw [Int32.le_iff_toInt_le, Int32.le_iff_toInt_le] at pp
    rw [loT_0 (by omega) (by omega), show 99 + (c * 3 + 2) = 99 + 3 * c + 2 by omega, hi_card c (by omega) 2 (by decide)]
    exact pp
  have hs : segOK (upd (upd (upd (upd (sA τ 3) (99 + (c * 3 + 0)) a1) (99 + (c * 3 + 1)) a2) (99 + (c * 3 + 2)) a3) 4 (nI (c + 1))) := segOK_of (segB_upd (segB_upd (segB_upd (segB_upd h.1.2.1.1 (k0 := 99 + (c * 3 + 0)) (v := a1) b0) (k0 := 99 + (c * 3 + 1)) (v := a2) b1) (k0 := 99 + (c * 3 + 2)) (v := a3) b2) (k0 := 4) (v := nI (c + 1)) (bnd (by decide) (by decide) (by omega) (show ((c + 1 : Nat) : Int) ≤ 8 by omega))) (by rw [upd_n _ _ (show 2 ≠ 4 by decide), upd_n _ _ (show 2 ≠ 99 + (c * 3 + 2) by omega), upd_n _ _ (show 2 ≠ 99 + (c * 3 + 1) by omega), upd_n _ _ (show 2 ≠ 99 + (c * 3 + 0) by omega), upd_n _ _ (show 1 ≠ 4 by decide), upd_n _ _ (show 1 ≠ 99 + (c * 3 + 2) by omega), upd_n _ _ (show 1 ≠ 99 + (c * 3 + 1) by omega), upd_n _ _ (show 1 ≠ 99 + (c * 3 + 0) by omega)]; exact h.1.2.1.2.1) (fun i hi => by rw [upd_n _ _ (show 64 + 3 * i ≠ 4 by omega), upd_n _ _ (show 64 + 3 * i ≠ 99 + (c * 3 + 2) by omega), upd_n _ _ (show 64 + 3 * i ≠ 99 + (c * 3 + 1) by omega), upd_n _ _ (show 64 + 3 * i ≠ 99 + (c * 3 + 0) by omega), upd_n _ _ (show 63 + 3 * i ≠ 4 by omega), upd_n _ _ (show 63 + 3 * i ≠ 99 + (c * 3 + 2) by omega), upd_n _ _ (show 63 + 3 * i ≠ 99 + (c * 3 + 1) by omega), upd_n _ _ (show 63 + 3 * i ≠ 99 + (c * 3 + 0) by omega), upd_n _ _ (show 3 ≠ 4 by omega), upd_n _ _ (show 3 ≠ 99 + (c * 3 + 2) by omega), upd_n _ _ (show 3 ≠ 99 + (c * 3 + 1) by omega), upd_n _ _ (show 3 ≠ 99 + (c * 3 + 0) by omega)]; exact h.1.2.1.2.2 i hi)
  refine ⟨_, _, _, rfl, rfl, Sim_acc (σ := uA (uI σ 195 (nI (c + 1))) 13 (upd (upd (upd (sA (uI σ 195 (nI (c + 1))) 13) (c * 3 + 0) a1) (c * 3 + 1) a2) (c * 3 + 2) a3)) (τ := uA τ 3 (upd (upd (upd (upd (sA τ 3) (99 + (c * 3 + 0)) a1) (99 + (c * 3 + 1)) a2) (99 + (c * 3 + 2)) a3) 4 (nI (c + 1)))) (Sim_st h ⟨rfl, fun k => ⟨rfl, rfl⟩, rfl, rfl, ⟨rfl, rfl, rfl, rfl⟩, rfl, rfl, rfl, rfl⟩ ⟨rfl, rfl, rfl, rfl, rfl, rfl, ⟨rfl, rfl, rfl, rfl, rfl⟩, rfl, rfl⟩ (SimSt_mk h.1 hr hs rfl rfl (by show (upd (upd (upd (upd (sA τ 3) (99 + (c * 3 + 0)) a1) (99 + (c * 3 + 1)) a2) (99 + (c * 3 + 2)) a3) 4 (nI (c + 1))) 1 = sA τ 3 1; rw [upd_n _ _ (show 1 ≠ 4 by decide), upd_n _ _ (show 1 ≠ 99 + (c * 3 + 2) by omega), upd_n _ _ (show 1 ≠ 99 + (c * 3 + 1) by omega), upd_n _ _ (show 1 ≠ 99 + (c * 3 + 0) by omega)]) (fun kk hkk => by show (upd (upd (upd (upd (sA τ 3) (99 + (c * 3 + 0)) a1) (99 + (c * 3 + 1)) a2) (99 + (c * 3 + 2)) a3) 4 (nI (c + 1))) kk = sA τ 3 kk; rw [upd_n _ _ (show kk ≠ 4 by omega), upd_n _ _ (show kk ≠ 99 + (c * 3 + 2) by omega), upd_n _ _ (show kk ≠ 99 + (c * 3 + 1) by omega), upd_n _ _ (show kk ≠ 99 + (c * 3 + 0) by omega)])))⟩
theorem st_forget : ∀ (σ τ : xS), Sim σ τ → ∀ (_ : Unit), ∃ (r : Int32) (σ1 τ1 : xS), F_X11_forget  σ = some (r, σ1) ∧ F_X12_forget  τ = some (r, τ1) ∧ Sim σ1 τ1 := by
  intro σ τ0 h0 _
  have h := Sim_thr h0
  unfold F_X11_forget F_X12_forget F_X11_emptied
  simp only [nm_eq]
  generalize uI τ0 0 0 = τ at h ⊢
  obtain ⟨c, hc, e1, e2⟩ := cnt3 h.1
  simp only [rdL5, ckL5, cl5, e2, bd_eq]
  refine ⟨nI c, uI σ 227 0, uA τ 3 (upd (sA τ 3) 5 0), ?_, rfl, Sim_st h ⟨rfl, fun k => ⟨rfl, rfl⟩, rfl, rfl, ⟨rfl, rfl, rfl, rfl⟩, rfl, rfl, rfl, rfl⟩ ⟨rfl, rfl, rfl, rfl, rfl, rfl, ⟨rfl, rfl, rfl, rfl, rfl⟩, rfl, rfl⟩ (SimSt_upd h.1 (by decide) (by decide) (rowC_s5 σ 0) (segOK_upd h.1.2.1 (by decide) (by decide) (by decide) (by decide)) rfl rfl)⟩
  show some (sI σ 227, uI σ 227 0) = _
  rw [e1]
theorem st_clear : ∀ (σ τ : xS), Sim σ τ → ∀ (_ : Unit), ∃ (r : Int32) (σ1 τ1 : xS), F_X11_clear  σ = some (r, σ1) ∧ F_X12_clear  τ = some (r, τ1) ∧ Sim σ1 τ1 := by
  intro σ τ0 h0 _
  have h := Sim_thr h0
  unfold F_X11_clear F_X12_clear F_X11_emptied
  simp only [nm_eq]
  generalize uI τ0 0 0 = τ at h ⊢
  obtain ⟨c, hc, e1, e2⟩ := cnt4 h.1
  simp only [rdL6, ckL6, cl6, e2, bd_eq]
  refine ⟨nI c, uI σ 259 0, uA τ 3 (upd (sA τ 3) 6 0), ?_, rfl, Sim_st h ⟨rfl, fun k => ⟨rfl, rfl⟩, rfl, rfl, ⟨rfl, rfl, rfl, rfl⟩, rfl, rfl, rfl, rfl⟩ ⟨rfl, rfl, rfl, rfl, rfl, rfl, ⟨rfl, rfl, rfl, rfl, rfl⟩, rfl, rfl⟩ (SimSt_upd h.1 (by decide) (by decide) (rowC_s6 σ 0) (segOK_upd h.1.2.1 (by decide) (by decide) (by decide) (by decide)) rfl rfl)⟩
  show some (sI σ 259, uI σ 259 0) = _
  rw [e1]
