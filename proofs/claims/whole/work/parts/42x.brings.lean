section
/-! ===== brings ===== -/
theorem C_gain2 {σ τ : xS} (hS : SimSt σ τ) {b pr : Nat} (hb : b < 10) (hpr : pr ≤ 2000) {lt : Int32} (hW : wdT τ b (sA τ 3 (13 + 5 * b + 4)) lt (nI pr) 0 0 (sA σ 45)) : ∃ σ', F_X1_gain σ = some (nI (gnN τ b pr lt), σ') ∧ frS σ σ' := by
  have h := C_gain hS hb hpr hW
  rw [uA_self] at h
  exact h
theorem sl_C2 {σ τ : xS} (hS : SimSt σ τ) {b : Nat} (hb : b < 10) {pl lt pr cw : Int32} (hW : wdT τ b pl lt pr cw 0 (sA σ 45)) : ∃ σ', F_X0_sells σ = some (nI (slN τ b pl lt pr cw), σ') ∧ frS σ σ' := by
  have h := sl_C hS hb hW
  rw [uA_self] at h
  exact h
/-- how likely a book sells now, alone, where it lies -/
def sbN (τ : xS) (b p : Nat) : Nat := slN τ b (sA τ 3 (13 + 5 * b + 4)) 0 (nI p) 0
def BD (τ : xS) (c : Nat) (P : Nat → Nat) (σ : xS) : Prop := ∀ j, j < c → sA σ 90 j = nI (P j) ∧ sA σ 91 j = nI (gnN τ j (P j) 0) ∧ sA σ 92 j = nI (sbN τ j (P j))
theorem C_look {σ0 τ : xS} (hS : SimSt σ0 τ) {c : Nat} (e1 : sI σ0 131 = nI c) (hc : c ≤ 10) (m : Nat) : ∀ (n i : Nat) (σ : xS), m < n → i + m = c → frX σ0 σ → BD τ i (bpN τ) σ → ∃ σ', F_X1_lookAtAll_2 n (nI i) σ = some ((), σ') ∧ frX σ0 σ' ∧ BD τ c (bpN τ) σ' := by
  induction m with
  | zero =>
    intro n i σ hn hi hX hB
    obtain ⟨n, rfl⟩ : ∃ q, n = q + 1 := ⟨n - 1, by omega⟩
    obtain rfl : i = c := by omega
    rw [F_X1_lookAtAll_2, (hX.2.1 131 (by decide)).trans e1, if_pos (nI_le (by omega) (by omega))]
    exact ⟨σ, rfl, hX, hB⟩
  | succ m ih =>
    intro n i σ hn hi hX hB
    obtain ⟨n, rfl⟩ : ∃ q, n = q + 1 := ⟨n - 1, by omega⟩
    have e1' : sI σ 131 = nI c := (hX.2.1 131 (by decide)).trans e1
    have hS1 : SimSt σ τ := SimSt_keep hS (KC_X hX) (KR_refl τ)
    obtain ⟨p1, p2⟩ := bp_ok hS (b := i) (by omega)
    obtain ⟨W, hW, w0, w1, w2, w3, w4, w5, w6, w7, w8, w9⟩ := C_about hS1 (b := i) (c := c) e1' hc (by omega) 0
    have hwd : wdT τ i (sA τ 3 (13 + 5 * i + 4)) 0 (nI (bpN τ i)) 0 0 W := ⟨w0, w1, w2, w3, w4.trans p2, w5, w6, w7, w8, w9⟩
    have g : F_X6_get 0 (nI i) 3 (uA σ 45 W) = some (sA σ 9 (i * 5 + 3), uA σ 45 W) := C_getY (r := 0) (w := 3) (σ := uA σ 45 W) e1' (show c ≤ 10 from hc) (by omega) (by decide)
    have hXa : frX σ0 (uA (uA σ 45 W) 90 (upd (sA (uA σ 45 W) 90) i (nI (bpN τ i)))) := frX_trans (frX_trans hX (frX_A _ W (Or.inl rfl))) (frX_A _ _ (Or.inr (by decide)))
    obtain ⟨σ1, g1, g2⟩ := C_gain2 (SimSt_keep hS (KC_X hXa) (KR_refl τ)) (b := i) (pr := bpN τ i) (by omega) (by omega) (lt := 0) hwd
    have hXb : frX σ0 (uA σ1 91 (upd (sA σ1 91) i (nI (gnN τ i (bpN τ i) 0)))) := frX_trans (frX_trans hXa (frX_S g2)) (frX_A _ _ (Or.inr (by decide)))
    obtain ⟨σ2, s1, s2⟩ := sl_C2 (SimSt_keep hS (KC_X hXb) (KR_refl τ)) (b := i) (by omega) (pl := sA τ 3 (13 + 5 * i + 4)) (lt := 0) (pr := nI (bpN τ i)) (cw := 0) (by
      have e45 : sA (uA σ1 91 (upd (sA σ1 91) i (nI (gnN τ i (bpN τ i) 0)))) 45 = W := g2.1 45
      rw [e45]
      exact hwd)
    have s1' : F_X0_sells (uA σ1 91 (upd (sA σ1 91) i (nI (gnN τ i (bpN τ i) 0)))) = some (nI (sbN τ i (bpN τ i)), σ2) := s1
    have hXc : frX σ0 (uA σ2 92 (upd (sA σ2 92) i (nI (sbN τ i (bpN τ i))))) := frX_trans (frX_trans hXb (frX_S s2)) (frX_A _ _ (Or.inr (by decide)))
    rw [F_X1_lookAtAll_2, e1', if_neg (nI_ge (by omega) (by omega)), hW, bd_eq, g, bd_eq, cell_book hS1 (by omega) (by decide), p2, ck_n (by omega) (by decide), nm_eq, nI_clamp (by omega), g1, bd_eq, ck_n (by omega) (by decide), nm_eq, s1', bd_eq, ck_n (by omega) (by decide), nm_eq, nm_eq, nI_1]
    refine ih n (i + 1) _ (by omega) (by omega) hXc (fun j hj => ?_)
    have h90 : sA (uA σ2 92 (upd (sA σ2 92) i (nI (sbN τ i (bpN τ i))))) 90 = upd (sA σ 90) i (nI (bpN τ i)) := by
      show sA σ2 90 = _
      rw [s2.1 90]
      show sA σ1 90 = _
      rw [g2.1 90]
      rfl
    have h91 : sA (uA σ2 92 (upd (sA σ2 92) i (nI (sbN τ i (bpN τ i))))) 91 = upd (sA σ 91) i (nI (gnN τ i (bpN τ i) 0)) := by
      show sA σ2 91 = _
      rw [s2.1 91]
      show upd (sA σ1 91) i _ = _
      rw [g2.1 91]
      rfl
    have h92 : sA (uA σ2 92 (upd (sA σ2 92) i (nI (sbN τ i (bpN τ i))))) 92 = upd (sA σ 92) i (nI (sbN τ i (bpN τ i))) := by
      show upd (sA σ2 92) i _ = _
      rw [s2.1 92]
      show upd (sA σ1 92) i _ = _
      rw [g2.1 92]
      rfl
    rw [h90, h91, h92]
    unfold upd
    by_cases e : j = i
    · subst e
      rw [if_pos rfl, if_pos rfl, if_pos rfl]
      exact ⟨rfl, rfl, rfl⟩
    · rw [if_neg e, if_neg e, if_neg e]
      exact hB j (by omega)
def btN (P s : Nat → Nat) (T : Nat) : Nat → Nat
  | 0 => 0
  | m + 1 => btN P s T m + P m * (if T.testBit m = true then 100 else s m)
def urN (P s : Nat → Nat) (T : Nat) : Nat → Nat
  | 0 => 0
  | m + 1 => urN P s T m + (if T.testBit m = true then 0 else P m * s m)
theorem bt_eq (P s : Nat → Nat) (T : Nat) (m : Nat) : 100 * smN P T m + urN P s T m = btN P s T m := by
  induction m with
  | zero => rfl
  | succ m ih =>
    rw [smN, urN, btN, ← ih]
    by_cases h : T.testBit m = true
    · rw [if_pos h, if_pos h, if_pos h, Nat.mul_comm (P m)]
      omega
    · rw [if_neg h, if_neg h, if_neg h]
      omega
/-- all that the books bring, told in hundredths -/
def allN (τ : xS) (c H : Nat) (P : Nat → Nat) : Nat := btN P (fun j => sbN τ j (P j)) (ggS (gdN τ P 0 0) c H 0) c
theorem C_together {σ0 σ τ : xS} (hS0 : SimSt σ0 τ) (hK : KC σ0 σ) {c H : Nat} (e1 : sI σ0 131 = nI c) (hc : c ≤ 10) (eH : sA τ 3 11 = nI H) (hH : H ≤ 9) {P : Nat → Nat} (hB : BD τ c P σ) : F_X1_broughtTogether σ = some (nI (allN τ c H P), σ) := by
  have hS : SimSt σ τ := SimSt_keep hS0 hK (KR_refl τ)
  have e1' : sI σ 131 = nI c := (hK.2.1 131 (by decide)).trans e1
  have hG : ∀ j, j < c → gdN τ P 0 0 j = gnN τ j (P j) 0 := fun j hj => by
    unfold gdN
    rw [if_neg (by rw [Nat.zero_testBit]; decide)]
  have eH' : sA σ 38 4 = nI H := (cell_term hS (i := 4) (by decide)).trans eH
  have hl : F_X1_greatestGains σ = some (nI (ggS (gdN τ P 0 0) c H 0), σ) := by
    have h := C_gains e1' hc eH' hH (G := gdN τ P 0 0) (fun j hj => by rw [hG j hj]; exact ⟨(hB j hj).2.1, gn_le hS (by omega) _ _⟩) H FU 0 0 (by unfold FU; omega) (by omega) (Nat.two_pow_pos c)
    have e0 : nI 0 = (0 : Int32) := rfl
    rw [e0] at h
    unfold F_X1_greatestGains
    rw [nm_eq2, nm_eq2]
    exact h
  have hTlt : ggS (gdN τ P 0 0) c H 0 < 2 ^ c := gg_lt H 0 (Nat.two_pow_pos c)
  have hT2 : ggS (gdN τ P 0 0) c H 0 < 2 ^ 31 := Nat.lt_of_lt_of_le hTlt (Nat.le_trans (pow_le c (by omega)) (by decide))
  unfold allN
  generalize ggS (gdN τ P 0 0) c H 0 = T at *
  have hloop : ∀ m n i, m < n → i + m = c → F_X1_broughtTogether_9 n (nI T) (nI (btN P (fun j => sbN τ j (P j)) T i)) (nI i) σ = some (nI (btN P (fun j => sbN τ j (P j)) T c), σ) := by
    intro m
    induction m with
    | zero =>
      intro n i hn hi
      obtain ⟨n, rfl⟩ : ∃ q, n = q + 1 := ⟨n - 1, by omega⟩
      obtain rfl : i = c := by omega
      rw [F_X1_broughtTogether_9, e1', if_pos (nI_le (by omega) (by omega))]
    | succ m ih =>
      intro n i hn hi
      obtain ⟨n, rfl⟩ : ∃ q, n = q + 1 := ⟨n - 1, by omega⟩
      obtain ⟨b1, b2', b3⟩ := hB i (by omega)
      have hnext := ih n (i + 1) (by omega) (by omega)
      rw [btN] at hnext
      rw [F_X1_broughtTogether_9, e1', if_neg (nI_ge (by omega) (by omega)), rd_n (by omega) (by decide), b1, bit_if hT2 (by omega)]
      unfold F_X1_broughtTogether_50
      by_cases hb : T.testBit i = true
      · rw [if_pos hb] at hnext
        rw [if_pos hb, nm_eq, nm_eq, nI_1, show nI (P i) * 100 = nI (P i * 100) from pk_mul _ 100, nI_add]
        exact hnext
      · rw [if_neg hb] at hnext
        rw [if_neg hb, rd_n (by omega) (by decide), b3, nm_eq, nm_eq, nI_1, pk_mul, nI_add]
        exact hnext
  have h := hloop c FU 0 (by unfold FU; omega) (by omega)
  have e0 : nI 0 = (0 : Int32) := rfl
  rw [show btN P (fun j => sbN τ j (P j)) T 0 = 0 from rfl, e0] at h
  unfold F_X1_broughtTogether
  rw [hl, bd_eq, nm_eq2, nm_eq2]
  exact h
theorem frV_told {τ : xS} (p : Int32) (h : sI τ 34 = 0) : frV τ (uI (uI (uI τ 33 p) 34 0) 35 0) := by
  refine ⟨fun _ => rfl, fun k h1 h2 h3 h4 => ?_, fun _ _ _ => rfl, fun _ _ _ => rfl, fun _ => rfl, rfl⟩
  show (if k = 35 then (0 : Int32) else if k = 34 then 0 else if k = 33 then p else sI τ k) = sI τ k
  rw [if_neg h4, if_neg h3]
  by_cases e : k = 34
  · rw [if_pos e, e, h]
  · rw [if_neg e]
theorem R_all2 {σ τ0 : xS} (hS : SimSt σ τ0) {c H : Nat} (e2 : sA τ0 3 0 = nI c) (hc : c ≤ 10) (eH : sA τ0 3 11 = nI H) (hH : H ≤ 9) {P : Nat → Nat} (hP : ∀ j, j < c → P j ≤ 2000) {τ : xS} (h3 : sA τ 3 = sA τ0 3) (h40 : ∀ j, j < c → sA τ 40 j = nI (P j)) (h41 : sI τ 41 = 0) (h34 : sI τ 34 = 0) : ∃ τ', F_X12_allBring τ = some (nI (allN τ0 c H P), τ') ∧ frV τ τ' := by
  obtain ⟨τ1, t1, t2⟩ := R_taken hS e2 hc eH hH hP (A := 0) (Nat.two_pow_pos c) 0 h3 h40 h41 h34
  have hTlt : ggS (gdN τ0 P 0 0) c H 0 < 2 ^ c := gg_lt H 0 (Nat.two_pow_pos c)
  have hT2 : ggS (gdN τ0 P 0 0) c H 0 < 2 ^ 31 := Nat.lt_of_lt_of_le hTlt (Nat.le_trans (pow_le c (by omega)) (by decide))
  have hpd : F_X12_paidFor (nI (ggS (gdN τ0 P 0 0) c H 0)) τ1 = _ := R_paid (τ := τ1) (P := P) (by rw [t2.1 3, h3]; exact e2) hc (fun j hj => by rw [t2.1 40]; exact h40 j hj) hTlt
  unfold F_X12_allBring
  rw [t1, bd_eq, hpd, bd_eq, show (100 : Int32) * nI (smN P (ggS (gdN τ0 P 0 0) c H 0) c) = nI (100 * smN P (ggS (gdN τ0 P 0 0) c H 0) c) from pk_mul 100 _]
  unfold allN
  rw [← bt_eq]
  generalize ggS (gdN τ0 P 0 0) c H 0 = T at *
  have hloop : ∀ m n i τ2, m < n → i + m = c → frV τ τ2 → ∃ τ', F_X12_allBring_16 n (nI T) (nI (100 * smN P T c + urN P (fun j => sbN τ0 j (P j)) T i)) (nI i) τ2 = some (nI (100 * smN P T c + urN P (fun j => sbN τ0 j (P j)) T c), τ') ∧ frV τ τ' := by
    intro m
    induction m with
    | zero =>
      intro n i τ2 hn hi hv
      obtain ⟨n, rfl⟩ : ∃ q, n = q + 1 := ⟨n - 1, by omega⟩
      obtain rfl : i = c := by omega
      rw [F_X12_allBring_16, rdL0, hv.1 3, h3, e2, if_pos (nI_le (by omega) (by omega))]
      exact ⟨τ2, rfl, hv⟩
    | succ m ih =>
      intro n i τ2 hn hi hv
      obtain ⟨n, rfl⟩ : ∃ q, n = q + 1 := ⟨n - 1, by omega⟩
      have h34' : sI τ2 34 = 0 := (hv.2.1 34 (by decide) (by decide) (by decide) (by decide)).trans h34
      have h3' : sA τ2 3 = sA τ0 3 := (hv.1 3).trans h3
      have hv3 : frV τ (uI (uI (uI τ2 33 (sA τ0 3 (13 + 5 * i + 4))) 34 0) 35 0) := frV_trans hv (frV_told _ h34')
      have hat : F_X12_asTold (nI i) τ2 = some ((), uI (uI (uI τ2 33 (sA τ0 3 (13 + 5 * i + 4))) 34 0) 35 0) := by
        rw [R_asTold (by omega), h3']
      rw [F_X12_allBring_16, rdL0, h3', e2, if_neg (nI_ge (by omega) (by omega)), hat, bd_eq, R_is hT2 (by omega), bd_eq, ib2]
      unfold F_X12_allBring_62
      by_cases hb : T.testBit i = true
      · rw [if_pos hb, nm_eq, nm_eq, nI_1, show nI (100 * smN P T c + urN P (fun j => sbN τ0 j (P j)) T i) + 0 = nI (100 * smN P T c + urN P (fun j => sbN τ0 j (P j)) (T) i + 0) from nI_add _ 0]
        have hnext := ih n (i + 1) _ (by omega) (by omega) hv3
        rw [urN, if_pos hb] at hnext
        exact hnext
      · obtain ⟨τ3, s1, s2⟩ := sl_R hS (b := i) (by omega) (nI (P i)) (τ1 := uI (uI (uI τ2 33 (sA τ0 3 (13 + 5 * i + 4))) 34 0) 35 0) h3'
        have s1' : F_X12_sells (nI i) (nI (P i)) (uI (uI (uI τ2 33 (sA τ0 3 (13 + 5 * i + 4))) 34 0) 35 0) = some (nI (sbN τ0 i (P i)), τ3) := s1
        have h40' : sA (uI (uI (uI τ2 33 (sA τ0 3 (13 + 5 * i + 4))) 34 0) 35 0) 40 i = nI (P i) := by
          rw [hv3.1 40]
          exact h40 i (by omega)
        rw [if_neg hb, rd_n (by omega) (by decide), h40', rd_n (by omega) (by decide), h40', s1', bd_eq, nm_eq, nm_eq, nI_1, pk_mul, nI_add]
        have hnext := ih n (i + 1) τ3 (by omega) (by omega) (frV_trans hv3 (frV_T s2))
        rw [urN, if_neg hb] at hnext
        rw [Nat.add_assoc]
        exact hnext
  have h := hloop c FU 0 τ1 (by unfold FU; omega) (by omega) t2
  have e0 : nI 0 = (0 : Int32) := rfl
  rw [show urN P (fun j => sbN τ0 j (P j)) T 0 = 0 from rfl, Nat.add_zero, e0] at h
  rw [nm_eq2, nm_eq2]
  exact h
theorem st_brings : ∀ (σ τ : xS), Sim σ τ → ∀ (_ : Unit), ∃ (r : Int32) (σ1 τ1 : xS), F_X11_brings  σ = some (r, σ1) ∧ F_X12_brings  τ = some (r, τ1) ∧ Sim σ1 τ1 := by
  intro σ τ0 h0 _
  have h := Sim_thr h0
  unfold F_X11_brings F_X12_brings
  simp only [nm_eq]
  generalize uI τ0 0 0 = τ at h ⊢
  obtain ⟨c, hc, e1, e2⟩ := cnt0 h.1
  obtain ⟨H, hH, eH⟩ := hands h.1
  obtain ⟨σ', q1, q2, q3⟩ := C_look h.1 e1 hc c FU 0 σ (by unfold FU; omega) (by omega) (frX_refl σ) (fun j hj => absurd hj (Nat.not_lt_zero j))
  have e0 : nI 0 = (0 : Int32) := rfl
  rw [e0] at q1
  have q1' : F_X1_lookAtAll σ = some ((), σ') := by
    unfold F_X1_lookAtAll
    rw [nm_eq2]
    exact q1
  obtain ⟨f, r1, r2⟩ := R_priced h.1
  obtain ⟨τ', t1, t2⟩ := R_all2 h.1 e2 hc eH hH (P := bpN τ) (fun j hj => by have := (bp_ok h.1 (b := j) (by omega)).1; omega) (τ := uI (uI (uA τ 40 f) 41 0) 34 0) rfl (fun j hj => r2 j (by omega)) rfl rfl
  rw [q1', bd_eq, C_together h.1 (KC_X q2) e1 hc eH hH q3, bd_eq, r1, bd_eq, t1, bd_eq]
  exact ⟨_, _, _, rfl, rfl, Sim_keep (τ := uI (uI (uA τ 40 f) 41 0) 34 0) (Sim_keep h (KC_refl σ) (KR_trans (KR_trans (KR_A τ f (k := 40) (by decide)) (KR_I (uA τ 40 f) 0 (k := 41) (by decide))) (KR_I _ 0 (k := 34) (by decide)))) (KC_X q2) (KR_V t2)⟩
end
