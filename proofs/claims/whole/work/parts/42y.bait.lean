section
/-! ===== bait ===== -/
def OF (τ : xS) (b sd s i : Nat) (σ : xS) : Prop := ∀ k, k < i → sA σ (94 + sd) k = nI (gnN τ b (k * s) 0) ∧ sA σ (97 + sd) k = nI (sbN τ b (k * s))
theorem C_offers {σ0 τ : xS} (hS : SimSt σ0 τ) {b s : Nat} (hb : b < 10) (es : sA τ 3 12 = nI s) (hs : s ≤ 99) {sd : Nat} (hsd : sd < 2) (m : Nat) : ∀ (n i : Nat) (σ : xS), m < n → i + m = 21 → frX σ0 σ → (∀ pr, wdT τ b (sA τ 3 (13 + 5 * b + 4)) 0 pr 0 0 (upd (sA σ 45) 4 pr)) → (∀ k, k ≠ 45 → k ≠ 94 + sd → k ≠ 97 + sd → sA σ k = sA σ0 k) → OF τ b sd s i σ → ∃ σ', F_X1_lookAtOffers_11 n (nI sd) (nI i) σ = some ((), σ') ∧ frX σ0 σ' ∧ (∀ k, k ≠ 45 → k ≠ 94 + sd → k ≠ 97 + sd → sA σ' k = sA σ0 k) ∧ OF τ b sd s 21 σ' := by
  induction m with
  | zero =>
    intro n i σ hn hi hX hw hk hO
    obtain ⟨n, rfl⟩ : ∃ q, n = q + 1 := ⟨n - 1, by omega⟩
    obtain rfl : i = 21 := by omega
    rw [F_X1_lookAtOffers_11, if_pos (show (21 : Int32) ≤ nI 21 from nI_le (a := 21) (by omega) (by omega))]
    exact ⟨σ, rfl, hX, hk, hO⟩
  | succ m ih =>
    intro n i σ hn hi hX hw hk hO
    obtain ⟨n, rfl⟩ : ∃ q, n = q + 1 := ⟨n - 1, by omega⟩
    have hS1 : SimSt σ τ := SimSt_keep hS (KC_X hX) (KR_refl τ)
    have t5 : sA σ 38 5 = nI s := (cell_term hS1 (i := 5) (by decide)).trans es
    have his : i * s ≤ 20 * 99 := Nat.mul_le_mul (by omega) hs
    have hXa : frX σ0 (uA σ 45 (upd (sA σ 45) 4 (nI (i * s)))) := frX_trans hX (frX_A σ _ (Or.inl rfl))
    obtain ⟨σ1, g1, g2⟩ := C_gain (SimSt_keep hS (KC_X hX) (KR_refl τ)) (b := b) (pr := i * s) hb (by omega) (lt := 0) (hw (nI (i * s)))
    have hXb : frX σ0 (uA σ1 (94 + sd) (upd (sA σ1 (94 + sd)) i (nI (gnN τ b (i * s) 0)))) := frX_trans (frX_trans hXa (frX_S g2)) (frX_A _ _ (Or.inr (by omega)))
    have e45 : sA (uA σ1 (94 + sd) (upd (sA σ1 (94 + sd)) i (nI (gnN τ b (i * s) 0)))) 45 = upd (sA σ 45) 4 (nI (i * s)) := by
      show (if 45 = 94 + sd then _ else sA σ1 45) = _
      rw [if_neg (by omega), g2.1 45, sA_s]
    obtain ⟨σ2, s1, s2⟩ := sl_C2 (SimSt_keep hS (KC_X hXb) (KR_refl τ)) (b := b) hb (pl := sA τ 3 (13 + 5 * b + 4)) (lt := 0) (pr := nI (i * s)) (cw := 0) (by
      rw [e45]
      exact hw _)
    have s1' : F_X0_sells (uA σ1 (94 + sd) (upd (sA σ1 (94 + sd)) i (nI (gnN τ b (i * s) 0)))) = some (nI (sbN τ b (i * s)), σ2) := s1
    have hXc : frX σ0 (uA σ2 (97 + sd) (upd (sA σ2 (97 + sd)) i (nI (sbN τ b (i * s))))) := frX_trans (frX_trans hXb (frX_S s2)) (frX_A _ _ (Or.inr (by omega)))
    rw [F_X1_lookAtOffers_11, if_neg (show ¬ (21 : Int32) ≤ nI i from nI_ge (b := 21) (by omega) (by decide)), rd6_5, t5, ck10_4, nm_eq, cl4, pk_mul, ck_n hsd (by decide), g1, bd_eq, ck_n (by omega) (by decide), nm_eq, nI_clamp (by omega), nI_clamp (by omega), ck_n hsd (by decide), s1', bd_eq, ck_n (by omega) (by decide), nm_eq, nm_eq, nI_1]
    refine ih n (i + 1) _ (by omega) (by omega) hXc (fun pr => ?_) (fun k k1 k2 k3 => ?_) (fun k hk2 => ?_)
    · have e2 : sA (uA σ2 (97 + sd) (upd (sA σ2 (97 + sd)) i (nI (sbN τ b (i * s))))) 45 = upd (sA σ 45) 4 (nI (i * s)) := by
        show (if 45 = 97 + sd then _ else sA σ2 45) = _
        rw [if_neg (by omega), s2.1 45, e45]
      rw [e2]
      have e3 : upd (upd (sA σ 45) 4 (nI (i * s))) 4 pr = upd (sA σ 45) 4 pr := by
        funext q
        unfold upd
        split <;> rfl
      rw [e3]
      exact hw pr
    · show (if k = 97 + sd then _ else sA σ2 k) = _
      rw [if_neg k3, s2.1 k]
      show (if k = 94 + sd then _ else sA σ1 k) = _
      rw [if_neg k2, g2.1 k]
      show (if k = 45 then _ else sA σ k) = _
      rw [if_neg k1]
      exact hk k k1 k2 k3
    · have e94 : sA (uA σ2 (97 + sd) (upd (sA σ2 (97 + sd)) i (nI (sbN τ b (i * s))))) (94 + sd) = upd (sA σ (94 + sd)) i (nI (gnN τ b (i * s) 0)) := by
        show (if 94 + sd = 97 + sd then _ else sA σ2 (94 + sd)) = _
        rw [if_neg (by omega), s2.1 (94 + sd), sA_s, g2.1 (94 + sd)]
        show upd (if 94 + sd = 45 then _ else sA σ (94 + sd)) i _ = _
        rw [if_neg (by omega)]
      have e97 : sA (uA σ2 (97 + sd) (upd (sA σ2 (97 + sd)) i (nI (sbN τ b (i * s))))) (97 + sd) = upd (sA σ (97 + sd)) i (nI (sbN τ b (i * s))) := by
        rw [sA_s, s2.1 (97 + sd)]
        show upd (if 97 + sd = 94 + sd then _ else sA σ1 (97 + sd)) i _ = _
        rw [if_neg (by omega), g2.1 (97 + sd)]
        show upd (if 97 + sd = 45 then _ else sA σ (97 + sd)) i _ = _
        rw [if_neg (by omega)]
      rw [e94, e97]
      unfold upd
      by_cases e : k = i
      · rw [if_pos e, if_pos e, e]
        exact ⟨rfl, rfl⟩
      · rw [if_neg e, if_neg e]
        exact hO k (by omega)
def setP (P : Nat → Nat) (b v : Nat) : Nat → Nat := fun j => if j = b then v else P j
theorem C_offer {σ0 σ τ : xS} (hS0 : SimSt σ0 τ) (hK : KC σ0 σ) {b s c : Nat} (hb : b < c) (hc : c ≤ 10) (es : sA τ 3 12 = nI s) {sd i : Nat} (hsd : sd < 2) (hi : i < 21) {P : Nat → Nat} (hB : BD τ c P σ) (hO : OF τ b sd s 21 σ) : ∃ σ', F_X1_offer (nI b) (nI sd) (nI i) σ = some ((), σ') ∧ KC σ0 σ' ∧ BD τ c (setP P b (i * s)) σ' ∧ (∀ k, k ≠ 90 → k ≠ 91 → k ≠ 92 → sA σ' k = sA σ k) ∧ (∀ k, sI σ' k = sI σ k) := by
  have hS : SimSt σ τ := SimSt_keep hS0 hK (KR_refl τ)
  have t5 : sA σ 38 5 = nI s := (cell_term hS (i := 5) (by decide)).trans es
  obtain ⟨o1, o2⟩ := hO i hi
  unfold F_X1_offer
  rw [rd6_5, t5, ck_n (by omega) (by decide), nm_eq, ck_n hsd (by decide), nI_clamp (by omega), nI_clamp (by omega), pk_mul, rd_n (by omega) (by decide)]
  have a1 : sA (uA σ 90 (upd (sA σ 90) b (nI (i * s)))) (94 + sd) i = nI (gnN τ b (i * s) 0) := by
    show (if 94 + sd = 90 then _ else sA σ (94 + sd)) i = _
    rw [if_neg (by omega)]
    exact o1
  rw [a1, ck_n (by omega) (by decide), nm_eq, ck_n hsd (by decide), rd_n (by omega) (by decide)]
  have a2 : sA (uA (uA σ 90 (upd (sA σ 90) b (nI (i * s)))) 91 (upd (sA (uA σ 90 (upd (sA σ 90) b (nI (i * s)))) 91) b (nI (gnN τ b (i * s) 0)))) (97 + sd) i = nI (sbN τ b (i * s)) := by
    show (if 97 + sd = 91 then _ else if 97 + sd = 90 then _ else sA σ (97 + sd)) i = _
    rw [if_neg (by omega), if_neg (by omega)]
    exact o2
  rw [a2, ck_n (by omega) (by decide), nm_eq]
  refine ⟨_, rfl, KC_trans hK (KC_trans (KC_trans (KC_A _ _ (k := 90) (by decide)) (KC_A _ _ (k := 91) (by decide))) (KC_A _ _ (k := 92) (by decide))), fun j hj => ?_, fun k k1 k2 k3 => ?_, fun k => rfl⟩
  · obtain ⟨b1, b2', b3⟩ := hB j hj
    show upd (sA σ 90) b (nI (i * s)) j = _ ∧ upd (sA σ 91) b (nI (gnN τ b (i * s) 0)) j = _ ∧ upd (sA σ 92) b (nI (sbN τ b (i * s))) j = _
    unfold upd setP
    by_cases e : j = b
    · subst e
      rw [if_pos rfl, if_pos rfl, if_pos rfl, if_pos rfl]
      exact ⟨rfl, rfl, rfl⟩
    · rw [if_neg e, if_neg e, if_neg e, if_neg e]
      exact ⟨b1, b2', b3⟩
  · show (if k = 92 then _ else if k = 91 then _ else if k = 90 then _ else sA σ k) = _
    rw [if_neg k3, if_neg k2, if_neg k1]
/-- the best bait so far, on both sides -/
def BT (s : Nat) (σ : xS) (y4 y5 : Int32) (k : Nat) : Prop := sI σ 1433 = y4 ∧ ((k = 0 ∧ y4 = -1) ∨ ∃ code v : Nat, code < 441 ∧ v < 2 ^ 31 ∧ y4 = nI v ∧ y5 = nI code ∧ sI σ 1431 = nI (code / 21 * s) ∧ sI σ 1432 = nI (code % 21 * s))
theorem bt_le (P s : Nat → Nat) (T : Nat) {A : Nat} (m : Nat) (hP : ∀ j, j < m → P j ≤ A) (hs : ∀ j, j < m → s j ≤ 100) : btN P s T m ≤ m * (A * 100) := by
  induction m with
  | zero => exact Nat.zero_le _
  | succ m ih =>
    have h1 := ih (fun j hj => hP j (by omega)) (fun j hj => hs j (by omega))
    have h2 : P m * (if T.testBit m = true then 100 else s m) ≤ A * 100 := Nat.mul_le_mul (hP m (by omega)) (by split; exact Nat.le_refl _; exact hs m (by omega))
    rw [btN, Nat.succ_mul]
    omega
theorem sb_le {σ τ : xS} (hS : SimSt σ τ) {b : Nat} (hb : b < 10) (p : Nat) : sbN τ b p ≤ 100 := (slN_ok hS hb _ _ _ _).1
theorem all_le {σ τ : xS} (hS : SimSt σ τ) {c H : Nat} (hc : c ≤ 10) {P : Nat → Nat} (hP : ∀ j, j < c → P j ≤ 2000) : allN τ c H P ≤ 2000000 := by
  have h := bt_le P (fun j => sbN τ j (P j)) (ggS (gdN τ P 0 0) c H 0) c hP (fun j hj => sb_le hS (by omega) _)
  have h2 : c * (2000 * 100) ≤ 10 * (2000 * 100) := Nat.mul_le_mul_right _ hc
  unfold allN
  omega
theorem bait_step {σ0 τ0 : xS} (hS : SimSt σ0 τ0) {c H s b1 b2 : Nat} (e1 : sI σ0 131 = nI c) (e2 : sA τ0 3 0 = nI c) (hc : c ≤ 10) (eH : sA τ0 3 11 = nI H) (hH : H ≤ 9) (es : sA τ0 3 12 = nI s) (hs : s ≤ 99) (hb1 : b1 < c) (hb2 : b2 < c) (hne : b1 ≠ b2) (a3 : Int32) (k23 : Int32 → Int32 → Int32 → xS → Option (Unit × xS)) {i : Nat} (hi : i < 21) (m : Nat) : ∀ (n f j : Nat) (P : Nat → Nat) (σ τ : xS) (y4 y5 : Int32), m < n → j + m = 21 → KC σ0 σ → BD τ0 c P σ → (∀ q, q ≠ b1 → q ≠ b2 → P q = bpN τ0 q) → P b1 = i * s → OF τ0 b2 1 s 21 σ → OF τ0 b1 0 s 21 σ → BT s σ y4 y5 (21 * i + j) → sA τ 3 = sA τ0 3 → KR τ0 τ → (∀ q, q < c → q ≠ b1 → q ≠ b2 → sA τ 40 q = nI (bpN τ0 q)) → sI τ 41 = 0 → sI τ 34 = 0 → ∃ (P' : Nat → Nat) (σ' τ' : xS) (y4' y5' : Int32), F_X1_bestBait_39 k23 n (nI b1) (nI b2) (nI i) (nI j) σ = k23 (nI b1) (nI b2) (nI (i + 1)) σ' ∧ F_X12_bait_53 (f + m) (nI b1) (nI b2) a3 y4 y5 (nI (21 * i + j)) τ = F_X12_bait_53 f (nI b1) (nI b2) a3 y4' y5' (nI (21 * (i + 1))) τ' ∧ KC σ0 σ' ∧ BD τ0 c P' σ' ∧ (∀ q, q ≠ b1 → q ≠ b2 → P' q = bpN τ0 q) ∧ OF τ0 b2 1 s 21 σ' ∧ OF τ0 b1 0 s 21 σ' ∧ BT s σ' y4' y5' (21 * (i + 1)) ∧ sA τ' 3 = sA τ0 3 ∧ KR τ0 τ' ∧ (∀ q, q < c → q ≠ b1 → q ≠ b2 → sA τ' 40 q = nI (bpN τ0 q)) ∧ sI τ' 41 = 0 ∧ sI τ' 34 = 0 := by
  induction m with
  | zero =>
    intro n f j P σ τ y4 y5 hn hj hK hB hP hP1 hO2 hO1 hT h3 hR h40 h41 h34
    obtain ⟨n, rfl⟩ : ∃ q, n = q + 1 := ⟨n - 1, by omega⟩
    obtain rfl : j = 21 := by omega
    rw [F_X1_bestBait_39, if_pos (show (21 : Int32) ≤ nI 21 from nI_le (a := 21) (by omega) (by omega)), nm_eq, nI_1]
    rw [show 21 * i + 21 = 21 * (i + 1) by omega] at hT ⊢
    exact ⟨P, σ, τ, y4, y5, rfl, rfl, hK, hB, hP, hO2, hO1, hT, h3, hR, h40, h41, h34⟩
  | succ m ih =>
    intro n f j P σ τ y4 y5 hn hj hK hB hP hP1 hO2 hO1 hT h3 hR h40 h41 h34
    obtain ⟨n, rfl⟩ : ∃ q, n = q + 1 := ⟨n - 1, by omega⟩
    obtain ⟨σ1, o1, o2, o3, o4, o5⟩ := C_offer hS hK hb2 hc es (sd := 1) (i := j) (by decide) (by omega) hB hO2
    have o1' : F_X1_offer (nI b2) 1 (nI j) σ = some ((), σ1) := o1
    have hct : F_X1_broughtTogether σ1 = _ := C_together hS o2 e1 hc eH hH o3
    have his : i * s ≤ 20 * 99 := Nat.mul_le_mul (by omega) hs
    have hjs : j * s ≤ 20 * 99 := Nat.mul_le_mul (by omega) hs
    have hPle : ∀ q, q < c → setP P b2 (j * s) q ≤ 2000 := by
      intro q hq
      unfold setP
      by_cases z2 : q = b2
      · rw [if_pos z2]
        omega
      · rw [if_neg z2]
        by_cases z1 : q = b1
        · rw [z1, hP1]
          omega
        · rw [hP q z1 z2]
          have := (bp_ok hS (b := q) (by omega)).1
          omega
    have hcode : 21 * i + j < 441 := by omega
    have ed : nI (21 * i + j) / 21 = nI i := by
      have := pk_div (a := 21 * i + j) (d := 21) (by omega) (by decide) (by decide)
      rw [show (21 : Int32) = nI 21 from rfl, this, show (21 * i + j) / 21 = i by omega]
    have em : nI (21 * i + j) - nI (21 * i + j) / 21 * 21 = nI j := by
      rw [ed, show nI i * 21 = nI (i * 21) from pk_mul i 21, pk_sub (by omega), show 21 * i + j - i * 21 = j by omega]
    have hτ2 : ∀ q, q < c → sA (uA (uA τ 40 (upd (sA τ 40) b1 (nI (i * s)))) 40 (upd (sA (uA τ 40 (upd (sA τ 40) b1 (nI (i * s)))) 40) b2 (nI (j * s)))) 40 q = nI (setP P b2 (j * s) q) := by
      intro q hq
      show upd (upd (sA τ 40) b1 (nI (i * s))) b2 (nI (j * s)) q = _
      unfold upd setP
      by_cases z2 : q = b2
      · rw [if_pos z2, if_pos z2]
      · rw [if_neg z2, if_neg z2]
        by_cases z1 : q = b1
        · rw [if_pos z1, z1, hP1]
        · rw [if_neg z1, h40 q hq z1 z2, hP q z1 z2]
    obtain ⟨τ1, t1, t2⟩ := R_all2 hS e2 hc eH hH hPle (τ := uA (uA τ 40 (upd (sA τ 40) b1 (nI (i * s)))) 40 (upd (sA (uA τ 40 (upd (sA τ 40) b1 (nI (i * s)))) 40) b2 (nI (j * s)))) h3 hτ2 h41 h34
    have hall := all_le hS (H := H) hc hPle
    have hP1' : setP P b2 (j * s) b1 = i * s := by
      unfold setP
      rw [if_neg hne]
      exact hP1
    have hP' : ∀ q, q ≠ b1 → q ≠ b2 → setP P b2 (j * s) q = bpN τ0 q := by
      intro q z1 z2
      unfold setP
      rw [if_neg z2]
      exact hP q z1 z2
    have hO2' : OF τ0 b2 1 s 21 σ1 := fun k hk => by rw [o4 _ (by decide) (by decide) (by decide), o4 _ (by decide) (by decide) (by decide)]; exact hO2 k hk
    have hO1' : OF τ0 b1 0 s 21 σ1 := fun k hk => by rw [o4 _ (by decide) (by decide) (by decide), o4 _ (by decide) (by decide) (by decide)]; exact hO1 k hk
    have hR2 : KR τ0 τ1 := KR_trans (KR_trans (KR_trans hR (KR_A τ _ (k := 40) (by decide))) (KR_A _ _ (k := 40) (by decide))) (KR_V t2)
    have g3 : sA τ1 3 = sA τ0 3 := (t2.1 3).trans h3
    have g40 : ∀ q, q < c → q ≠ b1 → q ≠ b2 → sA τ1 40 q = nI (bpN τ0 q) := by
      intro q hq z1 z2
      rw [t2.1 40, hτ2 q hq, hP' q z1 z2]
    have g41 : sI τ1 41 = 0 := (t2.2.1 41 (by decide) (by decide) (by decide) (by decide)).trans h41
    have g34 : sI τ1 34 = 0 := (t2.2.1 34 (by decide) (by decide) (by decide) (by decide)).trans h34
    have e12 : sA τ 3 12 = nI s := (congrFun h3 12).trans es
    have e12' : ∀ g : Nat → Int32, sA (uA τ 40 g) 3 12 = nI s := fun g => (congrFun h3 12).trans es
    have hRef : F_X12_bait_53 (f + (m + 1)) (nI b1) (nI b2) a3 y4 y5 (nI (21 * i + j)) τ = (if nI (allN τ0 c H (setP P b2 (j * s))) ≤ y4 then F_X12_bait_53 (f + m) (nI b1) (nI b2) a3 y4 y5 (nI (21 * i + (j + 1))) τ1 else F_X12_bait_53 (f + m) (nI b1) (nI b2) a3 (nI (allN τ0 c H (setP P b2 (j * s)))) (nI (21 * i + j)) (nI (21 * i + (j + 1))) τ1) := by
      rw [show f + (m + 1) = (f + m) + 1 by omega, F_X12_bait_53, if_neg (show ¬ (441 : Int32) ≤ nI (21 * i + j) from nI_ge (b := 441) (by omega) (by decide)), nz_y (show ¬ (21 : Int32) = 0 by decide), rdL12, e12, ck_n (by omega) (by decide), nm_eq, nz_y (show ¬ (21 : Int32) = 0 by decide), rdL12, e12', ck_n (by omega) (by decide), nm_eq, nI_clamp (by omega), nI_clamp (by omega), em, ed, pk_mul, pk_mul, t1, bd_eq]
      unfold F_X12_bait_119
      by_cases hle : nI (allN τ0 c H (setP P b2 (j * s))) ≤ y4
      · rw [if_pos hle, if_pos hle, if_pos hle, nm_eq, nI_1]
        rfl
      · rw [if_neg hle, if_neg hle, if_neg hle, nm_eq, nI_1]
        rfl
    rw [hRef, F_X1_bestBait_39, if_neg (show ¬ (21 : Int32) ≤ nI j from nI_ge (b := 21) (by omega) (by decide)), o1', bd_eq, hct, bd_eq, o5 1433, hT.1]
    by_cases hle : nI (allN τ0 c H (setP P b2 (j * s))) ≤ y4
    · rw [if_pos hle, if_pos hle, nm_eq, nI_1]
      refine ih n f (j + 1) (setP P b2 (j * s)) σ1 τ1 y4 y5 (by omega) (by omega) o2 o3 hP' hP1' hO2' hO1' ⟨(o5 1433).trans hT.1, ?_⟩ g3 hR2 g40 g41 g34
      rcases hT.2 with ⟨k0, k1⟩ | ⟨code, v, k1, k2, k3, k4, k5, k6⟩
      · exfalso
        rw [k1, Int32.le_iff_toInt_le, nI_toInt (by omega)] at hle
        have : (-1 : Int32).toInt = -1 := rfl
        omega
      · exact Or.inr ⟨code, v, k1, k2, k3, k4, (o5 1431).trans k5, (o5 1432).trans k6⟩
    · obtain ⟨p1, -, -⟩ := o3 b1 hb1
      obtain ⟨p2, -, -⟩ := o3 b2 hb2
      have ep2 : setP P b2 (j * s) b2 = j * s := if_pos rfl
      rw [if_neg hle, if_neg hle, rd_n (by omega) (by decide), nm_eq, rd_n (by omega) (by decide)]
      have p2' : sA (uI σ1 1431 (sA σ1 90 b1)) 90 b2 = nI (j * s) := by
        show sA σ1 90 b2 = _
        rw [p2, ep2]
      rw [p2', p1, hP1', nm_eq, nm_eq, nm_eq, nI_1]
      refine ih n f (j + 1) (setP P b2 (j * s)) _ τ1 _ _ (by omega) (by omega) (KC_trans o2 ⟨fun _ _ => rfl, fun k hk => ?_, fun _ => rfl, rfl⟩) o3 hP' hP1' hO2' hO1' ⟨rfl, Or.inr ⟨21 * i + j, allN τ0 c H (setP P b2 (j * s)), hcode, by omega, rfl, rfl, ?_, ?_⟩⟩ g3 hR2 g40 g41 g34
      · show (if k = 1433 then _ else if k = 1432 then _ else if k = 1431 then _ else sI σ1 k) = _
        rw [if_neg (by omega), if_neg (by omega), if_neg (by omega)]
      · show nI (i * s) = _
        rw [show (21 * i + j) / 21 = i by omega]
      · show nI (j * s) = _
        rw [show (21 * i + j) % 21 = j by omega]
theorem bait_loop {σ0 τ0 : xS} (hS : SimSt σ0 τ0) {c H s b1 b2 : Nat} (e1 : sI σ0 131 = nI c) (e2 : sA τ0 3 0 = nI c) (hc : c ≤ 10) (eH : sA τ0 3 11 = nI H) (hH : H ≤ 9) (es : sA τ0 3 12 = nI s) (hs : s ≤ 99) (hb1 : b1 < c) (hb2 : b2 < c) (hne : b1 ≠ b2) (a3 : Int32) (m : Nat) : ∀ (n f i : Nat) (P : Nat → Nat) (σ τ : xS) (y4 y5 : Int32), m < n → i + m = 21 → KC σ0 σ → BD τ0 c P σ → (∀ q, q ≠ b1 → q ≠ b2 → P q = bpN τ0 q) → OF τ0 b2 1 s 21 σ → OF τ0 b1 0 s 21 σ → BT s σ y4 y5 (21 * i) → sA τ 3 = sA τ0 3 → KR τ0 τ → (∀ q, q < c → q ≠ b1 → q ≠ b2 → sA τ 40 q = nI (bpN τ0 q)) → sI τ 41 = 0 → sI τ 34 = 0 → ∃ (σ' τ' : xS) (y4' y5' : Int32), F_X1_bestBait_23 n (nI b1) (nI b2) (nI i) σ = some ((), σ') ∧ F_X12_bait_53 (f + 21 * m) (nI b1) (nI b2) a3 y4 y5 (nI (21 * i)) τ = F_X12_bait_53 f (nI b1) (nI b2) a3 y4' y5' (nI 441) τ' ∧ KC σ0 σ' ∧ BT s σ' y4' y5' 441 ∧ KR τ0 τ' ∧ sA τ' 3 = sA τ0 3 := by
  induction m with
  | zero =>
    intro n f i P σ τ y4 y5 hn hi hK hB hP hO2 hO1 hT h3 hR h40 h41 h34
    obtain ⟨n, rfl⟩ : ∃ q, n = q + 1 := ⟨n - 1, by omega⟩
    obtain rfl : i = 21 := by omega
    rw [F_X1_bestBait_23, if_pos (show (21 : Int32) ≤ nI 21 from nI_le (a := 21) (by omega) (by omega))]
    exact ⟨σ, τ, y4, y5, rfl, rfl, hK, hT, hR, h3⟩
  | succ m ih =>
    intro n f i P σ τ y4 y5 hn hi hK hB hP hO2 hO1 hT h3 hR h40 h41 h34
    obtain ⟨n, rfl⟩ : ∃ q, n = q + 1 := ⟨n - 1, by omega⟩
    obtain ⟨σ1, o1, o2, o3, o4, o5⟩ := C_offer hS hK hb1 hc es (sd := 0) (i := i) (by decide) (by omega) hB hO1
    have o1' : F_X1_offer (nI b1) 0 (nI i) σ = some ((), σ1) := o1
    have hO2' : OF τ0 b2 1 s 21 σ1 := fun k hk => by rw [o4 _ (by decide) (by decide) (by decide), o4 _ (by decide) (by decide) (by decide)]; exact hO2 k hk
    have hO1' : OF τ0 b1 0 s 21 σ1 := fun k hk => by rw [o4 _ (by decide) (by decide) (by decide), o4 _ (by decide) (by decide) (by decide)]; exact hO1 k hk
    have hT1 : BT s σ1 y4 y5 (21 * i + 0) := by
      unfold BT
      rw [o5, o5, o5]
      exact hT
    obtain ⟨P', σ', τ', z4, z5, x1, x2, x3, x4, x5, x6, x7, x8, x9, x10, x11, x12, x13⟩ := bait_step hS e1 e2 hc eH hH es hs hb1 hb2 hne a3 (F_X1_bestBait_23 n) (i := i) (by omega) 21 FU (f + 21 * m) 0 (setP P b1 (i * s)) σ1 τ y4 y5 (by unfold FU; omega) (by omega) o2 o3 (fun q z1 z2 => by unfold setP; rw [if_neg z1]; exact hP q z1 z2) (if_pos rfl) hO2' hO1' hT1 h3 hR h40 h41 h34
    have e0 : nI 0 = (0 : Int32) := rfl
    rw [e0] at x1
    have e00 : 21 * i + 0 = 21 * i := rfl
    rw [e00] at x2
    rw [F_X1_bestBait_23, if_neg (show ¬ (21 : Int32) ≤ nI i from nI_ge (b := 21) (by omega) (by decide)), o1', bd_eq, nm_eq2, x1, show f + 21 * (m + 1) = f + 21 * m + 21 by omega, x2]
    exact ih n f (i + 1) P' σ' τ' z4 z5 (by omega) (by omega) x3 x4 x5 x6 x7 x8 x9 x10 x11 x12 x13
theorem st_bait : ∀ (σ τ : xS), Sim σ τ → ∀ (a1 a2 a3 : Int32), ∃ (r : Int32) (σ1 τ1 : xS), F_X11_bait a1 a2 a3 σ = some (r, σ1) ∧ F_X12_bait a1 a2 a3 τ = some (r, τ1) ∧ Sim σ1 τ1 := by
  intro σ τ0 h0 a1 a2 a3
  have h := Sim_thr h0
  unfold F_X11_bait F_X12_bait
  simp only [nm_eq]
  generalize uI τ0 0 0 = τ at h ⊢
  obtain ⟨c, hc, e1, e2⟩ := cnt0 h.1
  obtain ⟨H, hH, eH⟩ := hands h.1
  obtain ⟨⟨s, s1, s2, es⟩, -⟩ := cell_row h.1
  simp only [R_isB (σ := σ) e2, R_i0_2, C_isWithin, bd_eq2, ib2, has_if 0 a1 σ e1, has_if 0 a2 σ e1]
  by_cases p : 0 ≤ a1 ∧ a1 < nI c
  rotate_left
  · simp only [if_neg p]
    exact ⟨_, _, _, rfl, rfl, h⟩
  by_cases p2 : 0 ≤ a2 ∧ a2 < nI c
  rotate_left
  · simp only [if_pos p, if_neg p2]
    exact ⟨_, _, _, rfl, rfl, h⟩
  by_cases p3 : a1 = a2
  · simp only [if_pos p, if_pos p2, if_pos p3]
    exact ⟨_, _, _, rfl, rfl, h⟩
  by_cases p4 : 0 ≤ a3 ∧ a3 ≤ 2
  rotate_left
  · simp only [if_pos p, if_pos p2, if_neg p3, if_neg p4]
    exact ⟨_, _, _, rfl, rfl, h⟩
  simp only [if_pos p, if_pos p2, if_neg p3, if_pos p4]
  obtain ⟨b1, hb1, rfl⟩ := idxlt p rfl (by omega)
  obtain ⟨b2, hb2, rfl⟩ := idxlt p2 rfl (by omega)
  have hne : b1 ≠ b2 := fun q => p3 (by rw [q])
  have e0 : nI 0 = (0 : Int32) := rfl
  obtain ⟨σ1, q1, q2, q3⟩ := C_look h.1 e1 hc c FU 0 σ (by unfold FU; omega) (by omega) (frX_refl σ) (fun j hj => absurd hj (Nat.not_lt_zero j))
  rw [e0] at q1
  have q1' : F_X1_lookAtAll σ = some ((), σ1) := by
    unfold F_X1_lookAtAll
    rw [nm_eq2]
    exact q1
  have hS1 : SimSt σ1 τ := SimSt_keep h.1 (KC_X q2) (KR_refl τ)
  have hof : ∀ (b sd : Nat) (σ2 : xS), b < c → sd < 2 → frX σ σ2 → ∃ σ', F_X1_lookAtOffers (nI b) (nI sd) σ2 = some ((), σ') ∧ frX σ σ' ∧ (∀ k, k ≠ 45 → k ≠ 94 + sd → k ≠ 97 + sd → sA σ' k = sA σ2 k) ∧ OF τ b sd s 21 σ' := by
    intro b sd σ2 hb hsd hX
    have hS2 : SimSt σ2 τ := SimSt_keep h.1 (KC_X hX) (KR_refl τ)
    obtain ⟨W, hW, w0, w1, w2, w3, w4, w5, w6, w7, w8, w9⟩ := C_about hS2 (b := b) (c := c) ((hX.2.1 131 (by decide)).trans e1) hc hb 0
    obtain ⟨σ', y1, y2, y3, y4⟩ := C_offers (σ0 := uA σ2 45 W) (SimSt_keep hS2 (KC_A σ2 W (k := 45) (by decide)) (KR_refl τ)) (b := b) (by omega) es s2 hsd 21 FU 0 (uA σ2 45 W) (by unfold FU; omega) (by omega) (frX_refl _) (fun pr => ⟨w0, w1, w2, w3, rfl, w5, w6, w7, w8, w9⟩) (fun k _ _ _ => rfl) (fun k hk => absurd hk (Nat.not_lt_zero k))
    rw [e0] at y1
    refine ⟨σ', ?_, frX_trans hX (frX_trans (frX_A σ2 W (Or.inl rfl)) y2), fun k k1 k2 k3 => ?_, y4⟩
    · unfold F_X1_lookAtOffers
      rw [hW, bd_eq2, nm_eq2]
      exact y1
    · rw [y3 k k1 k2 k3]
      exact if_neg k1
  obtain ⟨σ2, u1, u2, u3, u4⟩ := hof b1 0 σ1 hb1 (by decide) q2
  obtain ⟨σ3, v1, v2, v3, v4⟩ := hof b2 1 σ2 hb2 (by decide) u2
  have u1' : F_X1_lookAtOffers (nI b1) 0 σ1 = some ((), σ2) := u1
  have v1' : F_X1_lookAtOffers (nI b2) 1 σ2 = some ((), σ3) := v1
  obtain ⟨f, r1, r2⟩ := R_priced h.1
  have hB3 : BD τ c (bpN τ) (uI σ3 1433 (-1)) := by
    intro j hj
    show sA σ3 90 j = _ ∧ sA σ3 91 j = _ ∧ sA σ3 92 j = _
    rw [v3 90 (by decide) (by decide) (by decide), v3 91 (by decide) (by decide) (by decide), v3 92 (by decide) (by decide) (by decide), u3 90 (by decide) (by decide) (by decide), u3 91 (by decide) (by decide) (by decide), u3 92 (by decide) (by decide) (by decide)]
    exact q3 j hj
  have hO1 : OF τ b1 0 s 21 (uI σ3 1433 (-1)) := by
    intro k hk
    show sA σ3 94 k = _ ∧ sA σ3 97 k = _
    rw [v3 94 (by decide) (by decide) (by decide), v3 97 (by decide) (by decide) (by decide)]
    exact u4 k hk
  have hO2 : OF τ b2 1 s 21 (uI σ3 1433 (-1)) := fun k hk => v4 k hk
  have hK3 : KC σ (uI σ3 1433 (-1)) := KC_trans (KC_X v2) ⟨fun _ _ => rfl, fun k hk => if_neg (by omega), fun _ => rfl, rfl⟩
  have hR3 : KR τ (uI (uI (uA τ 40 f) 41 0) 34 0) := KR_trans (KR_trans (KR_A τ f (k := 40) (by decide)) (KR_I (uA τ 40 f) 0 (k := 41) (by decide))) (KR_I _ 0 (k := 34) (by decide))
  obtain ⟨σ', τ', y4, y5, x1, x2, x3, x4, x5, x6⟩ := bait_loop h.1 e1 e2 hc eH hH es s2 hb1 hb2 hne a3 21 FU 99559 0 (bpN τ) (uI σ3 1433 (-1)) (uI (uI (uA τ 40 f) 41 0) 34 0) (-1) (-1) (by unfold FU; omega) (by omega) hK3 hB3 (fun _ _ _ => rfl) hO2 hO1 ⟨rfl, Or.inl ⟨rfl, rfl⟩⟩ rfl hR3 (fun q hq _ _ => r2 q (by omega)) rfl rfl
  rw [e0] at x1
  rw [show 99559 + 21 * 21 = FU from rfl, show nI (21 * 0) = (0 : Int32) from rfl] at x2
  have hb : F_X1_bestBait (nI b1) (nI b2) σ = some ((), σ') := by
    unfold F_X1_bestBait
    rw [q1', bd_eq2, u1', bd_eq2, v1', bd_eq2, nm_eq2, nm_eq2]
    exact x1
  obtain ⟨code, v, k1, k2, k3, k4, k5, k6⟩ := x4.2.resolve_left (fun q => absurd q.1 (by decide))
  have hf : Sim σ' τ' := Sim_keep h x3 x5
  have ed : nI code / 21 = nI (code / 21) := pk_div (d := 21) (by omega) (by decide) (by decide)
  have em : nI code - nI code / 21 * 21 = nI (code % 21) := by
    rw [ed, show nI (code / 21) * 21 = nI (code / 21 * 21) from pk_mul _ 21, pk_sub (by omega), show code - code / 21 * 21 = code % 21 by omega]
  have hend : F_X12_bait_53 99559 (nI b1) (nI b2) a3 y4 y5 (nI 441) τ' = (if a3 = 2 then some (y4, τ') else if a3 = 0 then some (nI (code / 21 * s), τ') else some (nI (code % 21 * s), τ')) := by
    rw [show 99559 = 99558 + 1 from rfl, F_X12_bait_53, if_pos (show (441 : Int32) ≤ nI 441 from nI_le (a := 441) (by omega) (by omega)), k4, em, ed]
    unfold F_X12_bait_170
    rw [rdL12, rdL12, x6, es, nz_y (show ¬ (21 : Int32) = 0 by decide), nz_y (show ¬ (21 : Int32) = 0 by decide), pk_mul, pk_mul]
  rw [hb, bd_eq, r1, bd_eq, x2, hend, k5, k6, x4.1]
  obtain ⟨w, hw, rfl⟩ := idxle p4 (c := 2) rfl (by omega)
  rcases (show w = 0 ∨ w = 1 ∨ w = 2 by omega) with rfl | rfl | rfl
  · rw [if_pos (by decide), if_neg (by decide), if_pos (by decide)]
    exact ⟨_, _, _, rfl, rfl, hf⟩
  · rw [if_neg (by decide), if_pos (by decide), if_neg (by decide), if_neg (by decide)]
    exact ⟨_, _, _, rfl, rfl, hf⟩
  · rw [if_neg (by decide), if_neg (by decide), if_pos (by decide)]
    exact ⟨_, _, _, rfl, rfl, hf⟩
end
