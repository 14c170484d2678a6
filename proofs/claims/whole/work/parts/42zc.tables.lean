section
/-! ===== tables ===== -/
def pth (τ : xS) (b : Nat) (on : Bool) : Nat := if plN τ b = 2 then 2 else if on = true then 1 else 0
/-- how likely a book sells beside a table of so large a crowd -/
def tsN (τ : xS) (b : Nat) (on : Bool) (cw : Nat) : Nat := slN τ b (nI (pth τ b on)) 0 (nI (bpN τ b)) (nI cw)
def ctN (τ : xS) (t m : Nat) : Nat := smN (fun j => drN τ j 0) t m
def inN (τ : xS) (t cw : Nat) : Nat → Nat
  | 0 => 0
  | m + 1 => inN τ t cw m + bpN τ m * tsN τ m (t.testBit m) cw
def tgN (τ : xS) : Nat → Nat
  | 0 => 0
  | m + 1 => tgN τ m + (if plN τ m = 2 then 0 else drN τ m 0)
def lie (τ : xS) (c t : Nat) : Prop := ∀ j, j < c → t.testBit j = true → plN τ j ≠ 2
theorem dr_le {σ τ : xS} (hS : SimSt σ τ) {b c : Nat} (e1 : sI σ 131 = nI c) (hc : c ≤ 10) (hb : b < c) (lt : Int32) : drN τ b lt ≤ 99 := (dr_C hS e1 hc hb lt).1
theorem ct_tg {τ : xS} {c t : Nat} (h : lie τ c t) (m : Nat) (hm : m ≤ c) : ctN τ t m ≤ tgN τ m := by
  induction m with
  | zero => exact Nat.le_refl _
  | succ m ih =>
    have h1 := ih (by omega)
    have h2 := h m (by omega)
    unfold ctN at h1 ⊢
    rw [smN, tgN]
    by_cases hb : t.testBit m = true
    · rw [if_pos hb, if_neg (h2 hb)]
      omega
    · rw [if_neg hb]
      omega
theorem tg_le {σ τ : xS} (hS : SimSt σ τ) {c : Nat} (e1 : sI σ 131 = nI c) (hc : c ≤ 10) (m : Nat) (hm : m ≤ c) : tgN τ m ≤ m * 99 := by
  induction m with
  | zero => exact Nat.le_refl _
  | succ m ih =>
    have h1 := ih (by omega)
    have h2 := dr_le hS e1 hc (b := m) (by omega) 0
    rw [tgN]
    split <;> omega
theorem ts_le {σ τ : xS} (hS : SimSt σ τ) {b : Nat} (hb : b < 10) (on : Bool) (cw : Nat) : tsN τ b on cw ≤ 100 := (slN_ok hS hb _ _ _ _).1
theorem in_le {σ τ : xS} (hS : SimSt σ τ) (t cw m : Nat) (hm : m ≤ 10) : inN τ t cw m ≤ m * 99900 := by
  induction m with
  | zero => exact Nat.le_refl _
  | succ m ih =>
    have h1 := ih (by omega)
    have h2 : bpN τ m * tsN τ m (t.testBit m) cw ≤ 999 * 100 := Nat.mul_le_mul (bp_ok hS (by omega)).1 (ts_le hS (by omega) _ _)
    rw [inN, Nat.succ_mul]
    omega
/-- what the class has seen of the tables -/
def CT (τ : xS) (c Wm : Nat) (σ : xS) : Prop := (∀ j, j < c → sA σ 67 j = nI (drN τ j 0)) ∧ sI σ 1060 = nI Wm ∧ ∀ x, x < (tgN τ c + 1) * 20 → x % 10 < c → sA σ 68 x = -1 ∨ sA σ 68 x = nI (tsN τ (x % 10) (decide (x / 10 % 2 = 1)) (x / 20))
def wmOK (τ : xS) (c Wm : Nat) : Prop := Wm < 2 ^ c ∧ ∀ j, j < c → (Wm.testBit j = true ↔ plN τ j = 2)
theorem C_lookT {σ0 τ : xS} (hS0 : SimSt σ0 τ) {c : Nat} (e1 : sI σ0 131 = nI c) (hc : c ≤ 10) (m : Nat) : ∀ (n i Wm : Nat) (σ : xS), m < n → i + m = c → KC σ0 σ → Wm < 2 ^ i → (∀ j, j < i → (Wm.testBit j = true ↔ plN τ j = 2)) → sI σ 1060 = nI Wm → (∀ j, j < i → sA σ 67 j = nI (drN τ j 0)) → ∃ (Wm' : Nat) (σ' : xS), F_X8_look_9 n (nI (tgN τ i)) (nI i) σ = some ((), σ') ∧ KC σ0 σ' ∧ wmOK τ c Wm' ∧ CT τ c Wm' σ' := by
  induction m with
  | zero =>
    intro n i Wm σ hn hi hK hW hWj h60 h67
    obtain ⟨n, rfl⟩ : ∃ q, n = q + 1 := ⟨n - 1, by omega⟩
    obtain rfl : i = c := by omega
    have htg := tg_le hS0 e1 hc i (Nat.le_refl _)
    have ex : (nI (tgN τ i) + 1) * 2 * 10 = nI ((tgN τ i + 1) * 2 * 10) := by
      rw [nI_1, show (2 : Int32) = nI 2 from rfl, pk_mul, show (10 : Int32) = nI 10 from rfl, pk_mul]
    have emn : mnI 19820 (nI ((tgN τ i + 1) * 2 * 10)) = nI ((tgN τ i + 1) * 2 * 10) := by
      have := mnI_n (a := 19820) (b := (tgN τ i + 1) * 2 * 10) (by decide) (by omega)
      rw [show min 19820 ((tgN τ i + 1) * 2 * 10) = (tgN τ i + 1) * 2 * 10 by omega] at this
      exact this
    have hfl : ∀ (k : Option (Unit × xS)), fl 19820 0 (nI ((tgN τ i + 1) * 2 * 10)) k = k := by
      intro k
      unfold fl
      rw [if_neg]
      intro q
      rcases q with q | q | q
      · exact nI_pos (by omega) q
      · exact absurd q (by decide)
      · exact nI_nlt (a := 19820) (by omega) (by omega) q
    rw [F_X8_look_9, (hK.2.1 131 (by decide)).trans e1, if_pos (nI_le (by omega) (by omega)), ex, emn, hfl, nm_eq2]
    refine ⟨Wm, _, rfl, KC_trans hK (KC_A σ _ (k := 68) (by decide)), ⟨hW, hWj⟩, h67, h60, fun x hx _ => Or.inl ?_⟩
    rw [sA_s, nI_clamp (by omega)]
    exact if_pos ⟨Nat.zero_le _, by omega⟩
  | succ m ih =>
    intro n i Wm σ hn hi hK hW hWj h60 h67
    obtain ⟨n, rfl⟩ : ∃ q, n = q + 1 := ⟨n - 1, by omega⟩
    have e1' : sI σ 131 = nI c := (hK.2.1 131 (by decide)).trans e1
    have hS1 : SimSt σ τ := SimSt_keep hS0 hK (KR_refl τ)
    obtain ⟨d1, σ1, W, d2, d3⟩ := dr_C hS1 e1' hc (b := i) (by omega) 0
    have hK1 : KC σ0 (uA σ1 67 (upd (sA σ1 67) i (nI (drN τ i 0)))) := KC_trans (KC_trans hK (KC_trans (KC_A σ W (k := 45) (by decide)) (KC_S d3))) (KC_A _ _ (k := 67) (by decide))
    have g : F_X6_get 0 (nI i) 4 (uA σ1 67 (upd (sA σ1 67) i (nI (drN τ i 0)))) = some (sA (uA σ1 67 (upd (sA σ1 67) i (nI (drN τ i 0)))) 9 (i * 5 + 4), _) := C_getY (r := 0) (w := 4) ((hK1.2.1 131 (by decide)).trans e1) (show c ≤ 10 from hc) (by omega) (by decide)
    obtain ⟨p1, p2⟩ := pl_ok hS0 (b := i) (by omega)
    have hS2 : SimSt (uA σ1 67 (upd (sA σ1 67) i (nI (drN τ i 0)))) τ := SimSt_keep hS0 hK1 (KR_refl τ)
    have h67' : ∀ j, j < i + 1 → sA (uA σ1 67 (upd (sA σ1 67) i (nI (drN τ i 0)))) 67 j = nI (drN τ j 0) := by
      intro j hj
      rw [sA_s]
      unfold upd
      by_cases e : j = i
      · rw [if_pos e, e]
      · rw [if_neg e, d3.1 67]
        exact h67 j (by omega)
    have h60' : sI (uA σ1 67 (upd (sA σ1 67) i (nI (drN τ i 0)))) 1060 = nI Wm := (d3.2.1 1060 (by decide)).trans h60
    have hW2 : Wm < 2 ^ (i + 1) := Nat.lt_of_lt_of_le hW (Nat.pow_le_pow_right (by decide) (by omega))
    have hWi : Wm.testBit i = false := bit_hi hW (Nat.le_refl _)
    rw [F_X8_look_9, e1', if_neg (nI_ge (by omega) (by omega)), d2, bd_eq, ck_n (by omega) (by decide), nm_eq2, nI_clamp (by omega), g, bd_eq, cell_book hS2 (by omega) (by decide), p2]
    by_cases hp : plN τ i = 2
    · rw [hp, if_pos (show nI 2 = 2 from rfl), h60', sl_i (by omega), or_n, nm_eq2, nm_eq2, nI_1]
      have := ih n (i + 1) (Wm ||| 2 ^ i) (uI (uA σ1 67 (upd (sA σ1 67) i (nI (drN τ i 0)))) 1060 (nI (Wm ||| 2 ^ i))) (by omega) (by omega) (KC_trans hK1 ⟨fun _ _ => rfl, fun k hk => if_neg (by omega), fun _ => rfl, rfl⟩) (or_lt hW2 (by omega)) (fun j hj => by
        rw [or_bit]
        by_cases e : j = i
        · subst e
          simp [hp]
        · rw [decide_eq_false (fun q => e q.symm), Bool.or_false]
          exact hWj j (by omega)) rfl h67'
      rw [tgN, if_pos hp, Nat.add_zero] at this
      exact this
    · rw [if_neg (show ¬ nI (plN τ i) = 2 from nI_ne (b := 2) (by omega) (by decide) hp), rd_n (by omega) (by decide), h67' i (by omega), nm_eq2, nm_eq2, nI_1, nI_add]
      have := ih n (i + 1) Wm _ (by omega) (by omega) hK1 hW2 (fun j hj => by
        by_cases e : j = i
        · subst e
          rw [hWi]
          exact ⟨fun q => Bool.noConfusion q, fun q => absurd q hp⟩
        · exact hWj j (by omega)) h60' h67'
      rw [tgN, if_neg hp] at this
      exact this
theorem C_crowdT {σ τ : xS} {c Wm : Nat} (e1 : sI σ 131 = nI c) (hc : c ≤ 10) (hT : CT τ c Wm σ) {t : Nat} (ht : t < 2 ^ c) : F_X8_crowdOf (nI t) σ = some (nI (ctN τ t c), σ) := by
  have hT2 : t < 2 ^ 31 := Nat.lt_of_lt_of_le ht (Nat.le_trans (pow_le c (by omega)) (by decide))
  have hl : ∀ m n i, m < n → i + m = c → F_X8_crowdOf_4 n (nI t) (nI (ctN τ t i)) (nI i) σ = some (nI (ctN τ t c), σ) := by
    intro m
    induction m with
    | zero =>
      intro n i hn hi
      obtain ⟨n, rfl⟩ : ∃ q, n = q + 1 := ⟨n - 1, by omega⟩
      obtain rfl : i = c := by omega
      rw [F_X8_crowdOf_4, e1, if_pos (nI_le (by omega) (by omega))]
    | succ m ih =>
      intro n i hn hi
      obtain ⟨n, rfl⟩ : ∃ q, n = q + 1 := ⟨n - 1, by omega⟩
      have hnext := ih n (i + 1) (by omega) (by omega)
      have es : ctN τ t (i + 1) = ctN τ t i + (if t.testBit i = true then drN τ i 0 else 0) := rfl
      rw [es] at hnext
      rw [F_X8_crowdOf_4, e1, if_neg (nI_ge (by omega) (by omega)), bit_if hT2 (by omega)]
      by_cases hb : t.testBit i = true
      · rw [if_pos hb] at hnext
        rw [if_pos hb, rd_n (by omega) (by decide), hT.1 i (by omega), nm_eq2, nm_eq2, nI_1, nI_add]
        exact hnext
      · rw [if_neg hb, Nat.add_zero] at hnext
        rw [if_neg hb, nm_eq2, nI_1]
        exact hnext
  have h := hl c FU 0 (by unfold FU; omega) (by omega)
  have e0 : nI 0 = (0 : Int32) := rfl
  rw [show ctN τ t 0 = 0 from rfl, e0] at h
  unfold F_X8_crowdOf
  rw [nm_eq2, nm_eq2]
  exact h
theorem C_chance {σ0 τ σ : xS} (hS0 : SimSt σ0 τ) (hK : KC σ0 σ) {c Wm : Nat} (e1 : sI σ0 131 = nI c) (hc : c ≤ 10) (hWm : wmOK τ c Wm) (hT : CT τ c Wm σ) {b cw : Nat} (hb : b < c) (on : Bool) (hcw : cw ≤ tgN τ c) : ∃ σ', F_X8_chanceWith (nI b) (b2 (on = true)) (nI cw) σ = some (nI (tsN τ b on cw), σ') ∧ KC σ0 σ' ∧ CT τ c Wm σ' ∧ sI σ' 1061 = sI σ 1061 ∧ sI σ' 1062 = sI σ 1062 := by
  have htg := tg_le hS0 e1 hc c (Nat.le_refl _)
  obtain ⟨ob, hob, hob2, hob3⟩ : ∃ ob : Nat, b2 (on = true) = nI ob ∧ ob ≤ 1 ∧ decide (ob = 1) = on := by
    cases on
    · exact ⟨0, rfl, by decide, rfl⟩
    · exact ⟨1, rfl, by decide, rfl⟩
  have ex : (nI cw * 2 + b2 (on = true)) * 10 + nI b = nI ((cw * 2 + ob) * 10 + b) := by
    rw [hob, show (2 : Int32) = nI 2 from rfl, pk_mul, nI_add, show (10 : Int32) = nI 10 from rfl, pk_mul, nI_add]
  have hx : (cw * 2 + ob) * 10 + b < (tgN τ c + 1) * 20 := by omega
  have x1 : ((cw * 2 + ob) * 10 + b) % 10 = b := by omega
  have x2 : ((cw * 2 + ob) * 10 + b) / 10 % 2 = ob := by omega
  have x3 : ((cw * 2 + ob) * 10 + b) / 20 = cw := by omega
  have hcell := hT.2.2 _ hx (by omega)
  rw [x1, x2, x3, hob3] at hcell
  have hts := ts_le hS0 (b := b) (by omega) on cw
  generalize hxe : (cw * 2 + ob) * 10 + b = x at *
  have hS1 : SimSt σ τ := SimSt_keep hS0 hK (KR_refl τ)
  unfold F_X8_chanceWith F_X8_chanceWith_89
  rw [nm_eq2, ex, if_neg (nI_pos (by omega)), if_pos (show nI x < (19820 : Int32) from nI_lt (b := 19820) (by omega) (by decide)), rd_n (by omega) (by decide)]
  rcases hcell with hcell | hcell
  · rw [hcell, if_pos rfl]
    obtain ⟨W, hW, w0, w1, w2, w3, w4, w5, w6, w7, w8, w9⟩ := C_about hS1 (b := b) (c := c) ((hK.2.1 131 (by decide)).trans e1) hc hb 0
    obtain ⟨p1, p2⟩ := bp_ok hS0 (b := b) (by omega)
    have hpl : F_X8_placeThen (nI b) (b2 (on = true)) (uA σ 45 W) = some (nI (pth τ b on), uA σ 45 W) := by
      unfold F_X8_placeThen pth
      have h60 : sI (uA σ 45 W) 1060 = nI Wm := hT.2.1
      have hW31 : Wm < 2 ^ 31 := Nat.lt_of_lt_of_le hWm.1 (Nat.le_trans (pow_le c (by omega)) (by decide))
      rw [h60, bit_if hW31 (by omega)]
      by_cases hw : plN τ b = 2
      · rw [if_pos ((hWm.2 b hb).mpr hw), if_pos hw]
        rfl
      · rw [if_neg (fun q => hw ((hWm.2 b hb).mp q)), if_neg hw]
        cases on
        · rw [if_neg (by decide), if_neg (by decide)]
          rfl
        · rw [if_pos rfl, if_pos (show b2 (true = true) = 1 from rfl)]
          rfl
    obtain ⟨σ1, s1, s2⟩ := sl_C hS1 (b := b) (by omega) (pl := nI (pth τ b on)) (lt := 0) (pr := nI (bpN τ b)) (cw := nI cw) (W := upd (upd W 5 (nI (pth τ b on))) 8 (nI cw)) ⟨w0, w1, w2, w3, w4.trans p2, rfl, w6, w7, rfl, w9⟩
    have s1' : F_X0_sells (uA σ 45 (upd (upd W 5 (nI (pth τ b on))) 8 (nI cw))) = some (nI (tsN τ b on cw), σ1) := s1
    rw [hW, bd_eq, hpl, bd_eq, ck10_5, nm_eq2, sA_s, uA_uA, cl5, ck10_8, nm_eq2, sA_s, uA_uA, cl8, s1', bd_eq, ck_n (by omega) (by decide), nm_eq2, nI_clamp (by omega), rd_n (by omega) (by decide), sA_s]
    have hv : upd (sA σ1 68) x (nI (tsN τ b on cw)) x = nI (tsN τ b on cw) := if_pos rfl
    rw [hv]
    refine ⟨_, rfl, KC_trans hK (KC_trans (KC_trans (KC_A σ _ (k := 45) (by decide)) (KC_S s2)) (KC_A _ _ (k := 68) (by decide))), ⟨fun j hj => ?_, (s2.2.1 1060 (by decide)).trans hT.2.1, fun y hy hyc => ?_⟩, s2.2.1 1061 (by decide), s2.2.1 1062 (by decide)⟩
    · show sA σ1 67 j = _
      rw [s2.1 67]
      exact hT.1 j hj
    · rw [sA_s]
      unfold upd
      by_cases e : y = x
      · subst e
        rw [if_pos rfl, x1, x2, x3, hob3]
        exact Or.inr rfl
      · rw [if_neg e, s2.1 68]
        exact hT.2.2 y hy hyc
  · rw [hcell, if_neg (show ¬ nI (tsN τ b on cw) = -1 from nI_m1 (by omega)), rd_n (by omega) (by decide), hcell]
    exact ⟨σ, rfl, hK, hT, rfl, rfl⟩
theorem C_income {σ0 τ : xS} (hS0 : SimSt σ0 τ) {c Wm : Nat} (e1 : sI σ0 131 = nI c) (hc : c ≤ 10) (hWm : wmOK τ c Wm) {t : Nat} (ht : t < 2 ^ c) (hl : lie τ c t) {σ : xS} (hK : KC σ0 σ) (hT : CT τ c Wm σ) : ∃ σ', F_X8_incomeOf (nI t) σ = some (zL ((inN τ t (ctN τ t c) c : Nat) : Int), σ') ∧ KC σ0 σ' ∧ CT τ c Wm σ' ∧ sI σ' 1061 = sI σ 1061 ∧ sI σ' 1062 = sI σ 1062 := by
  have hT2 : t < 2 ^ 31 := Nat.lt_of_lt_of_le ht (Nat.le_trans (pow_le c (by omega)) (by decide))
  have hcw := ct_tg hl c (Nat.le_refl _)
  have hloop : ∀ m n i (σ1 : xS), m < n → i + m = c → KC σ0 σ1 → CT τ c Wm σ1 → sI σ1 1061 = sI σ 1061 → sI σ1 1062 = sI σ 1062 → ∃ σ', F_X8_incomeOf_11 n (nI t) (nI (ctN τ t c)) (zL ((inN τ t (ctN τ t c) i : Nat) : Int)) (nI i) σ1 = some (zL ((inN τ t (ctN τ t c) c : Nat) : Int), σ') ∧ KC σ0 σ' ∧ CT τ c Wm σ' ∧ sI σ' 1061 = sI σ 1061 ∧ sI σ' 1062 = sI σ 1062 := by
    intro m
    induction m with
    | zero =>
      intro n i σ1 hn hi hK1 hT1 h61 h62
      obtain ⟨n, rfl⟩ : ∃ q, n = q + 1 := ⟨n - 1, by omega⟩
      obtain rfl : i = c := by omega
      rw [F_X8_incomeOf_11, (hK1.2.1 131 (by decide)).trans e1, if_pos (nI_le (by omega) (by omega))]
      exact ⟨σ1, rfl, hK1, hT1, h61, h62⟩
    | succ m ih =>
      intro n i σ1 hn hi hK1 hT1 h61 h62
      obtain ⟨n, rfl⟩ : ∃ q, n = q + 1 := ⟨n - 1, by omega⟩
      have e1' : sI σ1 131 = nI c := (hK1.2.1 131 (by decide)).trans e1
      have hS1 : SimSt σ1 τ := SimSt_keep hS0 hK1 (KR_refl τ)
      have g : F_X6_get 0 (nI i) 3 σ1 = some (sA σ1 9 (i * 5 + 3), σ1) := C_getY (r := 0) (w := 3) e1' (show c ≤ 10 from hc) (by omega) (by decide)
      obtain ⟨p1, p2⟩ := bp_ok hS0 (b := i) (by omega)
      obtain ⟨σ2, c1, c2, c3, c4, c5⟩ := C_chance hS0 hK1 e1 hc hWm hT1 (b := i) (cw := ctN τ t c) (by omega) (t.testBit i) hcw
      have hts := ts_le hS0 (b := i) (by omega) (t.testBit i) (ctN τ t c)
      have hmul : bpN τ i * tsN τ i (t.testBit i) (ctN τ t c) ≤ 999 * 100 := Nat.mul_le_mul p1 hts
      rw [F_X8_incomeOf_11, e1', if_neg (nI_ge (by omega) (by omega)), g, bd_eq, cell_book hS1 (by omega) (by decide), p2, bit_v hT2 (by omega), c1, bd_eq, nm_eq2, nm_eq2, nI_1, pk_mul, zL_n (by omega), zL_add]
      exact ih n (i + 1) σ2 (by omega) (by omega) c2 c3 (c4.trans h61) (c5.trans h62)
  have h := hloop c FU 0 σ (by unfold FU; omega) (by omega) hK hT rfl rfl
  have e0 : nI 0 = (0 : Int32) := rfl
  rw [show zL ((inN τ t (ctN τ t c) 0 : Nat) : Int) = 0 from rfl, e0] at h
  unfold F_X8_incomeOf
  rw [C_crowdT ((hK.2.1 131 (by decide)).trans e1) hc hT ht, bd_eq, nm_eq2, nm_eq2]
  exact h
/-! ===== and in the reference ===== -/
theorem R_lie {σ τ0 : xS} (hS : SimSt σ τ0) {c : Nat} (e2 : sA τ0 3 0 = nI c) (hc : c ≤ 10) {τ : xS} (h3 : sA τ 3 = sA τ0 3) (a : Int32) : (¬ (0 ≤ a ∧ a < nI (2 ^ c)) → F_X12_canLie a τ = some (0, τ)) ∧ ∀ t, t < 2 ^ c → a = nI t → ∃ r : Int32, F_X12_canLie a τ = some (r, τ) ∧ ((r = 1 ∧ lie τ0 c t) ∨ (r = 0 ∧ ¬ lie τ0 c t)) := by
  have hp := pow_le c (by omega)
  have hpos : 1 ≤ 2 ^ c := Nat.two_pow_pos c
  have hl0 : ∀ m n i (y : Int32), m < n → i + m = c → F_X12_canLie_20 n y 0 (nI i) τ = some (0, τ) := by
    intro m
    induction m with
    | zero =>
      intro n i y hn hi
      obtain ⟨n, rfl⟩ : ∃ q, n = q + 1 := ⟨n - 1, by omega⟩
      obtain rfl : i = c := by omega
      rw [F_X12_canLie_20, rdL0, h3, e2, if_pos (nI_le (by omega) (by omega)), cz_0]
    | succ m ih =>
      intro n i y hn hi
      obtain ⟨n, rfl⟩ : ∃ q, n = q + 1 := ⟨n - 1, by omega⟩
      rw [F_X12_canLie_20, rdL0, h3, e2, if_neg (nI_ge (by omega) (by omega)), if_pos rfl]
      unfold F_X12_canLie_56
      rw [nm_eq2, nm_eq2, nI_1]
      exact ih n (i + 1) y (by omega) (by omega)
  have e0 : nI 0 = (0 : Int32) := rfl
  have hin : F_X12_in a.toInt64 0 (((1 : Int32) <<< (nI c &&& 31)).toInt64 - 1) τ = some (b2 (0 ≤ a ∧ a < nI (2 ^ c)), τ) := by
    rw [sl_i (by omega)]
    exact R_below a (nI (2 ^ c)) τ
  constructor
  · intro hn
    unfold F_X12_canLie
    have h := hl0 c FU 0 a (by unfold FU; omega) (by omega)
    rw [e0] at h
    rw [rdL0, h3, e2, hin, bd_eq, nm_eq2, b2_0.mpr hn]
    exact h
  · intro t ht ha
    subst ha
    have hT2 : t < 2 ^ 31 := Nat.lt_of_lt_of_le ht (Nat.le_trans (pow_le c (by omega)) (by decide))
    have hl1 : ∀ m n i, m < n → i + m = c → (∀ j, j < i → t.testBit j = true → plN τ0 j ≠ 2) → ∃ r : Int32, F_X12_canLie_20 n (nI t) 1 (nI i) τ = some (r, τ) ∧ ((r = 1 ∧ lie τ0 c t) ∨ (r = 0 ∧ ¬ lie τ0 c t)) := by
      intro m
      induction m with
      | zero =>
        intro n i hn hi hj
        obtain ⟨n, rfl⟩ : ∃ q, n = q + 1 := ⟨n - 1, by omega⟩
        obtain rfl : i = c := by omega
        rw [F_X12_canLie_20, rdL0, h3, e2, if_pos (nI_le (by omega) (by omega)), cz_1]
        exact ⟨1, rfl, Or.inl ⟨rfl, hj⟩⟩
      | succ m ih =>
        intro n i hn hi hj
        obtain ⟨n, rfl⟩ : ∃ q, n = q + 1 := ⟨n - 1, by omega⟩
        obtain ⟨p1, p2⟩ := pl_ok hS (b := i) (by omega)
        have hof : F_X12_ofBook (nI i) 4 τ = some (nI (plN τ0 i), τ) := by
          rw [show F_X12_ofBook (nI i) 4 τ = _ from R_ofBook (i := i) (w := 4) (by omega) (by decide) τ, h3, p2]
        rw [F_X12_canLie_20, rdL0, h3, e2, if_neg (nI_ge (by omega) (by omega)), if_neg (show ¬ (1 : Int32) = 0 by decide), R_is hT2 (by omega), bd_eq, ib2]
        unfold F_X12_canLie_56 F_X12_canLie_52
        by_cases hb : t.testBit i = true
        · rw [if_pos hb, hof, bd_eq]
          by_cases hw : plN τ0 i = 2
          · rw [hw, if_pos (show nI 2 = 2 from rfl), nm_eq2, nm_eq2, nI_1, hl0 m n (i + 1) (nI t) (by omega) (by omega)]
            exact ⟨0, rfl, Or.inr ⟨rfl, fun q => q i (by omega) hb hw⟩⟩
          · rw [if_neg (show ¬ nI (plN τ0 i) = 2 from nI_ne (b := 2) (by omega) (by decide) hw), nm_eq2, nm_eq2, nI_1]
            exact ih n (i + 1) (by omega) (by omega) (fun j hj2 hjb => by
              by_cases e : j = i
              · rw [e]
                exact hw
              · exact hj j (by omega) hjb)
        · rw [if_neg hb, nm_eq2, nm_eq2, nI_1]
          exact ih n (i + 1) (by omega) (by omega) (fun j hj2 hjb => by
            by_cases e : j = i
            · rw [e] at hjb
              exact absurd hjb hb
            · exact hj j (by omega) hjb)
    obtain ⟨r, r1, r2⟩ := hl1 c FU 0 (by unfold FU; omega) (by omega) (fun j hj => absurd hj (Nat.not_lt_zero j))
    rw [e0] at r1
    refine ⟨r, ?_, r2⟩
    unfold F_X12_canLie
    rw [rdL0, h3, e2, hin, bd_eq, nm_eq2, b2_1.mpr ⟨nI_pos' (by omega), nI_lt ht (by omega)⟩]
    exact r1
theorem R_crowdT {σ τ0 : xS} (hS : SimSt σ τ0) {c : Nat} (e2 : sA τ0 3 0 = nI c) (hc : c ≤ 10) {t : Nat} (ht : t < 2 ^ c) {τ : xS} (h3 : sA τ 3 = sA τ0 3) : ∃ τ', F_X12_crowdOf (nI t) τ = some (nI (ctN τ0 t c), τ') ∧ frV (uI τ 34 0) τ' := by
  have hT2 : t < 2 ^ 31 := Nat.lt_of_lt_of_le ht (Nat.le_trans (pow_le c (by omega)) (by decide))
  have hl : ∀ m n i (τ1 : xS), m < n → i + m = c → frV (uI τ 34 0) τ1 → ∃ τ', F_X12_crowdOf_9 n (nI t) (nI (ctN τ0 t i)) (nI i) τ1 = some (nI (ctN τ0 t c), τ') ∧ frV (uI τ 34 0) τ' := by
    intro m
    induction m with
    | zero =>
      intro n i τ1 hn hi hV
      obtain ⟨n, rfl⟩ : ∃ q, n = q + 1 := ⟨n - 1, by omega⟩
      obtain rfl : i = c := by omega
      have h3' : sA τ1 3 = sA τ0 3 := (hV.1 3).trans h3
      rw [F_X12_crowdOf_9, rdL0, h3', e2, if_pos (nI_le (by omega) (by omega))]
      exact ⟨τ1, rfl, hV⟩
    | succ m ih =>
      intro n i τ1 hn hi hV
      obtain ⟨n, rfl⟩ : ∃ q, n = q + 1 := ⟨n - 1, by omega⟩
      have h3' : sA τ1 3 = sA τ0 3 := (hV.1 3).trans h3
      have es : ctN τ0 t (i + 1) = ctN τ0 t i + (if t.testBit i = true then drN τ0 i 0 else 0) := rfl
      rw [F_X12_crowdOf_9, rdL0, h3', e2, if_neg (nI_ge (by omega) (by omega)), R_is hT2 (by omega), bd_eq, ib2]
      unfold F_X12_crowdOf_37
      by_cases hb : t.testBit i = true
      · obtain ⟨τ2, d1, d2⟩ := dr_R hS (b := i) (by omega) h3'
        have e34 : sI τ1 34 = 0 := hV.2.1 34 (by decide) (by decide) (by decide) (by decide)
        rw [e34] at d1
        rw [if_pos hb, d1, bd_eq, nm_eq2, nm_eq2, nI_1, nI_add]
        have := ih n (i + 1) τ2 (by omega) (by omega) (frV_trans hV (frV_trans (frV_trans (frV_I τ1 _ (Or.inl rfl)) (frV_I _ _ (Or.inr rfl))) (frV_T d2)))
        rw [es, if_pos hb] at this
        exact this
      · rw [if_neg hb, nm_eq2, nm_eq2, nI_1, show nI (ctN τ0 t i) + 0 = nI (ctN τ0 t i + 0) from nI_add _ 0]
        have := ih n (i + 1) τ1 (by omega) (by omega) hV
        rw [es, if_neg hb] at this
        exact this
  obtain ⟨τ', h, hv⟩ := hl c FU 0 (uI τ 34 0) (by unfold FU; omega) (by omega) (frV_refl _)
  have e0 : nI 0 = (0 : Int32) := rfl
  rw [show ctN τ0 t 0 = 0 from rfl, e0] at h
  refine ⟨τ', ?_, hv⟩
  unfold F_X12_crowdOf
  rw [nm_eq2, nm_eq2, nm_eq2]
  exact h
theorem R_income {σ τ0 : xS} (hS : SimSt σ τ0) {c : Nat} (e2 : sA τ0 3 0 = nI c) (hc : c ≤ 10) {t : Nat} (ht : t < 2 ^ c) (hl : lie τ0 c t) {τ : xS} (h3 : sA τ 3 = sA τ0 3) : ∃ τ', F_X12_incomeOf (nI t) τ = some (zL ((inN τ0 t (ctN τ0 t c) c : Nat) : Int), τ') ∧ frV (uI τ 34 0) τ' := by
  have hT2 : t < 2 ^ 31 := Nat.lt_of_lt_of_le ht (Nat.le_trans (pow_le c (by omega)) (by decide))
  obtain ⟨τ1, q1, q2⟩ := R_crowdT hS e2 hc ht h3
  have hloop : ∀ m n i (τ2 : xS), m < n → i + m = c → frV (uI τ 34 0) τ2 → ∃ τ', F_X12_incomeOf_11 n (nI t) (nI (ctN τ0 t c)) (zL ((inN τ0 t (ctN τ0 t c) i : Nat) : Int)) (nI i) τ2 = some (zL ((inN τ0 t (ctN τ0 t c) c : Nat) : Int), τ') ∧ frV (uI τ 34 0) τ' := by
    intro m
    induction m with
    | zero =>
      intro n i τ2 hn hi hV
      obtain ⟨n, rfl⟩ : ∃ q, n = q + 1 := ⟨n - 1, by omega⟩
      obtain rfl : i = c := by omega
      have h3' : sA τ2 3 = sA τ0 3 := (hV.1 3).trans h3
      rw [F_X12_incomeOf_11, rdL0, h3', e2, if_pos (nI_le (by omega) (by omega))]
      exact ⟨τ2, rfl, hV⟩
    | succ m ih =>
      intro n i τ2 hn hi hV
      obtain ⟨n, rfl⟩ : ∃ q, n = q + 1 := ⟨n - 1, by omega⟩
      have h3' : sA τ2 3 = sA τ0 3 := (hV.1 3).trans h3
      have e34 : sI τ2 34 = 0 := hV.2.1 34 (by decide) (by decide) (by decide) (by decide)
      obtain ⟨p1, p2⟩ := pl_ok hS (b := i) (by omega)
      obtain ⟨b1, b2'⟩ := bp_ok hS (b := i) (by omega)
      have hof : F_X12_ofBook (nI i) 4 τ2 = some (nI (plN τ0 i), τ2) := by
        rw [show F_X12_ofBook (nI i) 4 τ2 = _ from R_ofBook (i := i) (w := 4) (by omega) (by decide) τ2, h3', p2]
      have h57 : ∀ pl : Int32, pl = nI (pth τ0 i (t.testBit i)) → ∃ τ', F_X12_incomeOf_57 (F_X12_incomeOf_11 n) (nI t) (nI (ctN τ0 t c)) (zL ((inN τ0 t (ctN τ0 t c) i : Nat) : Int)) (nI i) pl τ2 = some (zL ((inN τ0 t (ctN τ0 t c) c : Nat) : Int), τ') ∧ frV (uI τ 34 0) τ' := by
        intro pl hpl
        subst hpl
        have hob : F_X12_ofBook (nI i) 3 (uI (uI τ2 33 (nI (pth τ0 i (t.testBit i)))) 35 (nI (ctN τ0 t c))) = some (nI (bpN τ0 i), uI (uI τ2 33 (nI (pth τ0 i (t.testBit i)))) 35 (nI (ctN τ0 t c))) := by
          rw [show F_X12_ofBook (nI i) 3 (uI (uI τ2 33 (nI (pth τ0 i (t.testBit i)))) 35 (nI (ctN τ0 t c))) = _ from R_ofBook (i := i) (w := 3) (by omega) (by decide) _]
          show some (sA τ2 3 (13 + 5 * i + 3), _) = _
          rw [h3', b2']
        obtain ⟨τ3, s1, s2⟩ := sl_R hS (b := i) (by omega) (nI (bpN τ0 i)) (τ1 := uI (uI τ2 33 (nI (pth τ0 i (t.testBit i)))) 35 (nI (ctN τ0 t c))) h3'
        have h34 : sI (uI (uI τ2 33 (nI (pth τ0 i (t.testBit i)))) 35 (nI (ctN τ0 t c))) 34 = 0 := e34
        rw [h34] at s1
        have s1' : F_X12_sells (nI i) (nI (bpN τ0 i)) (uI (uI τ2 33 (nI (pth τ0 i (t.testBit i)))) 35 (nI (ctN τ0 t c))) = some (nI (tsN τ0 i (t.testBit i) (ctN τ0 t c)), τ3) := s1
        have hts := ts_le hS (b := i) (by omega) (t.testBit i) (ctN τ0 t c)
        unfold F_X12_incomeOf_57
        rw [nm_eq2, nm_eq2, hob, bd_eq, hob, bd_eq, s1', bd_eq, nm_eq2, nm_eq2, nI_1, zL_n (by omega), zL_n (by omega), zL_mul, zL_add]
        exact ih n (i + 1) τ3 (by omega) (by omega) (frV_trans hV (frV_trans (frV_trans (frV_I τ2 _ (Or.inl rfl)) (frV_I _ _ (Or.inr rfl))) (frV_T s2)))
      rw [F_X12_incomeOf_11, rdL0, h3', e2, if_neg (nI_ge (by omega) (by omega)), hof, bd_eq, R_is hT2 (by omega), bd_eq, ib2]
      by_cases hb : t.testBit i = true
      · rw [if_pos hb]
        refine h57 1 ?_
        unfold pth
        rw [if_neg (hl i (by omega) hb), if_pos hb]
        rfl
      · rw [if_neg hb]
        by_cases hw : plN τ0 i = 1
        · rw [hw, if_pos (show nI 1 = 1 from rfl)]
          refine h57 0 ?_
          unfold pth
          rw [if_neg (by omega), if_neg hb]
          rfl
        · rw [if_neg (show ¬ nI (plN τ0 i) = 1 from nI_ne (b := 1) (by omega) (by decide) hw)]
          refine h57 _ ?_
          unfold pth
          by_cases h2 : plN τ0 i = 2
          · rw [if_pos h2, h2]
          · rw [if_neg h2, if_neg hb, show plN τ0 i = 0 by omega]
  obtain ⟨τ', h, hv⟩ := hloop c FU 0 τ1 (by unfold FU; omega) (by omega) q2
  have e0 : nI 0 = (0 : Int32) := rfl
  rw [show zL ((inN τ0 t (ctN τ0 t c) 0 : Nat) : Int) = 0 from rfl, e0] at h
  refine ⟨τ', ?_, hv⟩
  unfold F_X12_incomeOf
  rw [q1, bd_eq, nm_eq2, nm_eq2]
  exact h
theorem lie_iff {τ : xS} {c Wm t : Nat} (hc : c ≤ 10) (hW : wmOK τ c Wm) (ht : t < 2 ^ c) : nI t &&& nI Wm = 0 ↔ lie τ c t := by
  have hp := pow_le c (by omega)
  have hle : t &&& Wm ≤ t := Nat.and_le_left
  rw [and_n]
  constructor
  · intro h j hj hb hw
    have h0 : t &&& Wm = 0 := nI_inj (b := 0) (by omega) (by decide) h
    have := (and_0 ht).mp h0 j hj hb
    rw [(hW.2 j hj).mpr hw] at this
    exact Bool.noConfusion this
  · intro h
    have : t &&& Wm = 0 := (and_0 ht).mpr (fun j hj hb => by
      cases hq : Wm.testBit j with
      | false => rfl
      | true => exact absurd ((hW.2 j hj).mp hq) (h j hj hb))
    rw [this]
    rfl
theorem st_income : ∀ (σ τ : xS), Sim σ τ → ∀ (a1 : Int32), ∃ (r : Int64) (σ1 τ1 : xS), F_X11_income a1 σ = some (r, σ1) ∧ F_X12_income a1 τ = some (r, τ1) ∧ Sim σ1 τ1 := by
  intro σ τ0 h0 a1
  have h := Sim_thr h0
  unfold F_X11_income F_X12_income
  simp only [nm_eq2]
  generalize uI τ0 0 0 = τ at h ⊢
  obtain ⟨c, hc, e1, e2⟩ := cnt0 h.1
  have hp := pow_le c (by omega)
  have hpos : 1 ≤ 2 ^ c := Nat.two_pow_pos c
  have em : (1 : Int32) <<< (sI σ 131 &&& 31) - 1 = nI (2 ^ c - 1) := by
    rw [e1, sl_i (by omega)]
    exact pk_sub (b := 1) hpos
  have hiff : (0 ≤ a1 ∧ a1 ≤ nI (2 ^ c - 1)) ↔ (0 ≤ a1 ∧ a1 < nI (2 ^ c)) := by
    rw [Int32.le_iff_toInt_le, Int32.le_iff_toInt_le, Int32.lt_iff_toInt_lt, nI_toInt (by omega), nI_toInt (by omega)]
    omega
  rw [em]
  simp only [C_isWithin, bd_eq2, ib2, hiff]
  by_cases p : 0 ≤ a1 ∧ a1 < nI (2 ^ c)
  rotate_left
  · rw [if_neg p, (R_lie h.1 e2 hc (τ := τ) rfl a1).1 p, bd_eq, if_pos rfl]
    exact ⟨_, _, _, rfl, rfl, h⟩
  rw [if_pos p]
  obtain ⟨t, ht, rfl⟩ := idxlt p rfl (by omega)
  have e0 : nI 0 = (0 : Int32) := rfl
  obtain ⟨Wm, σ1, q1, q2, q3, q4⟩ := C_lookT h.1 e1 hc c FU 0 0 (uI σ 1060 0) (by unfold FU; omega) (by omega) ⟨fun _ _ => rfl, fun k hk => if_neg (by omega), fun _ => rfl, rfl⟩ (by decide) (fun j hj => absurd hj (Nat.not_lt_zero j)) rfl (fun j hj => absurd hj (Nat.not_lt_zero j))
  rw [show tgN τ 0 = 0 from rfl, e0] at q1
  have q1' : F_X8_look σ = some ((), σ1) := by
    unfold F_X8_look
    rw [nm_eq2, nm_eq2, nm_eq2]
    exact q1
  obtain ⟨r, r1, r2⟩ := (R_lie h.1 e2 hc (τ := τ) rfl (nI t)).2 t ht rfl
  rw [q1', bd_eq, q4.2.1, r1, bd_eq]
  rcases r2 with ⟨hr, hl⟩ | ⟨hr, hl⟩
  · subst hr
    obtain ⟨σ', c1, c2, -⟩ := C_income h.1 e1 hc q3 ht hl q2 q4
    obtain ⟨τ', d1, d2⟩ := R_income h.1 e2 hc ht hl (τ := τ) rfl
    rw [if_pos ((lie_iff hc q3 ht).mpr hl), if_neg (by decide), c1, bd_eq, d1, bd_eq]
    exact ⟨_, _, _, rfl, rfl, Sim_keep h c2 (KR_trans (KR_I τ 0 (k := 34) (by decide)) (KR_V d2))⟩
  · subst hr
    rw [if_neg (fun q => hl ((lie_iff hc q3 ht).mp q)), if_pos rfl]
    exact ⟨_, _, _, rfl, rfl, Sim_keep h q2 (KR_refl τ)⟩
theorem zL_no : (-1000000000000000000 : Int64) = zL (-1000000000000000000) := by decide +kernel
theorem zL_m1 : (-1 : Int64) = zL (-1) := by decide +kernel
/-- the best table so far, on both sides -/
def BS (σ : xS) (y2 y3 : Int64) (y5 y6 : Int32) (c : Nat) (τ : xS) : Prop := ((y2 = -1000000000000000000 ∧ y3 = -1) ∨ ∃ v : Nat, v ≤ 1000000 ∧ y2 = zL (v : Int) ∧ y3 = zL (v : Int)) ∧ sI σ 1061 = y5 ∧ sI σ 1062 = y6 ∧ ∃ t : Nat, t < 2 ^ c ∧ y5 = nI t
theorem best_loop {σ0 τ0 : xS} (hS : SimSt σ0 τ0) {c Wm M : Nat} (e1 : sI σ0 131 = nI c) (e2 : sA τ0 3 0 = nI c) (hc : c ≤ 10) (hWm : wmOK τ0 c Wm) (hM : M ≤ 10) (a2 : Int32) (m : Nat) : ∀ (n f t : Nat) (y2 y3 : Int64) (y5 y6 : Int32) (σ τ : xS), m < n → m < f → t + m = 2 ^ c → KC σ0 σ → CT τ0 c Wm σ → KR τ0 τ → sA τ 3 = sA τ0 3 → BS σ y2 y3 y5 y6 c τ0 → ∃ (σ' τ' : xS) (y2' y3' : Int64) (y5' y6' : Int32), F_X8_chooseBest_17 n (nI M) y2 (nI t) σ = some ((), σ') ∧ F_X12_best_44 f (nI M) a2 y3 y5 y6 (nI t) τ = (if a2 = 0 then (some (y5', τ')) else (if a2 = 1 then (bd (F_X12_crowdOf y5' τ') fun v12 σ11 => some (v12, σ11)) else (some (y6', τ')))) ∧ KC σ0 σ' ∧ CT τ0 c Wm σ' ∧ KR τ0 τ' ∧ sA τ' 3 = sA τ0 3 ∧ BS σ' y2' y3' y5' y6' c τ0 := by
  have hp := pow_le c (by omega)
  have hp2 : 2 ^ c ≤ 1024 := Nat.le_trans (Nat.pow_le_pow_right (by decide) hc) (by decide)
  induction m with
  | zero =>
    intro n f t y2 y3 y5 y6 σ τ hn hf ht hK hT hR h3 hB
    obtain ⟨n, rfl⟩ : ∃ q, n = q + 1 := ⟨n - 1, by omega⟩
    obtain ⟨f, rfl⟩ : ∃ q, f = q + 1 := ⟨f - 1, by omega⟩
    rw [F_X8_chooseBest_17, (hK.2.1 131 (by decide)).trans e1, sl_i (by omega), if_pos (nI_le (by omega) (by omega)), F_X12_best_44, rdL0, h3, e2, sl_i (by omega), if_pos (nI_le (by omega) (by omega))]
    exact ⟨σ, τ, y2, y3, y5, y6, rfl, rfl, hK, hT, hR, h3, hB⟩
  | succ m ih =>
    intro n f t y2 y3 y5 y6 σ τ hn hf ht hK hT hR h3 hB
    obtain ⟨n, rfl⟩ : ∃ q, n = q + 1 := ⟨n - 1, by omega⟩
    obtain ⟨f, rfl⟩ : ∃ q, f = q + 1 := ⟨f - 1, by omega⟩
    have hpc := pcN_le t 10
    rw [F_X8_chooseBest_17, (hK.2.1 131 (by decide)).trans e1, sl_i (by omega), if_neg (nI_ge (by omega) (by omega)), hT.2.1, C_bits (by omega), F_X12_best_44, rdL0, h3, e2, sl_i (by omega), if_neg (nI_ge (by omega) (by omega)), R_bits (by omega), bd_eq, bd_eq]
    obtain ⟨r, r1, r2⟩ := (R_lie hS e2 hc (τ := τ) h3 (nI t)).2 t (by omega) rfl
    have hskip := ih n f (t + 1) y2 y3 y5 y6 σ τ (by omega) (by omega) (by omega) hK hT hR h3 hB
    by_cases hl : lie τ0 c t
    rotate_left
    · rw [if_neg (fun q => hl ((lie_iff hc hWm (by omega)).mp q)), nm_eq2, nI_1]
      have hr : r = 0 := by
        rcases r2 with ⟨q1, q2⟩ | ⟨q1, q2⟩
        · exact absurd q2 hl
        · exact q1
      subst hr
      by_cases hb : M < pcN t 10
      · rw [if_pos (nI_lt hb (by omega)), nm_eq2]
        exact hskip
      · rw [if_neg (nI_nlt (by omega) (by omega)), r1, bd_eq, if_pos rfl, nm_eq2]
        exact hskip
    have hr : r = 1 := by
      rcases r2 with ⟨q1, q2⟩ | ⟨q1, q2⟩
      · exact q1
      · exact absurd hl q2
    subst hr
    rw [if_pos ((lie_iff hc hWm (by omega)).mpr hl)]
    by_cases hb : M < pcN t 10
    · rw [if_neg (nI_ge hb (by omega)), if_pos (nI_lt hb (by omega)), nm_eq2, nm_eq2, nI_1]
      exact hskip
    rw [if_pos (nI_le (by omega) (by omega)), if_neg (nI_nlt (by omega) (by omega)), r1, bd_eq, if_neg (by decide)]
    obtain ⟨σ1, c1, c2, c3, c4, c5⟩ := C_income hS e1 hc hWm (t := t) (by omega) hl hK hT
    obtain ⟨τ1, d1, d2⟩ := R_income hS e2 hc (t := t) (by omega) hl h3
    have hin := in_le hS t (ctN τ0 t c) c hc
    have hin2 : c * 99900 ≤ 10 * 99900 := Nat.mul_le_mul_right _ hc
    rw [c1, bd_eq, d1, bd_eq]
    generalize inN τ0 t (ctN τ0 t c) c = v at *
    have hR1 : KR τ0 τ1 := KR_trans hR (KR_trans (KR_I τ 0 (k := 34) (by decide)) (KR_V d2))
    have h31 : sA τ1 3 = sA τ0 3 := (d2.1 3).trans h3
    obtain ⟨b1, b2', b3, bt, bt1, bt2⟩ := hB
    have hnew : (¬ lg_cmp (zL (v : Int)) y2 ≤ 0) → (¬ lg_cmp (zL (v : Int)) y3 ≤ 0) → ∃ (σ' τ' : xS) (y2' y3' : Int64) (y5' y6' : Int32), F_X8_chooseBest_17 n (nI M) (zL (v : Int)) (nI (t + 1)) (uI (uI σ1 1061 (nI t)) 1062 1) = some ((), σ') ∧ F_X12_best_100 (F_X12_best_44 f) (nI M) a2 (zL (v : Int)) (nI t) 0 (nI t) (zL (v : Int)) τ1 = (if a2 = 0 then (some (y5', τ')) else (if a2 = 1 then (bd (F_X12_crowdOf y5' τ') fun v12 σ11 => some (v12, σ11)) else (some (y6', τ')))) ∧ KC σ0 σ' ∧ CT τ0 c Wm σ' ∧ KR τ0 τ' ∧ sA τ' 3 = sA τ0 3 ∧ BS σ' y2' y3' y5' y6' c τ0 := by
      intro _ _
      unfold F_X12_best_100 F_X12_best_114
      rw [if_pos ((lg_cmp_eq _ _).mpr rfl), nm_eq2, nm_eq2, nI_1, show (0 : Int32) + 1 = 1 by decide]
      exact ih n f (t + 1) (zL (v : Int)) (zL (v : Int)) (nI t) 1 (uI (uI σ1 1061 (nI t)) 1062 1) τ1 (by omega) (by omega) (by omega) (KC_trans c2 ⟨fun _ _ => rfl, fun k hk => by
        show (if k = 1062 then (1 : Int32) else if k = 1061 then nI t else sI σ1 k) = sI σ1 k
        rw [if_neg (by omega), if_neg (by omega)], fun _ => rfl, rfl⟩) c3 hR1 h31 ⟨Or.inr ⟨v, by omega, rfl, rfl⟩, rfl, rfl, t, by omega, rfl⟩
    rcases b1 with ⟨b4, b5⟩ | ⟨u, b4, b5, b6⟩
    · subst b4
      subst b5
      have n1 : ¬ lg_cmp (zL (v : Int)) (-1000000000000000000) ≤ 0 := fun q => by
        have q2 := (lg_cmp_le _ _).mp q
        rw [zL_no, zL_le (by omega) (by omega) (by decide) (by decide)] at q2
        omega
      have n2 : ¬ lg_cmp (zL (v : Int)) (-1) ≤ 0 := fun q => by
        have q2 := (lg_cmp_le _ _).mp q
        rw [zL_m1, zL_le (by omega) (by omega) (by decide) (by decide)] at q2
        omega
      rw [if_neg n1, if_neg n2, nm_eq2, nm_eq2, nm_eq2, nm_eq2, nI_1]
      exact hnew n1 n2
    · subst b5
      subst b6
      by_cases hle : (v : Int) ≤ u
      · have q1 : lg_cmp (zL (v : Int)) (zL (u : Int)) ≤ 0 := (lg_cmp_le _ _).mpr ((zL_le (by omega) (by omega) (by omega) (by omega)).mpr hle)
        rw [if_pos q1, if_pos q1]
        unfold F_X12_best_100 F_X12_best_114
        by_cases he : (v : Int) = u
        · have q2 : lg_cmp (zL (v : Int)) (zL (u : Int)) = 0 := (lg_cmp_eq _ _).mpr (by rw [he])
          rw [if_pos q2, if_pos q2]
          simp only [nm_eq2, nI_1]
          exact ih n f (t + 1) (zL (u : Int)) (zL (u : Int)) y5 (y6 + 1) (uI σ1 1062 (sI σ1 1062 + 1)) τ1 (by omega) (by omega) (by omega) (KC_trans c2 ⟨fun _ _ => rfl, fun k hk => if_neg (by omega), fun _ => rfl, rfl⟩) c3 hR1 h31 ⟨Or.inr ⟨u, b4, rfl, rfl⟩, c4.trans b2', (show sI σ1 1062 + 1 = y6 + 1 by rw [c5, b3]), bt, bt1, bt2⟩
        · have q2 : ¬ lg_cmp (zL (v : Int)) (zL (u : Int)) = 0 := fun q => he ((zL_eq (by omega) (by omega) (by omega) (by omega)).mp ((lg_cmp_eq _ _).mp q))
          rw [if_neg q2, if_neg q2]
          simp only [nm_eq2, nI_1]
          rw [show y6 + 0 = y6 from Int32.add_zero y6]
          exact ih n f (t + 1) (zL (u : Int)) (zL (u : Int)) y5 y6 σ1 τ1 (by omega) (by omega) (by omega) c2 c3 hR1 h31 ⟨Or.inr ⟨u, b4, rfl, rfl⟩, c4.trans b2', c5.trans b3, bt, bt1, bt2⟩
      · have n1 : ¬ lg_cmp (zL (v : Int)) (zL (u : Int)) ≤ 0 := fun q => hle ((zL_le (by omega) (by omega) (by omega) (by omega)).mp ((lg_cmp_le _ _).mp q))
        rw [if_neg n1, if_neg n1, nm_eq2, nm_eq2, nm_eq2, nm_eq2, nI_1]
        exact hnew n1 n1
theorem st_best : ∀ (σ τ : xS), Sim σ τ → ∀ (a1 a2 : Int32), ∃ (r : Int32) (σ1 τ1 : xS), F_X11_best a1 a2 σ = some (r, σ1) ∧ F_X12_best a1 a2 τ = some (r, τ1) ∧ Sim σ1 τ1 := by
  intro σ τ0 h0 a1 a2
  have h := Sim_thr h0
  unfold F_X11_best F_X12_best
  simp only [nm_eq2]
  generalize uI τ0 0 0 = τ at h ⊢
  obtain ⟨c, hc, e1, e2⟩ := cnt0 h.1
  have hp2 : 2 ^ c ≤ 1024 := Nat.le_trans (Nat.pow_le_pow_right (by decide) hc) (by decide)
  simp only [R_i0_10, R_i0_2, C_isWithin, bd_eq2, ib2]
  by_cases p : 0 ≤ a1 ∧ a1 ≤ 10
  rotate_left
  · simp only [if_neg p]
    exact ⟨_, _, _, rfl, rfl, h⟩
  by_cases p2 : 0 ≤ a2 ∧ a2 ≤ 2
  rotate_left
  · simp only [if_pos p, if_neg p2]
    exact ⟨_, _, _, rfl, rfl, h⟩
  simp only [if_pos p, if_pos p2]
  obtain ⟨M, hM, rfl⟩ := idxle p (c := 10) rfl (by omega)
  have e0 : nI 0 = (0 : Int32) := rfl
  obtain ⟨Wm, σ1, q1, q2, q3, q4⟩ := C_lookT h.1 e1 hc c FU 0 0 (uI σ 1060 0) (by unfold FU; omega) (by omega) ⟨fun _ _ => rfl, fun k hk => if_neg (by omega), fun _ => rfl, rfl⟩ (by decide) (fun j hj => absurd hj (Nat.not_lt_zero j)) rfl (fun j hj => absurd hj (Nat.not_lt_zero j))
  rw [show tgN τ 0 = 0 from rfl, e0] at q1
  have q1' : F_X8_look σ = some ((), σ1) := by
    unfold F_X8_look
    rw [nm_eq2, nm_eq2, nm_eq2]
    exact q1
  obtain ⟨σ', τ', y2, y3, y5, y6, x1, x2, x3, x4, x5, x6, x7⟩ := best_loop h.1 e1 e2 hc q3 hM a2 (2 ^ c) FU FU 0 (-1000000000000000000) (-1) 0 0 (uI (uI σ1 1061 0) 1062 0) τ (by unfold FU; omega) (by unfold FU; omega) (by omega) (KC_trans q2 ⟨fun _ _ => rfl, fun k hk => by
    show (if k = 1062 then (0 : Int32) else if k = 1061 then 0 else sI σ1 k) = sI σ1 k
    rw [if_neg (by omega), if_neg (by omega)], fun _ => rfl, rfl⟩) q4 (KR_refl τ) rfl ⟨Or.inl ⟨rfl, rfl⟩, rfl, rfl, 0, Nat.two_pow_pos c, rfl⟩
  rw [e0] at x1 x2
  have x1' : F_X8_chooseBest (nI M) σ1 = some ((), σ') := by
    unfold F_X8_chooseBest
    rw [nm_eq2, nm_eq2, nm_eq2, nm_eq2]
    exact x1
  obtain ⟨-, b2', b3, t, bt1, bt2⟩ := x7
  subst bt2
  rw [q1', bd_eq, x1', bd_eq, x2, b2', b3]
  have hf : Sim σ' τ' := Sim_keep h x3 x5
  by_cases z0 : a2 = 0
  · rw [if_pos z0, if_pos z0]
    exact ⟨_, _, _, rfl, rfl, hf⟩
  rw [if_neg z0, if_neg z0]
  by_cases z1 : a2 = 1
  · obtain ⟨τ2, d1, d2⟩ := R_crowdT h.1 e2 hc bt1 x6
    rw [if_pos z1, if_pos z1, C_crowdT ((x3.2.1 131 (by decide)).trans e1) hc x4 bt1, bd_eq, d1, bd_eq]
    exact ⟨_, _, _, rfl, rfl, Sim_keep hf (KC_refl σ') (KR_trans (KR_I τ' 0 (k := 34) (by decide)) (KR_V d2))⟩
  · rw [if_neg z1, if_neg z1]
    exact ⟨_, _, _, rfl, rfl, hf⟩
end
