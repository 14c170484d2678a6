section
/-! ===== keep ===== -/
def suN (τ : xS) (j : Nat) : Nat := (sA τ 3 (99 + 3 * j + 2)).toNatClampNeg
def gkN (τ : xS) (j b : Nat) : Option Nat := if sA τ 3 (99 + 3 * j) = sA τ 3 (13 + 5 * b) then some (suN τ j * wtN τ j b) else none
def mxK (g : Nat → Option Nat) (M : Nat → Nat) (S : Nat) : Nat → Nat
  | 0 => M S
  | m + 1 => match g m with
    | some v => if S.testBit m = true then mxK g M S m else max (mxK g M S m) (v + M (S ||| 2 ^ m))
    | none => mxK g M S m
def keN (τ : xS) (c cj : Nat) : Nat → Nat → Nat
  | 0, _ => 0
  | k + 1, S => mxK (gkN τ (cj - 1 - k)) (keN τ c cj k) S c
theorem cell_cd {σ τ : xS} (hS : SimSt σ τ) {j : Nat} (hj : j < 8) : ∃ k s u : Nat, k ≤ 9 ∧ s ≤ 99 ∧ u ≤ 999 ∧ sA τ 3 (99 + 3 * j) = nI k ∧ sA τ 3 (99 + 3 * j + 1) = nI s ∧ sA τ 3 (99 + 3 * j + 2) = nI u := by
  obtain ⟨k, k1, k2, -⟩ := seg_nat hS.2.1 (k := 99 + 3 * j + 0) (by omega) (by omega)
  obtain ⟨s, s1, s2, -⟩ := seg_nat hS.2.1 (k := 99 + 3 * j + 1) (by omega) (by omega)
  obtain ⟨u, u1, u2, -⟩ := seg_nat hS.2.1 (k := 99 + 3 * j + 2) (by omega) (by omega)
  rw [hi_card j hj 0 (by decide)] at k1
  rw [hi_card j hj 1 (by decide)] at s1
  rw [hi_card j hj 2 (by decide)] at u1
  have k1' : (k : Int) ≤ 9 := k1
  have s1' : (s : Int) ≤ 99 := s1
  have u1' : (u : Int) ≤ 999 := u1
  exact ⟨k, s, u, by omega, by omega, by omega, k2, s2, u2⟩
theorem su_ok {σ τ : xS} (hS : SimSt σ τ) {j : Nat} (hj : j < 8) : suN τ j ≤ 999 ∧ sA τ 3 (99 + 3 * j + 2) = nI (suN τ j) := by
  obtain ⟨k, s, u, -, -, h3, -, -, e3⟩ := cell_cd hS hj
  unfold suN
  rw [e3, nI_clamp (by omega)]
  exact ⟨h3, rfl⟩
theorem gk_le {σ τ : xS} (hS : SimSt σ τ) {c cj j b v : Nat} (e1 : sI σ 131 = nI c) (hc : c ≤ 10) (hb : b < c) (f1 : sI σ 195 = nI cj) (hcj : cj ≤ 8) (hj : j < cj) (h : gkN τ j b = some v) : v ≤ 99900 := by
  have h1 := (su_ok hS (j := j) (by omega)).1
  have h2 := (wt_C hS e1 hc hb f1 hcj hj).1
  unfold gkN at h
  split at h
  · cases h
    exact Nat.mul_le_mul h1 h2
  · cases h
theorem mxK_le {g : Nat → Option Nat} {M : Nat → Nat} {A B S : Nat} (m : Nat) (hg : ∀ j v, j < m → g j = some v → v ≤ A) (hM : ∀ S, M S ≤ B) : mxK g M S m ≤ A + B := by
  induction m with
  | zero =>
    have := hM S
    unfold mxK
    omega
  | succ m ih =>
    have h1 := ih (fun j v hj => hg j v (by omega))
    rw [mxK]
    split
    · rename_i v hv
      have h2 := hg m v (by omega) hv
      have h3 := hM (S ||| 2 ^ m)
      split
      · exact h1
      · omega
    · exact h1
theorem ke_le {σ τ : xS} (hS : SimSt σ τ) {c cj : Nat} (e1 : sI σ 131 = nI c) (hc : c ≤ 10) (f1 : sI σ 195 = nI cj) (hcj : cj ≤ 8) (k : Nat) (hk : k ≤ cj) : ∀ S, keN τ c cj k S ≤ k * 99900 := by
  induction k with
  | zero =>
    intro S
    exact Nat.le_refl _
  | succ k ih =>
    intro S
    have h := mxK_le (g := gkN τ (cj - 1 - k)) (M := keN τ c cj k) (A := 99900) (B := k * 99900) (S := S) c (fun j v hj hv => gk_le hS e1 hc hj f1 hcj (by omega) hv) (ih (by omega))
    rw [keN, Nat.succ_mul]
    omega
theorem pcN_or (S i m : Nat) : pcN (S ||| 2 ^ i) m ≤ pcN S m + 1 := by
  have h2 : ∀ m, m ≤ i → pcN (S ||| 2 ^ i) m = pcN S m := by
    intro m hm
    induction m with
    | zero => rfl
    | succ m ih =>
      rw [pcN, pcN, ih (by omega), or_bit, decide_eq_false (show ¬ i = m by omega), Bool.or_false]
  have h3 : ∀ d, pcN (S ||| 2 ^ i) (i + d) ≤ pcN S (i + d) + 1 := by
    intro d
    induction d with
    | zero =>
      rw [Nat.add_zero, h2 i (Nat.le_refl _)]
      omega
    | succ d ih =>
      by_cases hd : d = 0
      · subst hd
        show pcN (S ||| 2 ^ i) (i + 1) ≤ pcN S (i + 1) + 1
        rw [pcN, pcN, h2 i (Nat.le_refl _)]
        split <;> split <;> omega
      · show pcN (S ||| 2 ^ i) (i + d + 1) ≤ pcN S (i + d + 1) + 1
        rw [pcN, pcN, or_bit, decide_eq_false (show ¬ i = i + d by omega), Bool.or_false]
        omega
  by_cases hm : m ≤ i
  · rw [h2 m hm]
    omega
  · obtain ⟨d, rfl⟩ : ∃ d, m = i + d := ⟨m - i, by omega⟩
    exact h3 d
theorem oi_m1 (o : Option Nat) (h : ∀ v, o = some v → v < 2 ^ 31) : (oi o = -1 ↔ o = none) := by
  cases o with
  | none => exact ⟨fun _ => rfl, fun _ => rfl⟩
  | some v => exact ⟨fun q => absurd q (nI_m1 (h v rfl)), fun q => by cases q⟩
/-! ===== the class's plan ===== -/
def CK (σ0 τ : xS) (c cj i : Nat) (σ : xS) : Prop := KC σ0 σ ∧ (∀ j, i ≤ j → j < cj → ∀ b, b < c → sA σ (71 + j) b = oi (gkN τ j b)) ∧ ∀ j, i ≤ j → j ≤ cj → ∀ S, S < 2 ^ c → pcN S 10 ≤ j → sA σ (80 + j) S = nI (keN τ c cj (cj - j) S)
theorem C_ask {σ0 τ : xS} (hS0 : SimSt σ0 τ) {c cj j : Nat} (e1 : sI σ0 131 = nI c) (hc : c ≤ 10) (f1 : sI σ0 195 = nI cj) (hcj : cj ≤ 8) (hj : j < cj) (m : Nat) : ∀ (n i : Nat) (σ : xS), m < n → i + m = c → KC σ0 σ → (∀ b, b < i → sA σ (71 + j) b = oi (gkN τ j b)) → ∃ σ', F_X3_askFor_2 n (nI j) (nI i) σ = some ((), σ') ∧ KC σ0 σ' ∧ (∀ b, b < c → sA σ' (71 + j) b = oi (gkN τ j b)) ∧ ∀ k, k ≠ 45 → k ≠ 71 + j → sA σ' k = sA σ k := by
  induction m with
  | zero =>
    intro n i σ hn hi hK hg
    obtain ⟨n, rfl⟩ : ∃ q, n = q + 1 := ⟨n - 1, by omega⟩
    obtain rfl : i = c := by omega
    rw [F_X3_askFor_2, (hK.2.1 131 (by decide)).trans e1, if_pos (nI_le (by omega) (by omega))]
    exact ⟨σ, rfl, hK, hg, fun _ _ _ => rfl⟩
  | succ m ih =>
    intro n i σ hn hi hK hg
    obtain ⟨n, rfl⟩ : ∃ q, n = q + 1 := ⟨n - 1, by omega⟩
    have e1' : sI σ 131 = nI c := (hK.2.1 131 (by decide)).trans e1
    have f1' : sI σ 195 = nI cj := (hK.2.1 195 (by decide)).trans f1
    have hS1 : SimSt σ τ := SimSt_keep hS0 hK (KR_refl τ)
    have g0 : F_X6_get 0 (nI i) 0 σ = some (sA σ 9 (i * 5 + 0), σ) := C_getY (r := 0) (w := 0) e1' (show c ≤ 10 from hc) (by omega) (by decide)
    have g2 : F_X6_get 2 (nI j) 0 σ = some (sA σ 13 (j * 3 + 0), σ) := C_getY (r := 2) (w := 0) f1' (show cj ≤ 8 from hcj) hj (by decide)
    have g3 : F_X6_get 2 (nI j) 2 σ = some (sA σ 13 (j * 3 + 2), σ) := C_getY (r := 2) (w := 2) f1' (show cj ≤ 8 from hcj) hj (by decide)
    have hset : ∀ (σ1 : xS) (x : Int32), KC σ0 σ1 → (∀ k, k ≠ 45 → sA σ1 k = sA σ k) → x = oi (gkN τ j i) → ∃ σ', F_X3_askFor_86 (F_X3_askFor_2 n) (nI j) (nI i) (nI i) x σ1 = some ((), σ') ∧ KC σ0 σ' ∧ (∀ b, b < c → sA σ' (71 + j) b = oi (gkN τ j b)) ∧ ∀ k, k ≠ 45 → k ≠ 71 + j → sA σ' k = sA σ k := by
      intro σ1 x hK1 hA1 hx
      unfold F_X3_askFor_86
      rw [ck_n (by omega) (by decide), nm_eq2, nm_eq2, nI_1, nI_clamp (by omega), nI_clamp (by omega)]
      obtain ⟨σ', q1, q2, q3, q4⟩ := ih n (i + 1) (uA σ1 (71 + j) (upd (sA σ1 (71 + j)) i x)) (by omega) (by omega) (KC_trans hK1 (KC_A σ1 _ (by omega))) (fun b hb => by
        rw [sA_s]
        unfold upd
        by_cases e : b = i
        · rw [if_pos e, e]
          exact hx
        · rw [if_neg e, hA1 _ (by omega)]
          exact hg b (by omega))
      refine ⟨σ', q1, q2, q3, fun k k1 k2 => ?_⟩
      rw [q4 k k1 k2]
      show (if k = 71 + j then _ else sA σ1 k) = _
      rw [if_neg k2]
      exact hA1 k k1
    have cg2 : sA σ 13 (j * 3 + 0) = sA τ 3 (99 + 3 * j) := cell_card hS1 (i := j) (w := 0) (by omega) (by decide)
    have cb0 : sA σ 9 (i * 5 + 0) = sA τ 3 (13 + 5 * i) := cell_book hS1 (i := i) (w := 0) (by omega) (by decide)
    rw [F_X3_askFor_2, e1', if_neg (nI_ge (by omega) (by omega)), g0, bd_eq, g2, bd_eq, cb0, cg2]
    unfold F_X3_askFor_48
    by_cases hk : sA τ 3 (13 + 5 * i) = sA τ 3 (99 + 3 * j)
    · obtain ⟨u1, u2⟩ := su_ok hS0 (j := j) (by omega)
      have cg3 : sA σ 13 (j * 3 + 2) = nI (suN τ j) := (cell_card hS1 (i := j) (w := 2) (by omega) (by decide)).trans u2
      obtain ⟨w1, σ1, W, w2, w3⟩ := wt_C hS1 e1' hc (b := i) (by omega) f1' hcj hj
      rw [if_pos hk, ck_n (by omega) (by decide), if_neg (by decide), g3, bd_eq, cg3, w2, bd_eq, pk_mul]
      refine hset σ1 _ (KC_trans hK (KC_trans (KC_A σ W (k := 45) (by decide)) (KC_S w3))) (fun k k1 => ?_) ?_
      · rw [w3.1 k]
        exact if_neg k1
      · unfold gkN
        rw [if_pos hk.symm]
        rfl
    · rw [if_neg hk, ck_n (by omega) (by decide), if_pos rfl]
      refine hset σ _ hK (fun _ _ => rfl) ?_
      unfold gkN
      rw [if_neg (fun q => hk q.symm)]
      rfl
theorem C_canHave {σ : xS} {j b S : Nat} {o : Option Nat} (hj : j < 8) (hb : b < 10) (hS : S < 2 ^ 31) (h : sA σ (71 + j) b = oi o) (ho : ∀ v, o = some v → v < 2 ^ 31) : F_X3_canHave (nI j) (nI b) (nI S) σ = some (b2 (o ≠ none ∧ S.testBit b = false), σ) := by
  unfold F_X3_canHave
  rw [ck_n hj (by decide), nI_clamp (by omega), rd_n hb (by decide), h, bit_if0 hS (by omega)]
  cases o with
  | none =>
    rw [if_pos (show oi none = -1 from rfl), cz_0, b2_0.mpr (fun q => q.1 rfl)]
  | some v =>
    rw [if_neg (show ¬ oi (some v) = -1 from nI_m1 (ho v rfl))]
    by_cases hb : S.testBit b = true
    · rw [if_pos hb, cz_0, b2_0.mpr (fun q => by rw [hb] at q; exact Bool.noConfusion q.2)]
    · rw [if_neg hb, cz_1, b2_1.mpr ⟨fun q => no_some q.symm, Bool.eq_false_iff.mpr hb⟩]
theorem C_with {σ : xS} {j b S v x : Nat} (hj : j < 8) (hb : b < 10) (hS : S ||| 2 ^ b < 1024) (h : sA σ (71 + j) b = nI v) (h2 : sA σ (80 + (j + 1)) (S ||| 2 ^ b) = nI x) : F_X3_with (nI j) (nI b) (nI S) σ = some (nI (v + x), σ) := by
  unfold F_X3_with
  rw [ck_n hj (by decide), nI_clamp (by omega), rd_n hb (by decide), h, nI_1, ck_n (by omega) (by decide), nI_clamp (by omega), sl_i (by omega), or_n, rd_n hS (by decide), h2, nI_add]
theorem C_mostF {σ0 τ : xS} (hS0 : SimSt σ0 τ) {c cj j : Nat} (e1 : sI σ0 131 = nI c) (hc : c ≤ 10) (f1 : sI σ0 195 = nI cj) (hcj : cj ≤ 8) (hj : j < cj) {σ : xS} (hK : KC σ0 σ) (hg : ∀ b, b < c → sA σ (71 + j) b = oi (gkN τ j b)) (hm : ∀ S, S < 2 ^ c → pcN S 10 ≤ j + 1 → sA σ (80 + (j + 1)) S = nI (keN τ c cj (cj - (j + 1)) S)) {S : Nat} (hS : S < 2 ^ c) (hp : pcN S 10 ≤ j) : F_X3_mostFrom (nI j) (nI S) σ = some (nI (keN τ c cj (cj - j) S), σ) := by
  have hp2 : 2 ^ c ≤ 1024 := Nat.le_trans (Nat.pow_le_pow_right (by decide) hc) (by decide)
  have e1' : sI σ 131 = nI c := (hK.2.1 131 (by decide)).trans e1
  have hek : cj - j = cj - (j + 1) + 1 := by omega
  have hkb := ke_le hS0 e1 hc f1 hcj (cj - (j + 1)) (by omega)
  have hgl : ∀ b v, b < c → gkN τ j b = some v → v ≤ 99900 := fun b v hb hv => gk_le hS0 e1 hc hb f1 hcj hj hv
  have hkb2 : (cj - (j + 1)) * 99900 ≤ 8 * 99900 := Nat.mul_le_mul_right _ (by omega)
  have hev : cj - 1 - (cj - (j + 1)) = j := by omega
  rw [hek, keN, hev]
  have hmx : ∀ i, i ≤ c → mxK (gkN τ j) (keN τ c cj (cj - (j + 1))) S i ≤ 99900 + (cj - (j + 1)) * 99900 := fun i hi => mxK_le i (fun b v hb hv => hgl b v (by omega) hv) hkb
  have hl : ∀ m n i, m < n → i + m = c → F_X3_mostFrom_14 n (nI j) (nI S) (nI (mxK (gkN τ j) (keN τ c cj (cj - (j + 1))) S i)) (nI i) σ = some (nI (mxK (gkN τ j) (keN τ c cj (cj - (j + 1))) S c), σ) := by
    intro m
    induction m with
    | zero =>
      intro n i hn hi
      obtain ⟨n, rfl⟩ : ∃ q, n = q + 1 := ⟨n - 1, by omega⟩
      obtain rfl : i = c := by omega
      rw [F_X3_mostFrom_14, e1', if_pos (nI_le (by omega) (by omega))]
    | succ m ih =>
      intro n i hn hi
      obtain ⟨n, rfl⟩ : ∃ q, n = q + 1 := ⟨n - 1, by omega⟩
      have hnext := ih n (i + 1) (by omega) (by omega)
      have hmi := hmx i (by omega)
      rw [mxK] at hnext
      rw [F_X3_mostFrom_14, e1', if_neg (nI_ge (by omega) (by omega)), C_canHave (by omega) (by omega) (by omega) (hg i (by omega)) (fun v hv => by have := hgl i v (by omega) hv; omega), bd_eq, ib2]
      cases hq : gkN τ j i with
      | none =>
        rw [hq] at hnext
        rw [if_neg (fun q => q.1 rfl), nm_eq2, nI_1]
        exact hnext
      | some v =>
        rw [hq] at hnext
        have hv := hgl i v (by omega) hq
        by_cases hb : S.testBit i = true
        · have hnext2 : F_X3_mostFrom_14 n (nI j) (nI S) (nI (if S.testBit i = true then mxK (gkN τ j) (keN τ c cj (cj - (j + 1))) S i else max (mxK (gkN τ j) (keN τ c cj (cj - (j + 1))) S i) (v + keN τ c cj (cj - (j + 1)) (S ||| 2 ^ i)))) (nI (i + 1)) σ = _ := hnext
          rw [if_pos hb] at hnext2
          rw [if_neg (fun q => by rw [hb] at q; exact Bool.noConfusion q.2), nm_eq2, nI_1]
          exact hnext2
        · have hnext2 : F_X3_mostFrom_14 n (nI j) (nI S) (nI (if S.testBit i = true then mxK (gkN τ j) (keN τ c cj (cj - (j + 1))) S i else max (mxK (gkN τ j) (keN τ c cj (cj - (j + 1))) S i) (v + keN τ c cj (cj - (j + 1)) (S ||| 2 ^ i)))) (nI (i + 1)) σ = _ := hnext
          rw [if_neg hb] at hnext2
          have hor : S ||| 2 ^ i < 2 ^ c := or_lt hS (by omega)
          have hpo := pcN_or S i 10
          have hk2 := hkb (S ||| 2 ^ i)
          rw [if_pos ⟨fun q => no_some q.symm, Bool.eq_false_iff.mpr hb⟩, C_with (by omega) (by omega) (by omega) ((hg i (by omega)).trans (by rw [hq]; rfl)) (hm _ hor (by omega)), bd_eq, nm_eq2, nm_eq2, nI_1]
          have emx : mxI (nI (mxK (gkN τ j) (keN τ c cj (cj - (j + 1))) S i)) (nI (v + keN τ c cj (cj - (j + 1)) (S ||| 2 ^ i))) = nI (max (mxK (gkN τ j) (keN τ c cj (cj - (j + 1))) S i) (v + keN τ c cj (cj - (j + 1)) (S ||| 2 ^ i))) := by
            unfold mxI
            by_cases hlt : mxK (gkN τ j) (keN τ c cj (cj - (j + 1))) S i < v + keN τ c cj (cj - (j + 1)) (S ||| 2 ^ i)
            · rw [if_pos (nI_lt hlt (by omega)), Nat.max_eq_right (by omega)]
            · rw [if_neg (nI_nlt (by omega) (by omega)), Nat.max_eq_left (by omega)]
          rw [emx]
          exact hnext2
  have h := hl c FU 0 (by unfold FU; omega) (by omega)
  have e0 : nI 0 = (0 : Int32) := rfl
  rw [show mxK (gkN τ j) (keN τ c cj (cj - (j + 1))) S 0 = keN τ c cj (cj - (j + 1)) S from rfl, e0] at h
  unfold F_X3_mostFrom
  rw [nI_1, ck_n (by omega) (by decide), nI_clamp (by omega), rd_n (by omega) (by decide), hm S hS (by omega), nm_eq2]
  exact h
theorem C_sets {σ0 τ : xS} (hS0 : SimSt σ0 τ) {c cj j : Nat} (e1 : sI σ0 131 = nI c) (hc : c ≤ 10) (f1 : sI σ0 195 = nI cj) (hcj : cj ≤ 8) (hj : j < cj) (k40 : Int32 → Int32 → xS → Option (Unit × xS)) (m : Nat) : ∀ (n S : Nat) (σ : xS), m < n → S + m = 2 ^ c → CK σ0 τ c cj (j + 1) σ → (∀ b, b < c → sA σ (71 + j) b = oi (gkN τ j b)) → (∀ X, X < S → pcN X 10 ≤ j → sA σ (80 + j) X = nI (keN τ c cj (cj - j) X)) → ∃ σ', F_X3_plan_52 k40 n (nI (2 ^ c)) (nI j) (nI S) σ = k40 (nI (2 ^ c)) (nI j - 1) σ' ∧ CK σ0 τ c cj j σ' := by
  have hp2 : 2 ^ c ≤ 1024 := Nat.le_trans (Nat.pow_le_pow_right (by decide) hc) (by decide)
  induction m with
  | zero =>
    intro n S σ hn hm hC hg hX
    obtain ⟨n, rfl⟩ : ∃ q, n = q + 1 := ⟨n - 1, by omega⟩
    rw [F_X3_plan_52, if_pos (nI_le (by omega) (by omega)), nm_eq2, show nI j + (-1) = nI j - 1 from (Int32.sub_eq_add_neg ..).symm]
    refine ⟨σ, rfl, hC.1, fun i hi hi2 b hb => ?_, fun i hi hi2 X hXc hXp => ?_⟩
    · by_cases e : i = j
      · rw [e]
        exact hg b hb
      · exact hC.2.1 i (by omega) hi2 b hb
    · by_cases e : i = j
      · rw [e] at hXp ⊢
        exact hX X (by omega) hXp
      · exact hC.2.2 i (by omega) hi2 X hXc hXp
  | succ m ih =>
    intro n S σ hn hm hC hg hX
    obtain ⟨n, rfl⟩ : ∃ q, n = q + 1 := ⟨n - 1, by omega⟩
    rw [F_X3_plan_52, if_neg (nI_ge (by omega) (by omega)), C_bits (by omega), bd_eq]
    have hpc := pcN_le S 10
    by_cases hp : j < pcN S 10
    · rw [if_pos (nI_lt hp (by omega)), nm_eq2, nI_1]
      exact ih n (S + 1) σ (by omega) (by omega) hC hg (fun X h1 h2 => by
        by_cases e : X = S
        · rw [e] at h2
          omega
        · exact hX X (by omega) h2)
    · rw [if_neg (nI_nlt (by omega) (by omega)), ck_n (by omega) (by decide), C_mostF hS0 e1 hc f1 hcj hj hC.1 hg (hC.2.2 (j + 1) (Nat.le_refl _) (by omega)) (S := S) (by omega) (by omega), bd_eq, ck_n (by omega) (by decide), nm_eq2, nm_eq2, nI_1, nI_clamp (by omega), nI_clamp (by omega)]
      have hA : ∀ k, k ≠ 80 + j → sA (uA σ (80 + j) (upd (sA σ (80 + j)) S (nI (keN τ c cj (cj - j) S)))) k = sA σ k := fun k hk => if_neg hk
      refine ih n (S + 1) _ (by omega) (by omega) ⟨KC_trans hC.1 (KC_A σ _ (by omega)), fun i hi hi2 b hb => ?_, fun i hi hi2 X hXc hXp => ?_⟩ (fun b hb => ?_) (fun X h1 h2 => ?_)
      · rw [hA _ (by omega)]
        exact hC.2.1 i hi hi2 b hb
      · rw [hA _ (by omega)]
        exact hC.2.2 i hi hi2 X hXc hXp
      · rw [hA _ (by omega)]
        exact hg b hb
      · rw [sA_s]
        unfold upd
        by_cases e : X = S
        · rw [if_pos e, e]
        · rw [if_neg e]
          exact hX X (by omega) h2
theorem C_cards {σ0 τ : xS} (hS0 : SimSt σ0 τ) {c cj : Nat} (e1 : sI σ0 131 = nI c) (hc : c ≤ 10) (f1 : sI σ0 195 = nI cj) (hcj : cj ≤ 8) (m : Nat) : ∀ (n : Nat) (y : Int32) (σ : xS), m < n → y = nI m - 1 → m ≤ cj → CK σ0 τ c cj m σ → ∃ σ', F_X3_plan_40 n (nI (2 ^ c)) y σ = some ((), σ') ∧ CK σ0 τ c cj 0 σ' := by
  have hp2 : 2 ^ c ≤ 1024 := Nat.le_trans (Nat.pow_le_pow_right (by decide) hc) (by decide)
  induction m with
  | zero =>
    intro n y σ hn hy hm hC
    obtain ⟨n, rfl⟩ : ∃ q, n = q + 1 := ⟨n - 1, by omega⟩
    rw [F_X3_plan_40, hy, if_pos (by decide)]
    exact ⟨σ, rfl, hC⟩
  | succ m ih =>
    intro n y σ hn hy hm hC
    obtain ⟨n, rfl⟩ : ∃ q, n = q + 1 := ⟨n - 1, by omega⟩
    have ey : y = nI m := by rw [hy]; exact pk_sub (a := m + 1) (b := 1) (by omega)
    have e0 : nI 0 = (0 : Int32) := rfl
    obtain ⟨σ1, a1, a2, a3, a4⟩ := C_ask hS0 e1 hc f1 hcj (j := m) (by omega) c FU 0 σ (by unfold FU; omega) (by omega) hC.1 (fun b hb => absurd hb (Nat.not_lt_zero b))
    rw [e0] at a1
    have a1' : F_X3_askFor (nI m) σ = some ((), σ1) := by
      unfold F_X3_askFor
      rw [nm_eq2]
      exact a1
    obtain ⟨σ2, s1, s2⟩ := C_sets hS0 e1 hc f1 hcj (j := m) (by omega) (F_X3_plan_40 n) (2 ^ c) FU 0 σ1 (by unfold FU; omega) (by omega) ⟨a2, fun i hi hi2 b hb => by rw [a4 _ (by omega) (by omega)]; exact hC.2.1 i hi hi2 b hb, fun i hi hi2 X hX hXp => by rw [a4 _ (by omega) (by omega)]; exact hC.2.2 i hi hi2 X hX hXp⟩ a3 (fun X hX => absurd hX (Nat.not_lt_zero X))
    rw [e0] at s1
    rw [F_X3_plan_40, ey, if_neg (nI_pos (by omega)), a1', bd_eq, nm_eq2, s1]
    exact ih n _ σ2 (by omega) rfl (by omega) s2
theorem C_planK {σ τ : xS} (hS : SimSt σ τ) {c cj : Nat} (e1 : sI σ 131 = nI c) (hc : c ≤ 10) (f1 : sI σ 195 = nI cj) (hcj : cj ≤ 8) : ∃ σ', F_X3_plan σ = some ((), σ') ∧ CK σ τ c cj 0 σ' := by
  have hp2 : 2 ^ c ≤ 1024 := Nat.le_trans (Nat.pow_le_pow_right (by decide) hc) (by decide)
  have hfl : ∀ (k : Option (Unit × xS)), fl 1024 0 (nI (2 ^ c)) k = k := by
    intro k
    unfold fl
    rw [if_neg]
    intro q
    rcases q with q | q | q
    · exact nI_pos (by omega) q
    · exact absurd q (by decide)
    · exact nI_nlt (a := 1024) (by omega) (by omega) q
  obtain ⟨σ', q1, q2⟩ := C_cards hS e1 hc f1 hcj cj FU (nI cj - 1) (uA σ (80 + cj) (fillR (sA σ (80 + cj)) 0 (2 ^ c) 0)) (by unfold FU; omega) rfl (Nat.le_refl _) ⟨KC_A σ _ (by omega), fun i hi hi2 => absurd hi2 (by omega), fun i hi hi2 X hX _ => by
    obtain rfl : i = cj := by omega
    rw [sA_s, Nat.sub_self]
    exact if_pos ⟨Nat.zero_le _, hX⟩⟩
  refine ⟨σ', ?_, q2⟩
  unfold F_X3_plan
  rw [nm_eq2, nm_eq2, e1, f1, sl_i (by omega), ck_n (by omega) (by decide), hfl, nm_eq2, nm_eq2, nI_clamp (by omega), nI_clamp (by omega)]
  exact q1
end
