section
/-! ===== the reference's keeps ===== -/
def RG (τ0 : xS) (c cj : Nat) (τ : xS) : Prop := sA τ 3 = sA τ0 3 ∧ KR τ0 τ ∧ ∀ j, j < cj → ∀ b, b < c → sA τ 39 (10 * j + b) = oi (gkN τ0 j b)
theorem KR_at (τ : xS) (p : Int32) : KR τ (atT τ p 0 0) := KR_trans (KR_trans (KR_I _ _ (by decide)) (KR_I _ _ (by decide))) (KR_I _ _ (by decide))
theorem R_gains {σ τ0 : xS} (hS : SimSt σ τ0) {c cj : Nat} (e2 : sA τ0 3 0 = nI c) (hc : c ≤ 10) (f2 : sA τ0 3 4 = nI cj) (hcj : cj ≤ 8) {j : Nat} (hj : j < cj) (k9 : Int32 → Int32 → xS → Option (Unit × xS)) (m : Nat) : ∀ (n i : Nat) (τ : xS), m < n → i + m = c → sA τ 3 = sA τ0 3 → KR τ0 τ → (∀ b, b < i → sA τ 39 (10 * j + b) = oi (gkN τ0 j b)) → (∀ j', j' < j → ∀ b, b < c → sA τ 39 (10 * j' + b) = oi (gkN τ0 j' b)) → ∃ τ', F_X12_findKeeps_21 k9 n (nI c) (nI j) (nI i) τ = k9 (nI c) (nI (j + 1)) τ' ∧ sA τ' 3 = sA τ0 3 ∧ KR τ0 τ' ∧ ∀ j', j' < j + 1 → ∀ b, b < c → sA τ' 39 (10 * j' + b) = oi (gkN τ0 j' b) := by
  induction m with
  | zero =>
    intro n i τ hn hi h3 hR hg hg2
    obtain ⟨n, rfl⟩ : ∃ q, n = q + 1 := ⟨n - 1, by omega⟩
    obtain rfl : i = c := by omega
    rw [F_X12_findKeeps_21, if_pos (nI_le (by omega) (by omega)), nm_eq2, nI_1]
    refine ⟨τ, rfl, h3, hR, fun j' hj' b hb => ?_⟩
    by_cases e : j' = j
    · rw [e]
      exact hg b hb
    · exact hg2 j' (by omega) b hb
  | succ m ih =>
    intro n i τ hn hi h3 hR hg hg2
    obtain ⟨n, rfl⟩ : ∃ q, n = q + 1 := ⟨n - 1, by omega⟩
    have ei : (99 : Int32) + 3 * nI j = nI (99 + 3 * j) := by
      show nI 99 + nI 3 * nI j = _
      rw [pk_mul, nI_add]
    have ei2 : nI (99 + 3 * j) + 2 = nI (99 + 3 * j + 2) := nI_add _ 2
    have ex : (10 : Int32) * nI j + nI i = nI (10 * j + i) := by
      show nI 10 * nI j + nI i = _
      rw [pk_mul, nI_add]
    have hof : F_X12_ofBook (nI i) 0 τ = some (sA τ0 3 (13 + 5 * i), τ) := by
      rw [show F_X12_ofBook (nI i) 0 τ = _ from R_ofBook (i := i) (w := 0) (by omega) (by decide) τ, h3]
      rfl
    have hset : ∀ (τ1 : xS) (x : Int32), sA τ1 3 = sA τ0 3 → KR τ0 τ1 → sA τ1 39 = sA τ 39 → x = oi (gkN τ0 j i) → ∃ τ', F_X12_findKeeps_80 k9 (F_X12_findKeeps_21 k9 n) (nI c) (nI j) (nI i) (nI (10 * j + i)) x τ1 = k9 (nI c) (nI (j + 1)) τ' ∧ sA τ' 3 = sA τ0 3 ∧ KR τ0 τ' ∧ ∀ j', j' < j + 1 → ∀ b, b < c → sA τ' 39 (10 * j' + b) = oi (gkN τ0 j' b) := by
      intro τ1 x g3 gR g39 hx
      unfold F_X12_findKeeps_80
      rw [ck_n (by omega) (by decide), nm_eq2, nm_eq2, nI_1, nI_clamp (by omega)]
      refine ih n (i + 1) (uA τ1 39 (upd (sA τ1 39) (10 * j + i) x)) (by omega) (by omega) g3 (KR_trans gR (KR_A τ1 _ (k := 39) (by decide))) (fun b hb => ?_) (fun j' hj' b hb => ?_)
      · rw [sA_s]
        unfold upd
        by_cases e : b = i
        · rw [if_pos (by omega), e]
          exact hx
        · rw [if_neg (by omega), g39]
          exact hg b (by omega)
      · rw [sA_s]
        unfold upd
        rw [if_neg (by omega), g39]
        exact hg2 j' hj' b hb
    rw [F_X12_findKeeps_21, if_neg (nI_ge (by omega) (by omega)), ei, ei2, ex, rd_n (by omega) (by decide), h3, hof, bd_eq]
    by_cases hk : sA τ0 3 (99 + 3 * j) = sA τ0 3 (13 + 5 * i)
    · obtain ⟨u1, u2⟩ := su_ok hS (j := j) (by omega)
      obtain ⟨τ1, w1, w2⟩ := wt_R hS (b := i) (j := j) (by omega) (by omega) h3
      rw [if_pos hk, rd_n (by omega) (by decide), show sA τ 3 (99 + 3 * j + 2) = nI (suN τ0 j) from (congrFun h3 _).trans u2, w1, bd_eq, pk_mul]
      refine hset τ1 _ ((w2.1 3).trans h3) (KR_trans hR (KR_trans (KR_at τ _) (KR_T w2))) (w2.1 39) ?_
      unfold gkN
      rw [if_pos hk]
      rfl
    · rw [if_neg hk]
      refine hset τ _ h3 hR rfl ?_
      unfold gkN
      rw [if_neg hk]
      rfl
def RKp (τ0 : xS) (c cj i : Nat) (τ : xS) : Prop := RG τ0 c cj τ ∧ ∀ j, i ≤ j → j ≤ cj → ∀ S, S < 2 ^ c → sA τ 38 (1024 * j + S) = nI (keN τ0 c cj (cj - j) S)
theorem R_scan {σ τ0 : xS} (hS : SimSt σ τ0) {c cj : Nat} (e1 : sI σ 131 = nI c) (hc : c ≤ 10) (f1 : sI σ 195 = nI cj) (hcj : cj ≤ 8) {j : Nat} (hj : j < cj) {S : Nat} (hSc : S < 2 ^ c) (k135 : Int32 → Int32 → xS → Option (Unit × xS)) (k141 : Int32 → Int32 → Int32 → xS → Option (Unit × xS)) {τ : xS} (hK : RKp τ0 c cj (j + 1) τ) (m : Nat) : ∀ (n i : Nat), m < n → i + m = c → F_X12_findKeeps_167 k135 k141 n (nI c) (nI j) (nI S) (nI (mxK (gkN τ0 j) (keN τ0 c cj (cj - (j + 1))) S i)) (nI i) τ = k141 (nI c) (nI j) (nI (S + 1)) (uA τ 38 (upd (sA τ 38) (1024 * j + S) (nI (keN τ0 c cj (cj - j) S)))) := by
  have hp2 : 2 ^ c ≤ 1024 := Nat.le_trans (Nat.pow_le_pow_right (by decide) hc) (by decide)
  have hkb := ke_le hS e1 hc f1 hcj (cj - (j + 1)) (by omega)
  have hgl : ∀ b v, b < c → gkN τ0 j b = some v → v ≤ 99900 := fun b v hb hv => gk_le hS e1 hc hb f1 hcj hj hv
  have hkb2 : (cj - (j + 1)) * 99900 ≤ 8 * 99900 := Nat.mul_le_mul_right _ (by omega)
  have hmx : ∀ i, i ≤ c → mxK (gkN τ0 j) (keN τ0 c cj (cj - (j + 1))) S i ≤ 99900 + (cj - (j + 1)) * 99900 := fun i hi => mxK_le i (fun b v hb hv => hgl b v (by omega) hv) hkb
  have hev : cj - 1 - (cj - (j + 1)) = j := by omega
  have hke : keN τ0 c cj (cj - j) S = mxK (gkN τ0 j) (keN τ0 c cj (cj - (j + 1))) S c := by
    rw [show cj - j = cj - (j + 1) + 1 by omega, keN, hev]
  induction m with
  | zero =>
    intro n i hn hi
    obtain ⟨n, rfl⟩ : ∃ q, n = q + 1 := ⟨n - 1, by omega⟩
    obtain rfl : i = c := by omega
    have ex : (1024 : Int32) * nI j + nI S = nI (1024 * j + S) := by
      show nI 1024 * nI j + nI S = _
      rw [pk_mul, nI_add]
    rw [F_X12_findKeeps_167, if_pos (nI_le (by omega) (by omega)), ex, ck_n (by omega) (by decide), nm_eq2, nm_eq2, nI_1, nI_clamp (by omega), hke]
  | succ m ih =>
    intro n i hn hi
    obtain ⟨n, rfl⟩ : ∃ q, n = q + 1 := ⟨n - 1, by omega⟩
    have hmi := hmx i (by omega)
    have hnext := ih n (i + 1) (by omega) (by omega)
    rw [mxK] at hnext
    have ex : (10 : Int32) * nI j + nI i = nI (10 * j + i) := by
      show nI 10 * nI j + nI i = _
      rw [pk_mul, nI_add]
    have hno : (F_X12_findKeeps_167 k135 k141 n (nI c) (nI j) (nI S) (nI (mxK (gkN τ0 j) (keN τ0 c cj (cj - (j + 1))) S i)) (nI (i + 1)) τ = k141 (nI c) (nI j) (nI (S + 1)) (uA τ 38 (upd (sA τ 38) (1024 * j + S) (nI (keN τ0 c cj (cj - j) S))))) → F_X12_findKeeps_198 k135 k141 (F_X12_findKeeps_167 k135 k141 n) (nI c) (nI j) (nI S) (nI (mxK (gkN τ0 j) (keN τ0 c cj (cj - (j + 1))) S i)) (nI i) τ = k141 (nI c) (nI j) (nI (S + 1)) (uA τ 38 (upd (sA τ 38) (1024 * j + S) (nI (keN τ0 c cj (cj - j) S)))) := by
      intro hq
      unfold F_X12_findKeeps_198 F_X12_findKeeps_234
      rw [if_pos (show (-1 : Int32) ≤ nI _ from Int32.le_trans (by decide) (nI_pos' (n := mxK (gkN τ0 j) (keN τ0 c cj (cj - (j + 1))) S i) (by omega))), nm_eq2, nI_1]
      exact hq
    have hrd : sA τ 39 (10 * j + i) = oi (gkN τ0 j i) := hK.1.2.2 j hj i (by omega)
    rw [F_X12_findKeeps_167, if_neg (nI_ge (by omega) (by omega)), R_is (by omega) (by omega), bd_eq, ib2]
    by_cases hb : S.testBit i = true
    · rw [if_pos hb]
      refine hno ?_
      cases hq : gkN τ0 j i with
      | none =>
        rw [hq] at hnext
        exact hnext
      | some v =>
        rw [hq] at hnext
        have hnext2 : F_X12_findKeeps_167 k135 k141 n (nI c) (nI j) (nI S) (nI (if S.testBit i = true then mxK (gkN τ0 j) (keN τ0 c cj (cj - (j + 1))) S i else max (mxK (gkN τ0 j) (keN τ0 c cj (cj - (j + 1))) S i) (v + keN τ0 c cj (cj - (j + 1)) (S ||| 2 ^ i)))) (nI (i + 1)) τ = _ := hnext
        rw [if_pos hb] at hnext2
        exact hnext2
    · rw [if_neg hb, ex, rd_n (by omega) (by decide), hrd]
      cases hq : gkN τ0 j i with
      | none =>
        rw [hq] at hnext
        rw [if_pos (show oi none = -1 from rfl)]
        exact hno hnext
      | some v =>
        rw [hq] at hnext hrd
        have hnext2 : F_X12_findKeeps_167 k135 k141 n (nI c) (nI j) (nI S) (nI (if S.testBit i = true then mxK (gkN τ0 j) (keN τ0 c cj (cj - (j + 1))) S i else max (mxK (gkN τ0 j) (keN τ0 c cj (cj - (j + 1))) S i) (v + keN τ0 c cj (cj - (j + 1)) (S ||| 2 ^ i)))) (nI (i + 1)) τ = _ := hnext
        rw [if_neg hb] at hnext2
        have hv := hgl i v (by omega) hq
        have hor : S ||| 2 ^ i < 2 ^ c := or_lt hSc (by omega)
        have hk2 := hkb (S ||| 2 ^ i)
        have ey : (1024 : Int32) * (nI j + 1) + (nI S ||| (1 : Int32) <<< (nI i &&& 31)) = nI (1024 * (j + 1) + (S ||| 2 ^ i)) := by
          rw [nI_1, sl_i (by omega), or_n]
          show nI 1024 * nI (j + 1) + _ = _
          rw [pk_mul, nI_add]
        rw [if_neg (show ¬ oi (some v) = -1 from nI_m1 (by omega)), rd_n (by omega) (by decide), hrd, ey, rd_n (by omega) (by decide), hK.2 (j + 1) (Nat.le_refl _) (by omega) _ hor]
        show F_X12_findKeeps_234 k135 k141 (F_X12_findKeeps_167 k135 k141 n) (nI c) (nI j) (nI S) _ (nI i) (nI v + nI _) τ = _
        rw [nI_add]
        unfold F_X12_findKeeps_234
        by_cases hle : v + keN τ0 c cj (cj - (j + 1)) (S ||| 2 ^ i) ≤ mxK (gkN τ0 j) (keN τ0 c cj (cj - (j + 1))) S i
        · rw [if_pos (nI_le hle (by omega)), nm_eq2, nI_1]
          rw [Nat.max_eq_left hle] at hnext2
          exact hnext2
        · rw [if_neg (nI_ge (by omega) (by omega)), nm_eq2, nI_1]
          rw [Nat.max_eq_right (by omega)] at hnext2
          exact hnext2
theorem R_sets {σ τ0 : xS} (hS : SimSt σ τ0) {c cj : Nat} (e1 : sI σ 131 = nI c) (hc : c ≤ 10) (f1 : sI σ 195 = nI cj) (hcj : cj ≤ 8) {j : Nat} (hj : j < cj) (k135 : Int32 → Int32 → xS → Option (Unit × xS)) (m : Nat) : ∀ (n S : Nat) (τ : xS), m < n → S + m = 2 ^ c → RKp τ0 c cj (j + 1) τ → (∀ X, X < S → sA τ 38 (1024 * j + X) = nI (keN τ0 c cj (cj - j) X)) → ∃ τ', F_X12_findKeeps_141 k135 n (nI c) (nI j) (nI S) τ = k135 (nI c) (nI j - 1) τ' ∧ RKp τ0 c cj j τ' := by
  have hp2 : 2 ^ c ≤ 1024 := Nat.le_trans (Nat.pow_le_pow_right (by decide) hc) (by decide)
  induction m with
  | zero =>
    intro n S τ hn hm hK hX
    obtain ⟨n, rfl⟩ : ∃ q, n = q + 1 := ⟨n - 1, by omega⟩
    rw [F_X12_findKeeps_141, sl_i (by omega), if_pos (nI_le (by omega) (by omega)), nm_eq2, show nI j + (-1) = nI j - 1 from (Int32.sub_eq_add_neg ..).symm]
    refine ⟨τ, rfl, hK.1, fun i hi hi2 X hXc => ?_⟩
    by_cases e : i = j
    · rw [e]
      exact hX X (by omega)
    · exact hK.2 i (by omega) hi2 X hXc
  | succ m ih =>
    intro n S τ hn hm hK hX
    obtain ⟨n, rfl⟩ : ∃ q, n = q + 1 := ⟨n - 1, by omega⟩
    have ey : (1024 : Int32) * (nI j + 1) + nI S = nI (1024 * (j + 1) + S) := by
      rw [nI_1]
      show nI 1024 * nI (j + 1) + nI S = _
      rw [pk_mul, nI_add]
    have hsc := R_scan hS e1 hc f1 hcj hj (S := S) (by omega) k135 (F_X12_findKeeps_141 k135 n) hK c FU 0 (by unfold FU; omega) (by omega)
    have e0 : nI 0 = (0 : Int32) := rfl
    rw [e0, show mxK (gkN τ0 j) (keN τ0 c cj (cj - (j + 1))) S 0 = keN τ0 c cj (cj - (j + 1)) S from rfl] at hsc
    rw [F_X12_findKeeps_141, sl_i (by omega), if_neg (nI_ge (by omega) (by omega)), ey, rd_n (by omega) (by decide), hK.2 (j + 1) (Nat.le_refl _) (by omega) S (by omega), nm_eq2, hsc]
    refine ih n (S + 1) _ (by omega) (by omega) ⟨⟨hK.1.1, KR_trans hK.1.2.1 (KR_A τ _ (k := 38) (by decide)), hK.1.2.2⟩, fun i hi hi2 X hXc => ?_⟩ (fun X hX2 => ?_)
    · rw [sA_s]
      unfold upd
      rw [if_neg (by omega)]
      exact hK.2 i hi hi2 X hXc
    · rw [sA_s]
      unfold upd
      by_cases e : X = S
      · rw [if_pos (by omega), e]
      · rw [if_neg (by omega)]
        exact hX X (by omega)
theorem R_cards {σ τ0 : xS} (hS : SimSt σ τ0) {c cj : Nat} (e1 : sI σ 131 = nI c) (hc : c ≤ 10) (f1 : sI σ 195 = nI cj) (hcj : cj ≤ 8) (m : Nat) : ∀ (n : Nat) (y : Int32) (τ : xS), m < n → y = nI m - 1 → m ≤ cj → RKp τ0 c cj m τ → ∃ τ', F_X12_findKeeps_135 n (nI c) y τ = some ((), τ') ∧ RKp τ0 c cj 0 τ' := by
  have hp2 : 2 ^ c ≤ 1024 := Nat.le_trans (Nat.pow_le_pow_right (by decide) hc) (by decide)
  induction m with
  | zero =>
    intro n y τ hn hy hm hK
    obtain ⟨n, rfl⟩ : ∃ q, n = q + 1 := ⟨n - 1, by omega⟩
    rw [F_X12_findKeeps_135, hy, if_pos (by decide)]
    exact ⟨τ, rfl, hK⟩
  | succ m ih =>
    intro n y τ hn hy hm hK
    obtain ⟨n, rfl⟩ : ∃ q, n = q + 1 := ⟨n - 1, by omega⟩
    have ey : y = nI m := by rw [hy]; exact pk_sub (a := m + 1) (b := 1) (by omega)
    obtain ⟨τ1, t1, t2⟩ := R_sets hS e1 hc f1 hcj (j := m) (by omega) (F_X12_findKeeps_135 n) (2 ^ c) FU 0 τ (by unfold FU; omega) (by omega) hK (fun X hX => absurd hX (Nat.not_lt_zero X))
    have e0 : nI 0 = (0 : Int32) := rfl
    rw [e0] at t1
    rw [F_X12_findKeeps_135, ey, if_neg (nI_pos (by omega)), nm_eq2, t1]
    exact ih n _ τ1 (by omega) rfl (by omega) t2
theorem R_planK {σ τ : xS} (hS : SimSt σ τ) {c cj : Nat} (e1 : sI σ 131 = nI c) (e2 : sA τ 3 0 = nI c) (hc : c ≤ 10) (f1 : sI σ 195 = nI cj) (f2 : sA τ 3 4 = nI cj) (hcj : cj ≤ 8) : ∃ τ', F_X12_findKeeps τ = some ((), τ') ∧ RKp τ c cj 0 τ' := by
  have hp2 : 2 ^ c ≤ 1024 := Nat.le_trans (Nat.pow_le_pow_right (by decide) hc) (by decide)
  have e0 : nI 0 = (0 : Int32) := rfl
  have h95 : ∀ m n S (τ1 : xS), m < n → S + m = 2 ^ c → RG τ c cj τ1 → (∀ X, X < S → sA τ1 38 (1024 * cj + X) = 0) → ∃ τ', F_X12_findKeeps_95 n (nI c) (nI S) τ1 = some ((), τ') ∧ RKp τ c cj 0 τ' := by
    intro m
    induction m with
    | zero =>
      intro n S τ1 hn hm hG hX
      obtain ⟨n, rfl⟩ : ∃ q, n = q + 1 := ⟨n - 1, by omega⟩
      rw [F_X12_findKeeps_95, sl_i (by omega), if_pos (nI_le (by omega) (by omega)), rdL4, hG.1, f2, nm_eq2]
      refine R_cards hS e1 hc f1 hcj cj FU _ τ1 (by unfold FU; omega) rfl (Nat.le_refl _) ⟨hG, fun i hi hi2 X hXc => ?_⟩
      obtain rfl : i = cj := by omega
      rw [hX X (by omega), Nat.sub_self]
      rfl
    | succ m ih =>
      intro n S τ1 hn hm hG hX
      obtain ⟨n, rfl⟩ : ∃ q, n = q + 1 := ⟨n - 1, by omega⟩
      have ex : (1024 : Int32) * nI cj + nI S = nI (1024 * cj + S) := by
        show nI 1024 * nI cj + nI S = _
        rw [pk_mul, nI_add]
      rw [F_X12_findKeeps_95, sl_i (by omega), if_neg (nI_ge (by omega) (by omega)), rdL4, hG.1, f2, ex, ck_n (by omega) (by decide), nm_eq2, nm_eq2, nI_1, nI_clamp (by omega)]
      refine ih n (S + 1) _ (by omega) (by omega) ⟨hG.1, KR_trans hG.2.1 (KR_A τ1 _ (k := 38) (by decide)), hG.2.2⟩ (fun X hX2 => ?_)
      rw [sA_s]
      unfold upd
      by_cases e : X = S
      · rw [if_pos (by omega)]
      · rw [if_neg (by omega)]
        exact hX X (by omega)
  have h9 : ∀ m n j (τ1 : xS), m < n → j + m = cj → sA τ1 3 = sA τ 3 → KR τ τ1 → (∀ j', j' < j → ∀ b, b < c → sA τ1 39 (10 * j' + b) = oi (gkN τ j' b)) → ∃ τ', F_X12_findKeeps_9 n (nI c) (nI j) τ1 = some ((), τ') ∧ RKp τ c cj 0 τ' := by
    intro m
    induction m with
    | zero =>
      intro n j τ1 hn hm h3 hR hg
      obtain ⟨n, rfl⟩ : ∃ q, n = q + 1 := ⟨n - 1, by omega⟩
      obtain rfl : j = cj := by omega
      have h := h95 (2 ^ c) FU 0 τ1 (by unfold FU; omega) (by omega) ⟨h3, hR, hg⟩ (fun X hX => absurd hX (Nat.not_lt_zero X))
      rw [e0] at h
      rw [F_X12_findKeeps_9, rdL4, h3, f2, if_pos (nI_le (by omega) (by omega)), nm_eq2]
      exact h
    | succ m ih =>
      intro n j τ1 hn hm h3 hR hg
      obtain ⟨n, rfl⟩ : ∃ q, n = q + 1 := ⟨n - 1, by omega⟩
      obtain ⟨τ2, t1, t2, t3, t4⟩ := R_gains hS e2 hc f2 hcj (j := j) (by omega) (F_X12_findKeeps_9 n) c FU 0 τ1 (by unfold FU; omega) (by omega) h3 hR (fun b hb => absurd hb (Nat.not_lt_zero b)) hg
      rw [e0] at t1
      rw [F_X12_findKeeps_9, rdL4, h3, f2, if_neg (nI_ge (by omega) (by omega)), nm_eq2, t1]
      exact ih n (j + 1) τ2 (by omega) (by omega) t2 t3 t4
  have h := h9 cj FU 0 τ (by unfold FU; omega) (by omega) rfl (KR_refl τ) (fun j hj => absurd hj (Nat.not_lt_zero j))
  rw [e0] at h
  unfold F_X12_findKeeps
  rw [rdL0, e2, nm_eq2]
  exact h
/-! ===== which book is kept ===== -/
def fbS (g : Nat → Option Nat) (M : Nat → Nat) (S mo : Nat) : Nat → Nat → Option Nat
  | 0, _ => none
  | m + 1, i => match g i with
    | some v => if S.testBit i = false ∧ v + M (S ||| 2 ^ i) = mo then some i else fbS g M S mo m (i + 1)
    | none => fbS g M S mo m (i + 1)
theorem fb_lt {g : Nat → Option Nat} {M : Nat → Nat} {S mo : Nat} (m : Nat) : ∀ i b, fbS g M S mo m i = some b → b < i + m := by
  induction m with
  | zero =>
    intro i b h
    exact (no_some h).elim
  | succ m ih =>
    intro i b h
    rw [fbS] at h
    cases hq : g i with
    | none =>
      rw [hq] at h
      have := ih (i + 1) b h
      omega
    | some v =>
      rw [hq] at h
      have h2 : (if S.testBit i = false ∧ v + M (S ||| 2 ^ i) = mo then some i else fbS g M S mo m (i + 1)) = some b := h
      split at h2
      · cases h2
        omega
      · have := ih (i + 1) b h2
        omega
def fbK (τ : xS) (c cj j S : Nat) : Option Nat := if keN τ c cj (cj - (j + 1)) S = keN τ c cj (cj - j) S then none else fbS (gkN τ j) (keN τ c cj (cj - (j + 1))) S (keN τ c cj (cj - j) S) c 0
theorem C_first {σ0 τ : xS} (hS0 : SimSt σ0 τ) {c cj j : Nat} (e1 : sI σ0 131 = nI c) (hc : c ≤ 10) (f1 : sI σ0 195 = nI cj) (hcj : cj ≤ 8) (hj : j < cj) {σ : xS} (hC : CK σ0 τ c cj 0 σ) {S : Nat} (hS : S < 2 ^ c) (hp : pcN S 10 ≤ j) : F_X3_firstBest (nI j) (nI S) σ = some (oi (fbK τ c cj j S), σ) := by
  have hp2 : 2 ^ c ≤ 1024 := Nat.le_trans (Nat.pow_le_pow_right (by decide) hc) (by decide)
  have e1' : sI σ 131 = nI c := (hC.1.2.1 131 (by decide)).trans e1
  have hkb := ke_le hS0 e1 hc f1 hcj (cj - (j + 1)) (by omega)
  have hkb' := ke_le hS0 e1 hc f1 hcj (cj - j) (by omega)
  have hkb2 : (cj - (j + 1)) * 99900 ≤ 8 * 99900 := Nat.mul_le_mul_right _ (by omega)
  have hkb3 : (cj - j) * 99900 ≤ 8 * 99900 := Nat.mul_le_mul_right _ (by omega)
  have hgl : ∀ b v, b < c → gkN τ j b = some v → v ≤ 99900 := fun b v hb hv => gk_le hS0 e1 hc hb f1 hcj hj hv
  have hm1 := hC.2.2 (j + 1) (by omega) (by omega)
  have hm0 := hC.2.2 j (by omega) (by omega)
  have hK1 := hkb S
  have hK2 := hkb' S
  have hl : ∀ m n i, m < n → i + m = c → F_X3_firstBest_25 n (nI j) (nI S) (nI i) σ = some (oi (fbS (gkN τ j) (keN τ c cj (cj - (j + 1))) S (keN τ c cj (cj - j) S) m i), σ) := by
    intro m
    induction m with
    | zero =>
      intro n i hn hi
      obtain ⟨n, rfl⟩ : ∃ q, n = q + 1 := ⟨n - 1, by omega⟩
      rw [F_X3_firstBest_25, e1', if_pos (nI_le (by omega) (by omega))]
      rfl
    | succ m ih =>
      intro n i hn hi
      obtain ⟨n, rfl⟩ : ∃ q, n = q + 1 := ⟨n - 1, by omega⟩
      have hnext := ih n (i + 1) (by omega) (by omega)
      have hg := hC.2.1 j (by omega) hj i (by omega)
      rw [F_X3_firstBest_25, e1', if_neg (nI_ge (by omega) (by omega)), C_canHave (by omega) (by omega) (by omega) hg (fun v hv => by have := hgl i v (by omega) hv; omega), bd_eq, ib2, fbS]
      cases hq : gkN τ j i with
      | none =>
        rw [if_neg (fun q => q.1 rfl), nm_eq2, nI_1]
        exact hnext
      | some v =>
        have hv := hgl i v (by omega) hq
        show _ = some (oi (if S.testBit i = false ∧ v + keN τ c cj (cj - (j + 1)) (S ||| 2 ^ i) = keN τ c cj (cj - j) S then some i else fbS (gkN τ j) (keN τ c cj (cj - (j + 1))) S (keN τ c cj (cj - j) S) m (i + 1)), σ)
        by_cases hb : S.testBit i = true
        · rw [if_neg (fun q => by rw [hb] at q; exact Bool.noConfusion q.2), if_neg (fun q => by rw [hb] at q; exact Bool.noConfusion q.1), nm_eq2, nI_1]
          exact hnext
        · have hb0 : S.testBit i = false := Bool.eq_false_iff.mpr hb
          have hor : S ||| 2 ^ i < 2 ^ c := or_lt hS (by omega)
          have hpo := pcN_or S i 10
          have hk2 := hkb (S ||| 2 ^ i)
          rw [if_pos ⟨fun q => no_some q.symm, hb0⟩, C_with (by omega) (by omega) (by omega) (hg.trans (by rw [hq]; rfl)) (hm1 _ hor (by omega)), bd_eq, ck_n (by omega) (by decide), nI_clamp (by omega), rd_n (by omega) (by decide), hm0 S hS hp]
          by_cases he : v + keN τ c cj (cj - (j + 1)) (S ||| 2 ^ i) = keN τ c cj (cj - j) S
          · rw [if_pos (by rw [he]), if_pos ⟨hb0, he⟩]
            rfl
          · rw [if_neg (nI_ne (by omega) (by omega) he), if_neg (fun q => he q.2), nm_eq2, nI_1]
            exact hnext
  have h := hl c FU 0 (by unfold FU; omega) (by omega)
  have e0 : nI 0 = (0 : Int32) := rfl
  rw [e0] at h
  unfold F_X3_firstBest fbK
  rw [nI_1, ck_n (by omega) (by decide), nI_clamp (by omega), rd_n (by omega) (by decide), hm1 S hS (by omega), ck_n (by omega) (by decide), nI_clamp (by omega), rd_n (by omega) (by decide), hm0 S hS hp]
  by_cases he : keN τ c cj (cj - (j + 1)) S = keN τ c cj (cj - j) S
  · rw [if_pos (by rw [he]), if_pos he]
    rfl
  · rw [if_neg (nI_ne (by omega) (by omega) he), if_neg he, nm_eq2]
    exact h
theorem R_first {σ τ0 : xS} (hS : SimSt σ τ0) {c cj j : Nat} (e1 : sI σ 131 = nI c) (e2 : sA τ0 3 0 = nI c) (hc : c ≤ 10) (f1 : sI σ 195 = nI cj) (hcj : cj ≤ 8) (hj : j < cj) {τ : xS} (hK : RKp τ0 c cj 0 τ) {S : Nat} (hSc : S < 2 ^ c) (k43 : Int32 → Int32 → Int32 → Int32 → xS → Option (Int32 × xS)) (a1 : Int32) (m : Nat) : ∀ (n i : Nat), m < n → i + m = c → F_X12_keep_96 k43 n a1 (nI S) (-1) (nI j) (nI (keN τ0 c cj (cj - j) S)) 0 (nI i) τ = k43 a1 (nI (tor S (fbS (gkN τ0 j) (keN τ0 c cj (cj - (j + 1))) S (keN τ0 c cj (cj - j) S) m i))) (oi (fbS (gkN τ0 j) (keN τ0 c cj (cj - (j + 1))) S (keN τ0 c cj (cj - j) S) m i)) (nI (j + 1)) τ := by
  have hp2 : 2 ^ c ≤ 1024 := Nat.le_trans (Nat.pow_le_pow_right (by decide) hc) (by decide)
  have hkb := ke_le hS e1 hc f1 hcj (cj - (j + 1)) (by omega)
  have hkb' := ke_le hS e1 hc f1 hcj (cj - j) (by omega)
  have hkb2 : (cj - (j + 1)) * 99900 ≤ 8 * 99900 := Nat.mul_le_mul_right _ (by omega)
  have hkb3 : (cj - j) * 99900 ≤ 8 * 99900 := Nat.mul_le_mul_right _ (by omega)
  have hgl : ∀ b v, b < c → gkN τ0 j b = some v → v ≤ 99900 := fun b v hb hv => gk_le hS e1 hc hb f1 hcj hj hv
  have hK2 := hkb' S
  have h202 : ∀ o : Option Nat, (∀ b, o = some b → b < c) → F_X12_keep_202 k43 a1 (nI S) (oi o) (nI j) τ = k43 a1 (nI (tor S o)) (oi o) (nI (j + 1)) τ := by
    intro o ho
    unfold F_X12_keep_202 F_X12_keep_215
    cases o with
    | none =>
      rw [if_pos (show oi none = -1 from rfl), nm_eq2, nm_eq2, nI_1, show nI S ||| 0 = nI (S ||| 0) from or_n S 0, Nat.or_zero]
      rfl
    | some b =>
      have hb := ho b rfl
      rw [if_neg (show ¬ oi (some b) = -1 from nI_m1 (by omega)), nm_eq2, nm_eq2, nI_1]
      show k43 a1 (nI S ||| (1 : Int32) <<< (nI b &&& 31)) _ _ τ = _
      rw [sl_i (by omega), or_n]
      rfl
  induction m with
  | zero =>
    intro n i hn hi
    obtain ⟨n, rfl⟩ : ∃ q, n = q + 1 := ⟨n - 1, by omega⟩
    rw [F_X12_keep_96, rdL0, hK.1.1, e2, if_pos (nI_le (by omega) (by omega))]
    exact h202 none (fun b hb => (no_some hb).elim)
  | succ m ih =>
    intro n i hn hi
    obtain ⟨n, rfl⟩ : ∃ q, n = q + 1 := ⟨n - 1, by omega⟩
    obtain ⟨n, rfl⟩ : ∃ q, n = q + 1 := ⟨n - 1, by omega⟩
    have hnext := ih (n + 1) (i + 1) (by omega) (by omega)
    have hrd : sA τ 39 (10 * j + i) = oi (gkN τ0 j i) := hK.1.2.2 j hj i (by omega)
    have ex : (10 : Int32) * nI j + nI i = nI (10 * j + i) := by
      show nI 10 * nI j + nI i = _
      rw [pk_mul, nI_add]
    rw [F_X12_keep_96, rdL0, hK.1.1, e2, if_neg (nI_ge (by omega) (by omega)), if_pos rfl, R_is (by omega) (by omega), bd_eq, ib2, fbS]
    unfold F_X12_keep_181
    have hno : ∀ X, (F_X12_keep_96 k43 (n + 1) a1 (nI S) (-1) (nI j) (nI (keN τ0 c cj (cj - j) S)) 0 (nI (i + 1)) τ = X) → F_X12_keep_182 k43 (F_X12_keep_96 k43 (n + 1)) a1 (nI S) (-1) (nI j) (nI (keN τ0 c cj (cj - j) S)) (nI i) 0 τ = X := by
      intro X hX
      unfold F_X12_keep_182
      rw [if_pos rfl, nm_eq2, nI_1]
      exact hX
    by_cases hb : S.testBit i = true
    · rw [if_pos hb]
      refine hno _ ?_
      cases hq : gkN τ0 j i with
      | none => exact hnext
      | some v =>
        show _ = k43 a1 (nI (tor S (if S.testBit i = false ∧ v + keN τ0 c cj (cj - (j + 1)) (S ||| 2 ^ i) = keN τ0 c cj (cj - j) S then some i else fbS (gkN τ0 j) (keN τ0 c cj (cj - (j + 1))) S (keN τ0 c cj (cj - j) S) m (i + 1)))) (oi (if S.testBit i = false ∧ v + keN τ0 c cj (cj - (j + 1)) (S ||| 2 ^ i) = keN τ0 c cj (cj - j) S then some i else fbS (gkN τ0 j) (keN τ0 c cj (cj - (j + 1))) S (keN τ0 c cj (cj - j) S) m (i + 1))) _ τ
        rw [if_neg (fun q => by rw [hb] at q; exact Bool.noConfusion q.1)]
        exact hnext
    · have hb0 : S.testBit i = false := Bool.eq_false_iff.mpr hb
      rw [if_neg hb, ex, rd_n (by omega) (by decide), hrd]
      cases hq : gkN τ0 j i with
      | none =>
        rw [if_pos (show oi none = -1 from rfl)]
        exact hno _ hnext
      | some v =>
        rw [hq] at hrd
        have hv := hgl i v (by omega) hq
        have hor : S ||| 2 ^ i < 2 ^ c := or_lt hSc (by omega)
        have hk2 := hkb (S ||| 2 ^ i)
        have ey : (1024 : Int32) * (nI j + 1) + (nI S ||| (1 : Int32) <<< (nI i &&& 31)) = nI (1024 * (j + 1) + (S ||| 2 ^ i)) := by
          rw [nI_1, sl_i (by omega), or_n]
          show nI 1024 * nI (j + 1) + _ = _
          rw [pk_mul, nI_add]
        rw [if_neg (show ¬ oi (some v) = -1 from nI_m1 (by omega)), rd_n (by omega) (by decide), hrd, ey, rd_n (by omega) (by decide), hK.2 (j + 1) (by omega) (by omega) _ hor]
        show (if nI v + nI _ = _ then _ else _) = k43 a1 (nI (tor S (if S.testBit i = false ∧ v + keN τ0 c cj (cj - (j + 1)) (S ||| 2 ^ i) = keN τ0 c cj (cj - j) S then some i else fbS (gkN τ0 j) (keN τ0 c cj (cj - (j + 1))) S (keN τ0 c cj (cj - j) S) m (i + 1)))) (oi (if S.testBit i = false ∧ v + keN τ0 c cj (cj - (j + 1)) (S ||| 2 ^ i) = keN τ0 c cj (cj - j) S then some i else fbS (gkN τ0 j) (keN τ0 c cj (cj - (j + 1))) S (keN τ0 c cj (cj - j) S) m (i + 1))) _ τ
        rw [nI_add]
        by_cases he : v + keN τ0 c cj (cj - (j + 1)) (S ||| 2 ^ i) = keN τ0 c cj (cj - j) S
        · rw [if_pos (by rw [he]), if_pos ⟨hb0, he⟩]
          unfold F_X12_keep_182
          rw [if_neg (by decide), nm_eq2, F_X12_keep_96, rdL0, hK.1.1, e2, nI_1]
          have h2 := h202 (some i) (fun b hbb => by cases hbb; omega)
          split
          · exact h2
          · rw [if_neg (by decide)]
            exact h2
        · rw [if_neg (nI_ne (by omega) (by omega) he), if_neg (fun q => he q.2)]
          exact hno _ hnext
theorem keep_loop {σ0 τ0 : xS} (hS : SimSt σ0 τ0) {c cj l : Nat} (e1 : sI σ0 131 = nI c) (e2 : sA τ0 3 0 = nI c) (hc : c ≤ 10) (f1 : sI σ0 195 = nI cj) (hcj : cj ≤ 8) (hl : l < cj) {σ τ : xS} (hC : CK σ0 τ0 c cj 0 σ) (hK : RKp τ0 c cj 0 τ) (m : Nat) : ∀ (n f j S : Nat) (y : Int32), m < n → m < f → j + m = l + 1 → S < 2 ^ c → pcN S 10 ≤ j → ∃ r, F_X3_bookFor_7 n (nI l) (nI S) y (nI j) σ = some (r, σ) ∧ F_X12_keep_43 f (nI l) (nI S) y (nI j) τ = some (r, τ) := by
  have hp2 : 2 ^ c ≤ 1024 := Nat.le_trans (Nat.pow_le_pow_right (by decide) hc) (by decide)
  have e0 : nI 0 = (0 : Int32) := rfl
  induction m with
  | zero =>
    intro n f j S y hn hf hj hSc hp
    obtain ⟨n, rfl⟩ : ∃ q, n = q + 1 := ⟨n - 1, by omega⟩
    obtain ⟨f, rfl⟩ : ∃ q, f = q + 1 := ⟨f - 1, by omega⟩
    rw [F_X3_bookFor_7, F_X12_keep_43, if_pos (nI_lt (by omega) (by omega)), if_pos (nI_lt (by omega) (by omega))]
    exact ⟨y, rfl, rfl⟩
  | succ m ih =>
    intro n f j S y hn hf hj hSc hp
    obtain ⟨n, rfl⟩ : ∃ q, n = q + 1 := ⟨n - 1, by omega⟩
    obtain ⟨f, rfl⟩ : ∃ q, f = q + 1 := ⟨f - 1, by omega⟩
    have hkb := ke_le hS e1 hc f1 hcj (cj - (j + 1)) (by omega) S
    have hkb' := ke_le hS e1 hc f1 hcj (cj - j) (by omega) S
    have hkb2 : (cj - (j + 1)) * 99900 ≤ 8 * 99900 := Nat.mul_le_mul_right _ (by omega)
    have hkb3 : (cj - j) * 99900 ≤ 8 * 99900 := Nat.mul_le_mul_right _ (by omega)
    have ex : (1024 : Int32) * nI j + nI S = nI (1024 * j + S) := by
      show nI 1024 * nI j + nI S = _
      rw [pk_mul, nI_add]
    have ey : (1024 : Int32) * (nI j + 1) + nI S = nI (1024 * (j + 1) + S) := by
      rw [nI_1]
      show nI 1024 * nI (j + 1) + nI S = _
      rw [pk_mul, nI_add]
    have hfb : ∀ b, fbK τ0 c cj j S = some b → b < c := by
      intro b hb
      unfold fbK at hb
      split at hb
      · exact (no_some hb).elim
      · have := fb_lt c 0 b hb
        omega
    have hR : F_X12_keep_43 (f + 1) (nI l) (nI S) y (nI j) τ = F_X12_keep_43 f (nI l) (nI (tor S (fbK τ0 c cj j S))) (oi (fbK τ0 c cj j S)) (nI (j + 1)) τ := by
      rw [F_X12_keep_43, if_neg (nI_nlt (by omega) (by omega)), nm_eq2, ex, rd_n (by omega) (by decide), ey, rd_n (by omega) (by decide), hK.2 j (by omega) (by omega) S hSc, hK.2 (j + 1) (by omega) (by omega) S hSc]
      unfold fbK
      by_cases he : keN τ0 c cj (cj - (j + 1)) S = keN τ0 c cj (cj - j) S
      · rw [if_pos (by rw [he]), if_pos he, nm_eq2, nm_eq2, show FU = 99999 + 1 from rfl, F_X12_keep_96, rdL0, hK.1.1, e2]
        have h202 : F_X12_keep_202 (F_X12_keep_43 f) (nI l) (nI S) (-1) (nI j) τ = F_X12_keep_43 f (nI l) (nI (tor S none)) (oi none) (nI (j + 1)) τ := by
          unfold F_X12_keep_202 F_X12_keep_215
          rw [if_pos rfl, nm_eq2, nm_eq2, nI_1, show nI S ||| 0 = nI (S ||| 0) from or_n S 0, Nat.or_zero]
          rfl
        split
        · exact h202
        · rw [if_neg (by decide)]
          exact h202
      · have h := R_first hS e1 e2 hc f1 hcj (j := j) (by omega) hK hSc (F_X12_keep_43 f) (nI l) c FU 0 (by unfold FU; omega) (by omega)
        rw [e0] at h
        rw [if_neg (nI_ne (by omega) (by omega) he), if_neg he, nm_eq2, nm_eq2, h]
    rw [hR, F_X3_bookFor_7, if_neg (nI_nlt (by omega) (by omega)), C_first hS e1 hc f1 hcj (j := j) (by omega) hC hSc hp, bd_eq]
    cases hq : fbK τ0 c cj j S with
    | none =>
      rw [if_pos (show oi none = -1 from rfl), nm_eq2, nI_1]
      exact ih n f (j + 1) S _ (by omega) (by omega) (by omega) hSc (by omega)
    | some b =>
      have hb := hfb b hq
      have hpo := pcN_or S b 10
      rw [if_neg (show ¬ oi (some b) = -1 from nI_m1 (by omega)), nm_eq2, nm_eq2, nI_1]
      show ∃ r, F_X3_bookFor_7 n (nI l) (nI S ||| (1 : Int32) <<< (nI b &&& 31)) (nI b) (nI (j + 1)) σ = _ ∧ _
      rw [sl_i (by omega), or_n]
      exact ih n f (j + 1) (S ||| 2 ^ b) (nI b) (by omega) (by omega) (by omega) (or_lt hSc hb) (by omega)
theorem st_keep : ∀ (σ τ : xS), Sim σ τ → ∀ (a1 : Int32), ∃ (r : Int32) (σ1 τ1 : xS), F_X11_keep a1 σ = some (r, σ1) ∧ F_X12_keep a1 τ = some (r, τ1) ∧ Sim σ1 τ1 := by
  intro σ τ0 h0 a1
  have h := Sim_thr h0
  unfold F_X11_keep F_X12_keep
  simp only [nm_eq2]
  generalize uI τ0 0 0 = τ at h ⊢
  obtain ⟨c, hc, e1, e2⟩ := cnt0 h.1
  obtain ⟨cj, hcj, f1, f2⟩ := cnt2 h.1
  have hp2 : 2 ^ c ≤ 1024 := Nat.le_trans (Nat.pow_le_pow_right (by decide) hc) (by decide)
  have hIC : F_X12_isCard a1 τ = some (b2 (0 ≤ a1 ∧ a1 < nI cj), τ) := by rw [R_isCard, f2]
  obtain ⟨σ', q1, q2⟩ := C_planK h.1 e1 hc f1 hcj
  obtain ⟨τ', r1, r2⟩ := R_planK h.1 e1 e2 hc f1 f2 hcj
  have hf : Sim σ' τ' := Sim_keep h q2.1 r2.1.2.1
  have e0 : nI 0 = (0 : Int32) := rfl
  by_cases p : a1 = -1
  · subst p
    rw [if_pos rfl, if_pos rfl]
    unfold F_X11_keep_21 F_X12_keep_20 F_X3_total
    have c0 := q2.2.2 0 (Nat.le_refl _) (Nat.zero_le _) 0 (Nat.two_pow_pos c) (by decide)
    have c1 := r2.2 0 (Nat.le_refl _) (Nat.zero_le _) 0 (Nat.two_pow_pos c)
    rw [q1, bd_eq, if_pos rfl, r1, bd_eq, if_pos rfl, show ck 9 0 (rd 1024 (sA σ' (80 + (0 : Int32).toNatClampNeg)) 0 fun v2 => some (v2, σ')) = _ from ck_n (n := 9) (i := 0) (by decide) (by decide) _, show rd 1024 (sA σ' (80 + (0 : Int32).toNatClampNeg)) 0 (fun v2 => some (v2, σ')) = _ from rd_n (i := 0) (by decide) (by decide) _, bd_eq, show rd 9216 (sA τ' 38) 0 (fun v8 => some (v8, τ')) = _ from rd_n (i := 0) (by decide) (by decide) _]
    have c0' : sA σ' (80 + (0 : Int32).toNatClampNeg) 0 = nI (keN τ c cj (cj - 0) 0) := c0
    have c1' : sA τ' 38 0 = nI (keN τ c cj (cj - 0) 0) := c1
    rw [c0', c1']
    exact ⟨_, _, _, rfl, rfl, hf⟩
  · rw [if_neg p, if_neg p, has_if 2 a1 σ f1, hIC, bd_eq, ib2, ib2]
    by_cases p2 : 0 ≤ a1 ∧ a1 < nI cj
    rotate_left
    · rw [if_neg p2, if_neg p2]
      exact ⟨_, _, _, rfl, rfl, h⟩
    obtain ⟨l, hl, rfl⟩ := idxlt p2 rfl (by omega)
    rw [if_pos p2, if_pos p2]
    obtain ⟨r, s1, s2⟩ := keep_loop h.1 e1 e2 hc f1 hcj hl q2 r2 (l + 1) FU FU 0 0 (-1) (by unfold FU; omega) (by unfold FU; omega) (by omega) (Nat.two_pow_pos c) (by decide)
    rw [e0] at s1 s2
    have s1' : F_X3_bookFor (nI l) σ' = some (r, σ') := by
      unfold F_X3_bookFor
      rw [nm_eq2, nm_eq2, nm_eq2]
      exact s1
    unfold F_X11_keep_21 F_X12_keep_20
    rw [q1, bd_eq, if_neg p, s1', bd_eq, r1, bd_eq, if_neg p, nm_eq2, nm_eq2, nm_eq2, s2]
    exact ⟨_, _, _, rfl, rfl, hf⟩
end
