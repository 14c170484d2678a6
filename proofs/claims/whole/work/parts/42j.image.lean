/-! ===== pure steps: image, back ===== -/
theorem lawRel_congr {p : xP} {f g : Nat → Int32} (e : ∀ k, k < 900 → f k = g k) (h : lawRel p f) : lawRel p g := by
  obtain ⟨m, z, hd, st, a, b, d, K, R, sm, cd, h1, h2, h3, h4, h5, h6, h7, h8, h9, h10, h11⟩ := h
  refine ⟨m, z, hd, st, a, b, d, K, R, sm, cd, h1, h2, h3, h4, ?_, h6, ⟨h7.1, fun k hk => ?_⟩, fun c hc => ?_, h9, fun c hc => ?_, h11⟩
  · rw [← e 1 (by decide)]
    exact h5
  · have hz := h7.1
    rw [← e (98 + 2 * k) (by omega), ← e (98 + 2 * k + 1) (by omega)]
    exact h7.2 k hk
  · rw [← e (2 + 8 * c) (by omega)]
    exact h8 c hc
  · rw [← e (2 + 8 * c + 3) (by omega), ← e (2 + 8 * c + 4) (by omega), ← e (2 + 8 * c + 5) (by omega), ← e (2 + 8 * c + 6) (by omega)]
    exact h10 c hc
theorem segOK_congr {f g : Nat → Int32} (e : ∀ k, k < 145 → f k = g k) (h : segOK f) : segOK g := by
  refine ⟨fun k hk => ?_, ?_, fun i hi => ?_⟩
  · rw [← e k hk]
    exact h.1 k hk
  · rw [← e 1 (by decide), ← e 2 (by decide)]
    exact h.2.1
  · rw [← e (64 + 3 * i) (by omega), ← e (63 + 3 * i) (by omega), ← e 3 (by decide)]
    exact h.2.2 i hi
theorem lawsOK_im {σ σ' : xS} {t t' : Nat} {ρ ρ' : Nat → Int32} (h : lawsOK σ t ρ) (h6 : (ρ 1).toInt ≤ 6) (hq : ∀ j, j < 6 → sQ σ' (41 + t') j = sQ σ (41 + t) j) (hp : sP σ' = sP σ) (e : ∀ k, k < 5550 → ρ k = ρ' k) : lawsOK σ' t' ρ' := by
  intro i hi
  rw [← e 1 (by decide)] at hi
  obtain ⟨d, p, a1, a2, a3⟩ := h i hi
  exact ⟨d, p, by rw [hq i (by omega)]; exact a1, by rw [hp]; exact a2, lawRel_congr (fun k hk => e _ (by omega)) a3⟩
theorem up_self {α : Type} (f : Nat → α) (k : Nat) : va_up f k (f k) = f := by
  funext q
  unfold va_up
  by_cases h : q = k
  · rw [if_pos h, h]
  · rw [if_neg h]
theorem uQ_self (σ : xS) (k : Nat) : uQ σ k (sQ σ k) = σ := by
  show (σ.1, σ.2.1, σ.2.2.1, σ.2.2.2.1, va_up σ.2.2.2.2.1 k (σ.2.2.2.2.1 k), σ.2.2.2.2.2) = σ
  rw [up_self]
theorem uA_self (σ : xS) (k : Nat) : uA σ k (sA σ k) = σ := by
  show (va_up σ.1 k (σ.1 k), σ.2) = σ
  rw [up_self]
theorem uQ_uQ (σ : xS) (k : Nat) (f g : Nat → Option Nat) : uQ (uQ σ k f) k g = uQ σ k g := by
  show ((σ.1, σ.2.1, σ.2.2.1, σ.2.2.2.1, va_up (va_up σ.2.2.2.2.1 k f) k g, σ.2.2.2.2.2) : xS) = (σ.1, σ.2.1, σ.2.2.1, σ.2.2.2.1, va_up σ.2.2.2.2.1 k g, σ.2.2.2.2.2)
  rw [up_up]
theorem bec6 {r r1 L : Nat} (h : lenR r = L) (h1 : lenR r1 = L) (hL : L ≤ 60) (σ : xS) : F_X6_becomeAs r r1 σ = some ((), uI (uA σ (9 + 2 * r) (va_cpy (sA σ (9 + 2 * r1)) (sA σ (9 + 2 * r)) 0 0 L)) (16 * (8 + 2 * r) + 3) (sI σ (16 * (8 + 2 * r1) + 3))) := by
  unfold F_X6_becomeAs
  have e : mnI (Int32.ofNat L) (Int32.ofNat L) = nI L := by
    unfold mnI
    split <;> rfl
  rw [h, h1, e, nI_clamp (show L < 2 ^ 31 by omega), show cp L L 0 0 (nI L) _ = _ from cp_y (n0 := L) (n1 := L) (a := 0) (b := 0) (n := L) (by omega) (by omega) (by omega) (by omega) (by omega) _]
  rfl
theorem bec_loop {t t1 : Nat} (hne : t1 ≠ t) (ht : t < 3) (ht1 : t1 < 3) (m : Nat) : ∀ (n y : Nat) (σ : xS), m < n → y + m = 6 → qIn σ → F_X7_becomeAs_72 t t1 n (nI y) σ = some ((), uI (uI (uQ σ (41 + t) (fun j => if y ≤ j ∧ j < 6 then sQ σ (41 + t1) j else sQ σ (41 + t) j)) (16 * (5 + t) + 7) (sI σ (16 * (5 + t1) + 7))) (16 * (5 + t) + 8) (sI σ (16 * (5 + t1) + 8))) := by
  induction m with
  | zero =>
    intro n y σ hn hy hq
    obtain ⟨n, rfl⟩ : ∃ q, n = q + 1 := ⟨n - 1, by omega⟩
    obtain rfl : y = 6 := by omega
    have e : (fun j => if 6 ≤ j ∧ j < 6 then sQ σ (41 + t1) j else sQ σ (41 + t) j) = sQ σ (41 + t) := by
      funext j
      exact if_neg (by omega)
    rw [F_X7_becomeAs_72, if_pos (show (6 : Int32) ≤ nI 6 by decide), nm_eq, nm_eq, sI_uI, if_neg (show 16 * (5 + t1) + 8 ≠ 16 * (5 + t) + 7 by omega), e, uQ_self]
  | succ m ih =>
    intro n y σ hn hy hq
    obtain ⟨n, rfl⟩ : ∃ q, n = q + 1 := ⟨n - 1, by omega⟩
    have step : ∀ v, sQ σ (41 + t1) y = v → F_X7_becomeAs_72 t t1 n (nI (y + 1)) (uQ σ (41 + t) (va_up (sQ σ (41 + t)) y v)) = some ((), uI (uI (uQ σ (41 + t) (fun j => if y ≤ j ∧ j < 6 then sQ σ (41 + t1) j else sQ σ (41 + t) j)) (16 * (5 + t) + 7) (sI σ (16 * (5 + t1) + 7))) (16 * (5 + t) + 8) (sI σ (16 * (5 + t1) + 8))) := by
      intro v hv
      have hs : ∀ a, sQ (uQ σ (41 + t) (va_up (sQ σ (41 + t)) y v)) a = if a = 41 + t then va_up (sQ σ (41 + t)) y v else sQ σ a := fun a => rfl
      rw [ih n (y + 1) _ (by omega) (by omega) (fun a j i ha hz => ?_), uQ_uQ, hs, hs, if_neg (by omega), if_pos rfl]
      · have ef : (fun j => if y + 1 ≤ j ∧ j < 6 then sQ σ (41 + t1) j else va_up (sQ σ (41 + t)) y v j) = fun j => if y ≤ j ∧ j < 6 then sQ σ (41 + t1) j else sQ σ (41 + t) j := by
          funext j
          unfold va_up
          by_cases h1 : j = y
          · subst h1
            rw [if_neg (by omega), if_pos rfl, if_pos (by omega), hv]
          · by_cases h2 : y ≤ j ∧ j < 6
            · rw [if_pos (by omega), if_pos h2]
            · rw [if_neg (by omega), if_neg h1, if_neg h2]
        rw [ef]
        rfl
      · rw [hs] at hz
        show i < (sP σ).length
        by_cases h1 : 41 + a = 41 + t
        · rw [if_pos h1] at hz
          unfold va_up at hz
          by_cases h2 : j = y
          · rw [if_pos h2, ← hv] at hz
            exact hq t1 y i ht1 hz
          · rw [if_neg h2] at hz
            exact hq t j i ht hz
        · rw [if_neg h1] at hz
          exact hq a j i ha hz
    rw [F_X7_becomeAs_72, if_neg (show ¬ (6 : Int32) ≤ nI y from nI_ge (b := 6) (by omega) (by decide)), ck_n (by omega) (by decide), nI_clamp (by omega)]
    cases hv : sQ σ (41 + t1) y with
    | none =>
      rw [mo_none, ck_n (by omega) (by decide), nm_eq, nm_eq, nI_1]
      exact step none hv
    | some i =>
      have hi := hq t1 y i ht1 hv
      rw [mo_some]
      unfold lw
      rw [List.getElem?_eq_getElem hi]
      show ck 6 (nI y) _ = _
      rw [ck_n (by omega) (by decide), nm_eq, nm_eq, nI_1]
      exact step (some i) hv
set_option maxRecDepth 20000 in
theorem bec_10 {σ : xS} (hq : qIn σ) : ∃ σ', F_X7_becomeAs 1 0 σ = some ((), σ') ∧ (∀ k, k < 145 → rowC σ' 1 k = rowC σ 0 k) ∧ (∀ k, rowC σ' 0 k = rowC σ 0 k ∧ rowC σ' 2 k = rowC σ 2 k) ∧ (∀ j, j < 6 → sQ σ' 42 j = sQ σ 41 j) ∧ sQ σ' 41 = sQ σ 41 ∧ sQ σ' 43 = sQ σ 43 ∧ sP σ' = sP σ ∧ qIn σ' ∧ (sI σ' 11 = sI σ 11 ∧ sI σ' 12 = sI σ 12 ∧ sI σ' 13 = sI σ 13 ∧ sI σ' 14 = sI σ 14) ∧ sA σ' 2 = sA σ 2 ∧ sA σ' 3 = sA σ 3 ∧ sA σ' 4 = sA σ 4 ∧ sA σ' 100 = sA σ 100 ∧ sA σ' 101 = sA σ 101 := by
  unfold F_X7_becomeAs
  rw [bec6 (r := 5 * 1) (r1 := 5 * 0) (L := 50) rfl rfl (by decide), bd_eq, bec6 (r := 5 * 1 + 1) (r1 := 5 * 0 + 1) (L := 36) rfl rfl (by decide), bd_eq, bec6 (r := 5 * 1 + 2) (r1 := 5 * 0 + 2) (L := 24) rfl rfl (by decide), bd_eq, bec6 (r := 5 * 1 + 3) (r1 := 5 * 0 + 3) (L := 10) rfl rfl (by decide), bd_eq, bec6 (r := 5 * 1 + 4) (r1 := 5 * 0 + 4) (L := 12) rfl rfl (by decide), bd_eq]
  rw [show ∀ k : Option (Unit × xS), cp 6 6 0 0 6 k = k from fun k => cp_y (n0 := 6) (n1 := 6) (a := 0) (b := 0) (n := 6) (by decide) (by decide) (by decide) (by decide) (by decide) k, nm_eq, nm_eq]
  rw [show (0 : Int32) = nI 0 from rfl, bec_loop (t := 1) (t1 := 0) (by decide) (by decide) (by decide) 6 FU 0 _ (by decide) rfl]
  rotate_left
  · exact hq
  refine ⟨_, rfl, fun k hk => ?_, fun k => ⟨rfl, rfl⟩, fun j hj => if_pos ⟨Nat.zero_le _, hj⟩, rfl, rfl, rfl, fun a j i ha hz => ?_, ⟨rfl, rfl, rfl, rfl⟩, rfl, rfl, rfl, rfl, rfl⟩
  · rcases (show k = 0 ∨ k = 1 ∨ k = 2 ∨ k = 3 ∨ k = 4 ∨ k = 5 ∨ k = 6 ∨ (7 ≤ k ∧ k < 13) ∨ (13 ≤ k ∧ k < 63) ∨ (63 ≤ k ∧ k < 99) ∨ (99 ≤ k ∧ k < 123) ∨ (123 ≤ k ∧ k < 133) ∨ (133 ≤ k ∧ k < 145) by omega) with rfl | rfl | rfl | rfl | rfl | rfl | rfl | h | h | h | h | h | h
    · rfl
    · rfl
    · rfl
    · rfl
    · rfl
    · rfl
    · rfl
    · rw [rowC_r7 _ _ _ h, rowC_r7 _ _ _ h]
      show va_cpy (sA σ 38) (sA σ 39) 0 0 6 (k - 7) = sA σ 38 (k - 7)
      rw [pk_cpy_in (by omega) (by omega), show 0 + (k - 7 - 0) = k - 7 by omega]
    · rw [rowC_r13 _ _ _ h, rowC_r13 _ _ _ h]
      show va_cpy (sA σ 9) (sA σ 19) 0 0 50 (k - 13) = sA σ 9 (k - 13)
      rw [pk_cpy_in (by omega) (by omega), show 0 + (k - 13 - 0) = k - 13 by omega]
    · rw [rowC_r63 _ _ _ h, rowC_r63 _ _ _ h]
      show va_cpy (sA σ 11) (sA σ 21) 0 0 36 (k - 63) = sA σ 11 (k - 63)
      rw [pk_cpy_in (by omega) (by omega), show 0 + (k - 63 - 0) = k - 63 by omega]
    · rw [rowC_r99 _ _ _ h, rowC_r99 _ _ _ h]
      show va_cpy (sA σ 13) (sA σ 23) 0 0 24 (k - 99) = sA σ 13 (k - 99)
      rw [pk_cpy_in (by omega) (by omega), show 0 + (k - 99 - 0) = k - 99 by omega]
    · rw [rowC_r123 _ _ _ h, rowC_r123 _ _ _ h]
      show va_cpy (sA σ 15) (sA σ 25) 0 0 10 (k - 123) = sA σ 15 (k - 123)
      rw [pk_cpy_in (by omega) (by omega), show 0 + (k - 123 - 0) = k - 123 by omega]
    · rw [rowC_r133 _ _ _ h, rowC_r133 _ _ _ h]
      show va_cpy (sA σ 17) (sA σ 27) 0 0 12 (k - 133) = sA σ 17 (k - 133)
      rw [pk_cpy_in (by omega) (by omega), show 0 + (k - 133 - 0) = k - 133 by omega]
  · show i < (sP σ).length
    rcases (show a = 1 ∨ a = 0 ∨ a = 2 by omega) with rfl | rfl | rfl
    · have hz2 : (if 0 ≤ j ∧ j < 6 then sQ σ 41 j else sQ σ 42 j) = some i := hz
      by_cases h1 : 0 ≤ j ∧ j < 6
      · rw [if_pos h1] at hz2
        exact hq 0 j i (by decide) hz2
      · rw [if_neg h1] at hz2
        exact hq 1 j i (by decide) hz2
    · exact hq 0 j i (by decide) hz
    · exact hq 2 j i (by decide) hz
set_option maxRecDepth 20000 in
theorem bec_20 {σ : xS} (hq : qIn σ) : ∃ σ', F_X7_becomeAs 2 0 σ = some ((), σ') ∧ (∀ k, k < 145 → rowC σ' 2 k = rowC σ 0 k) ∧ (∀ k, rowC σ' 0 k = rowC σ 0 k ∧ rowC σ' 1 k = rowC σ 1 k) ∧ (∀ j, j < 6 → sQ σ' 43 j = sQ σ 41 j) ∧ sQ σ' 41 = sQ σ 41 ∧ sQ σ' 42 = sQ σ 42 ∧ sP σ' = sP σ ∧ qIn σ' ∧ (sI σ' 11 = sI σ 11 ∧ sI σ' 12 = sI σ 12 ∧ sI σ' 13 = sI σ 13 ∧ sI σ' 14 = sI σ 14) ∧ sA σ' 2 = sA σ 2 ∧ sA σ' 3 = sA σ 3 ∧ sA σ' 4 = sA σ 4 ∧ sA σ' 100 = sA σ 100 ∧ sA σ' 101 = sA σ 101 := by
  unfold F_X7_becomeAs
  rw [bec6 (r := 5 * 2) (r1 := 5 * 0) (L := 50) rfl rfl (by decide), bd_eq, bec6 (r := 5 * 2 + 1) (r1 := 5 * 0 + 1) (L := 36) rfl rfl (by decide), bd_eq, bec6 (r := 5 * 2 + 2) (r1 := 5 * 0 + 2) (L := 24) rfl rfl (by decide), bd_eq, bec6 (r := 5 * 2 + 3) (r1 := 5 * 0 + 3) (L := 10) rfl rfl (by decide), bd_eq, bec6 (r := 5 * 2 + 4) (r1 := 5 * 0 + 4) (L := 12) rfl rfl (by decide), bd_eq]
  rw [show ∀ k : Option (Unit × xS), cp 6 6 0 0 6 k = k from fun k => cp_y (n0 := 6) (n1 := 6) (a := 0) (b := 0) (n := 6) (by decide) (by decide) (by decide) (by decide) (by decide) k, nm_eq, nm_eq]
  rw [show (0 : Int32) = nI 0 from rfl, bec_loop (t := 2) (t1 := 0) (by decide) (by decide) (by decide) 6 FU 0 _ (by decide) rfl]
  rotate_left
  · exact hq
  refine ⟨_, rfl, fun k hk => ?_, fun k => ⟨rfl, rfl⟩, fun j hj => if_pos ⟨Nat.zero_le _, hj⟩, rfl, rfl, rfl, fun a j i ha hz => ?_, ⟨rfl, rfl, rfl, rfl⟩, rfl, rfl, rfl, rfl, rfl⟩
  · rcases (show k = 0 ∨ k = 1 ∨ k = 2 ∨ k = 3 ∨ k = 4 ∨ k = 5 ∨ k = 6 ∨ (7 ≤ k ∧ k < 13) ∨ (13 ≤ k ∧ k < 63) ∨ (63 ≤ k ∧ k < 99) ∨ (99 ≤ k ∧ k < 123) ∨ (123 ≤ k ∧ k < 133) ∨ (133 ≤ k ∧ k < 145) by omega) with rfl | rfl | rfl | rfl | rfl | rfl | rfl | h | h | h | h | h | h
    · rfl
    · rfl
    · rfl
    · rfl
    · rfl
    · rfl
    · rfl
    · rw [rowC_r7 _ _ _ h, rowC_r7 _ _ _ h]
      show va_cpy (sA σ 38) (sA σ 40) 0 0 6 (k - 7) = sA σ 38 (k - 7)
      rw [pk_cpy_in (by omega) (by omega), show 0 + (k - 7 - 0) = k - 7 by omega]
    · rw [rowC_r13 _ _ _ h, rowC_r13 _ _ _ h]
      show va_cpy (sA σ 9) (sA σ 29) 0 0 50 (k - 13) = sA σ 9 (k - 13)
      rw [pk_cpy_in (by omega) (by omega), show 0 + (k - 13 - 0) = k - 13 by omega]
    · rw [rowC_r63 _ _ _ h, rowC_r63 _ _ _ h]
      show va_cpy (sA σ 11) (sA σ 31) 0 0 36 (k - 63) = sA σ 11 (k - 63)
      rw [pk_cpy_in (by omega) (by omega), show 0 + (k - 63 - 0) = k - 63 by omega]
    · rw [rowC_r99 _ _ _ h, rowC_r99 _ _ _ h]
      show va_cpy (sA σ 13) (sA σ 33) 0 0 24 (k - 99) = sA σ 13 (k - 99)
      rw [pk_cpy_in (by omega) (by omega), show 0 + (k - 99 - 0) = k - 99 by omega]
    · rw [rowC_r123 _ _ _ h, rowC_r123 _ _ _ h]
      show va_cpy (sA σ 15) (sA σ 35) 0 0 10 (k - 123) = sA σ 15 (k - 123)
      rw [pk_cpy_in (by omega) (by omega), show 0 + (k - 123 - 0) = k - 123 by omega]
    · rw [rowC_r133 _ _ _ h, rowC_r133 _ _ _ h]
      show va_cpy (sA σ 17) (sA σ 37) 0 0 12 (k - 133) = sA σ 17 (k - 133)
      rw [pk_cpy_in (by omega) (by omega), show 0 + (k - 133 - 0) = k - 133 by omega]
  · show i < (sP σ).length
    rcases (show a = 2 ∨ a = 0 ∨ a = 1 by omega) with rfl | rfl | rfl
    · have hz2 : (if 0 ≤ j ∧ j < 6 then sQ σ 41 j else sQ σ 43 j) = some i := hz
      by_cases h1 : 0 ≤ j ∧ j < 6
      · rw [if_pos h1] at hz2
        exact hq 0 j i (by decide) hz2
      · rw [if_neg h1] at hz2
        exact hq 2 j i (by decide) hz2
    · exact hq 0 j i (by decide) hz
    · exact hq 1 j i (by decide) hz
set_option maxRecDepth 20000 in
theorem bec_01 {σ : xS} (hq : qIn σ) : ∃ σ', F_X7_becomeAs 0 1 σ = some ((), σ') ∧ (∀ k, k < 145 → rowC σ' 0 k = rowC σ 1 k) ∧ (∀ k, rowC σ' 1 k = rowC σ 1 k ∧ rowC σ' 2 k = rowC σ 2 k) ∧ (∀ j, j < 6 → sQ σ' 41 j = sQ σ 42 j) ∧ sQ σ' 42 = sQ σ 42 ∧ sQ σ' 43 = sQ σ 43 ∧ sP σ' = sP σ ∧ qIn σ' ∧ (sI σ' 11 = sI σ 11 ∧ sI σ' 12 = sI σ 12 ∧ sI σ' 13 = sI σ 13 ∧ sI σ' 14 = sI σ 14) ∧ sA σ' 2 = sA σ 2 ∧ sA σ' 3 = sA σ 3 ∧ sA σ' 4 = sA σ 4 ∧ sA σ' 100 = sA σ 100 ∧ sA σ' 101 = sA σ 101 := by
  unfold F_X7_becomeAs
  rw [bec6 (r := 5 * 0) (r1 := 5 * 1) (L := 50) rfl rfl (by decide), bd_eq, bec6 (r := 5 * 0 + 1) (r1 := 5 * 1 + 1) (L := 36) rfl rfl (by decide), bd_eq, bec6 (r := 5 * 0 + 2) (r1 := 5 * 1 + 2) (L := 24) rfl rfl (by decide), bd_eq, bec6 (r := 5 * 0 + 3) (r1 := 5 * 1 + 3) (L := 10) rfl rfl (by decide), bd_eq, bec6 (r := 5 * 0 + 4) (r1 := 5 * 1 + 4) (L := 12) rfl rfl (by decide), bd_eq]
  rw [show ∀ k : Option (Unit × xS), cp 6 6 0 0 6 k = k from fun k => cp_y (n0 := 6) (n1 := 6) (a := 0) (b := 0) (n := 6) (by decide) (by decide) (by decide) (by decide) (by decide) k, nm_eq, nm_eq]
  rw [show (0 : Int32) = nI 0 from rfl, bec_loop (t := 0) (t1 := 1) (by decide) (by decide) (by decide) 6 FU 0 _ (by decide) rfl]
  rotate_left
  · exact hq
  refine ⟨_, rfl, fun k hk => ?_, fun k => ⟨rfl, rfl⟩, fun j hj => if_pos ⟨Nat.zero_le _, hj⟩, rfl, rfl, rfl, fun a j i ha hz => ?_, ⟨rfl, rfl, rfl, rfl⟩, rfl, rfl, rfl, rfl, rfl⟩
  · rcases (show k = 0 ∨ k = 1 ∨ k = 2 ∨ k = 3 ∨ k = 4 ∨ k = 5 ∨ k = 6 ∨ (7 ≤ k ∧ k < 13) ∨ (13 ≤ k ∧ k < 63) ∨ (63 ≤ k ∧ k < 99) ∨ (99 ≤ k ∧ k < 123) ∨ (123 ≤ k ∧ k < 133) ∨ (133 ≤ k ∧ k < 145) by omega) with rfl | rfl | rfl | rfl | rfl | rfl | rfl | h | h | h | h | h | h
    · rfl
    · rfl
    · rfl
    · rfl
    · rfl
    · rfl
    · rfl
    · rw [rowC_r7 _ _ _ h, rowC_r7 _ _ _ h]
      show va_cpy (sA σ 39) (sA σ 38) 0 0 6 (k - 7) = sA σ 39 (k - 7)
      rw [pk_cpy_in (by omega) (by omega), show 0 + (k - 7 - 0) = k - 7 by omega]
    · rw [rowC_r13 _ _ _ h, rowC_r13 _ _ _ h]
      show va_cpy (sA σ 19) (sA σ 9) 0 0 50 (k - 13) = sA σ 19 (k - 13)
      rw [pk_cpy_in (by omega) (by omega), show 0 + (k - 13 - 0) = k - 13 by omega]
    · rw [rowC_r63 _ _ _ h, rowC_r63 _ _ _ h]
      show va_cpy (sA σ 21) (sA σ 11) 0 0 36 (k - 63) = sA σ 21 (k - 63)
      rw [pk_cpy_in (by omega) (by omega), show 0 + (k - 63 - 0) = k - 63 by omega]
    · rw [rowC_r99 _ _ _ h, rowC_r99 _ _ _ h]
      show va_cpy (sA σ 23) (sA σ 13) 0 0 24 (k - 99) = sA σ 23 (k - 99)
      rw [pk_cpy_in (by omega) (by omega), show 0 + (k - 99 - 0) = k - 99 by omega]
    · rw [rowC_r123 _ _ _ h, rowC_r123 _ _ _ h]
      show va_cpy (sA σ 25) (sA σ 15) 0 0 10 (k - 123) = sA σ 25 (k - 123)
      rw [pk_cpy_in (by omega) (by omega), show 0 + (k - 123 - 0) = k - 123 by omega]
    · rw [rowC_r133 _ _ _ h, rowC_r133 _ _ _ h]
      show va_cpy (sA σ 27) (sA σ 17) 0 0 12 (k - 133) = sA σ 27 (k - 133)
      rw [pk_cpy_in (by omega) (by omega), show 0 + (k - 133 - 0) = k - 133 by omega]
  · show i < (sP σ).length
    rcases (show a = 0 ∨ a = 1 ∨ a = 2 by omega) with rfl | rfl | rfl
    · have hz2 : (if 0 ≤ j ∧ j < 6 then sQ σ 42 j else sQ σ 41 j) = some i := hz
      by_cases h1 : 0 ≤ j ∧ j < 6
      · rw [if_pos h1] at hz2
        exact hq 1 j i (by decide) hz2
      · rw [if_neg h1] at hz2
        exact hq 0 j i (by decide) hz2
    · exact hq 1 j i (by decide) hz
    · exact hq 2 j i (by decide) hz
set_option maxRecDepth 20000 in
theorem bec_02 {σ : xS} (hq : qIn σ) : ∃ σ', F_X7_becomeAs 0 2 σ = some ((), σ') ∧ (∀ k, k < 145 → rowC σ' 0 k = rowC σ 2 k) ∧ (∀ k, rowC σ' 1 k = rowC σ 1 k ∧ rowC σ' 2 k = rowC σ 2 k) ∧ (∀ j, j < 6 → sQ σ' 41 j = sQ σ 43 j) ∧ sQ σ' 42 = sQ σ 42 ∧ sQ σ' 43 = sQ σ 43 ∧ sP σ' = sP σ ∧ qIn σ' ∧ (sI σ' 11 = sI σ 11 ∧ sI σ' 12 = sI σ 12 ∧ sI σ' 13 = sI σ 13 ∧ sI σ' 14 = sI σ 14) ∧ sA σ' 2 = sA σ 2 ∧ sA σ' 3 = sA σ 3 ∧ sA σ' 4 = sA σ 4 ∧ sA σ' 100 = sA σ 100 ∧ sA σ' 101 = sA σ 101 := by
  unfold F_X7_becomeAs
  rw [bec6 (r := 5 * 0) (r1 := 5 * 2) (L := 50) rfl rfl (by decide), bd_eq, bec6 (r := 5 * 0 + 1) (r1 := 5 * 2 + 1) (L := 36) rfl rfl (by decide), bd_eq, bec6 (r := 5 * 0 + 2) (r1 := 5 * 2 + 2) (L := 24) rfl rfl (by decide), bd_eq, bec6 (r := 5 * 0 + 3) (r1 := 5 * 2 + 3) (L := 10) rfl rfl (by decide), bd_eq, bec6 (r := 5 * 0 + 4) (r1 := 5 * 2 + 4) (L := 12) rfl rfl (by decide), bd_eq]
  rw [show ∀ k : Option (Unit × xS), cp 6 6 0 0 6 k = k from fun k => cp_y (n0 := 6) (n1 := 6) (a := 0) (b := 0) (n := 6) (by decide) (by decide) (by decide) (by decide) (by decide) k, nm_eq, nm_eq]
  rw [show (0 : Int32) = nI 0 from rfl, bec_loop (t := 0) (t1 := 2) (by decide) (by decide) (by decide) 6 FU 0 _ (by decide) rfl]
  rotate_left
  · exact hq
  refine ⟨_, rfl, fun k hk => ?_, fun k => ⟨rfl, rfl⟩, fun j hj => if_pos ⟨Nat.zero_le _, hj⟩, rfl, rfl, rfl, fun a j i ha hz => ?_, ⟨rfl, rfl, rfl, rfl⟩, rfl, rfl, rfl, rfl, rfl⟩
  · rcases (show k = 0 ∨ k = 1 ∨ k = 2 ∨ k = 3 ∨ k = 4 ∨ k = 5 ∨ k = 6 ∨ (7 ≤ k ∧ k < 13) ∨ (13 ≤ k ∧ k < 63) ∨ (63 ≤ k ∧ k < 99) ∨ (99 ≤ k ∧ k < 123) ∨ (123 ≤ k ∧ k < 133) ∨ (133 ≤ k ∧ k < 145) by omega) with rfl | rfl | rfl | rfl | rfl | rfl | rfl | h | h | h | h | h | h
    · rfl
    · rfl
    · rfl
    · rfl
    · rfl
    · rfl
    · rfl
    · rw [rowC_r7 _ _ _ h, rowC_r7 _ _ _ h]
      show va_cpy (sA σ 40) (sA σ 38) 0 0 6 (k - 7) = sA σ 40 (k - 7)
      rw [pk_cpy_in (by omega) (by omega), show 0 + (k - 7 - 0) = k - 7 by omega]
    · rw [rowC_r13 _ _ _ h, rowC_r13 _ _ _ h]
      show va_cpy (sA σ 29) (sA σ 9) 0 0 50 (k - 13) = sA σ 29 (k - 13)
      rw [pk_cpy_in (by omega) (by omega), show 0 + (k - 13 - 0) = k - 13 by omega]
    · rw [rowC_r63 _ _ _ h, rowC_r63 _ _ _ h]
      show va_cpy (sA σ 31) (sA σ 11) 0 0 36 (k - 63) = sA σ 31 (k - 63)
      rw [pk_cpy_in (by omega) (by omega), show 0 + (k - 63 - 0) = k - 63 by omega]
    · rw [rowC_r99 _ _ _ h, rowC_r99 _ _ _ h]
      show va_cpy (sA σ 33) (sA σ 13) 0 0 24 (k - 99) = sA σ 33 (k - 99)
      rw [pk_cpy_in (by omega) (by omega), show 0 + (k - 99 - 0) = k - 99 by omega]
    · rw [rowC_r123 _ _ _ h, rowC_r123 _ _ _ h]
      show va_cpy (sA σ 35) (sA σ 15) 0 0 10 (k - 123) = sA σ 35 (k - 123)
      rw [pk_cpy_in (by omega) (by omega), show 0 + (k - 123 - 0) = k - 123 by omega]
    · rw [rowC_r133 _ _ _ h, rowC_r133 _ _ _ h]
      show va_cpy (sA σ 37) (sA σ 17) 0 0 12 (k - 133) = sA σ 37 (k - 133)
      rw [pk_cpy_in (by omega) (by omega), show 0 + (k - 133 - 0) = k - 133 by omega]
  · show i < (sP σ).length
    rcases (show a = 0 ∨ a = 1 ∨ a = 2 by omega) with rfl | rfl | rfl
    · have hz2 : (if 0 ≤ j ∧ j < 6 then sQ σ 43 j else sQ σ 41 j) = some i := hz
      by_cases h1 : 0 ≤ j ∧ j < 6
      · rw [if_pos h1] at hz2
        exact hq 2 j i (by decide) hz2
      · rw [if_neg h1] at hz2
        exact hq 0 j i (by decide) hz2
    · exact hq 1 j i (by decide) hz
    · exact hq 2 j i (by decide) hz
def imF (f g : Nat → Int32) (d y : Nat) : Nat → Int32 := fun q => if d + y ≤ q ∧ q < d + 5550 then f (q - d) else g q
theorem R_im_loop {i : Nat} (hi : i < 2) (m : Nat) : ∀ (n y : Nat) (τ : xS), m < n → y + m = 5550 → F_X12_image_23 n (nI i) (nI y) τ = some (0, uI (uA (uA τ 4 (imF (sA τ 3) (sA τ 4) (5550 * i) y)) 5 (upd (sA τ 5) i 1)) 1 0) := by
  induction m with
  | zero =>
    intro n y τ hn hy
    obtain ⟨n, rfl⟩ : ∃ q, n = q + 1 := ⟨n - 1, by omega⟩
    have e : imF (sA τ 3) (sA τ 4) (5550 * i) y = sA τ 4 := by
      funext q
      exact if_neg (by omega)
    have e1 : vp_nar .boolean 1 = 1 := rfl
    rw [F_X12_image_23, if_pos (show (5550 : Int32) ≤ nI y from nI_le (a := 5550) (by omega) (by omega)), ck_n hi (by decide), nm_eq, nI_clamp (by omega), e1, e, uA_self, show F_X12_tell 0 _ = _ from R_tN (n := 0) (by decide) _, bd_eq]
    rfl
  | succ m ih =>
    intro n y τ hn hy
    obtain ⟨n, rfl⟩ : ∃ q, n = q + 1 := ⟨n - 1, by omega⟩
    have e0 : (5550 : Int32) * nI i + nI y = nI (5550 * i + y) := by
      show nI 5550 * nI i + nI y = _
      rw [pk_mul, nI_add]
    rw [F_X12_image_23, if_neg (show ¬ (5550 : Int32) ≤ nI y from nI_ge (b := 5550) (by omega) (by decide)), rd_n (by omega) (by decide), e0, ck_n (by omega) (by decide), nm_eq, nm_eq, nI_clamp (by omega), nI_1, ih n (y + 1) _ (by omega) (by omega), uA_uA, sA_s]
    congr 4
    show uA τ 4 _ = uA τ 4 _
    congr 1
    funext q
    unfold imF
    show (if 5550 * i + (y + 1) ≤ q ∧ q < 5550 * i + 5550 then sA τ 3 (q - 5550 * i) else upd (sA τ 4) (5550 * i + y) (sA τ 3 y) q) = _
    unfold upd
    by_cases h1 : q = 5550 * i + y
    · rw [if_neg (by omega), if_pos h1, if_pos (by omega), show q - 5550 * i = y by omega]
    · by_cases h2 : 5550 * i + y ≤ q ∧ q < 5550 * i + 5550
      · rw [if_pos (by omega), if_pos h2]
      · rw [if_neg (by omega), if_neg h1, if_neg h2]
theorem SimIm_mk {σ' σ0 τ' : xS} {f2 f5 f4 : Nat → Int32} (e2 : sA σ' 2 = f2) (e5 : sA τ' 5 = f5) (e4 : sA τ' 4 = f4) (er : ∀ k, rowC σ' 1 k = rowC σ0 1 k ∧ rowC σ' 2 k = rowC σ0 2 k) (hq : sQ σ' = sQ σ0) (hp : sP σ' = sP σ0) (h : ∀ i, i < 2 → f2 i = f5 i ∧ (f5 i = 0 ∨ f5 i = 1) ∧ (f5 i = 1 → (∀ k, k < 145 → rowC σ0 (1 + i) k = f4 (5550 * i + k)) ∧ segOK (fun k => f4 (5550 * i + k)) ∧ lawsOK σ0 (1 + i) (fun k => f4 (5550 * i + k)))) : SimIm σ' τ' := by
  intro i hi
  obtain ⟨a1, a2, a3⟩ := h i hi
  have ei : ∀ k, rowC σ' (1 + i) k = rowC σ0 (1 + i) k := fun k => by
    rcases (show i = 0 ∨ i = 1 by omega) with rfl | rfl
    · exact (er k).1
    · exact (er k).2
  rw [e2, e5, e4]
  refine ⟨a1, a2, fun h1 => ?_⟩
  obtain ⟨b1, b2, b3⟩ := a3 h1
  exact ⟨fun k hk => by rw [ei]; exact b1 k hk, b2, lawsOK_of b3 (by rw [hq]) hp rfl⟩
def bkF (f g : Nat → Int32) (d y : Nat) : Nat → Int32 := fun q => if y ≤ q ∧ q < 5550 then f (d + q) else g q
theorem R_bk_loop {i : Nat} (hi : i < 2) (m : Nat) : ∀ (n y : Nat) (τ : xS), m < n → y + m = 5550 → F_X12_back_39 n (nI i) (nI y) τ = some (0, uI (uA τ 3 (bkF (sA τ 4) (sA τ 3) (5550 * i) y)) 1 0) := by
  induction m with
  | zero =>
    intro n y τ hn hy
    obtain ⟨n, rfl⟩ : ∃ q, n = q + 1 := ⟨n - 1, by omega⟩
    have e : bkF (sA τ 4) (sA τ 3) (5550 * i) y = sA τ 3 := by
      funext q
      exact if_neg (by omega)
    rw [F_X12_back_39, if_pos (show (5550 : Int32) ≤ nI y from nI_le (a := 5550) (by omega) (by omega)), e, uA_self, show F_X12_tell 0 _ = _ from R_tN (n := 0) (by decide) _, bd_eq]
    rfl
  | succ m ih =>
    intro n y τ hn hy
    obtain ⟨n, rfl⟩ : ∃ q, n = q + 1 := ⟨n - 1, by omega⟩
    have e0 : (5550 : Int32) * nI i + nI y = nI (5550 * i + y) := by
      show nI 5550 * nI i + nI y = _
      rw [pk_mul, nI_add]
    rw [F_X12_back_39, if_neg (show ¬ (5550 : Int32) ≤ nI y from nI_ge (b := 5550) (by omega) (by decide)), e0, rd_n (by omega) (by decide), ck_n (by omega) (by decide), nm_eq, nm_eq, nI_clamp (by omega), nI_1, ih n (y + 1) _ (by omega) (by omega), uA_uA, sA_s]
    congr 4
    funext q
    unfold bkF
    show (if y + 1 ≤ q ∧ q < 5550 then sA τ 4 (5550 * i + q) else upd (sA τ 3) y (sA τ 4 (5550 * i + y)) q) = _
    unfold upd
    by_cases h1 : q = y
    · subst h1
      rw [if_neg (by omega), if_pos rfl, if_pos (by omega)]
    · by_cases h2 : y ≤ q ∧ q < 5550
      · rw [if_pos (by omega), if_pos h2]
      · rw [if_neg (by omega), if_neg h1, if_neg h2]
theorem st_image : ∀ (σ τ : xS), Sim σ τ → ∀ (a1 : Int32), ∃ (r : Int32) (σ1 τ1 : xS), F_X11_image a1 σ = some (r, σ1) ∧ F_X12_image a1 τ = some (r, τ1) ∧ Sim σ1 τ1 := by
  intro σ τ0 h0 a1
  have h := Sim_thr h0
  unfold F_X11_image F_X12_image
  simp only [nm_eq]
  generalize uI τ0 0 0 = τ at h ⊢
  simp only [R_i0_1, C_isWithin, bd_eq, ib2, C_r1, R_t1]
  by_cases p : 0 ≤ a1 ∧ a1 ≤ 1
  rotate_left
  · simp only [if_neg p]
    exact ⟨_, _, _, rfl, rfl, Sim_ref (Or.inl rfl) h⟩
  simp only [if_pos p]
  have hg : ∀ (i : Nat) (hi : i < 2) (σ' : xS), (∀ k, k < 145 → rowC σ' (1 + i) k = rowC σ 0 k) → (∀ i', i' < 2 → i' ≠ i → (∀ k, rowC σ' (1 + i') k = rowC σ (1 + i') k) ∧ sQ σ' (41 + (1 + i')) = sQ σ (41 + (1 + i'))) → (∀ k, rowC σ' 0 k = rowC σ 0 k) → (∀ j, j < 6 → sQ σ' (41 + (1 + i)) j = sQ σ 41 j) → sQ σ' 41 = sQ σ 41 → sP σ' = sP σ → qIn σ' → (sI σ' 11 = sI σ 11 ∧ sI σ' 12 = sI σ 12 ∧ sI σ' 13 = sI σ 13 ∧ sI σ' 14 = sI σ 14) → sA σ' 2 = sA σ 2 → sA σ' 3 = sA σ 3 → sA σ' 4 = sA σ 4 → sA σ' 100 = sA σ 100 → sA σ' 101 = sA σ 101 → Sim (uI (uA σ' 2 (upd (sA σ 2) i 1)) 14 0) (uI (uA (uA τ 4 (imF (sA τ 3) (sA τ 4) (5550 * i) 0)) 5 (upd (sA τ 5) i 1)) 1 0) := by
    intro i hi σ' c1 c2 c3 c4 c5 c6 c7 ⟨f1, f2, f3, f4⟩ g2 g3 g4 g5 g6
    obtain ⟨hS, hI, hT, hM, hD, hC⟩ := h
    have h6 : (sA τ 3 1).toInt ≤ 6 := (hS.2.1.1 1 (by decide)).2
    have eim : ∀ k, k < 5550 → sA τ 3 k = imF (sA τ 3) (sA τ 4) (5550 * i) 0 (5550 * i + k) := fun k hk => by
      unfold imF
      rw [if_pos (by omega), show 5550 * i + k - 5550 * i = k by omega]
    refine ⟨⟨fun k hk => (c3 k).trans (hS.1 k hk), hS.2.1, lawsOK_of hS.2.2 c5 c6 rfl⟩, SimIm_mk (σ0 := σ') (f2 := upd (sA σ 2) i 1) (f5 := upd (sA τ 5) i 1) (f4 := imF (sA τ 3) (sA τ 4) (5550 * i) 0) rfl rfl rfl (fun k => ⟨rfl, rfl⟩) rfl rfl (fun i' hi' => ?_), ?_, ?_, ?_, c7, hC.2⟩
    · skip
      by_cases ei : i' = i
      · subst ei
        rw [upd_s _ _ rfl, upd_s _ _ rfl]
        refine ⟨rfl, Or.inr rfl, fun _ => ⟨fun k hk => ?_, ?_, ?_⟩⟩
        · rw [c1 k hk, hS.1 k hk, eim k (by omega)]
        · exact segOK_congr (fun k hk => eim k (by omega)) hS.2.1
        · exact lawsOK_im (t := 0) hS.2.2 h6 c4 c6 eim
      · rw [upd_n _ _ ei, upd_n _ _ ei]
        obtain ⟨a1, a2, a3⟩ := hI i' hi'
        obtain ⟨b1, b2⟩ := c2 i' hi' ei
        refine ⟨a1, a2, fun h1 => ?_⟩
        obtain ⟨d1, d2, d3⟩ := a3 h1
        have e2 : ∀ k, k < 5550 → sA τ 4 (5550 * i' + k) = imF (sA τ 3) (sA τ 4) (5550 * i) 0 (5550 * i' + k) := fun k hk => by
          unfold imF
          rw [if_neg (by omega)]
        refine ⟨fun k hk => ?_, segOK_congr (fun k hk => e2 k (by omega)) d2, lawsOK_im (t := 1 + i') d3 (d2.1 1 (by decide)).2 (fun j _ => by rw [b2]) c6 e2⟩
        rw [b1, d1 k hk, e2 k (by omega)]
    · show sI σ' 11 = sI τ 8 ∧ _ ∧ ∀ j, j < 400 → sA σ' 3 j = sA τ 7 j ∧ _
      rw [f1, g3]
      exact hT
    · show sI σ' 12 = sI τ 13 ∧ sI σ' 13 = sI τ 6 ∧ (0 : Int32) = 0 ∧ ∀ j, j < 7 → sA σ' 4 j = sA τ 2 j
      rw [f2, f3, g4]
      exact ⟨hM.1, hM.2.1, rfl, hM.2.2.2⟩
    · show _ ∧ ∀ j : Nat, j < 10 → sA σ' 100 j = _ ∧ sA σ' 101 j = _
      rw [g5, g6]
      exact hD
  obtain ⟨i, hi, rfl⟩ := idxle p (c := 1) rfl (by omega)
  have e1 : vp_nar .boolean 1 = 1 := rfl
  have s2 : F_X12_image_23 FU (nI i) 0 τ = _ := R_im_loop (i := i) (by omega) 5550 FU 0 τ (by decide) rfl
  rw [ck_n (by omega) (by decide), nI_clamp (by omega), s2]
  rcases (show i = 0 ∨ i = 1 by omega) with rfl | rfl
  · obtain ⟨σ', x0, x1, x2, x3, x4, x5, x6, x7, x8, x9, x10, x11, x12, x13⟩ := bec_10 (σ := σ) h.2.2.2.2.2.1
    rw [show F_X7_becomeAs (1 + 0) 0 σ = _ from x0, bd_eq, ck_n (by omega) (by decide), C_accepted, bd_eq, e1, x9]
    refine ⟨_, _, _, rfl, rfl, hg 0 (by decide) σ' x1 (fun i' hi' hn => ?_) (fun k => (x2 k).1) x3 x4 x6 x7 x8 x9 x10 x11 x12 x13⟩
    obtain rfl : i' = 1 := by omega
    exact ⟨fun k => (x2 k).2, x5⟩
  · obtain ⟨σ', x0, x1, x2, x3, x4, x5, x6, x7, x8, x9, x10, x11, x12, x13⟩ := bec_20 (σ := σ) h.2.2.2.2.2.1
    rw [show F_X7_becomeAs (1 + 1) 0 σ = _ from x0, bd_eq, ck_n (by omega) (by decide), C_accepted, bd_eq, e1, x9]
    refine ⟨_, _, _, rfl, rfl, hg 1 (by decide) σ' x1 (fun i' hi' hn => ?_) (fun k => (x2 k).1) x3 x4 x6 x7 x8 x9 x10 x11 x12 x13⟩
    obtain rfl : i' = 0 := by omega
    exact ⟨fun k => (x2 k).2, x5⟩
theorem st_back : ∀ (σ τ : xS), Sim σ τ → ∀ (a1 : Int32), ∃ (r : Int32) (σ1 τ1 : xS), F_X11_back a1 σ = some (r, σ1) ∧ F_X12_back a1 τ = some (r, τ1) ∧ Sim σ1 τ1 := by
  intro σ τ0 h0 a1
  have h := Sim_thr h0
  unfold F_X11_back F_X12_back
  simp only [nm_eq]
  generalize uI τ0 0 0 = τ at h ⊢
  simp only [R_i0_1, C_isWithin, bd_eq, ib2, C_r1, R_t1, C_r2, R_t2]
  by_cases p : 0 ≤ a1 ∧ a1 ≤ 1
  rotate_left
  · simp only [if_neg p]
    exact ⟨_, _, _, rfl, rfl, Sim_ref (Or.inl rfl) h⟩
  simp only [if_pos p]
  obtain ⟨i, hi, rfl⟩ := idxle p (c := 1) rfl (by omega)
  obtain ⟨a1, a2, a3⟩ := h.2.1 i (by omega)
  rw [rd_n (by omega) (by decide), rd_n (by omega) (by decide), a1]
  by_cases p0 : sA τ 5 i = 0
  · simp only [if_pos p0]
    exact ⟨_, _, _, rfl, rfl, Sim_ref (Or.inr (Or.inl rfl)) h⟩
  simp only [if_neg p0]
  obtain ⟨d1, d2, d3⟩ := a3 (a2.resolve_left p0)
  have hg : ∀ (σ' : xS), (∀ k, k < 145 → rowC σ' 0 k = rowC σ (1 + i) k) → (∀ k, rowC σ' 1 k = rowC σ 1 k ∧ rowC σ' 2 k = rowC σ 2 k) → (∀ j, j < 6 → sQ σ' 41 j = sQ σ (41 + (1 + i)) j) → sQ σ' 42 = sQ σ 42 → sQ σ' 43 = sQ σ 43 → sP σ' = sP σ → qIn σ' → (sI σ' 11 = sI σ 11 ∧ sI σ' 12 = sI σ 12 ∧ sI σ' 13 = sI σ 13 ∧ sI σ' 14 = sI σ 14) → sA σ' 2 = sA σ 2 → sA σ' 3 = sA σ 3 → sA σ' 4 = sA σ 4 → sA σ' 100 = sA σ 100 → sA σ' 101 = sA σ 101 → Sim (uI σ' 14 0) (uI (uA τ 3 (bkF (sA τ 4) (sA τ 3) (5550 * i) 0)) 1 0) := by
    intro σ' c1 c2 c3 c4 c5 c6 c7 ⟨f1, f2, f3, f4⟩ g2 g3 g4 g5 g6
    obtain ⟨hS, hI, hT, hM, hD, hC⟩ := h
    have ebk : ∀ k, k < 5550 → sA τ 4 (5550 * i + k) = bkF (sA τ 4) (sA τ 3) (5550 * i) 0 k := fun k hk => by
      unfold bkF
      rw [if_pos (by omega)]
    refine ⟨⟨fun k hk => ?_, segOK_congr (fun k hk => ebk k (by omega)) d2, lawsOK_im (t := 1 + i) (t' := 0) d3 (d2.1 1 (by decide)).2 c3 c6 ebk⟩, SimIm_of hI g2 c2 ⟨c4, c5⟩ c6 rfl rfl, ?_, ?_, ?_, c7, hC.2⟩
    · show rowC σ' 0 k = bkF (sA τ 4) (sA τ 3) (5550 * i) 0 k
      rw [c1 k hk, d1 k hk, ebk k (by omega)]
    · show sI σ' 11 = sI τ 8 ∧ _ ∧ ∀ j, j < 400 → sA σ' 3 j = sA τ 7 j ∧ _
      rw [f1, g3]
      exact hT
    · show sI σ' 12 = sI τ 13 ∧ sI σ' 13 = sI τ 6 ∧ (0 : Int32) = 0 ∧ ∀ j, j < 7 → sA σ' 4 j = sA τ 2 j
      rw [f2, f3, g4]
      exact ⟨hM.1, hM.2.1, rfl, hM.2.2.2⟩
    · show _ ∧ ∀ j : Nat, j < 10 → sA σ' 100 j = _ ∧ sA σ' 101 j = _
      rw [g5, g6]
      exact hD
  have s2 : F_X12_back_39 FU (nI i) 0 τ = _ := R_bk_loop (i := i) (by omega) 5550 FU 0 τ (by decide) rfl
  rw [ck_n (by omega) (by decide), nI_clamp (by omega), s2]
  rcases (show i = 0 ∨ i = 1 by omega) with rfl | rfl
  · obtain ⟨σ', x0, x1, x2, x3, x4, x5, x6, x7, x8, x9, x10, x11, x12, x13⟩ := bec_01 (σ := σ) h.2.2.2.2.2.1
    rw [show F_X7_becomeAs 0 (1 + 0) σ = _ from x0, bd_eq, C_accepted, bd_eq]
    exact ⟨_, _, _, rfl, rfl, hg σ' x1 x2 x3 x4 x5 x6 x7 x8 x9 x10 x11 x12 x13⟩
  · obtain ⟨σ', x0, x1, x2, x3, x4, x5, x6, x7, x8, x9, x10, x11, x12, x13⟩ := bec_02 (σ := σ) h.2.2.2.2.2.1
    rw [show F_X7_becomeAs 0 (1 + 1) σ = _ from x0, bd_eq, C_accepted, bd_eq]
    exact ⟨_, _, _, rfl, rfl, hg σ' x1 x2 x3 x4 x5 x6 x7 x8 x9 x10 x11 x12 x13⟩
