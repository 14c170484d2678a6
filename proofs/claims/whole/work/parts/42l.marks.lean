/-! ===== marks ===== -/
theorem mark_cell {σ τ : xS} (h : SimSt σ τ) {i k : Nat} (hi : i < 6) (hk : k < 2) : ∃ v : Nat, v ≤ 100 ∧ sA τ 3 (133 + 2 * i + k) = nI v ∧ sA σ 17 (i * 2 + k) = nI v := by
  obtain ⟨v, h1, h2, -⟩ := seg_nat h.2.1 (k := 133 + 2 * i + k) (by omega) (by omega)
  rw [show 133 + 2 * i + k = 133 + (2 * i + k) by omega, hi_mark (2 * i + k) (by omega)] at h1
  exact ⟨v, by omega, h2, by rw [cell_mark h hi hk, h2]⟩
theorem shows_eq {σ τ : xS} {c : Nat} (h : SimSt σ τ) (hc : c ≤ 6) (e1 : sI σ 259 = nI c) (e2 : sA τ 3 6 = nI c) (y : Int32) {k : Nat} (hk : k < 2) (m : Nat) : ∀ (n n' i p : Nat), m < n → m < n' → i + m = c → p ≤ 100 ^ i → ∃ q : Nat, q ≤ 100 ^ c ∧ F_X11_howOften_5 n y (nI k) (zL p) (nI i) σ = some (zL q, σ) ∧ F_X12_shows_5 n' y (nI k) (zL p) (nI i) τ = some (zL q, τ) := by
  induction m with
  | zero =>
    intro n n' i p hn hn' hi hp
    obtain ⟨n, rfl⟩ : ∃ q, n = q + 1 := ⟨n - 1, by omega⟩
    obtain ⟨n', rfl⟩ : ∃ q, n' = q + 1 := ⟨n' - 1, by omega⟩
    obtain rfl : i = c := by omega
    refine ⟨p, hp, ?_, ?_⟩
    · rw [F_X11_howOften_5, e1, if_pos (nI_le (by omega) (by omega))]
    · rw [F_X12_shows_5, rdL6, e2, if_pos (nI_le (by omega) (by omega))]
  | succ m ih =>
    intro n n' i p hn hn' hi hp
    obtain ⟨n, rfl⟩ : ∃ q, n = q + 1 := ⟨n - 1, by omega⟩
    obtain ⟨n', rfl⟩ : ∃ q, n' = q + 1 := ⟨n' - 1, by omega⟩
    obtain ⟨v, hv, v2, v1⟩ := mark_cell h (i := i) (k := k) (by omega) hk
    have g : F_X6_get 4 (nI i) (nI k) σ = some (sA σ 17 (i * 2 + k), σ) := C_getY (r := 4) e1 (show c ≤ 6 from hc) (by omega) hk
    have ei : (133 : Int32) + 2 * nI i + nI k = nI (133 + 2 * i + k) := by
      show nI 133 + nI 2 * nI i + nI k = _
      rw [pk_mul, nI_add, nI_add]
    have hs : (100 : Int32) - nI v = nI (100 - v) := pk_sub (a := 100) hv
    have hpk : ∀ u : Nat, u ≤ 100 → p * u ≤ 100 ^ (i + 1) := fun u hu => by
      rw [Nat.pow_succ]
      exact Nat.mul_le_mul hp hu
    rw [F_X11_howOften_5, e1, if_neg (nI_ge (by omega) (by omega)), g, bd_eq, v1, F_X12_shows_5, rdL6, e2, if_neg (nI_ge (by omega) (by omega)), ei, rd_n (by omega) (by decide), v2]
    unfold F_X12_is F_X11_howOften_58 F_X12_shows_56
    by_cases hb : ((y >>> (nI i &&& 31)) &&& 1) = 1
    · rw [if_pos hb, if_pos hb, cz_1, bd_eq, if_neg (by decide), nm_eq, nm_eq, nm_eq, nm_eq, zL_n (by omega), zL_mul, nI_1]
      exact ih n n' (i + 1) (p * v) (by omega) (by omega) (by omega) (hpk v hv)
    · rw [if_neg hb, if_neg hb, cz_0, bd_eq, if_pos rfl, hs, nm_eq, nm_eq, nm_eq, nm_eq, zL_n (by omega), zL_mul, nI_1]
      exact ih n n' (i + 1) (p * (100 - v)) (by omega) (by omega) (by omega) (hpk (100 - v) (by omega))
theorem often_eq {σ τ : xS} {c : Nat} (h : SimSt σ τ) (hc : c ≤ 6) (e1 : sI σ 259 = nI c) (e2 : sA τ 3 6 = nI c) (y : Int32) {k : Nat} (hk : k < 2) : ∃ q : Nat, q ≤ 1000000000000 ∧ F_X11_howOften y (nI k) σ = some (zL q, σ) ∧ F_X12_shows y (nI k) τ = some (zL q, τ) := by
  obtain ⟨q, h1, h2, h3⟩ := shows_eq h hc e1 e2 y hk c FU FU 0 1 (by unfold FU; omega) (by unfold FU; omega) (by omega) (by decide)
  exact ⟨q, Nat.le_trans h1 (Nat.le_trans (Nat.pow_le_pow_right (by decide) hc) (by decide)), h2, h3⟩
theorem R_isPart (a : Int32) (τ : xS) : F_X12_isPart a τ = some (b2 (0 ≤ a ∧ a ≤ 100), τ) := by
  unfold F_X12_isPart
  rw [R_i0_100, bd_eq, cz_b2]
theorem sh_nI {c : Nat} (hc : c ≤ 6) : (1 : Int32) <<< (nI c &&& 31) = nI (2 ^ c) ∧ ((1 : Int32) <<< (nI c &&& 31)).toInt64 - 1 = ((1 : Int32) <<< (nI c &&& 31) - 1).toInt64 := by
  rcases (show c = 0 ∨ c = 1 ∨ c = 2 ∨ c = 3 ∨ c = 4 ∨ c = 5 ∨ c = 6 by omega) with rfl | rfl | rfl | rfl | rfl | rfl | rfl <;> exact ⟨by decide, by decide⟩
theorem st_likely : ∀ (σ τ : xS), Sim σ τ → ∀ (a1 a2 a3 : Int32), ∃ (r : Int64) (σ1 τ1 : xS), F_X11_likely a1 a2 a3 σ = some (r, σ1) ∧ F_X12_likely a1 a2 a3 τ = some (r, τ1) ∧ Sim σ1 τ1 := by
  intro σ τ0 h0 a1 a2 a3
  have h := Sim_thr h0
  unfold F_X11_likely F_X12_likely
  simp only [nm_eq]
  generalize uI τ0 0 0 = τ at h ⊢
  obtain ⟨c, hc, e1, e2⟩ := cnt4 h.1
  rw [e1, rdL6, e2, (sh_nI hc).2]
  simp only [R_i0_r, R_isPart, R_i0_1, C_isWithin, bd_eq, ib2]
  by_cases p : 0 ≤ a1 ∧ a1 ≤ (1 : Int32) <<< (nI c &&& 31) - 1
  rotate_left
  · simp only [if_neg p]
    exact ⟨_, _, _, rfl, rfl, h⟩
  simp only [if_pos p]
  by_cases p2 : 0 ≤ a2 ∧ a2 ≤ 100
  rotate_left
  · simp only [if_neg p2]
    exact ⟨_, _, _, rfl, rfl, h⟩
  simp only [if_pos p2]
  by_cases p3 : 0 ≤ a3 ∧ a3 ≤ 1
  rotate_left
  · simp only [if_neg p3]
    exact ⟨_, _, _, rfl, rfl, h⟩
  simp only [if_pos p3]
  obtain ⟨i, hi, rfl⟩ := idxle p2 (c := 100) rfl (by omega)
  obtain ⟨q, hq, q1, q2⟩ := often_eq h.1 hc e1 e2 a1 (k := 0) (by decide)
  obtain ⟨r, hr, r1, r2⟩ := often_eq h.1 hc e1 e2 a1 (k := 1) (by decide)
  have q1' : F_X11_howOften a1 0 σ = _ := q1
  have q2' : F_X12_shows a1 0 τ = _ := q2
  have r1' : F_X11_howOften a1 1 σ = _ := r1
  have r2' : F_X12_shows a1 1 τ = _ := r2
  have hs : (100 : Int32) - nI i = nI (100 - i) := pk_sub (a := 100) hi
  have z1 : ((i : Int) * (q : Int)) = ((i * q : Nat) : Int) := rfl
  have z2 : (((i * q : Nat) : Int) + ((100 - i : Nat) : Int) * (r : Int)) = ((i * q + (100 - i) * r : Nat) : Int) := rfl
  have b1 : i * q ≤ 100 * 1000000000000 := Nat.mul_le_mul hi hq
  have b2' : (100 - i) * r ≤ 100 * 1000000000000 := Nat.mul_le_mul (by omega) hr
  rw [q1', q2', bd_eq, bd_eq, r1', r2', bd_eq, bd_eq, hs, zL_n (by omega), zL_n (by omega), zL_mul, zL_mul, zL_add, z1, z2, C_lo (by omega) (by omega), bd_eq]
  refine ⟨_, _, _, rfl, R_lo (by omega) (by omega) a3 τ, h⟩
/-- the two errors, counted on both sides alike -/
theorem err_loop {σ τ : xS} {c : Nat} (h : SimSt σ τ) (hc : c ≤ 6) (e1 : sI σ 259 = nI c) (e2 : sA τ 3 6 = nI c) (a b k : Int32) (hk : k = 0 ∨ k = 1) (m : Nat) : ∀ (n n' i : Nat) (u v x : Int64), m < n → m < n' → i + m = 2 ^ c → (if k = 0 then u else v) = x → ∃ r : Int64, F_X11_errors_42 n a b k u v (nI i) σ = some (r, σ) ∧ F_X12_errors_39 n' a b k x (nI i) τ = some (r, τ) := by
  have hc2 : 2 ^ c ≤ 64 := Nat.pow_le_pow_right (by decide) hc
  induction m with
  | zero =>
    intro n n' i u v x hn hn' hi hx
    obtain ⟨n, rfl⟩ : ∃ q, n = q + 1 := ⟨n - 1, by omega⟩
    obtain ⟨n', rfl⟩ : ∃ q, n' = q + 1 := ⟨n' - 1, by omega⟩
    rw [F_X11_errors_42, e1, (sh_nI hc).1, if_pos (nI_le (by omega) (by omega)), F_X12_errors_39, rdL6, e2, (sh_nI hc).1, if_pos (nI_le (by omega) (by omega))]
    rcases hk with rfl | rfl
    · rw [if_pos rfl] at hx ⊢
      exact ⟨_, rfl, by rw [hx]⟩
    · rw [if_neg (by decide)] at hx ⊢
      exact ⟨_, rfl, by rw [hx]⟩
  | succ m ih =>
    intro n n' i u v x hn hn' hi hx
    obtain ⟨n, rfl⟩ : ∃ q, n = q + 1 := ⟨n - 1, by omega⟩
    obtain ⟨n', rfl⟩ : ∃ q, n' = q + 1 := ⟨n' - 1, by omega⟩
    obtain ⟨q, hq, q1, q2⟩ := often_eq h hc e1 e2 (nI i) (k := 0) (by decide)
    obtain ⟨r, hr, r1, r2⟩ := often_eq h hc e1 e2 (nI i) (k := 1) (by decide)
    have q1' : F_X11_howOften (nI i) 0 σ = _ := q1
    have q2' : F_X12_shows (nI i) 0 τ = _ := q2
    have r1' : F_X11_howOften (nI i) 1 σ = _ := r1
    have r2' : F_X12_shows (nI i) 1 τ = _ := r2
    generalize zL (q : Int) = V at q1' q2'
    generalize zL (r : Int) = Z at r1' r2'
    rw [F_X11_errors_42, e1, (sh_nI hc).1, if_neg (nI_ge (by omega) (by omega)), F_X12_errors_39, rdL6, e2, (sh_nI hc).1, if_neg (nI_ge (by omega) (by omega)), q1', q2', bd_eq, bd_eq, nm_eq, r1', r2', bd_eq, bd_eq]
    simp only [nm_eq, nI_1]
    unfold F_X11_isCalled
    rw [Int64.mul_comm (b.toInt64)]
    have hC : ∀ y : Int64, y = (if k = 0 then (0 : Int64) else Z) → ∃ r : Int64, F_X11_errors_42 n a b k u (v + Z) (nI (i + 1)) σ = some (r, σ) ∧ F_X12_errors_140 (F_X12_errors_39 n') a b k (nI i) x y τ = some (r, τ) := by
      intro y hy
      unfold F_X12_errors_140
      rw [nm_eq, nm_eq, nI_1]
      refine ih n n' (i + 1) u (v + Z) (x + y) (by omega) (by omega) (by omega) ?_
      rcases hk with rfl | rfl
      · rw [if_pos rfl] at hx hy ⊢
        rw [hx, hy, Int64.add_zero]
      · rw [if_neg (by decide)] at hx hy ⊢
        rw [hx, hy]
    have hN : ∀ y : Int64, y = (if k = 0 then V else (0 : Int64)) → ∃ r : Int64, F_X11_errors_42 n a b k (u + V) v (nI (i + 1)) σ = some (r, σ) ∧ F_X12_errors_140 (F_X12_errors_39 n') a b k (nI i) x y τ = some (r, τ) := by
      intro y hy
      unfold F_X12_errors_140
      rw [nm_eq, nm_eq, nI_1]
      refine ih n n' (i + 1) (u + V) v (x + y) (by omega) (by omega) (by omega) ?_
      rcases hk with rfl | rfl
      · rw [if_pos rfl] at hx hy ⊢
        rw [hx, hy]
      · rw [if_neg (by decide)] at hx hy ⊢
        rw [hx, hy, Int64.add_zero]
    have h1C : ∃ r : Int64, F_X11_errors_42 n a b k u (v + Z) (nI (i + 1)) σ = some (r, σ) ∧ F_X12_errors_110 (F_X12_errors_39 n') a b k x (nI i) 1 τ = some (r, τ) := by
      unfold F_X12_errors_110 F_X12_errors_126
      rcases hk with rfl | rfl
      · rw [if_neg (by decide), if_neg (by decide)]
        exact hC 0 rfl
      · rw [if_pos rfl, if_pos rfl, r2', bd_eq]
        exact hC Z rfl
    have h1N : ∃ r : Int64, F_X11_errors_42 n a b k (u + V) v (nI (i + 1)) σ = some (r, σ) ∧ F_X12_errors_109 (F_X12_errors_39 n') a b k x (nI i) τ = some (r, τ) := by
      unfold F_X12_errors_109 F_X12_errors_110 F_X12_errors_126
      rcases hk with rfl | rfl
      · rw [if_neg (by decide), if_pos rfl, q2', bd_eq]
        exact hN V rfl
      · rw [if_pos rfl, if_neg (by decide)]
        exact hN 0 rfl
    by_cases z1 : lg_cmp (a.toInt64 * V + (100 - a).toInt64 * Z) 0 ≤ 0
    · rw [if_pos z1, if_pos z1, cz_0, bd_eq, if_pos rfl]
      exact h1N
    · rw [if_neg z1, if_neg z1]
      by_cases z2 : lg_cmp (a.toInt64 * V * 100) ((a.toInt64 * V + (100 - a).toInt64 * Z) * b.toInt64) < 0
      · rw [if_pos z2, if_pos z2, cz_0, bd_eq, if_pos rfl]
        exact h1N
      · rw [if_neg z2, if_neg z2, cz_1, bd_eq, if_neg (by decide)]
        exact h1C
theorem st_errors : ∀ (σ τ : xS), Sim σ τ → ∀ (a1 a2 a3 : Int32), ∃ (r : Int64) (σ1 τ1 : xS), F_X11_errors a1 a2 a3 σ = some (r, σ1) ∧ F_X12_errors a1 a2 a3 τ = some (r, τ1) ∧ Sim σ1 τ1 := by
  intro σ τ0 h0 a1 a2 a3
  have h := Sim_thr h0
  unfold F_X11_errors F_X12_errors
  simp only [nm_eq]
  generalize uI τ0 0 0 = τ at h ⊢
  obtain ⟨c, hc, e1, e2⟩ := cnt4 h.1
  simp only [R_isPart, R_i0_1, R_i0_100, C_isWithin, bd_eq, ib2]
  by_cases p : 0 ≤ a1 ∧ a1 ≤ 100
  rotate_left
  · simp only [if_neg p]
    exact ⟨_, _, _, rfl, rfl, h⟩
  simp only [if_pos p]
  by_cases p2 : 0 ≤ a2 ∧ a2 ≤ 100
  rotate_left
  · simp only [if_neg p2]
    exact ⟨_, _, _, rfl, rfl, h⟩
  simp only [if_pos p2]
  by_cases p3 : 0 ≤ a3 ∧ a3 ≤ 1
  rotate_left
  · simp only [if_neg p3]
    exact ⟨_, _, _, rfl, rfl, h⟩
  simp only [if_pos p3]
  have hk : a3 = 0 ∨ a3 = 1 := by
    obtain ⟨k, hk, rfl⟩ := idxle p3 (c := 1) rfl (by omega)
    rcases (show k = 0 ∨ k = 1 by omega) with rfl | rfl
    · exact Or.inl rfl
    · exact Or.inr rfl
  have hc2 : 2 ^ c ≤ 64 := Nat.pow_le_pow_right (by decide) hc
  obtain ⟨r, r1, r2⟩ := err_loop h.1 hc e1 e2 a1 a2 a3 hk (2 ^ c) FU FU 0 0 0 0 (by unfold FU; omega) (by unfold FU; omega) (by omega) (by split <;> rfl)
  exact ⟨r, σ, τ, r1, r2, h⟩
/-! ===== ways to show ===== -/
def chOK (n k : Nat) : Nat → Nat → Nat → Bool
  | 0, v, _ => decide (v ≤ 184756)
  | m + 1, v, j => decide (v ≤ 184756) && decide (1 ≤ j) && decide (j ≤ 20) && chOK n k m (v * (n - k + j) / j) (j + 1)
def chV (n k : Nat) : Nat → Nat → Nat → Nat
  | 0, v, _ => v
  | m + 1, v, j => chV n k m (v * (n - k + j) / j) (j + 1)
theorem chOK_all : ∀ n, n < 21 → ∀ k, k < n + 1 → chOK n k k 1 1 = true := by decide +kernel
theorem ch_le (n k m : Nat) : ∀ v j : Nat, chOK n k m v j = true → chV n k m v j ≤ 184756 := by
  induction m with
  | zero =>
    intro v j h
    unfold chOK at h
    exact of_decide_eq_true h
  | succ m ih =>
    intro v j h
    unfold chOK at h
    rw [Bool.and_eq_true] at h
    exact ih _ _ h.2
theorem ch_step {n k v j : Nat} (hn : n ≤ 20) (hk : k ≤ n) (hv : v ≤ 184756) (hj : 1 ≤ j) (hj2 : j ≤ 20) : zL v * ((nI n - nI k) + nI j).toInt64 / (nI j).toInt64 = zL ((v * (n - k + j) / j : Nat) : Int) ∧ ¬ (nI j).toInt64 = 0 := by
  have h1 : v * (n - k + j) ≤ 184756 * 40 := Nat.mul_le_mul hv (by omega)
  have h2 : ((v : Int) * ((n - k + j : Nat) : Int)) = ((v * (n - k + j) : Nat) : Int) := rfl
  rw [pk_sub hk, nI_add, zL_n (by omega), zL_n (by omega), zL_mul, h2, zL_div (by omega) (by omega)]
  exact ⟨rfl, zL_ne0 (by omega) (by omega)⟩
theorem C_ch_loop {n k : Nat} (hn : n ≤ 20) (hk : k ≤ n) (σ : xS) (m : Nat) : ∀ (f v j : Nat), m < f → j + m = k + 1 → chOK n k m v j = true → F_X11_waysToChoose_16 f (nI n) (nI k) (zL v) (nI j) σ = some (zL (chV n k m v j), σ) := by
  induction m with
  | zero =>
    intro f v j hf hj h
    obtain ⟨f, rfl⟩ : ∃ q, f = q + 1 := ⟨f - 1, by omega⟩
    rw [F_X11_waysToChoose_16, if_pos (nI_lt (by omega) (by omega)), chV]
  | succ m ih =>
    intro f v j hf hj h
    obtain ⟨f, rfl⟩ : ∃ q, f = q + 1 := ⟨f - 1, by omega⟩
    unfold chOK at h
    rw [Bool.and_eq_true, Bool.and_eq_true, Bool.and_eq_true] at h
    obtain ⟨⟨⟨h1, h2⟩, h3⟩, h4⟩ := h
    obtain ⟨s1, s2⟩ := ch_step hn hk (of_decide_eq_true h1) (of_decide_eq_true h2) (of_decide_eq_true h3)
    rw [F_X11_waysToChoose_16, if_neg (nI_nlt (by omega) (by omega)), nzL_y s2, nm_eq, nm_eq, s1, nI_1, ih f _ (j + 1) (by omega) (by omega) h4, chV]
theorem R_ch_loop {n k : Nat} (hn : n ≤ 20) (hk : k ≤ n) (σ : xS) (m : Nat) : ∀ (f v j : Nat), m < f → j + m = k + 1 → chOK n k m v j = true → F_X12_choose_16 f (nI n) (nI k) (zL v) (nI j) σ = some (zL (chV n k m v j), σ) := by
  induction m with
  | zero =>
    intro f v j hf hj h
    obtain ⟨f, rfl⟩ : ∃ q, f = q + 1 := ⟨f - 1, by omega⟩
    rw [F_X12_choose_16, if_pos (nI_lt (by omega) (by omega)), chV]
  | succ m ih =>
    intro f v j hf hj h
    obtain ⟨f, rfl⟩ : ∃ q, f = q + 1 := ⟨f - 1, by omega⟩
    unfold chOK at h
    rw [Bool.and_eq_true, Bool.and_eq_true, Bool.and_eq_true] at h
    obtain ⟨⟨⟨h1, h2⟩, h3⟩, h4⟩ := h
    obtain ⟨s1, s2⟩ := ch_step hn hk (of_decide_eq_true h1) (of_decide_eq_true h2) (of_decide_eq_true h3)
    rw [F_X12_choose_16, if_neg (nI_nlt (by omega) (by omega)), nzL_y s2, nm_eq, nm_eq, s1, nI_1, ih f _ (j + 1) (by omega) (by omega) h4, chV]
theorem ch_eq {n : Nat} (hn : n ≤ 20) (k : Int32) (σ τ : xS) : ∃ w : Nat, w ≤ 184756 ∧ F_X11_waysToChoose (nI n) k σ = some (zL w, σ) ∧ F_X12_choose (nI n) k τ = some (zL w, τ) := by
  unfold F_X11_waysToChoose F_X12_choose
  rw [C_isWithin, bd_eq, ib2]
  by_cases h : 0 ≤ k ∧ k ≤ nI n
  · obtain ⟨j, hj, rfl⟩ := idxle h rfl (by omega)
    have ho := chOK_all n (by omega) j (by omega)
    have z1 : F_X11_waysToChoose_16 FU (nI n) (nI j) 1 1 σ = _ := C_ch_loop hn hj σ j FU 1 1 (by unfold FU; omega) (by omega) ho
    have z2 : F_X12_choose_16 FU (nI n) (nI j) 1 1 τ = _ := R_ch_loop hn hj τ j FU 1 1 (by unfold FU; omega) (by omega) ho
    rw [if_pos h, if_neg (nI_pos (by omega)), if_pos h.2, nm_eq, nm_eq, nm_eq, nm_eq, z1, z2]
    exact ⟨_, ch_le n j j 1 1 ho, rfl, rfl⟩
  · rw [if_neg h]
    refine ⟨0, by decide, rfl, ?_⟩
    by_cases h1 : k < 0
    · rw [if_pos h1]
      rfl
    · rw [if_neg h1, if_neg (fun q => h ⟨Int32.not_lt.mp h1, q⟩)]
      rfl
/-- a box's three numbers -/
theorem box_cell {σ τ : xS} (h : SimSt σ τ) {c i : Nat} (e2 : sA τ 3 3 = nI c) (hc : c ≤ 12) (hi : i < c) : ∃ g s v : Nat, g ≤ 20 ∧ 1 ≤ g ∧ s ≤ g ∧ v ≤ 9999 ∧ sA τ 3 (63 + 3 * i) = nI g ∧ sA τ 3 (63 + 3 * i + 1) = nI s ∧ sA τ 3 (63 + 3 * i + 2) = nI v ∧ sA σ 11 (i * 3 + 0) = nI g ∧ sA σ 11 (i * 3 + 1) = nI s ∧ sA σ 11 (i * 3 + 2) = nI v := by
  obtain ⟨g, g1, g2, -⟩ := seg_nat h.2.1 (k := 63 + 3 * i + 0) (by omega) (by omega)
  obtain ⟨s, s1, s2, -⟩ := seg_nat h.2.1 (k := 63 + 3 * i + 1) (by omega) (by omega)
  obtain ⟨v, v1, v2, -⟩ := seg_nat h.2.1 (k := 63 + 3 * i + 2) (by omega) (by omega)
  have c0 := cell_box h (i := i) (w := 0) (by omega) (by decide)
  have c1 := cell_box h (i := i) (w := 1) (by omega) (by decide)
  have c2 := cell_box h (i := i) (w := 2) (by omega) (by decide)
  have hh := h.2.1.2.2 i (by omega)
  rw [hi_box i (by omega) 0 (by decide)] at g1
  rw [hi_box i (by omega) 1 (by decide)] at s1
  rw [hi_box i (by omega) 2 (by decide)] at v1
  have g1' : (g : Int) ≤ 20 := g1
  have s1' : (s : Int) ≤ 20 := s1
  have v1' : (v : Int) ≤ 9999 := v1
  have g2' : sA τ 3 (63 + 3 * i) = nI g := g2
  rw [show 64 + 3 * i = 63 + 3 * i + 1 by omega, s2, g2', e2, nI_toInt (by omega), nI_toInt (by omega), nI_toInt (by omega)] at hh
  have hp := hh.2 (by omega)
  exact ⟨g, s, v, by omega, by omega, by omega, by omega, g2', s2, v2, by rw [c0, g2], by rw [c1, s2], by rw [c2, v2]⟩
theorem way_eq {σ τ : xS} (h : SimSt σ τ) {c i : Nat} (hc : c ≤ 12) (e1 : sI σ 163 = nI c) (e2 : sA τ 3 3 = nI c) (hi : i < c) (a b d : Int32) : (((1 ≤ a ∧ a ≤ 20) ∧ (0 ≤ b ∧ b ≤ a) ∧ (0 ≤ d ∧ d ≤ b)) → ∃ w : Nat, w ≤ 34134779536 ∧ F_X11_waysToShow (nI i) a b d σ = some (zL w, σ) ∧ F_X12_showing (nI i) a b d τ = some (zL w, τ)) ∧ (¬ ((1 ≤ a ∧ a ≤ 20) ∧ (0 ≤ b ∧ b ≤ a) ∧ (0 ≤ d ∧ d ≤ b)) → F_X11_waysToShow (nI i) a b d σ = some (0, σ)) := by
  obtain ⟨g, s, v, b1, b2', b3, b4, t0, t1, t2, c0, c1, c2⟩ := box_cell h e2 hc hi
  have g0 : F_X6_get 1 (nI i) 0 σ = some (sA σ 11 (i * 3 + 0), σ) := C_getY (r := 1) (w := 0) e1 (show c ≤ 12 from hc) hi (by decide)
  have g1 : F_X6_get 1 (nI i) 1 σ = some (sA σ 11 (i * 3 + 1), σ) := C_getY (r := 1) (w := 1) e1 (show c ≤ 12 from hc) hi (by decide)
  have ei : (63 : Int32) + 3 * nI i = nI (63 + 3 * i) := by
    show nI 63 + nI 3 * nI i = _
    rw [pk_mul, nI_add]
  unfold F_X11_waysToShow F_X12_showing
  rw [g0, bd_eq, c0, ei, nI_1, rd_n (by omega) (by decide), rd_n (by omega) (by decide), t0, t1]
  simp only [C_isWithin, bd_eq, ib2]
  by_cases eg : nI g = a
  · subst eg
    rw [if_pos rfl, if_pos rfl, g1, bd_eq, c1, pk_sub b3]
    have hg : 1 ≤ nI g ∧ nI g ≤ 20 := ⟨nI_le (a := 1) b2' (by omega), nI_le (b := 20) b1 (by omega)⟩
    constructor
    · intro ⟨_, k2, k3⟩
      obtain ⟨w1, x1, x2, x3⟩ := ch_eq (n := s) (by omega) d σ τ
      obtain ⟨w2, y1, y2, y3⟩ := ch_eq (n := g - s) (by omega) (b - d) σ τ
      rw [if_pos k2, if_pos k3, x2, x3, bd_eq, bd_eq, y2, y3, bd_eq, bd_eq, zL_mul]
      exact ⟨w1 * w2, Nat.le_trans (Nat.mul_le_mul x1 y1) (by decide), rfl, rfl⟩
    · intro hn
      by_cases k2 : 0 ≤ b ∧ b ≤ nI g
      · rw [if_pos k2]
        by_cases k3 : 0 ≤ d ∧ d ≤ b
        · exact absurd ⟨hg, k2, k3⟩ hn
        · rw [if_neg k3]
      · rw [if_neg k2]
  · rw [if_neg eg, if_neg eg]
    exact ⟨fun _ => ⟨0, by decide, rfl, rfl⟩, fun _ => rfl⟩
theorem R_isGlance (a b d k : Int32) (τ : xS) : F_X12_isGlance a b d k τ = some (b2 (((1 ≤ a ∧ a ≤ 20) ∧ (0 ≤ b ∧ b ≤ a) ∧ (0 ≤ d ∧ d ≤ b)) ∧ (0 ≤ k ∧ k ≤ 1)), τ) := by
  unfold F_X12_isGlance
  simp only [R_i0_1, R_i1_20, R_i0_r, bd_eq, ib2]
  by_cases p1 : 1 ≤ a ∧ a ≤ 20
  rotate_left
  · simp only [if_neg p1, cz_0]
    exact congrArg (fun x => some (x, τ)) (b2_0.mpr (fun q => p1 q.1.1)).symm
  by_cases p2 : 0 ≤ b ∧ b ≤ a
  rotate_left
  · simp only [if_pos p1, if_neg p2, cz_0]
    exact congrArg (fun x => some (x, τ)) (b2_0.mpr (fun q => p2 q.1.2.1)).symm
  by_cases p3 : 0 ≤ d ∧ d ≤ b
  rotate_left
  · simp only [if_pos p1, if_pos p2, if_neg p3, cz_0]
    exact congrArg (fun x => some (x, τ)) (b2_0.mpr (fun q => p3 q.1.2.2)).symm
  by_cases p4 : 0 ≤ k ∧ k ≤ 1
  rotate_left
  · simp only [if_pos p1, if_pos p2, if_pos p3, if_neg p4, cz_0]
    exact congrArg (fun x => some (x, τ)) (b2_0.mpr (fun q => p4 q.2)).symm
  simp only [if_pos p1, if_pos p2, if_pos p3, if_pos p4, cz_1]
  exact congrArg (fun x => some (x, τ)) (b2_1.mpr ⟨⟨p1, p2, p3⟩, p4⟩).symm
theorem worth_loop {σ τ : xS} (h : SimSt σ τ) {c : Nat} (hc : c ≤ 12) (e1 : sI σ 163 = nI c) (e2 : sA τ 3 3 = nI c) (a b d k : Int32) (hg : (1 ≤ a ∧ a ≤ 20) ∧ (0 ≤ b ∧ b ≤ a) ∧ (0 ≤ d ∧ d ≤ b)) (m : Nat) : ∀ (n n' i t u : Nat), m < n → m < n' → i + m = c → t ≤ i * 34134779536 → u ≤ i * 341313660580464 → ∃ r : Int64, F_X11_worth_23 n a b d k (zL t) (zL u) (nI i) σ = some (r, σ) ∧ F_X12_worth_29 n' a b d k (zL t) (zL u) (nI i) τ = some (r, τ) := by
  induction m with
  | zero =>
    intro n n' i t u hn hn' hi ht hu
    obtain ⟨n, rfl⟩ : ∃ q, n = q + 1 := ⟨n - 1, by omega⟩
    obtain ⟨n', rfl⟩ : ∃ q, n' = q + 1 := ⟨n' - 1, by omega⟩
    have bt : t ≤ 12 * 34134779536 := Nat.le_trans ht (Nat.mul_le_mul_right _ (by omega))
    have bu : u ≤ 12 * 341313660580464 := Nat.le_trans hu (Nat.mul_le_mul_right _ (by omega))
    rw [F_X11_worth_23, e1, if_pos (nI_le (by omega) (by omega)), F_X12_worth_29, rdL3, e2, if_pos (nI_le (by omega) (by omega)), C_lo (by omega) (by omega), bd_eq]
    exact ⟨_, rfl, R_lo (by omega) (by omega) k τ⟩
  | succ m ih =>
    intro n n' i t u hn hn' hi ht hu
    obtain ⟨n, rfl⟩ : ∃ q, n = q + 1 := ⟨n - 1, by omega⟩
    obtain ⟨n', rfl⟩ : ∃ q, n' = q + 1 := ⟨n' - 1, by omega⟩
    obtain ⟨g, s, v, b1, b2', b3, b4, t0, t1, t2, c0, c1, c2⟩ := box_cell h e2 hc (i := i) (by omega)
    obtain ⟨w, w1, w2, w3⟩ := (way_eq h hc e1 e2 (i := i) (by omega) a b d).1 hg
    have g2 : F_X6_get 1 (nI i) 2 σ = some (sA σ 11 (i * 3 + 2), σ) := C_getY (r := 1) (w := 2) e1 (show c ≤ 12 from hc) (by omega) (by decide)
    have ei : (63 : Int32) + 3 * nI i + 2 = nI (63 + 3 * i + 2) := by
      show nI 63 + nI 3 * nI i + nI 2 = _
      rw [pk_mul, nI_add, nI_add]
    have z1 : ((t : Int) + (w : Int)) = ((t + w : Nat) : Int) := rfl
    have z2 : ((u : Int) + (w : Int) * (v : Int)) = ((u + w * v : Nat) : Int) := rfl
    have bw : w * v ≤ 34134779536 * 9999 := Nat.mul_le_mul w1 b4
    rw [F_X11_worth_23, e1, if_neg (nI_ge (by omega) (by omega)), F_X12_worth_29, rdL3, e2, if_neg (nI_ge (by omega) (by omega)), w2, w3, bd_eq, bd_eq, nm_eq, nm_eq, w3, bd_eq, g2, bd_eq, ei, rd_n (by omega) (by decide), t2, c2, zL_n (by omega)]
    simp only [nm_eq, zL_mul, zL_add, nI_1, z1, z2]
    exact ih n n' (i + 1) (t + w) (u + w * v) (by omega) (by omega) (by omega) (by rw [Nat.succ_mul]; omega) (by rw [Nat.succ_mul]; omega)
theorem worth_none {σ τ : xS} (h : SimSt σ τ) {c : Nat} (hc : c ≤ 12) (e1 : sI σ 163 = nI c) (e2 : sA τ 3 3 = nI c) (a b d k : Int32) (hg : ¬ ((1 ≤ a ∧ a ≤ 20) ∧ (0 ≤ b ∧ b ≤ a) ∧ (0 ≤ d ∧ d ≤ b))) (m : Nat) : ∀ (n i : Nat) (u : Int64), m < n → i + m = c → F_X11_worth_23 n a b d k 0 u (nI i) σ = some (-1000000000000000000, σ) := by
  induction m with
  | zero =>
    intro n i u hn hi
    obtain ⟨n, rfl⟩ : ∃ q, n = q + 1 := ⟨n - 1, by omega⟩
    rw [F_X11_worth_23, e1, if_pos (nI_le (by omega) (by omega)), show (0 : Int64) = zL 0 from rfl, C_lowest0, bd_eq]
  | succ m ih =>
    intro n i u hn hi
    obtain ⟨n, rfl⟩ : ∃ q, n = q + 1 := ⟨n - 1, by omega⟩
    have w2 := (way_eq h hc e1 e2 (i := i) (by omega) a b d).2 hg
    have g2 : F_X6_get 1 (nI i) 2 σ = some (sA σ 11 (i * 3 + 2), σ) := C_getY (r := 1) (w := 2) e1 (show c ≤ 12 from hc) (by omega) (by decide)
    rw [F_X11_worth_23, e1, if_neg (nI_ge (by omega) (by omega)), w2, bd_eq, nm_eq, g2, bd_eq, nm_eq, nm_eq, nI_1, Int64.add_zero]
    exact ih n (i + 1) _ (by omega) (by omega)
theorem st_worth : ∀ (σ τ : xS), Sim σ τ → ∀ (a1 a2 a3 a4 : Int32), ∃ (r : Int64) (σ1 τ1 : xS), F_X11_worth a1 a2 a3 a4 σ = some (r, σ1) ∧ F_X12_worth a1 a2 a3 a4 τ = some (r, τ1) ∧ Sim σ1 τ1 := by
  intro σ τ0 h0 a1 a2 a3 a4
  have h := Sim_thr h0
  unfold F_X11_worth F_X12_worth
  simp only [nm_eq]
  generalize uI τ0 0 0 = τ at h ⊢
  obtain ⟨c, hc, e1, e2⟩ := cnt1 h.1
  simp only [R_isGlance, C_isWithin, bd_eq, ib2]
  by_cases p : 0 ≤ a4 ∧ a4 ≤ 1
  rotate_left
  · simp only [if_neg p, if_neg (fun q : ((1 ≤ a1 ∧ a1 ≤ 20) ∧ (0 ≤ a2 ∧ a2 ≤ a1) ∧ (0 ≤ a3 ∧ a3 ≤ a2)) ∧ (0 ≤ a4 ∧ a4 ≤ 1) => p q.2)]
    exact ⟨_, _, _, rfl, rfl, h⟩
  simp only [if_pos p]
  by_cases p2 : (1 ≤ a1 ∧ a1 ≤ 20) ∧ (0 ≤ a2 ∧ a2 ≤ a1) ∧ (0 ≤ a3 ∧ a3 ≤ a2)
  · simp only [if_pos (And.intro p2 p)]
    obtain ⟨r, r1, r2⟩ := worth_loop h.1 hc e1 e2 a1 a2 a3 a4 p2 c FU FU 0 0 0 (by unfold FU; omega) (by unfold FU; omega) (by omega) (by decide) (by decide)
    exact ⟨r, σ, τ, r1, r2, h⟩
  · simp only [if_neg (fun q : ((1 ≤ a1 ∧ a1 ≤ 20) ∧ (0 ≤ a2 ∧ a2 ≤ a1) ∧ (0 ≤ a3 ∧ a3 ≤ a2)) ∧ (0 ≤ a4 ∧ a4 ≤ 1) => p2 q.1)]
    exact ⟨_, _, _, worth_none h.1 hc e1 e2 a1 a2 a3 a4 p2 c FU 0 0 (by unfold FU; omega) (by omega), rfl, h⟩
