section
/-! ===== the dealer ===== -/
def woN (τ : xS) (b : Nat) : Nat := (sA τ 3 (13 + 5 * b + 1)).toNatClampNeg
def bpN (τ : xS) (b : Nat) : Nat := (sA τ 3 (13 + 5 * b + 3)).toNatClampNeg
/-- what he gains by a book at a price; 0 of what he leaves -/
def gnN (τ : xS) (b pr : Nat) (lt : Int32) : Nat := if pr < woN τ b ∧ tkB τ b (nI pr) lt = true then woN τ b - pr else 0
theorem wo_ok {σ τ : xS} (hS : SimSt σ τ) {b : Nat} (hb : b < 10) : woN τ b ≤ 999 ∧ sA τ 3 (13 + 5 * b + 1) = nI (woN τ b) := by
  obtain ⟨k, v, a, p, l, -, h2, -, -, -, -, e2, -⟩ := cell_bk hS hb
  unfold woN
  rw [e2, nI_clamp (by omega)]
  exact ⟨h2, rfl⟩
theorem bp_ok {σ τ : xS} (hS : SimSt σ τ) {b : Nat} (hb : b < 10) : bpN τ b ≤ 999 ∧ sA τ 3 (13 + 5 * b + 3) = nI (bpN τ b) := by
  obtain ⟨k, v, a, p, l, -, -, -, h2, -, -, -, -, e2, -⟩ := cell_bk hS hb
  unfold bpN
  rw [e2, nI_clamp (by omega)]
  exact ⟨h2, rfl⟩
theorem gn_le {σ τ : xS} (hS : SimSt σ τ) {b : Nat} (hb : b < 10) (pr : Nat) (lt : Int32) : gnN τ b pr lt ≤ 999 := by
  have := (wo_ok hS hb).1
  unfold gnN
  split
  · omega
  · omega
theorem C_gain {σ τ : xS} (hS : SimSt σ τ) {b pr : Nat} (hb : b < 10) (hpr : pr ≤ 2000) {lt : Int32} {W : Nat → Int32} (hW : wdT τ b (sA τ 3 (13 + 5 * b + 4)) lt (nI pr) 0 0 W) : ∃ σ', F_X1_gain (uA σ 45 W) = some (nI (gnN τ b pr lt), σ') ∧ frS (uA σ 45 W) σ' := by
  obtain ⟨w1, w2⟩ := wo_ok hS hb
  have e2 : W 2 = nI (woN τ b) := hW.2.2.1.trans w2
  have e4 : W 4 = nI pr := hW.2.2.2.2.1
  have hx : (nI (woN τ b) - nI pr).toInt = (woN τ b : Int) - pr := pk_sub_toInt (by omega) (by omega)
  obtain ⟨σ', t1, t2⟩ := tk_C hS hb hW
  unfold F_X1_gain gnN
  rw [rd10_2, rd10_4, sA_s, e2, e4, nm_eq]
  by_cases h : pr < woN τ b
  · have hn : ¬ (nI (woN τ b) - nI pr ≤ 0) := by
      rw [Int32.le_iff_toInt_le, hx, show (0 : Int32).toInt = 0 from rfl]
      omega
    rw [if_neg hn, t1, bd_eq, ib2, pk_sub (by omega)]
    by_cases ht : tkB τ b (nI pr) lt = true
    · rw [if_pos ht, if_pos ⟨h, ht⟩]
      exact ⟨σ', rfl, t2⟩
    · rw [if_neg ht, if_neg (fun q => ht q.2)]
      exact ⟨σ', rfl, t2⟩
  · have hn : nI (woN τ b) - nI pr ≤ 0 := by
      rw [Int32.le_iff_toInt_le, hx, show (0 : Int32).toInt = 0 from rfl]
      omega
    rw [if_pos hn, if_neg (fun q => h q.1)]
    exact ⟨_, rfl, frS_refl _⟩
/-! ===== the greatest of those left, hand by hand ===== -/
def gv (G : Nat → Nat) (o : Option Nat) : Nat := match o with
  | none => 0
  | some b => G b
def oi (o : Option Nat) : Int32 := match o with
  | none => -1
  | some b => nI b
def glS (G : Nat → Nat) (T : Nat) : Nat → Option Nat
  | 0 => none
  | m + 1 => if gv G (glS G T m) < G m ∧ T.testBit m = false then some m else glS G T m
def tor (T : Nat) (o : Option Nat) : Nat := match o with
  | none => T
  | some b => T ||| 2 ^ b
def ggS (G : Nat → Nat) (c : Nat) : Nat → Nat → Nat
  | 0, T => T
  | h + 1, T => ggS G c h (tor T (glS G T c))
theorem gl_ok (G : Nat → Nat) (T : Nat) (m : Nat) : ∀ b, glS G T m = some b → b < m ∧ 0 < G b ∧ T.testBit b = false := by
  induction m with
  | zero =>
    intro b h
    exact (no_some h).elim
  | succ m ih =>
    intro b h
    rw [glS] at h
    split at h
    · rename_i hq
      cases h
      exact ⟨by omega, by omega, hq.2⟩
    · obtain ⟨h1, h2, h3⟩ := ih b h
      exact ⟨by omega, h2, h3⟩
theorem gl_congr {G G' : Nat → Nat} {T c : Nat} (h : ∀ j, j < c → G j = G' j) (m : Nat) (hm : m ≤ c) : glS G T m = glS G' T m := by
  induction m with
  | zero => rfl
  | succ m ih =>
    have e := ih (by omega)
    have e2 : gv G (glS G' T m) = gv G' (glS G' T m) := by
      cases hq : glS G' T m with
      | none => rfl
      | some b => exact h b (by have := (gl_ok G' T m b hq).1; omega)
    rw [glS, glS, e, h m (by omega), e2]
theorem gg_congr {G G' : Nat → Nat} {c : Nat} (h : ∀ j, j < c → G j = G' j) (m : Nat) : ∀ T, ggS G c m T = ggS G' c m T := by
  induction m with
  | zero =>
    intro T
    rfl
  | succ m ih =>
    intro T
    rw [ggS, ggS, gl_congr h c (Nat.le_refl _)]
    exact ih _
theorem gg_stop {G : Nat → Nat} {c T : Nat} (h : glS G T c = none) (m : Nat) : ggS G c m T = T := by
  induction m with
  | zero => rfl
  | succ m ih =>
    rw [ggS, h]
    exact ih
theorem tor_lt {G : Nat → Nat} {c T : Nat} (hT : T < 2 ^ c) : tor T (glS G T c) < 2 ^ c := by
  unfold tor
  split
  · exact hT
  · rename_i b hb
    exact or_lt hT (gl_ok G T c b hb).1
theorem gg_lt {G : Nat → Nat} {c : Nat} (m : Nat) : ∀ T, T < 2 ^ c → ggS G c m T < 2 ^ c := by
  induction m with
  | zero =>
    intro T hT
    exact hT
  | succ m ih =>
    intro T hT
    rw [ggS]
    exact ih _ (tor_lt hT)
theorem C_left {σ : xS} {c : Nat} (e1 : sI σ 131 = nI c) (hc : c ≤ 10) {G : Nat → Nat} (hG : ∀ j, j < c → sA σ 91 j = nI (G j) ∧ G j ≤ 999) {T : Nat} (hT : T < 2 ^ c) (m : Nat) : ∀ (n i : Nat), m < n → i + m = c → F_X1_greatestLeft_7 n (nI T) (oi (glS G T i)) (nI (gv G (glS G T i))) (nI i) σ = some (oi (glS G T c), σ) := by
  have hT2 : T < 2 ^ 31 := Nat.lt_of_lt_of_le hT (Nat.le_trans (pow_le c (by omega)) (by decide))
  induction m with
  | zero =>
    intro n i hn hi
    obtain ⟨n, rfl⟩ : ∃ q, n = q + 1 := ⟨n - 1, by omega⟩
    obtain rfl : i = c := by omega
    rw [F_X1_greatestLeft_7, e1, if_pos (nI_le (by omega) (by omega))]
  | succ m ih =>
    intro n i hn hi
    obtain ⟨n, rfl⟩ : ∃ q, n = q + 1 := ⟨n - 1, by omega⟩
    obtain ⟨g1, g2⟩ := hG i (by omega)
    have hgv : gv G (glS G T i) ≤ 999 := by
      cases hq : glS G T i with
      | none => exact Nat.zero_le _
      | some b => exact (hG b (by have := (gl_ok G T i b hq).1; omega)).2
    have hnext := ih n (i + 1) (by omega) (by omega)
    rw [F_X1_greatestLeft_7, e1, if_neg (nI_ge (by omega) (by omega)), rd_n (by omega) (by decide), g1]
    rw [glS] at hnext
    by_cases h1 : G i ≤ gv G (glS G T i)
    · rw [if_neg (fun q => by omega)] at hnext
      rw [if_pos (nI_le h1 (by omega)), nm_eq, nI_1]
      exact hnext
    · rw [if_neg (nI_ge (by omega) (by omega)), bit_if0 hT2 (by omega)]
      by_cases h2 : T.testBit i = true
      · rw [if_neg (fun q => by rw [h2] at q; exact Bool.noConfusion q.2)] at hnext
        rw [if_pos h2, nm_eq, nI_1]
        exact hnext
      · have h3 : T.testBit i = false := Bool.eq_false_iff.mpr h2
        rw [if_pos ⟨by omega, h3⟩] at hnext
        rw [if_neg h2, rd_n (by omega) (by decide), g1, nm_eq, nI_1]
        exact hnext
theorem C_gains {σ : xS} {c H : Nat} (e1 : sI σ 131 = nI c) (hc : c ≤ 10) (eH : sA σ 38 4 = nI H) (hH : H ≤ 9) {G : Nat → Nat} (hG : ∀ j, j < c → sA σ 91 j = nI (G j) ∧ G j ≤ 999) (m : Nat) : ∀ (n i T : Nat), m < n → i + m = H → T < 2 ^ c → F_X1_greatestGains_4 n (nI T) (nI i) σ = some (nI (ggS G c m T), σ) := by
  induction m with
  | zero =>
    intro n i T hn hi hT
    obtain ⟨n, rfl⟩ : ∃ q, n = q + 1 := ⟨n - 1, by omega⟩
    rw [F_X1_greatestGains_4, rd6_4, eH, if_pos (nI_le (by omega) (by omega)), ggS]
  | succ m ih =>
    intro n i T hn hi hT
    obtain ⟨n, rfl⟩ : ∃ q, n = q + 1 := ⟨n - 1, by omega⟩
    have hl : F_X1_greatestLeft (nI T) σ = some (oi (glS G T c), σ) := by
      have h := C_left e1 hc hG hT c FU 0 (by unfold FU; omega) (by omega)
      have e0 : nI 0 = (0 : Int32) := rfl
      rw [show oi (glS G T 0) = -1 from rfl, show gv G (glS G T 0) = 0 from rfl, e0] at h
      unfold F_X1_greatestLeft
      rw [nm_eq2, nm_eq2, nm_eq2]
      exact h
    rw [F_X1_greatestGains_4, rd6_4, eH, if_neg (nI_ge (by omega) (by omega)), hl, bd_eq]
    cases hq : glS G T c with
    | none =>
      rw [if_pos (show oi none = -1 from rfl), gg_stop hq]
    | some b =>
      have hb := (gl_ok G T c b hq).1
      rw [if_neg (show ¬ oi (some b) = -1 from nI_m1 (by omega)), nm_eq, nm_eq, nI_1]
      show F_X1_greatestGains_4 n (nI T ||| (1 : Int32) <<< (nI b &&& 31)) (nI (i + 1)) σ = _
      rw [sl_i (by omega), or_n, ih n (i + 1) _ (by omega) (by omega) (or_lt hT hb), ggS, hq]
      rfl
/-- what the dealer's look leaves as it was -/
def frX (σ σ' : xS) : Prop := (∀ k, k ≠ 45 → ¬ (90 ≤ k ∧ k < 100) → sA σ' k = sA σ k) ∧ (∀ k, k ≠ 707 → sI σ' k = sI σ k) ∧ (∀ k, sQ σ' k = sQ σ k) ∧ sP σ' = sP σ
theorem frX_refl (σ : xS) : frX σ σ := ⟨fun _ _ _ => rfl, fun _ _ => rfl, fun _ => rfl, rfl⟩
theorem frX_trans {σ σ1 σ2 : xS} (h : frX σ σ1) (g : frX σ1 σ2) : frX σ σ2 := ⟨fun k h1 h2 => (g.1 k h1 h2).trans (h.1 k h1 h2), fun k h1 => (g.2.1 k h1).trans (h.2.1 k h1), fun k => (g.2.2.1 k).trans (h.2.2.1 k), g.2.2.2.trans h.2.2.2⟩
theorem frX_S {σ σ1 : xS} (h : frS σ σ1) : frX σ σ1 := ⟨fun k _ _ => h.1 k, h.2.1, h.2.2.2.2.1, h.2.2.2.2.2⟩
theorem frX_A (σ : xS) {k : Nat} (f : Nat → Int32) (hk : k = 45 ∨ (90 ≤ k ∧ k < 100)) : frX σ (uA σ k f) := ⟨fun j h1 h2 => if_neg (fun q => by subst q; rcases hk with hk | hk; exact h1 hk; exact h2 hk), fun _ _ => rfl, fun _ => rfl, rfl⟩
theorem KC_X {σ σ1 : xS} (h : frX σ σ1) : KC σ σ1 := ⟨fun k hk => h.1 k (by omega) (by omega), fun k hk => h.2.1 k (by omega), h.2.2.1, h.2.2.2⟩
theorem C_takes {σ0 τ : xS} (hS : SimSt σ0 τ) {c H : Nat} (e1 : sI σ0 131 = nI c) (hc : c ≤ 10) (eH : sA τ 3 11 = nI H) (hH : H ≤ 9) {A : Nat} (hA : A < 2 ^ c) (lt : Int32) {G : Nat → Nat} (hG : ∀ j, j < c → G j = if A.testBit j = true then gnN τ j (bpN τ j) lt else 0) (m : Nat) : ∀ (n i : Nat) (σ : xS), m < n → i + m = c → frX σ0 σ → (∀ j, j < i → sA σ 91 j = nI (G j)) → ∃ σ', F_X1_takes_2 n (nI A) lt (nI i) σ = some (nI (ggS G c H 0), σ') ∧ frX σ0 σ' := by
  have hA2 : A < 2 ^ 31 := Nat.lt_of_lt_of_le hA (Nat.le_trans (pow_le c (by omega)) (by decide))
  induction m with
  | zero =>
    intro n i σ hn hi hX hg
    obtain ⟨n, rfl⟩ : ∃ q, n = q + 1 := ⟨n - 1, by omega⟩
    have e1' : sI σ 131 = nI c := (hX.2.1 131 (by decide)).trans e1
    have eH' : sA σ 38 4 = nI H := by rw [hX.1 38 (by decide) (by decide), cell_term hS (i := 4) (by decide)]; exact eH
    have hl : F_X1_greatestGains σ = some (nI (ggS G c H 0), σ) := by
      have h := C_gains e1' hc eH' hH (G := G) (fun j hj => ⟨hg j (by omega), by rw [hG j hj]; split; exact gn_le hS (by omega) _ _; exact Nat.zero_le _⟩) H FU 0 0 (by unfold FU; omega) (by omega) (Nat.two_pow_pos c)
      have e0 : nI 0 = (0 : Int32) := rfl
      rw [e0] at h
      unfold F_X1_greatestGains
      rw [nm_eq2, nm_eq2]
      exact h
    rw [F_X1_takes_2, e1', if_pos (nI_le (by omega) (by omega)), hl, bd_eq]
    exact ⟨σ, rfl, hX⟩
  | succ m ih =>
    intro n i σ hn hi hX hg
    obtain ⟨n, rfl⟩ : ∃ q, n = q + 1 := ⟨n - 1, by omega⟩
    have e1' : sI σ 131 = nI c := (hX.2.1 131 (by decide)).trans e1
    have hX1 : frX σ0 (uA σ 91 (upd (sA σ 91) i 0)) := frX_trans hX (frX_A σ _ (Or.inr (by decide)))
    have hS1 : SimSt (uA σ 91 (upd (sA σ 91) i 0)) τ := SimSt_keep hS (KC_X hX1) (KR_refl τ)
    rw [F_X1_takes_2, e1', if_neg (nI_ge (by omega) (by omega)), ck_n (by omega) (by decide), nm_eq, nI_clamp (by omega), bit_if hA2 (by omega)]
    by_cases hb : A.testBit i = true
    · obtain ⟨W, hW, w0, w1, w2, w3, w4, w5, w6, w7, w8, w9⟩ := C_about hS1 (b := i) (c := c) e1' hc (by omega) lt
      obtain ⟨p1, p2⟩ := bp_ok hS (b := i) (by omega)
      obtain ⟨σ1, g1, g2⟩ := C_gain hS1 (b := i) (pr := bpN τ i) (by omega) (by omega) (lt := lt) (W := W) ⟨w0, w1, w2, w3, w4.trans p2, w5, w6, w7, w8, w9⟩
      have hX2 : frX σ0 (uA σ1 91 (upd (sA σ1 91) i (nI (gnN τ i (bpN τ i) lt)))) := frX_trans (frX_trans (frX_trans hX1 (frX_A _ W (Or.inl rfl))) (frX_S g2)) (frX_A _ _ (Or.inr (by decide)))
      rw [if_pos hb, hW, bd_eq, g1, bd_eq, ck_n (by omega) (by decide), nm_eq, nm_eq, nI_1]
      refine ih n (i + 1) _ (by omega) (by omega) hX2 (fun j hj => ?_)
      rw [sA_s]
      unfold upd
      by_cases e : j = i
      · rw [if_pos e, e, hG i (by omega), if_pos hb]
      · rw [if_neg e, g2.1 91]
        show (if j = i then 0 else sA σ 91 j) = _
        rw [if_neg e]
        exact hg j (by omega)
    · rw [if_neg hb, nm_eq, nI_1]
      refine ih n (i + 1) _ (by omega) (by omega) hX1 (fun j hj => ?_)
      rw [sA_s]
      unfold upd
      by_cases e : j = i
      · rw [if_pos e, e, hG i (by omega), if_neg hb]
        rfl
      · rw [if_neg e]
        exact hg j (by omega)
/-! ===== sums over a set ===== -/
def smN (f : Nat → Nat) (T : Nat) : Nat → Nat
  | 0 => 0
  | m + 1 => smN f T m + (if T.testBit m = true then f m else 0)
theorem sm_le {f : Nat → Nat} {T B : Nat} (m : Nat) (h : ∀ j, j < m → f j ≤ B) : smN f T m ≤ m * B := by
  induction m with
  | zero => exact Nat.zero_le _
  | succ m ih =>
    have h1 := ih (fun j hj => h j (by omega))
    have h2 := h m (by omega)
    rw [smN, Nat.succ_mul]
    split <;> omega
theorem C_pays {σ τ : xS} (hS : SimSt σ τ) {c : Nat} (e1 : sI σ 131 = nI c) (hc : c ≤ 10) {T : Nat} (hT : T < 2 ^ c) : F_X1_pays (nI T) σ = some (nI (smN (bpN τ) T c), σ) := by
  have hT2 : T < 2 ^ 31 := Nat.lt_of_lt_of_le hT (Nat.le_trans (pow_le c (by omega)) (by decide))
  have hl : ∀ m n i, m < n → i + m = c → F_X1_pays_4 n (nI T) (nI (smN (bpN τ) T i)) (nI i) σ = some (nI (smN (bpN τ) T c), σ) := by
    intro m
    induction m with
    | zero =>
      intro n i hn hi
      obtain ⟨n, rfl⟩ : ∃ q, n = q + 1 := ⟨n - 1, by omega⟩
      obtain rfl : i = c := by omega
      rw [F_X1_pays_4, e1, if_pos (nI_le (by omega) (by omega))]
    | succ m ih =>
      intro n i hn hi
      obtain ⟨n, rfl⟩ : ∃ q, n = q + 1 := ⟨n - 1, by omega⟩
      have g : F_X6_get 0 (nI i) 3 σ = some (sA σ 9 (i * 5 + 3), σ) := C_getY (r := 0) (w := 3) e1 (show c ≤ 10 from hc) (by omega) (by decide)
      have hnext := ih n (i + 1) (by omega) (by omega)
      rw [smN] at hnext
      rw [F_X1_pays_4, e1, if_neg (nI_ge (by omega) (by omega)), bit_if hT2 (by omega)]
      by_cases hb : T.testBit i = true
      · rw [if_pos hb] at hnext
        rw [if_pos hb, g, bd_eq, cell_book hS (by omega) (by decide), (bp_ok hS (b := i) (by omega)).2, nm_eq, nm_eq, nI_1, nI_add]
        exact hnext
      · rw [if_neg hb] at hnext
        rw [if_neg hb, nm_eq, nI_1]
        exact hnext
  have h := hl c FU 0 (by unfold FU; omega) (by omega)
  have e0 : nI 0 = (0 : Int32) := rfl
  rw [show smN (bpN τ) T 0 = 0 from rfl, e0] at h
  unfold F_X1_pays
  rw [nm_eq2, nm_eq2]
  exact h
theorem R_paid {τ : xS} {c : Nat} (e2 : sA τ 3 0 = nI c) (hc : c ≤ 10) {P : Nat → Nat} (hP : ∀ j, j < c → sA τ 40 j = nI (P j)) {T : Nat} (hT : T < 2 ^ c) : F_X12_paidFor (nI T) τ = some (nI (smN P T c), τ) := by
  have hT2 : T < 2 ^ 31 := Nat.lt_of_lt_of_le hT (Nat.le_trans (pow_le c (by omega)) (by decide))
  have hl : ∀ m n i, m < n → i + m = c → F_X12_paidFor_4 n (nI T) (nI (smN P T i)) (nI i) τ = some (nI (smN P T c), τ) := by
    intro m
    induction m with
    | zero =>
      intro n i hn hi
      obtain ⟨n, rfl⟩ : ∃ q, n = q + 1 := ⟨n - 1, by omega⟩
      obtain rfl : i = c := by omega
      rw [F_X12_paidFor_4, rdL0, e2, if_pos (nI_le (by omega) (by omega))]
    | succ m ih =>
      intro n i hn hi
      obtain ⟨n, rfl⟩ : ∃ q, n = q + 1 := ⟨n - 1, by omega⟩
      have hnext := ih n (i + 1) (by omega) (by omega)
      rw [smN] at hnext
      rw [F_X12_paidFor_4, rdL0, e2, if_neg (nI_ge (by omega) (by omega)), R_is hT2 (by omega), bd_eq, ib2]
      unfold F_X12_paidFor_33
      by_cases hb : T.testBit i = true
      · rw [if_pos hb] at hnext
        rw [if_pos hb, rd_n (by omega) (by decide), hP i (by omega), nm_eq, nm_eq, nI_1, nI_add]
        exact hnext
      · rw [if_neg hb] at hnext
        rw [if_neg hb, nm_eq, nm_eq, nI_1, show nI (smN P T i) + 0 = nI (smN P T i + 0) from nI_add _ 0]
        exact hnext
  have h := hl c FU 0 (by unfold FU; omega) (by omega)
  have e0 : nI 0 = (0 : Int32) := rfl
  rw [show smN P T 0 = 0 from rfl, e0] at h
  unfold F_X12_paidFor
  rw [nm_eq2, nm_eq2]
  exact h
/-! ===== the dealer in the reference ===== -/
def frV (τ τ' : xS) : Prop := (∀ k, sA τ' k = sA τ k) ∧ (∀ k, k ≠ 27 → k ≠ 30 → k ≠ 33 → k ≠ 35 → sI τ' k = sI τ k) ∧ (∀ k, k ≠ 31 → k ≠ 32 → sJ τ' k = sJ τ k) ∧ (∀ k, k ≠ 28 → k ≠ 29 → sL τ' k = sL τ k) ∧ (∀ k, sQ τ' k = sQ τ k) ∧ sP τ' = sP τ
theorem frV_refl (τ : xS) : frV τ τ := ⟨fun _ => rfl, fun _ _ _ _ _ => rfl, fun _ _ _ => rfl, fun _ _ _ => rfl, fun _ => rfl, rfl⟩
theorem frV_trans {σ σ1 σ2 : xS} (h : frV σ σ1) (g : frV σ1 σ2) : frV σ σ2 := ⟨fun k => (g.1 k).trans (h.1 k), fun k h1 h2 h3 h4 => (g.2.1 k h1 h2 h3 h4).trans (h.2.1 k h1 h2 h3 h4), fun k h1 h2 => (g.2.2.1 k h1 h2).trans (h.2.2.1 k h1 h2), fun k h1 h2 => (g.2.2.2.1 k h1 h2).trans (h.2.2.2.1 k h1 h2), fun k => (g.2.2.2.2.1 k).trans (h.2.2.2.2.1 k), g.2.2.2.2.2.trans h.2.2.2.2.2⟩
theorem frV_T {σ σ1 : xS} (h : frT σ σ1) : frV σ σ1 := ⟨h.1, fun k h1 h2 _ _ => h.2.1 k h1 h2, h.2.2.1, h.2.2.2.1, h.2.2.2.2.1, h.2.2.2.2.2⟩
theorem frV_I (σ : xS) {k : Nat} (v : Int32) (hk : k = 33 ∨ k = 35) : frV σ (uI σ k v) := ⟨fun _ => rfl, fun j _ _ h3 h4 => if_neg (fun q => by subst q; rcases hk with hk | hk; exact h3 hk; exact h4 hk), fun _ _ _ => rfl, fun _ _ _ => rfl, fun _ => rfl, rfl⟩
theorem KR_V {σ σ1 : xS} (h : frV σ σ1) : KR σ σ1 := ⟨fun k _ => h.1 k, fun k hk => h.2.1 k (by omega) (by omega) (by omega) (by omega), h.2.2.2.1 25 (by decide) (by decide), h.2.2.2.1 26 (by decide) (by decide)⟩
theorem tk_V {σ τ : xS} (hS : SimSt σ τ) {b : Nat} (hb : b < 10) (pr : Int32) {τ1 : xS} (h3 : sA τ1 3 = sA τ 3) : ∃ τ', F_X12_isTaken (nI b) pr τ1 = some (b2 (tkB τ b pr (sI τ1 34) = true), τ') ∧ frV τ1 τ' := by
  obtain ⟨τ', h1, h2⟩ := tk_R hS hb pr h3
  exact ⟨τ', h1, frV_trans (frV_trans (frV_I τ1 _ (Or.inl rfl)) (frV_I _ _ (Or.inr rfl))) (frV_T h2)⟩
theorem KR_A (τ : xS) {k : Nat} (f : Nat → Int32) (hk : 8 ≤ k ∧ k < 42) : KR τ (uA τ k f) := ⟨fun j hj => if_neg (by omega), fun _ _ => rfl, rfl, rfl⟩
def gdN (τ : xS) (P : Nat → Nat) (A : Nat) (lt : Int32) (b : Nat) : Nat := if A.testBit b = true then 0 else gnN τ b (P b) lt
theorem R_left {σ τ0 : xS} (hS : SimSt σ τ0) {c : Nat} (e2 : sA τ0 3 0 = nI c) (hc : c ≤ 10) {P : Nat → Nat} (hP : ∀ j, j < c → P j ≤ 2000) {A T : Nat} (hA : A < 2 ^ c) (hT : T < 2 ^ c) (lt : Int32) (k4 : Int32 → Int32 → xS → Option (Int32 × xS)) (h : Nat) (m : Nat) : ∀ (n i : Nat) (τ : xS), m < n → i + m = c → sA τ 3 = sA τ0 3 → (∀ j, j < c → sA τ 40 j = nI (P j)) → sI τ 41 = nI A → sI τ 34 = lt → ∃ τ', F_X12_taken_20 k4 n (nI T) (nI h) (oi (glS (gdN τ0 P A lt) T i)) (nI i) τ = k4 (nI (tor T (glS (gdN τ0 P A lt) T c))) (nI (h + 1)) τ' ∧ frV τ τ' := by
  have hAT : A ||| T < 2 ^ 31 := Nat.or_lt_two_pow (Nat.lt_of_lt_of_le hA (Nat.le_trans (pow_le c (by omega)) (by decide))) (Nat.lt_of_lt_of_le hT (Nat.le_trans (pow_le c (by omega)) (by decide)))
  induction m with
  | zero =>
    intro n i τ hn hi h3 h40 h41 h34
    obtain ⟨n, rfl⟩ : ∃ q, n = q + 1 := ⟨n - 1, by omega⟩
    obtain rfl : i = c := by omega
    rw [F_X12_taken_20, rdL0, h3, e2, if_pos (nI_le (by omega) (by omega))]
    unfold F_X12_taken_144
    refine ⟨τ, ?_, frV_refl τ⟩
    cases hq : glS (gdN τ0 P A lt) T i with
    | none =>
      rw [if_pos (show oi none = -1 from rfl), nm_eq, nm_eq, nI_1, show nI T ||| 0 = nI (T ||| 0) from or_n T 0, Nat.or_zero]
      rfl
    | some b =>
      have hb := (gl_ok _ T i b hq).1
      rw [if_neg (show ¬ oi (some b) = -1 from nI_m1 (by omega)), nm_eq, nm_eq, nI_1]
      show k4 (nI T ||| (1 : Int32) <<< (nI b &&& 31)) _ τ = _
      rw [sl_i (by omega), or_n]
      rfl
  | succ m ih =>
    intro n i τ hn hi h3 h40 h41 h34
    obtain ⟨n, rfl⟩ : ∃ q, n = q + 1 := ⟨n - 1, by omega⟩
    obtain ⟨w1, w2⟩ := wo_ok hS (b := i) (by omega)
    have hp := hP i (by omega)
    have hx : (nI (woN τ0 i) - nI (P i)).toInt = (woN τ0 i : Int) - P i := pk_sub_toInt (by omega) (by omega)
    have hof : F_X12_ofBook (nI i) 1 τ = some (nI (woN τ0 i), τ) := by
      rw [show F_X12_ofBook (nI i) 1 τ = _ from R_ofBook (i := i) (w := 1) (by omega) (by decide) τ, h3, w2]
    have hnext : ∀ τ1, frV τ τ1 → ∀ y, y = oi (glS (gdN τ0 P A lt) T (i + 1)) → ∃ τ', F_X12_taken_20 k4 n (nI T) (nI h) y (nI (i + 1)) τ1 = k4 (nI (tor T (glS (gdN τ0 P A lt) T c))) (nI (h + 1)) τ' ∧ frV τ τ' := by
      intro τ1 hv y hy
      subst hy
      obtain ⟨τ', q1, q2⟩ := ih n (i + 1) τ1 (by omega) (by omega) ((hv.1 3).trans h3) (fun j hj => by rw [hv.1 40]; exact h40 j hj) ((hv.2.1 41 (by decide) (by decide) (by decide) (by decide)).trans h41) ((hv.2.1 34 (by decide) (by decide) (by decide) (by decide)).trans h34)
      exact ⟨τ', q1, frV_trans hv q2⟩
    have hno : (¬ (gv (gdN τ0 P A lt) (glS (gdN τ0 P A lt) T i) < gdN τ0 P A lt i ∧ T.testBit i = false)) → ∀ τ1, frV τ τ1 → ∃ τ', F_X12_taken_123 k4 (F_X12_taken_20 k4 n) (nI T) (nI h) (oi (glS (gdN τ0 P A lt) T i)) (nI i) τ1 = k4 (nI (tor T (glS (gdN τ0 P A lt) T c))) (nI (h + 1)) τ' ∧ frV τ τ' := by
      intro hq τ1 hv
      unfold F_X12_taken_123
      rw [nm_eq, nI_1]
      exact hnext τ1 hv _ (by rw [glS, if_neg hq])
    have hno0 : gdN τ0 P A lt i = 0 ∨ T.testBit i = true → ∀ τ1, frV τ τ1 → ∀ y5, ∃ τ', F_X12_taken_87 k4 (F_X12_taken_20 k4 n) (nI T) (nI h) (oi (glS (gdN τ0 P A lt) T i)) (nI i) y5 τ1 = k4 (nI (tor T (glS (gdN τ0 P A lt) T c))) (nI (h + 1)) τ' ∧ frV τ τ' := by
      intro hq τ1 hv y5
      unfold F_X12_taken_87 F_X12_taken_88
      rw [if_pos rfl]
      refine hno (fun z => ?_) τ1 hv
      rcases hq with hq | hq
      · omega
      · rw [hq] at z
        exact Bool.noConfusion z.2
    rw [F_X12_taken_20, rdL0, h3, e2, if_neg (nI_ge (by omega) (by omega)), hof, bd_eq, rd_n (by omega) (by decide), h40 i (by omega), nm_eq, h41, or_n, R_is (by rw [Nat.or_comm]; exact hAT) (by omega), bd_eq, ib2, Nat.testBit_or]
    by_cases hT1 : T.testBit i = true
    · rw [if_pos (by rw [hT1, Bool.true_or])]
      exact hno0 (Or.inr hT1) τ (frV_refl τ) _
    by_cases hA1 : A.testBit i = true
    · rw [if_pos (by rw [hA1, Bool.or_true])]
      exact hno0 (Or.inl (by unfold gdN; rw [if_pos hA1])) τ (frV_refl τ) _
    rw [if_neg (by rw [Bool.eq_false_iff.mpr hT1, Bool.eq_false_iff.mpr hA1]; decide)]
    by_cases hle : woN τ0 i ≤ P i
    · rw [if_pos (show nI (woN τ0 i) - nI (P i) ≤ 0 by rw [Int32.le_iff_toInt_le, hx, show (0 : Int32).toInt = 0 from rfl]; omega)]
      exact hno0 (Or.inl (by unfold gdN gnN; rw [if_neg hA1, if_neg (fun q => by omega)])) τ (frV_refl τ) _
    rw [if_neg (show ¬ nI (woN τ0 i) - nI (P i) ≤ 0 by rw [Int32.le_iff_toInt_le, hx, show (0 : Int32).toInt = 0 from rfl]; omega), rd_n (by omega) (by decide), h40 i (by omega)]
    obtain ⟨τ1, t1, t2⟩ := tk_V hS (b := i) (by omega) (nI (P i)) h3
    rw [t1, bd_eq, ib2, h34]
    by_cases ht : tkB τ0 i (nI (P i)) lt = true
    · rw [if_pos ht]
      have hg : gdN τ0 P A lt i = woN τ0 i - P i := by
        unfold gdN gnN
        rw [if_neg hA1, if_pos ⟨by omega, ht⟩]
      unfold F_X12_taken_88
      rw [if_neg (by decide)]
      have hyes : gv (gdN τ0 P A lt) (glS (gdN τ0 P A lt) T i) < gdN τ0 P A lt i → ∀ τ2, frV τ τ2 → ∃ τ', F_X12_taken_118 k4 (F_X12_taken_20 k4 n) (nI T) (nI h) (nI i) τ2 = k4 (nI (tor T (glS (gdN τ0 P A lt) T c))) (nI (h + 1)) τ' ∧ frV τ τ' := by
        intro hq τ2 hv
        unfold F_X12_taken_118
        rw [nm_eq, nI_1]
        exact hnext τ2 hv _ (by rw [glS, if_pos ⟨hq, Bool.eq_false_iff.mpr hT1⟩]; rfl)
      cases hq : glS (gdN τ0 P A lt) T i with
      | none =>
        rw [hq] at hyes
        rw [if_pos (show oi none = -1 from rfl)]
        exact hyes (by show 0 < _; omega) τ1 t2
      | some b =>
        obtain ⟨b1, b2', b3⟩ := gl_ok _ T i b hq
        rw [hq] at hyes hno
        have hgb : gdN τ0 P A lt b = woN τ0 b - P b ∧ P b < woN τ0 b := by
          unfold gdN gnN at b2' ⊢
          by_cases hAb : A.testBit b = true
          · rw [if_pos hAb] at b2'
            omega
          · rw [if_neg hAb] at b2' ⊢
            by_cases hc2 : P b < woN τ0 b ∧ tkB τ0 b (nI (P b)) lt = true
            · rw [if_pos hc2]
              exact ⟨rfl, hc2.1⟩
            · rw [if_neg hc2] at b2'
              omega
        obtain ⟨v1, v2⟩ := wo_ok hS (b := b) (by omega)
        have hpb := hP b (by omega)
        have hof2 : F_X12_ofBook (oi (some b)) 1 τ1 = some (nI (woN τ0 b), τ1) := by
          show F_X12_ofBook (nI b) 1 τ1 = _
          rw [show F_X12_ofBook (nI b) 1 τ1 = _ from R_ofBook (i := b) (w := 1) (by omega) (by decide) τ1, t2.1 3, h3, v2]
        rw [if_neg (show ¬ oi (some b) = -1 from nI_m1 (by omega)), hof2, bd_eq]
        show ∃ τ', rd 10 (sA τ1 40) (nI b) _ = _ ∧ _
        rw [rd_n (by omega) (by decide), t2.1 40, h40 b (by omega), pk_sub (show P i ≤ woN τ0 i by omega), pk_sub (show P b ≤ woN τ0 b by omega)]
        by_cases hcmp : woN τ0 i - P i ≤ woN τ0 b - P b
        · rw [if_pos (nI_le hcmp (by omega))]
          exact hno (fun z => by have z1 : gdN τ0 P A lt b < gdN τ0 P A lt i := z.1; omega) τ1 t2
        · rw [if_neg (nI_ge (by omega) (by omega))]
          exact hyes (by show gdN τ0 P A lt b < _; omega) τ1 t2
    · rw [if_neg ht]
      exact hno0 (Or.inl (by unfold gdN gnN; rw [if_neg hA1, if_neg (fun q => ht q.2)])) τ1 t2 _
theorem R_taken {σ τ0 : xS} (hS : SimSt σ τ0) {c H : Nat} (e2 : sA τ0 3 0 = nI c) (hc : c ≤ 10) (eH : sA τ0 3 11 = nI H) (hH : H ≤ 9) {P : Nat → Nat} (hP : ∀ j, j < c → P j ≤ 2000) {A : Nat} (hA : A < 2 ^ c) (lt : Int32) {τ : xS} (h3 : sA τ 3 = sA τ0 3) (h40 : ∀ j, j < c → sA τ 40 j = nI (P j)) (h41 : sI τ 41 = nI A) (h34 : sI τ 34 = lt) : ∃ τ', F_X12_taken τ = some (nI (ggS (gdN τ0 P A lt) c H 0), τ') ∧ frV τ τ' := by
  have hl : ∀ (m n i T : Nat) (τ1 : xS), m < n → i + m = H → T < 2 ^ c → frV τ τ1 → ∃ τ', F_X12_taken_4 n (nI T) (nI i) τ1 = some (nI (ggS (gdN τ0 P A lt) c m T), τ') ∧ frV τ τ' := by
    intro m
    induction m with
    | zero =>
      intro n i T τ1 hn hi hT hv
      obtain ⟨n, rfl⟩ : ∃ q, n = q + 1 := ⟨n - 1, by omega⟩
      rw [F_X12_taken_4, rdL11, hv.1 3, h3, eH, if_pos (nI_le (by omega) (by omega))]
      exact ⟨τ1, rfl, hv⟩
    | succ m ih =>
      intro n i T τ1 hn hi hT hv
      obtain ⟨n, rfl⟩ : ∃ q, n = q + 1 := ⟨n - 1, by omega⟩
      obtain ⟨τ2, q1, q2⟩ := R_left hS e2 hc hP hA hT lt (F_X12_taken_4 n) i c FU 0 τ1 (by unfold FU; omega) (by omega) ((hv.1 3).trans h3) (fun j hj => by rw [hv.1 40]; exact h40 j hj) ((hv.2.1 41 (by decide) (by decide) (by decide) (by decide)).trans h41) ((hv.2.1 34 (by decide) (by decide) (by decide) (by decide)).trans h34)
      have e0 : nI 0 = (0 : Int32) := rfl
      rw [show oi (glS (gdN τ0 P A lt) T 0) = -1 from rfl, e0] at q1
      rw [F_X12_taken_4, rdL11, hv.1 3, h3, eH, if_neg (nI_ge (by omega) (by omega)), nm_eq2, nm_eq2, q1]
      exact ih n (i + 1) _ τ2 (by omega) (by omega) (tor_lt hT) (frV_trans hv q2)
  have h := hl H FU 0 0 τ (by unfold FU; omega) (by omega) (Nat.two_pow_pos c) (frV_refl τ)
  have e0 : nI 0 = (0 : Int32) := rfl
  rw [e0] at h
  unfold F_X12_taken
  rw [nm_eq2, nm_eq2]
  exact h
theorem R_priced {σ τ : xS} (hS : SimSt σ τ) : ∃ f, F_X12_asPriced τ = some ((), uI (uI (uA τ 40 f) 41 0) 34 0) ∧ ∀ j, j < 10 → f j = nI (bpN τ j) := by
  have hl : ∀ (m n i : Nat) (f : Nat → Int32), m < n → i + m = 10 → (∀ j, j < i → f j = nI (bpN τ j)) → ∃ g, F_X12_asPriced_2 n (nI i) (uA τ 40 f) = some ((), uI (uI (uA τ 40 g) 41 0) 34 0) ∧ ∀ j, j < 10 → g j = nI (bpN τ j) := by
    intro m
    induction m with
    | zero =>
      intro n i f hn hi hf
      obtain ⟨n, rfl⟩ : ∃ q, n = q + 1 := ⟨n - 1, by omega⟩
      rw [F_X12_asPriced_2, if_pos (show (10 : Int32) ≤ nI i from nI_le (a := 10) (by omega) (by omega)), nm_eq, nm_eq]
      exact ⟨f, rfl, fun j hj => hf j (by omega)⟩
    | succ m ih =>
      intro n i f hn hi hf
      obtain ⟨n, rfl⟩ : ∃ q, n = q + 1 := ⟨n - 1, by omega⟩
      have hof : F_X12_ofBook (nI i) 3 (uA τ 40 f) = some (nI (bpN τ i), uA τ 40 f) := by
        rw [show F_X12_ofBook (nI i) 3 (uA τ 40 f) = _ from R_ofBook (i := i) (w := 3) (by omega) (by decide) (uA τ 40 f)]
        show some (sA τ 3 (13 + 5 * i + 3), _) = _
        rw [(bp_ok hS (b := i) (by omega)).2]
      rw [F_X12_asPriced_2, if_neg (show ¬ (10 : Int32) ≤ nI i from nI_ge (b := 10) (by omega) (by decide)), hof, bd_eq, ck_n (by omega) (by decide), nm_eq, nm_eq, nI_clamp (by omega), nI_1, sA_s, uA_uA]
      refine ih n (i + 1) _ (by omega) (by omega) (fun j hj => ?_)
      unfold upd
      by_cases e : j = i
      · rw [if_pos e, e]
      · rw [if_neg e]
        exact hf j (by omega)
  have h := hl 10 FU 0 (sA τ 40) (by unfold FU; omega) rfl (fun j hj => absurd hj (Nat.not_lt_zero j))
  have e0 : nI 0 = (0 : Int32) := rfl
  rw [e0, uA_self] at h
  unfold F_X12_asPriced
  rw [nm_eq2]
  exact h
theorem hands {σ τ : xS} (hS : SimSt σ τ) : ∃ H : Nat, H ≤ 9 ∧ sA τ 3 11 = nI H := by
  obtain ⟨n, h1, h2, -⟩ := seg_nat hS.2.1 (k := 11) (by decide) (by decide)
  have e : hiT 11 = 9 := rfl
  exact ⟨n, by omega, h2⟩
theorem st_dealer : ∀ (σ τ : xS), Sim σ τ → ∀ (a1 : Int32), ∃ (r : Int32) (σ1 τ1 : xS), F_X11_dealer a1 σ = some (r, σ1) ∧ F_X12_dealer a1 τ = some (r, τ1) ∧ Sim σ1 τ1 := by
  intro σ τ0 h0 a1
  have h := Sim_thr h0
  unfold F_X11_dealer F_X12_dealer
  simp only [nm_eq]
  generalize uI τ0 0 0 = τ at h ⊢
  obtain ⟨c, hc, e1, e2⟩ := cnt0 h.1
  obtain ⟨H, hH, eH⟩ := hands h.1
  simp only [R_i0_1, C_isWithin, bd_eq2, ib2]
  by_cases p : 0 ≤ a1 ∧ a1 ≤ 1
  rotate_left
  · simp only [if_neg p]
    exact ⟨_, _, _, rfl, rfl, h⟩
  simp only [if_pos p]
  have h2c : 2 ^ c ≤ 2048 := pow_le c (by omega)
  have hpos : 1 ≤ 2 ^ c := Nat.two_pow_pos c
  have em : (1 : Int32) <<< (sI σ 131 &&& 31) - 1 = nI (2 ^ c - 1) := by
    rw [e1, sl_i (by omega)]
    exact pk_sub (b := 1) hpos
  have hTC : ∀ j, j < c → gdN τ (bpN τ) 0 0 j = if (2 ^ c - 1).testBit j = true then gnN τ j (bpN τ j) 0 else 0 := by
    intro j hj
    unfold gdN
    rw [all_bit, if_neg (by rw [Nat.zero_testBit]; decide), if_pos (decide_eq_true hj)]
  obtain ⟨σ', q1, q2⟩ := C_takes h.1 e1 hc eH hH (A := 2 ^ c - 1) (by omega) 0 hTC c FU 0 σ (by unfold FU; omega) (by omega) (frX_refl σ) (fun j hj => absurd hj (Nat.not_lt_zero j))
  have e0 : nI 0 = (0 : Int32) := rfl
  rw [e0] at q1
  have q1' : F_X1_takes (nI (2 ^ c - 1)) 0 σ = some (nI (ggS (gdN τ (bpN τ) 0 0) c H 0), σ') := by
    unfold F_X1_takes
    rw [nm_eq2]
    exact q1
  obtain ⟨f, r1, r2⟩ := R_priced h.1
  have hS2 : SimSt σ (uI (uI (uA τ 40 f) 41 0) 34 0) := h.1
  obtain ⟨τ', t1, t2⟩ := R_taken h.1 e2 hc eH hH (P := bpN τ) (fun j hj => by have := (bp_ok h.1 (b := j) (by omega)).1; omega) (A := 0) (Nat.two_pow_pos c) 0 (τ := uI (uI (uA τ 40 f) 41 0) 34 0) rfl (fun j hj => r2 j (by omega)) rfl rfl
  have hTlt : ggS (gdN τ (bpN τ) 0 0) c H 0 < 2 ^ c := gg_lt H 0 (Nat.two_pow_pos c)
  have hf : Sim σ' τ' := Sim_keep (τ := uI (uI (uA τ 40 f) 41 0) 34 0) (Sim_keep h (KC_refl σ) (KR_trans (KR_trans (KR_A τ f (k := 40) (by decide)) (KR_I (uA τ 40 f) 0 (k := 41) (by decide))) (KR_I _ 0 (k := 34) (by decide)))) (KC_X q2) (KR_V t2)
  rw [em, q1', bd_eq, r1, bd_eq, t1, bd_eq]
  by_cases p0 : a1 = 0
  · rw [if_pos p0, if_pos p0]
    exact ⟨_, _, _, rfl, rfl, hf⟩
  · rw [if_neg p0, if_neg p0, C_pays (SimSt_keep h.1 (KC_X q2) (KR_refl τ)) ((q2.2.1 131 (by decide)).trans e1) hc hTlt, bd_eq, R_paid (P := bpN τ) (by rw [t2.1 3]; exact e2) hc (fun j hj => by rw [t2.1 40]; exact r2 j (by omega)) hTlt, bd_eq]
    exact ⟨_, _, _, rfl, rfl, hf⟩
end
