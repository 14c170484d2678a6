section
/-! ===== write, pencil ===== -/
def prN (τ : xS) (b p : Nat) : Nat := if p = 20 then (sA τ 3 (13 + 5 * b + 3)).toNatClampNeg else (p + 1) * (sA τ 3 12).toNatClampNeg
def cwN (τ : xS) (b i p : Nat) : Nat := slN τ b (sA τ 3 (13 + 5 * b + 4)) (nI i) (nI (prN τ b p)) 0
/-- the first of the greatest -/
def amx (f : Nat → Int) : Nat → Nat
  | 0 => 0
  | m + 1 => if f (amx f m) < f m then m else amx f m
def wK (τ : xS) (b n k : Nat) (M : Nat → Int) (p : Nat) : Int := (cwN τ b (n - 1 - k) p : Int) * (prN τ b p : Int) * ((100 ^ k : Nat) : Int) + ((100 - cwN τ b (n - 1 - k) p : Nat) : Int) * M p
def rbK (τ : xS) (b n k : Nat) (M : Nat → Int) : Int := wK τ b n k M (amx (wK τ b n k M) 20) - ((sA τ 3 9).toNatClampNeg : Int) * ((100 ^ (k + 1) : Nat) : Int)
/-- the most in the mean with k weeks left, by the price that stands -/
def moW (τ : xS) (b n : Nat) : Nat → Nat → Int
  | 0, _ => ((sA τ 3 10).toNatClampNeg : Int)
  | k + 1, p => max (wK τ b n k (moW τ b n k) p) (rbK τ b n k (moW τ b n k))
def wW (τ : xS) (b n k : Nat) : Nat → Int := wK τ b n k (moW τ b n k)
def rW (τ : xS) (b n k : Nat) : Int := rbK τ b n k (moW τ b n k)
def wrW (τ : xS) (b n k p : Nat) : Nat := if wW τ b n k p < rW τ b n k then amx (wW τ b n k) 20 else p
theorem amx_lt (f : Nat → Int) : ∀ m, 0 < m → amx f m < m
  | 0, h => absurd h (Nat.lt_irrefl 0)
  | 1, _ => by
    rw [amx, amx]
    split <;> decide
  | m + 2, _ => by
    have := amx_lt f (m + 1) (Nat.succ_pos m)
    rw [amx]
    split
    · omega
    · omega
theorem amx_le (f : Nat → Int) (m : Nat) : amx f m ≤ m := by
  by_cases h : 0 < m
  · exact Nat.le_of_lt (amx_lt f m h)
  · obtain rfl : m = 0 := by omega
    exact Nat.le_refl 0
theorem cell_row {σ τ : xS} (hS : SimSt σ τ) : (∃ s : Nat, 1 ≤ s ∧ s ≤ 99 ∧ sA τ 3 12 = nI s) ∧ (∃ r : Nat, r ≤ 99 ∧ sA τ 3 9 = nI r) ∧ (∃ l : Nat, l ≤ 999 ∧ sA τ 3 10 = nI l) := by
  obtain ⟨s, s1, s2, s3⟩ := seg_nat hS.2.1 (k := 12) (by decide) (by decide)
  obtain ⟨r, r1, r2, -⟩ := seg_nat hS.2.1 (k := 9) (by decide) (by decide)
  obtain ⟨l, l1, l2, -⟩ := seg_nat hS.2.1 (k := 10) (by decide) (by decide)
  have e1 : hiT 12 = 99 := rfl
  have e2 : hiT 9 = 99 := rfl
  have e3 : hiT 10 = 999 := rfl
  exact ⟨⟨s, s3 rfl, by omega, s2⟩, ⟨r, by omega, r2⟩, ⟨l, by omega, l2⟩⟩
theorem cell_bk {σ τ : xS} (hS : SimSt σ τ) {b : Nat} (hb : b < 10) : ∃ k w a p l : Nat, k ≤ 9 ∧ w ≤ 999 ∧ a ≤ 99 ∧ p ≤ 999 ∧ l ≤ 2 ∧ sA τ 3 (13 + 5 * b + 0) = nI k ∧ sA τ 3 (13 + 5 * b + 1) = nI w ∧ sA τ 3 (13 + 5 * b + 2) = nI a ∧ sA τ 3 (13 + 5 * b + 3) = nI p ∧ sA τ 3 (13 + 5 * b + 4) = nI l := by
  obtain ⟨k, k1, k2, -⟩ := seg_nat hS.2.1 (k := 13 + 5 * b + 0) (by omega) (by omega)
  obtain ⟨w, w1, w2, -⟩ := seg_nat hS.2.1 (k := 13 + 5 * b + 1) (by omega) (by omega)
  obtain ⟨a, a1, a2, -⟩ := seg_nat hS.2.1 (k := 13 + 5 * b + 2) (by omega) (by omega)
  obtain ⟨p, p1, p2, -⟩ := seg_nat hS.2.1 (k := 13 + 5 * b + 3) (by omega) (by omega)
  obtain ⟨l, l1, l2, -⟩ := seg_nat hS.2.1 (k := 13 + 5 * b + 4) (by omega) (by omega)
  rw [hi_book b hb 0 (by decide)] at k1
  rw [hi_book b hb 1 (by decide)] at w1
  rw [hi_book b hb 2 (by decide)] at a1
  rw [hi_book b hb 3 (by decide)] at p1
  rw [hi_book b hb 4 (by decide)] at l1
  have k1' : (k : Int) ≤ 9 := k1
  have w1' : (w : Int) ≤ 999 := w1
  have a1' : (a : Int) ≤ 99 := a1
  have p1' : (p : Int) ≤ 999 := p1
  have l1' : (l : Int) ≤ 2 := l1
  exact ⟨k, w, a, p, l, by omega, by omega, by omega, by omega, by omega, k2, w2, a2, p2, l2⟩
theorem prN_le {σ τ : xS} (hS : SimSt σ τ) {b p : Nat} (hb : b < 10) (hp : p ≤ 20) : prN τ b p ≤ 1980 := by
  obtain ⟨⟨s, s1, s2, s3⟩, -⟩ := cell_row hS
  obtain ⟨-, -, -, q, -, -, -, -, q1, -, -, -, -, q2, -⟩ := cell_bk hS hb
  unfold prN
  rw [s3, q2, nI_clamp (by omega), nI_clamp (by omega)]
  split
  · omega
  · exact Nat.le_trans (Nat.mul_le_mul (show p + 1 ≤ 20 by omega) s2) (by decide)
theorem prN_g {σ τ : xS} (hS : SimSt σ τ) {b p : Nat} (hp : p < 20) : (nI p + 1) * sA τ 3 12 = nI (prN τ b p) := by
  obtain ⟨⟨s, s1, s2, s3⟩, -⟩ := cell_row hS
  unfold prN
  rw [if_neg (by omega), s3, nI_clamp (by omega), nI_1, pk_mul]
theorem prN_20 {σ τ : xS} (hS : SimSt σ τ) {b : Nat} (hb : b < 10) : sA τ 3 (13 + 5 * b + 3) = nI (prN τ b 20) := by
  obtain ⟨-, -, -, q, -, -, -, -, q1, -, -, -, -, q2, -⟩ := cell_bk hS hb
  unfold prN
  rw [if_pos rfl, q2, nI_clamp (by omega)]
theorem cwN_le {σ τ : xS} (hS : SimSt σ τ) {b : Nat} (hb : b < 10) (i p : Nat) : cwN τ b i p ≤ 100 := (slN_ok hS hb _ _ _ _).1
theorem wK_bd {σ τ : xS} (hS : SimSt σ τ) {b p : Nat} (hb : b < 10) (hp : p ≤ 20) (n k : Nat) {M : Nat → Int} (h1 : 0 ≤ M p) (h2 : M p ≤ 2000 * ((100 ^ k : Nat) : Int)) : 0 ≤ wK τ b n k M p ∧ wK τ b n k M p ≤ 2000 * ((100 ^ (k + 1) : Nat) : Int) := by
  have hc := cwN_le hS hb (n - 1 - k) p
  have hpr := prN_le hS hb hp
  unfold wK
  generalize cwN τ b (n - 1 - k) p = c at *
  generalize prN τ b p = pr at *
  have hT : (0 : Int) ≤ ((100 ^ k : Nat) : Int) := Int.natCast_nonneg _
  have eT : ((100 ^ (k + 1) : Nat) : Int) = 100 * ((100 ^ k : Nat) : Int) := by
    rw [Nat.pow_succ, Nat.mul_comm]
    rfl
  rw [eT]
  generalize ((100 ^ k : Nat) : Int) = T at *
  obtain ⟨d, hd⟩ : ∃ d : Nat, d = 100 - c := ⟨_, rfl⟩
  rw [← hd]
  have a1 : (pr : Int) * T ≤ 2000 * T := Int.mul_le_mul_of_nonneg_right (by omega) hT
  have a2 : (c : Int) * ((pr : Int) * T) ≤ (c : Int) * (2000 * T) := Int.mul_le_mul_of_nonneg_left a1 (by omega)
  have a3 : (d : Int) * M p ≤ (d : Int) * (2000 * T) := Int.mul_le_mul_of_nonneg_left h2 (by omega)
  have a4 : (c : Int) * (2000 * T) + (d : Int) * (2000 * T) = 100 * (2000 * T) := by
    rw [← Int.add_mul, show (c : Int) + (d : Int) = 100 by omega]
  have a5 : (0 : Int) ≤ (c : Int) * ((pr : Int) * T) := Int.mul_nonneg (by omega) (Int.mul_nonneg (by omega) hT)
  have a6 : (0 : Int) ≤ (d : Int) * M p := Int.mul_nonneg (by omega) h1
  rw [Int.mul_assoc]
  constructor
  · omega
  · omega
theorem moW_bd {σ τ : xS} (hS : SimSt σ τ) {b : Nat} (hb : b < 10) (n : Nat) (k : Nat) : ∀ p, p ≤ 20 → 0 ≤ moW τ b n k p ∧ moW τ b n k p ≤ 2000 * ((100 ^ k : Nat) : Int) := by
  induction k with
  | zero =>
    intro p hp
    obtain ⟨-, -, ⟨l, l1, l2⟩⟩ := cell_row hS
    unfold moW
    rw [l2, nI_clamp (by omega), show ((100 ^ 0 : Nat) : Int) = 1 from rfl]
    omega
  | succ k ih =>
    intro p hp
    have ha := amx_lt (wK τ b n k (moW τ b n k)) 20 (by decide)
    have h1 := wK_bd hS hb hp n k (ih p hp).1 (ih p hp).2
    have h2 := wK_bd hS hb (p := amx (wK τ b n k (moW τ b n k)) 20) (by omega) n k (ih _ (by omega)).1 (ih _ (by omega)).2
    have h3 : (0 : Int) ≤ ((sA τ 3 9).toNatClampNeg : Int) * ((100 ^ (k + 1) : Nat) : Int) := Int.mul_nonneg (Int.natCast_nonneg _) (Int.natCast_nonneg _)
    unfold moW rbK
    omega
theorem wW_bd {σ τ : xS} (hS : SimSt σ τ) {b : Nat} (hb : b < 10) (n k : Nat) {p : Nat} (hp : p ≤ 20) : 0 ≤ wW τ b n k p ∧ wW τ b n k p ≤ 2000 * ((100 ^ (k + 1) : Nat) : Int) := wK_bd hS hb hp n k (moW_bd hS hb n k p hp).1 (moW_bd hS hb n k p hp).2
theorem p100 {k : Nat} (h : k ≤ 6) : (1 : Int) ≤ ((100 ^ k : Nat) : Int) ∧ ((100 ^ k : Nat) : Int) ≤ 1000000000000 := by
  rcases (show k = 0 ∨ k = 1 ∨ k = 2 ∨ k = 3 ∨ k = 4 ∨ k = 5 ∨ k = 6 by omega) with rfl | rfl | rfl | rfl | rfl | rfl | rfl <;> decide
theorem wW_in {σ τ : xS} (hS : SimSt σ τ) {b : Nat} (hb : b < 10) (n : Nat) {k p : Nat} (hk : k < 6) (hp : p ≤ 20) : 0 ≤ wW τ b n k p ∧ wW τ b n k p ≤ 2000000000000000 := by
  have h1 := wW_bd hS hb n k hp
  have h2 := p100 (k := k + 1) (by omega)
  omega
theorem rubP {σ τ : xS} (hS : SimSt σ τ) {k : Nat} (hk : k ≤ 6) : 0 ≤ ((sA τ 3 9).toNatClampNeg : Int) * ((100 ^ k : Nat) : Int) ∧ ((sA τ 3 9).toNatClampNeg : Int) * ((100 ^ k : Nat) : Int) ≤ 99000000000000 := by
  obtain ⟨-, ⟨r, r1, r2⟩, -⟩ := cell_row hS
  rw [r2, nI_clamp (by omega)]
  have h2 := p100 hk
  have h3 : (r : Int) * ((100 ^ k : Nat) : Int) ≤ (r : Int) * 1000000000000 := Int.mul_le_mul_of_nonneg_left h2.2 (by omega)
  have h4 : (0 : Int) ≤ (r : Int) * ((100 ^ k : Nat) : Int) := Int.mul_nonneg (by omega) (by omega)
  omega
theorem rW_in {σ τ : xS} (hS : SimSt σ τ) {b : Nat} (hb : b < 10) (n : Nat) {k : Nat} (hk : k < 6) : -99000000000000 ≤ rW τ b n k ∧ rW τ b n k ≤ 2000000000000000 := by
  have ha := amx_lt (wW τ b n k) 20 (by decide)
  have h1 := wW_in hS hb n hk (p := amx (wW τ b n k) 20) (by omega)
  have h2 := rubP hS (k := k + 1) (by omega)
  have e : rW τ b n k = wW τ b n k (amx (wW τ b n k) 20) - ((sA τ 3 9).toNatClampNeg : Int) * ((100 ^ (k + 1) : Nat) : Int) := rfl
  omega
theorem moW_in {σ τ : xS} (hS : SimSt σ τ) {b : Nat} (hb : b < 10) (n : Nat) {k p : Nat} (hk : k ≤ 6) (hp : p ≤ 20) : 0 ≤ moW τ b n k p ∧ moW τ b n k p ≤ 2000000000000000 := by
  have h1 := moW_bd hS hb n k p hp
  have h2 := p100 hk
  omega
theorem moW_pr (τ : xS) (b n : Nat) {p q : Nat} (h : prN τ b p = prN τ b q) (k : Nat) : moW τ b n k p = moW τ b n k q := by
  induction k with
  | zero => rfl
  | succ k ih =>
    unfold moW wK cwN
    rw [h, ih]
theorem wW_pr (τ : xS) (b n k : Nat) {p q : Nat} (h : prN τ b p = prN τ b q) : wW τ b n k p = wW τ b n k q := by
  unfold wW wK cwN
  rw [h, moW_pr τ b n h k]
/-! ===== the class's plan ===== -/
def CPl (σ0 τ : xS) (b n i : Nat) (σ : xS) : Prop := KC σ0 σ ∧ (∀ p, p ≤ 20 → sA σ 56 p = nI (prN τ b p)) ∧ ∀ v, i ≤ v → v < n → (∀ p, p ≤ 20 → sL σ (58 + v) p = zL (wW τ b n (n - 1 - v) p)) ∧ sL σ 64 v = zL (rW τ b n (n - 1 - v)) ∧ sA σ 65 v = nI (amx (wW τ b n (n - 1 - v)) 20)
theorem rd21 {α β : Type} {f : Nat → α} {i : Nat} (h : i ≤ 20) (k : α → Option β) : rd 21 f (nI i) k = k (f i) := rd_n (by omega) (by decide) k
theorem C_most {σ0 τ σ : xS} (hS : SimSt σ0 τ) {b n v p : Nat} (hb : b < 10) (hn : n ≤ 6) (h : CPl σ0 τ b n v σ) (hv : v < n) (hp : p ≤ 20) : F_X10_most (nI v) (nI p) σ = some (zL (moW τ b n (n - v) p), σ) := by
  obtain ⟨h1, h2, -⟩ := h.2.2 v (Nat.le_refl _) hv
  have b1 := wW_in hS hb n (k := n - 1 - v) (by omega) hp
  have b2 := rW_in hS hb n (k := n - 1 - v) (by omega)
  unfold F_X10_most
  rw [ck_n (by omega) (by decide), nI_clamp (by omega), rd21 hp, rd_n (by omega) (by decide), h1 p hp, h2]
  congr 2
  unfold mxL
  rw [show n - v = (n - 1 - v) + 1 by omega]
  show _ = zL (max (wW τ b n (n - 1 - v) p) (rW τ b n (n - 1 - v)))
  have hlt : zL (rW τ b n (n - 1 - v)) < zL (wW τ b n (n - 1 - v) p) ↔ rW τ b n (n - 1 - v) < wW τ b n (n - 1 - v) p := by
    rw [Int64.lt_iff_toInt_lt, zL_toInt (by omega) (by omega), zL_toInt (by omega) (by omega)]
  by_cases h : rW τ b n (n - 1 - v) < wW τ b n (n - 1 - v) p
  · rw [if_pos (hlt.mpr h)]
    congr 1
    omega
  · rw [if_neg (fun q => h (hlt.mp q))]
    congr 1
    omega
theorem C_week {σ0 τ : xS} (hS : SimSt σ0 τ) {b n v : Nat} (hb : b < 10) (hn : n ≤ 6) (hv : v < n) {ls : Int32} (hls : ls = if v = n - 1 then 1 else 0) (m : Nat) : ∀ (f i : Nat) (σ : xS), m < f → i + m = 21 → CPl σ0 τ b n (v + 1) σ → (∀ pr, wdT τ b (sA τ 3 (13 + 5 * b + 4)) (nI v) pr 0 0 (upd (sA σ 45) 4 pr)) → (∀ p, p < i → sL σ (58 + v) p = zL (wW τ b n (n - 1 - v) p)) → ∃ σ', F_X10_planWeek_15 f (nI v) ls (zL ((100 ^ (n - 1 - v) : Nat) : Int)) (nI (amx (wW τ b n (n - 1 - v)) (min i 20))) (nI i) σ = some ((), σ') ∧ CPl σ0 τ b n v σ' := by
  have hk : n - 1 - v < 6 := by omega
  induction m with
  | zero =>
    intro f i σ hf hi hC hw hst
    obtain ⟨f, rfl⟩ : ∃ q, f = q + 1 := ⟨f - 1, by omega⟩
    have ha := amx_lt (wW τ b n (n - 1 - v)) 20 (by decide)
    obtain ⟨-, ⟨r, r1, r2⟩, -⟩ := cell_row hS
    have t2 : ∀ x : Nat → Int32, sA (uA σ 65 x) 38 2 = nI r := fun x => by
      have e : sA (uA σ 65 x) 38 2 = sA σ 38 2 := rfl
      rw [e, hC.1.1 38 (by decide), cell_term hS (i := 2) (by decide)]
      exact r2
    rw [F_X10_planWeek_15, if_pos (show (20 : Int32) < nI i from nI_lt (a := 20) (by omega) (by omega)), show min i 20 = 20 by omega, ck_n (by omega) (by decide), nm_eq, ck_n (by omega) (by decide), nI_clamp (by omega), rd21 (by omega), rd6_2, t2, ck_n (by omega) (by decide), nm_eq]
    refine ⟨_, rfl, ⟨KC_trans hC.1 (KC_trans (KC_A σ _ (k := 65) (by decide)) ⟨fun _ _ => rfl, fun _ _ => rfl, fun _ => rfl, rfl⟩), hC.2.1, fun x hx hxn => ?_⟩⟩
    by_cases hxv : x = v
    · subst hxv
      refine ⟨fun p hp => ?_, ?_, ?_⟩
      · show (if 58 + x = 64 then _ else sL σ (58 + x)) p = _
        rw [if_neg (by omega)]
        exact hst p (by omega)
      · show vp_updL (sL σ 64) x _ x = _
        unfold vp_updL
        rw [if_pos rfl]
        show sL σ (58 + x) (amx (wW τ b n (n - 1 - x)) 20) - (nI r).toInt64 * zL ((100 ^ (n - 1 - x) : Nat) : Int) * 100 = _
        rw [hst _ (by omega), zL_n (by omega), show (100 : Int64) = zL 100 from rfl, zL_mul, zL_mul, zL_sub]
        unfold rW rbK
        rw [r2, nI_clamp (by omega)]
        congr 2
        rw [Int.mul_assoc, Nat.pow_succ]
        rfl
      · show upd (sA σ 65) x _ x = _
        unfold upd
        rw [if_pos rfl]
    · obtain ⟨q1, q2, q3⟩ := hC.2.2 x (by omega) hxn
      refine ⟨fun p hp => ?_, ?_, ?_⟩
      · show (if 58 + x = 64 then _ else sL σ (58 + x)) p = _
        rw [if_neg (by omega)]
        exact q1 p hp
      · show vp_updL (sL σ 64) v _ x = _
        unfold vp_updL
        rw [if_neg hxv]
        exact q2
      · show upd (sA σ 65) v _ x = _
        unfold upd
        rw [if_neg hxv]
        exact q3
  | succ m ih =>
    intro f i σ hf hi hC hw hst
    obtain ⟨f, rfl⟩ : ∃ q, f = q + 1 := ⟨f - 1, by omega⟩
    have hS1 : SimSt σ τ := SimSt_keep hS hC.1 (KR_refl τ)
    obtain ⟨σ1, s1, s2⟩ := sl_C hS1 hb (hw (nI (prN τ b i)))
    have hcw : slN τ b (sA τ 3 (13 + 5 * b + 4)) (nI v) (nI (prN τ b i)) 0 = cwN τ b v i := rfl
    have hev : n - 1 - (n - 1 - v) = v := by omega
    have hc100 := cwN_le hS hb v i
    have hpr := prN_le hS hb (p := i) (by omega)
    have hmul : cwN τ b v i * prN τ b i ≤ 100 * 1980 := Nat.mul_le_mul hc100 hpr
    have hKC1 : KC σ0 σ1 := KC_trans hC.1 (KC_trans (KC_A σ _ (k := 45) (by decide)) (KC_S s2))
    have hA1 : ∀ k, k ≠ 45 → sA σ1 k = sA σ k := fun k hk2 => by
      rw [s2.1 k]
      exact if_neg hk2
    have hL1 : ∀ k, k ≠ 46 → sL σ1 k = sL σ k := fun k hk2 => s2.2.2.2.1 k hk2
    have hC1 : CPl σ0 τ b n (v + 1) σ1 := by
      refine ⟨hKC1, fun p hp => by rw [hA1 56 (by decide)]; exact hC.2.1 p hp, fun x hx hxn => ?_⟩
      rw [hL1 (58 + x) (by omega), hL1 64 (by decide), hA1 65 (by decide)]
      exact hC.2.2 x hx hxn
    have hfin : ∀ af : Int64, af = zL (moW τ b n (n - 1 - v) i) → ∃ σ', F_X10_planWeek_73 (F_X10_planWeek_15 f) (nI v) ls (zL ((100 ^ (n - 1 - v) : Nat) : Int)) (nI (amx (wW τ b n (n - 1 - v)) (min i 20))) (nI i) (nI (cwN τ b v i)) af σ1 = some ((), σ') ∧ CPl σ0 τ b n v σ' := by
      intro af haf
      have hval : (nI (cwN τ b v i) * nI (prN τ b i)).toInt64 * zL ((100 ^ (n - 1 - v) : Nat) : Int) + (100 - nI (cwN τ b v i)).toInt64 * af = zL (wW τ b n (n - 1 - v) i) := by
        have e9 : (100 : Int32) - nI (cwN τ b v i) = nI (100 - cwN τ b v i) := pk_sub (a := 100) hc100
        rw [pk_mul, zL_n (by omega), e9, zL_n (by omega), haf, zL_mul, zL_mul, zL_add]
        unfold wW wK
        rw [hev]
        rfl
      unfold F_X10_planWeek_73
      rw [ck_n (by omega) (by decide), hA1 56 (by decide), rd21 (by omega), hC.2.1 i (by omega), ck_n (by omega) (by decide), nm_eq, nI_clamp (by omega), nI_clamp (by omega), hval]
      have hL2 : ∀ x, sL (uL σ1 (58 + v) (vp_updL (sL σ1 (58 + v)) i (zL (wW τ b n (n - 1 - v) i)))) x = if x = 58 + v then vp_updL (sL σ1 (58 + v)) i (zL (wW τ b n (n - 1 - v) i)) else sL σ1 x := fun x => rfl
      have hst2 : ∀ p, p < i + 1 → sL (uL σ1 (58 + v) (vp_updL (sL σ1 (58 + v)) i (zL (wW τ b n (n - 1 - v) i)))) (58 + v) p = zL (wW τ b n (n - 1 - v) p) := fun p hp => by
        rw [hL2, if_pos rfl]
        unfold vp_updL
        by_cases e : p = i
        · rw [if_pos e, e]
        · rw [if_neg e, hL1 _ (by omega)]
          exact hst p (by omega)
      have hC2 : CPl σ0 τ b n (v + 1) (uL σ1 (58 + v) (vp_updL (sL σ1 (58 + v)) i (zL (wW τ b n (n - 1 - v) i)))) := by
        refine ⟨KC_trans hC1.1 ⟨fun _ _ => rfl, fun _ _ => rfl, fun _ => rfl, rfl⟩, hC1.2.1, fun x hx hxn => ?_⟩
        rw [hL2, if_neg (by omega), hL2, if_neg (by omega)]
        exact hC1.2.2 x hx hxn
      have hw2 : ∀ pr, wdT τ b (sA τ 3 (13 + 5 * b + 4)) (nI v) pr 0 0 (upd (sA (uL σ1 (58 + v) (vp_updL (sL σ1 (58 + v)) i (zL (wW τ b n (n - 1 - v) i)))) 45) 4 pr) := fun pr => by
        have e45 : sA (uL σ1 (58 + v) (vp_updL (sL σ1 (58 + v)) i (zL (wW τ b n (n - 1 - v) i)))) 45 = upd (sA σ 45) 4 (nI (prN τ b i)) := by
          show sA σ1 45 = _
          rw [s2.1 45, sA_s]
        rw [e45]
        have e2 : upd (upd (sA σ 45) 4 (nI (prN τ b i))) 4 pr = upd (sA σ 45) 4 pr := by
          funext q
          unfold upd
          split <;> rfl
        rw [e2]
        exact hw pr
      generalize uL σ1 (58 + v) (vp_updL (sL σ1 (58 + v)) i (zL (wW τ b n (n - 1 - v) i))) = σ2 at *
      by_cases h20 : 20 ≤ i
      · rw [if_pos (show (20 : Int32) ≤ nI i from nI_le (a := 20) h20 (by omega)), nm_eq, nI_1, show min i 20 = min (i + 1) 20 by omega]
        exact ih f (i + 1) σ2 (by omega) (by omega) hC2 hw2 hst2
      · have hmi : min i 20 = i := by omega
        have hal := amx_le (wW τ b n (n - 1 - v)) i
        have bi := wW_in hS hb n hk (p := i) (by omega)
        have ba := wW_in hS hb n hk (p := amx (wW τ b n (n - 1 - v)) i) (by omega)
        have hmi2 : min (i + 1) 20 = i + 1 := by omega
        rw [if_neg (show ¬ (20 : Int32) ≤ nI i from nI_ge (b := 20) (by omega) (by decide)), hmi, ck_n (by omega) (by decide), rd21 (by omega), hst2 i (by omega), ck_n (by omega) (by decide), rd21 (by omega), hst2 _ (by omega)]
        have hnext := ih f (i + 1) σ2 (by omega) (by omega) hC2 hw2 hst2
        rw [hmi2, amx] at hnext
        by_cases hcmp : wW τ b n (n - 1 - v) (amx (wW τ b n (n - 1 - v)) i) < wW τ b n (n - 1 - v) i
        · rw [if_pos hcmp] at hnext
          rw [if_neg (fun q => by
            have := (zL_le (by omega) (by omega) (by omega) (by omega)).mp ((lg_cmp_le _ _).mp q)
            omega), nm_eq, nI_1]
          exact hnext
        · rw [if_neg hcmp] at hnext
          rw [if_pos ((lg_cmp_le _ _).mpr ((zL_le (by omega) (by omega) (by omega) (by omega)).mpr (by omega))), nm_eq, nI_1]
          exact hnext
    rw [F_X10_planWeek_15, if_neg (show ¬ (20 : Int32) < nI i from nI_nlt (a := 20) (by omega) (by omega)), rd21 (by omega), hC.2.1 i (by omega), ck10_4, nm_eq, cl4, s1, bd_eq, hcw]
    by_cases hlast : v = n - 1
    · rw [if_pos hlast] at hls
      subst hls
      rw [if_neg (by decide)]
      obtain ⟨-, -, ⟨l, l1, l2⟩⟩ := cell_row hS
      have t3 : sA σ1 38 3 = nI l := by
        rw [hKC1.1 38 (by decide), cell_term hS (i := 3) (by decide)]
        exact l2
      rw [rd6_3, t3]
      refine hfin _ ?_
      rw [zL_n (by omega), show n - 1 - v = 0 by omega]
      unfold moW
      rw [l2, nI_clamp (by omega)]
    · rw [if_neg hlast] at hls
      subst hls
      rw [if_pos rfl, nI_1, C_most hS hb hn hC1 (by omega) (by omega), bd_eq, show n - (v + 1) = n - 1 - v by omega]
      exact hfin _ rfl
theorem C_plan_loop {σ0 τ : xS} (hS : SimSt σ0 τ) {b c n : Nat} (e1 : sI σ0 131 = nI c) (hc : c ≤ 10) (hb : b < c) (hn : n ≤ 6) (m : Nat) : ∀ (f : Nat) (y : Int32) (σ : xS), m < f → y = nI m - 1 → m ≤ n → CPl σ0 τ b n m σ → ∃ σ', F_X10_plan_64 f (nI b) (nI n) (zL ((100 ^ (n - m) : Nat) : Int)) y σ = some ((), σ') ∧ CPl σ0 τ b n 0 σ' := by
  induction m with
  | zero =>
    intro f y σ hf hy hm hC
    obtain ⟨f, rfl⟩ : ∃ q, f = q + 1 := ⟨f - 1, by omega⟩
    rw [F_X10_plan_64, hy, if_pos (by decide)]
    exact ⟨σ, rfl, hC⟩
  | succ m ih =>
    intro f y σ hf hy hm hC
    obtain ⟨f, rfl⟩ : ∃ q, f = q + 1 := ⟨f - 1, by omega⟩
    have ey : y = nI m := by rw [hy]; exact pk_sub (a := m + 1) (b := 1) (by omega)
    have en : nI n - 1 = nI (n - 1) := pk_sub (b := 1) (by omega)
    have hS1 : SimSt σ τ := SimSt_keep hS hC.1 (KR_refl τ)
    obtain ⟨W, hW, w0, w1, w2, w3, w4, w5, w6, w7, w8, w9⟩ := C_about hS1 (by rw [hC.1.2.1 131 (by decide)]; exact e1) hc hb (nI m)
    have hwk : ∀ ls : Int32, (ls = if m = n - 1 then 1 else 0) → ∃ σ', F_X10_plan_86 (F_X10_plan_64 f) (nI b) (nI n) (zL ((100 ^ (n - (m + 1)) : Nat) : Int)) (nI m) (nI b) (nI m) ls σ = some ((), σ') ∧ CPl σ0 τ b n 0 σ' := by
      intro ls hls
      obtain ⟨σ1, q1, q2⟩ := C_week hS (by omega) hn (v := m) (by omega) hls 21 FU 0 (uA σ 45 W) (by unfold FU; omega) (by omega) ⟨KC_trans hC.1 (KC_A σ W (k := 45) (by decide)), hC.2.1, hC.2.2⟩ (fun pr => ⟨w0, w1, w2, w3, rfl, w5, w6, w7, w8, w9⟩) (fun p hp => absurd hp (Nat.not_lt_zero p))
      have q1' : F_X10_planWeek_15 FU (nI m) ls (zL ((100 ^ (n - (m + 1)) : Nat) : Int)) 0 0 (uA σ 45 W) = some ((), σ1) := by
        rw [show n - (m + 1) = n - 1 - m by omega]
        exact q1
      unfold F_X10_plan_86 F_X10_planWeek
      rw [hW, bd_eq, nm_eq, nm_eq, q1', bd_eq, nm_eq, nm_eq, show (100 : Int64) = zL 100 from rfl, zL_mul]
      have e100 : ((100 ^ (n - (m + 1)) : Nat) : Int) * 100 = ((100 ^ (n - m) : Nat) : Int) := by
        rw [show n - m = n - (m + 1) + 1 by omega, Nat.pow_succ]
        rfl
      rw [e100]
      exact ih f _ σ1 (by omega) ((Int32.sub_eq_add_neg ..).symm) (by omega) q2
    rw [F_X10_plan_64, ey, if_neg (nI_pos (by omega)), en]
    by_cases hl : m = n - 1
    · rw [if_pos (by rw [hl])]
      exact hwk 1 (by rw [if_pos hl])
    · rw [if_neg (nI_ne (by omega) (by omega) hl)]
      exact hwk 0 (by rw [if_neg hl])
theorem C_plan {σ τ : xS} (hS : SimSt σ τ) {b c n : Nat} (e1 : sI σ 131 = nI c) (hc : c ≤ 10) (hb : b < c) (hn : n ≤ 6) (h1 : 1 ≤ n) : ∃ σ', F_X10_plan (nI b) (nI n) σ = some ((), σ') ∧ CPl σ τ b n 0 σ' := by
  obtain ⟨⟨s, s1, s2, s3⟩, -⟩ := cell_row hS
  have hloop : ∀ (m f i : Nat) (σ1 : xS), m < f → i + m = 20 → KC σ σ1 → (∀ p, p < i → sA σ1 56 p = nI (prN τ b p)) → ∃ σ', F_X10_plan_2 f (nI b) (nI n) (nI i) σ1 = some ((), σ') ∧ CPl σ τ b n 0 σ' := by
    intro m
    induction m with
    | zero =>
      intro f i σ1 hf hi hK hp
      obtain ⟨f, rfl⟩ : ∃ q, f = q + 1 := ⟨f - 1, by omega⟩
      have g : F_X6_get 0 (nI b) 3 σ1 = some (sA σ1 9 (b * 5 + 3), σ1) := C_getY (r := 0) (w := 3) (σ := σ1) (by rw [← e1]; exact hK.2.1 131 (by decide)) (show c ≤ 10 from hc) hb (by decide)
      have en : mnI (nI n) 6 = nI n := by
        have := mnI_n (a := n) (b := 6) (by omega) (by decide)
        rw [Nat.min_eq_left hn] at this
        exact this
      rw [F_X10_plan_2, if_pos (show (20 : Int32) ≤ nI i from nI_le (a := 20) (by omega) (by omega)), g, bd_eq, ck21_20, nm_eq, nm_eq, nm_eq, en, hK.1 9 (by decide), cell_book hS (by omega) (by decide), prN_20 hS (by omega)]
      obtain ⟨σ', q1, q2⟩ := C_plan_loop hS e1 hc hb hn n FU (nI n - 1) (uA σ1 56 (upd (sA σ1 56) 20 (nI (prN τ b 20)))) (by unfold FU; omega) rfl (Nat.le_refl _) ⟨KC_trans hK (KC_A σ1 _ (k := 56) (by decide)), fun p hp2 => by
        rw [sA_s]
        unfold upd
        by_cases e : p = 20
        · rw [if_pos e, e]
        · rw [if_neg e]
          exact hp p (by omega), fun v hv1 hv2 => absurd hv2 (by omega)⟩
      rw [Nat.sub_self] at q1
      exact ⟨σ', q1, q2⟩
    | succ m ih =>
      intro f i σ1 hf hi hK hp
      obtain ⟨f, rfl⟩ : ∃ q, f = q + 1 := ⟨f - 1, by omega⟩
      have t5 : sA σ1 38 5 = sA τ 3 12 := by
        rw [hK.1 38 (by decide)]
        exact cell_term hS (i := 5) (by decide)
      rw [F_X10_plan_2, if_neg (show ¬ (20 : Int32) ≤ nI i from nI_ge (b := 20) (by omega) (by decide)), rd6_5, t5, ck_n (by omega) (by decide), nm_eq, nm_eq, nI_clamp (by omega), prN_g hS (by omega), nI_1]
      refine ih f (i + 1) _ (by omega) (by omega) (KC_trans hK (KC_A σ1 _ (k := 56) (by decide))) (fun p hp2 => ?_)
      rw [sA_s]
      unfold upd
      by_cases e : p = i
      · rw [if_pos e, e]
      · rw [if_neg e]
        exact hp p (by omega)
  have hq := hloop 20 FU 0 σ (by unfold FU; omega) (by omega) (KC_refl σ) (fun p hp => absurd hp (Nat.not_lt_zero p))
  unfold F_X10_plan
  rw [nm_eq]
  exact hq
end
