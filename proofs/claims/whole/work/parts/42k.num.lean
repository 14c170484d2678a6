/-! ===== long numbers ===== -/
theorem zL_add (a b : Int) : zL a + zL b = zL (a + b) := (Int64.ofInt_add a b).symm
theorem zL_sub (a b : Int) : zL a - zL b = zL (a - b) := (Int64.ofInt_sub a b).symm
theorem zL_mul (a b : Int) : zL a * zL b = zL (a * b) := (Int64.ofInt_mul a b).symm
theorem zL_neg (a : Int) : -zL a = zL (-a) := (Int64.ofInt_neg a).symm
theorem zL_toInt {a : Int} (h1 : -9223372036854775808 ≤ a) (h2 : a < 9223372036854775808) : (zL a).toInt = a := Int64.toInt_ofInt_of_le h1 h2
theorem zL_i (x : Int32) : x.toInt64 = zL x.toInt := by
  have h1 := Int32.le_toInt x
  have h2 := Int32.toInt_lt x
  apply Int64.toInt_inj.mp
  rw [Int32.toInt_toInt64, zL_toInt (by omega) (by omega)]
theorem zL_n {n : Nat} (h : n < 2 ^ 31) : (nI n).toInt64 = zL n := by rw [zL_i, nI_toInt h]
theorem zL_0 : (0 : Int64) = zL 0 := rfl
theorem zL_le {a b : Int} (ha : -9223372036854775808 ≤ a) (ha2 : a < 9223372036854775808) (hb : -9223372036854775808 ≤ b) (hb2 : b < 9223372036854775808) : zL a ≤ zL b ↔ a ≤ b := by
  rw [Int64.le_iff_toInt_le, zL_toInt ha ha2, zL_toInt hb hb2]
theorem zL_eq {a b : Int} (ha : -9223372036854775808 ≤ a) (ha2 : a < 9223372036854775808) (hb : -9223372036854775808 ≤ b) (hb2 : b < 9223372036854775808) : zL a = zL b ↔ a = b := by
  rw [← Int64.toInt_inj, zL_toInt ha ha2, zL_toInt hb hb2]
theorem zL_ne0 {a : Nat} (h : 0 < a) (h2 : (a : Int) < 9223372036854775808) : ¬ zL a = 0 := by
  rw [zL_0, zL_eq (by omega) h2 (by decide) (by decide)]
  omega
theorem zL_div {a b : Nat} (ha : (a : Int) < 9223372036854775808) (hb : (b : Int) < 9223372036854775808) : zL a / zL b = zL ((a / b : Nat) : Int) := by
  apply Int64.toInt_inj.mp
  have hq : a / b ≤ a := Nat.div_le_self a b
  have hq1 : -9223372036854775808 ≤ ((a / b : Nat) : Int) := Int.le_trans (by decide) (Int.natCast_nonneg _)
  have hq2 : ((a / b : Nat) : Int) < 9223372036854775808 := Int.lt_of_le_of_lt (Int.ofNat_le.mpr hq) ha
  rw [Int64.toInt_div_of_ne_left _ _ (fun e => by
    have e1 := congrArg Int64.toInt e
    rw [zL_toInt (by omega) ha] at e1
    have e2 : Int64.minValue.toInt = -9223372036854775808 := rfl
    omega), zL_toInt (by omega) ha, zL_toInt (by omega) hb, zL_toInt hq1 hq2, Int.tdiv_eq_ediv_of_nonneg (by omega), Int.natCast_ediv]
theorem zL_mod {a b : Nat} (ha : (a : Int) < 9223372036854775808) (hb : (b : Int) < 9223372036854775808) : zL a - zL a / zL b * zL b = zL ((a % b : Nat) : Int) := by
  rw [zL_div ha hb, zL_mul, zL_sub, Int.natCast_emod, Int.natCast_ediv, Int.emod_def, Int.mul_comm]
theorem zL_c0 {a : Nat} (h2 : (a : Int) < 9223372036854775808) : lg_cmp (zL a) 0 = 0 ↔ a = 0 := by
  rw [lg_cmp_eq, zL_0, zL_eq (by omega) h2 (by decide) (by decide)]
  omega
theorem nzL_y {β : Type} {y : Int64} (h : ¬ y = 0) (k : Option β) : nzL y k = k := if_neg h
theorem gcd_st (a b : Nat) : Nat.gcd b (a % b) = Nat.gcd a b := by rw [Nat.gcd_comm a b, Nat.gcd_rec b a, Nat.gcd_comm]
theorem gcd_half {b r : Nat} {m : Nat} (hr : r < b) (h0 : 0 < r) (hb : b < 2 ^ (m + 1)) : b % r < 2 ^ m := by
  have h1 : b % r < r := Nat.mod_lt _ h0
  have h2 := Nat.div_add_mod b r
  have h3 : 1 ≤ b / r := (Nat.one_le_div_iff h0).mpr (by omega)
  have h4 : r * 1 ≤ r * (b / r) := Nat.mul_le_mul_left r h3
  rw [Nat.pow_succ] at hb
  omega
/-! ===== the greatest common divisor ===== -/
theorem C_low_loop (m : Nat) : ∀ (n s a b : Nat) (y0 y2 : Int64) (y4 : Int32) (σ : xS), 2 * m + 1 < n → s + 2 * m < 200 → b < 2 ^ m → (a : Int) < 9223372036854775808 → (b : Int) < 9223372036854775808 → F_X11_lowestTerms_19 n y0 y2 y4 (zL a) (zL b) (nI s) σ = F_X11_lowestTerms_55 y0 y2 y4 (zL (Nat.gcd a b : Nat)) σ := by
  induction m with
  | zero =>
    intro n s a b y0 y2 y4 σ hn hs hb ha hb2
    obtain ⟨n, rfl⟩ : ∃ q, n = q + 1 := ⟨n - 1, by omega⟩
    obtain rfl : b = 0 := by omega
    rw [F_X11_lowestTerms_19, if_neg (show ¬ (200 : Int32) ≤ nI s from nI_ge (b := 200) (by omega) (by decide)), if_pos ((zL_c0 hb2).mpr rfl), Nat.gcd_zero_right]
  | succ m ih =>
    intro n s a b y0 y2 y4 σ hn hs hb ha hb2
    obtain ⟨n, rfl⟩ : ∃ q, n = q + 1 + 1 := ⟨n - 2, by omega⟩
    rw [F_X11_lowestTerms_19, if_neg (show ¬ (200 : Int32) ≤ nI s from nI_ge (b := 200) (by omega) (by decide))]
    by_cases h0 : b = 0
    · subst h0
      rw [if_pos ((zL_c0 hb2).mpr rfl), Nat.gcd_zero_right]
    have hbp : 0 < b := by omega
    have h1 : a % b < b := Nat.mod_lt _ hbp
    rw [if_neg (fun q => h0 ((zL_c0 hb2).mp q)), nzL_y (zL_ne0 hbp hb2), nm_eq, nm_eq, zL_mod ha hb2, nI_1, F_X11_lowestTerms_19, if_neg (show ¬ (200 : Int32) ≤ nI (s + 1) from nI_ge (b := 200) (by omega) (by decide)), ← gcd_st a b]
    have h2 : ((a % b : Nat) : Int) < 9223372036854775808 := by omega
    by_cases h3 : a % b = 0
    · rw [if_pos ((zL_c0 h2).mpr h3), h3, Nat.gcd_zero_right]
    have hbp2 : 0 < a % b := by omega
    have h4 : b % (a % b) < a % b := Nat.mod_lt _ hbp2
    rw [if_neg (fun q => h3 ((zL_c0 h2).mp q)), nzL_y (zL_ne0 hbp2 h2), nm_eq, nm_eq, zL_mod hb2 h2, nI_1, ih n (s + 1 + 1) (a % b) (b % (a % b)) y0 y2 y4 σ (by omega) (by omega) (gcd_half h1 hbp2 hb) h2 (by omega), gcd_st b (a % b)]
theorem R_com_loop (m : Nat) : ∀ (n a b : Nat) (σ : xS), 2 * m + 1 < n → b < 2 ^ m → (a : Int) < 9223372036854775808 → (b : Int) < 9223372036854775808 → F_X12_common_17 n (zL a) (zL b) σ = some (zL (Nat.gcd a b : Nat), σ) := by
  induction m with
  | zero =>
    intro n a b σ hn hb ha hb2
    obtain ⟨n, rfl⟩ : ∃ q, n = q + 1 := ⟨n - 1, by omega⟩
    obtain rfl : b = 0 := by omega
    rw [F_X12_common_17, if_pos ((zL_c0 hb2).mpr rfl), Nat.gcd_zero_right]
  | succ m ih =>
    intro n a b σ hn hb ha hb2
    obtain ⟨n, rfl⟩ : ∃ q, n = q + 1 + 1 := ⟨n - 2, by omega⟩
    rw [F_X12_common_17]
    by_cases h0 : b = 0
    · subst h0
      rw [if_pos ((zL_c0 hb2).mpr rfl), Nat.gcd_zero_right]
    have hbp : 0 < b := by omega
    have h1 : a % b < b := Nat.mod_lt _ hbp
    rw [if_neg (fun q => h0 ((zL_c0 hb2).mp q)), nzL_y (zL_ne0 hbp hb2), nm_eq, zL_mod ha hb2, F_X12_common_17, ← gcd_st a b]
    have h2 : ((a % b : Nat) : Int) < 9223372036854775808 := by omega
    by_cases h3 : a % b = 0
    · rw [if_pos ((zL_c0 h2).mpr h3), h3, Nat.gcd_zero_right]
    have hbp2 : 0 < a % b := by omega
    have h4 : b % (a % b) < a % b := Nat.mod_lt _ hbp2
    rw [if_neg (fun q => h3 ((zL_c0 h2).mp q)), nzL_y (zL_ne0 hbp2 h2), nm_eq, zL_mod hb2 h2, ih n (a % b) (b % (a % b)) σ (by omega) (gcd_half h1 hbp2 hb) h2 (by omega), gcd_st b (a % b)]
theorem R_common {a t : Nat} (ha : (a : Int) < 9223372036854775808) (ht : (t : Int) < 9223372036854775808) (τ : xS) : F_X12_common (zL a) (zL t) τ = some (zL (Nat.gcd a t : Nat), τ) := by
  unfold F_X12_common
  rw [if_pos ((lg_cmp_ge _ _).mpr (by rw [zL_0, zL_le (by decide) (by decide) (by omega) ha]; omega)), R_com_loop 63 FU a t τ (by decide) (by omega) ha ht]
theorem gcd_fit {a t : Nat} (ht : (t : Int) < 9223372036854775808) (h0 : 0 < t) : ¬ zL ((Nat.gcd a t : Nat) : Int) = 0 := by
  have h1 : Nat.gcd a t ≤ t := Nat.le_of_dvd h0 (Nat.gcd_dvd_right a t)
  exact zL_ne0 (Nat.gcd_pos_of_pos_right a h0) (by omega)
theorem C_lowest {a t : Nat} (ha : (a : Int) < 9223372036854775808) (ht : (t : Int) < 9223372036854775808) (h0 : 0 < t) (k : Int32) (σ : xS) : F_X11_lowestTerms (zL a) (zL t) k σ = some (if k = 0 then zL a / zL (Nat.gcd a t : Nat) else zL t / zL (Nat.gcd a t : Nat), σ) := by
  unfold F_X11_lowestTerms
  have h1 : F_X11_lowestTerms_19 FU (zL a) (zL t) k (zL t) (zL a) 0 σ = _ := C_low_loop 63 FU 0 t a (zL a) (zL t) k σ (by decide) (by decide) (by omega) ht ha
  rw [if_pos ((lg_cmp_gt _ _).mpr (by rw [zL_0, Int64.lt_iff_toInt_lt, zL_toInt (by decide) (by decide), zL_toInt (by omega) ht]; omega)), nm_eq, h1, Nat.gcd_comm t a]
  unfold F_X11_lowestTerms_55
  split
  · rw [nzL_y (gcd_fit ht h0)]
  · rw [nzL_y (gcd_fit ht h0)]
theorem C_lowest0 (a : Int64) (k : Int32) (σ : xS) : F_X11_lowestTerms a (zL 0) k σ = some (-1000000000000000000, σ) := by
  unfold F_X11_lowestTerms
  rw [if_neg (fun q => absurd ((lg_cmp_gt _ _).mp q) (by decide))]
/-- what a fraction's part is told to be -/
def loV (a t : Nat) (k : Int32) : Int64 := if t = 0 then -1000000000000000000 else if k = 0 then zL a / zL (Nat.gcd a t : Nat) else zL t / zL (Nat.gcd a t : Nat)
theorem C_lo {a t : Nat} (ha : (a : Int) < 9223372036854775808) (ht : (t : Int) < 9223372036854775808) (k : Int32) (σ : xS) : F_X11_lowestTerms (zL a) (zL t) k σ = some (loV a t k, σ) := by
  unfold loV
  by_cases h : t = 0
  · subst h
    rw [if_pos rfl]
    exact C_lowest0 _ k σ
  · rw [if_neg h, C_lowest ha ht (by omega)]
theorem R_lo {a t : Nat} (ha : (a : Int) < 9223372036854775808) (ht : (t : Int) < 9223372036854775808) (k : Int32) (τ : xS) : (if lg_cmp (zL t) 0 = 0 then some (-1000000000000000000, τ) else bd (F_X12_common (zL a) (zL t) τ) fun v σ => if k = 0 then nzL v (some (zL a / v, σ)) else nzL v (some (zL t / v, σ))) = some (loV a t k, τ) := by
  unfold loV
  by_cases h : t = 0
  · subst h
    rw [if_pos rfl, if_pos ((zL_c0 ht).mpr rfl)]
  · rw [if_neg h, if_neg (fun q => h ((zL_c0 ht).mp q)), R_common ha ht, bd_eq]
    by_cases hk : k = 0
    · rw [if_pos hk, if_pos hk, nzL_y (gcd_fit ht (by omega))]
    · rw [if_neg hk, if_neg hk, nzL_y (gcd_fit ht (by omega))]
/-! ===== june ===== -/
def juneV (f : Nat → Int32) (x s p q : Int32) : Nat → Nat → Int64 → Int64
  | 0, _, v => v
  | m + 1, i, v => juneV f x s p q m (i + 1) (v + (((mnI x (f i)).toInt64 * p.toInt64 + (x - mnI x (f i)).toInt64 * q.toInt64) - x.toInt64 * s.toInt64))
theorem C_june_loop {σ τ : xS} {c : Nat} (h : SimSt σ τ) (hc : c ≤ 10) (e1 : sI σ 227 = nI c) (x s p q : Int32) (m : Nat) : ∀ (n i : Nat) (v : Int64), m < n → i + m = c → F_X11_broughtInJune_6 n x s p q v (nI i) σ = some (juneV (fun i => sA τ 3 (123 + i)) x s p q m i v, σ) := by
  induction m with
  | zero =>
    intro n i v hn hi
    obtain ⟨n, rfl⟩ : ∃ q, n = q + 1 := ⟨n - 1, by omega⟩
    rw [F_X11_broughtInJune_6, e1, if_pos (nI_le (by omega) (by omega)), juneV]
  | succ m ih =>
    intro n i v hn hi
    obtain ⟨n, rfl⟩ : ∃ q, n = q + 1 := ⟨n - 1, by omega⟩
    have g : F_X6_get 3 (nI i) 0 σ = some (sA σ 15 (i * 1 + 0), σ) := C_getY (r := 3) (w := 0) e1 (show c ≤ 10 from hc) (by omega) (by decide)
    rw [F_X11_broughtInJune_6, e1, if_neg (nI_ge (by omega) (by omega)), g, bd_eq, nm_eq, nm_eq, nm_eq, nI_1, ih n (i + 1) _ (by omega) (by omega), juneV, show i * 1 + 0 = i by omega, cell_oct h (by omega)]
theorem R_june_loop {τ : xS} {c : Nat} (hc : c ≤ 10) (e2 : sA τ 3 5 = nI c) (x s p q : Int32) (m : Nat) : ∀ (n i : Nat) (v : Int64), m < n → i + m = c → F_X12_juneOf_6 n x s p q v (nI i) τ = some (juneV (fun i => sA τ 3 (123 + i)) x s p q m i v, τ) := by
  induction m with
  | zero =>
    intro n i v hn hi
    obtain ⟨n, rfl⟩ : ∃ q, n = q + 1 := ⟨n - 1, by omega⟩
    rw [F_X12_juneOf_6, rdL5, e2, if_pos (nI_le (by omega) (by omega)), juneV]
  | succ m ih =>
    intro n i v hn hi
    obtain ⟨n, rfl⟩ : ∃ q, n = q + 1 := ⟨n - 1, by omega⟩
    have ei : (123 : Int32) + nI i = nI (123 + i) := nI_add 123 i
    have em : ∀ t : Int32, t = mnI x (sA τ 3 (123 + i)) → F_X12_juneOf_45 (F_X12_juneOf_6 n) x s p q v (nI i) t τ = some (juneV (fun i => sA τ 3 (123 + i)) x s p q (m + 1) i v, τ) := by
      intro t et
      unfold F_X12_juneOf_45
      rw [nm_eq, nm_eq, nI_1, ih n (i + 1) _ (by omega) (by omega), juneV, et, Int64.mul_comm p.toInt64, Int64.mul_comm q.toInt64, Int64.mul_comm s.toInt64]
    rw [F_X12_juneOf_6, rdL5, e2, if_neg (nI_ge (by omega) (by omega)), ei, rd_n (by omega) (by decide)]
    by_cases hv : sA τ 3 (123 + i) ≤ x
    · rw [if_pos hv, rd_n (by omega) (by decide), em]
      unfold mnI
      by_cases h2 : sA τ 3 (123 + i) < x
      · rw [if_pos h2]
      · rw [if_neg h2]
        exact Int32.le_antisymm hv (Int32.not_lt.mp h2)
    · rw [if_neg hv, em]
      unfold mnI
      rw [if_neg (fun q => hv (Int32.le_of_lt q))]
theorem C_areSums (a b d : Int32) {σ : xS} {c : Nat} (hc : c ≤ 10) (e1 : sI σ 227 = nI c) : F_X11_juneCanBe a b d σ = some (b2 (0 < c ∧ (0 ≤ a ∧ a ≤ 999) ∧ (0 ≤ b ∧ b ≤ 999) ∧ (0 ≤ d ∧ d ≤ 999)), σ) := by
  unfold F_X11_juneCanBe
  rw [e1]
  by_cases h : c = 0
  · subst h
    rw [if_pos (by decide), cz_0]
    exact congrArg (fun x => some (x, σ)) (b2_0.mpr (fun q => absurd q.1 (by decide))).symm
  · rw [if_neg (show ¬ nI c ≤ (0 : Int32) from nI_ge (a := 0) (by omega) (by omega))]
    simp only [C_isWithin, bd_eq, ib2]
    by_cases p1 : 0 ≤ a ∧ a ≤ 999
    rotate_left
    · simp only [if_neg p1, cz_0]
      exact congrArg (fun x => some (x, σ)) (b2_0.mpr (fun q => p1 q.2.1)).symm
    by_cases p2 : 0 ≤ b ∧ b ≤ 999
    rotate_left
    · simp only [if_pos p1, if_neg p2, cz_0]
      exact congrArg (fun x => some (x, σ)) (b2_0.mpr (fun q => p2 q.2.2.1)).symm
    by_cases p3 : 0 ≤ d ∧ d ≤ 999
    rotate_left
    · simp only [if_pos p1, if_pos p2, if_neg p3, cz_0]
      exact congrArg (fun x => some (x, σ)) (b2_0.mpr (fun q => p3 q.2.2.2)).symm
    simp only [if_pos p1, if_pos p2, if_pos p3, cz_1]
    exact congrArg (fun x => some (x, σ)) (b2_1.mpr ⟨by omega, p1, p2, p3⟩).symm
theorem R_areSums (a b d : Int32) {τ : xS} {c : Nat} (hc : c ≤ 10) (e2 : sA τ 3 5 = nI c) : F_X12_areSums a b d τ = some (b2 (0 < c ∧ (0 ≤ a ∧ a ≤ 999) ∧ (0 ≤ b ∧ b ≤ 999) ∧ (0 ≤ d ∧ d ≤ 999)), τ) := by
  unfold F_X12_areSums
  rw [rdL5, e2]
  by_cases h : c = 0
  · subst h
    rw [if_pos (by decide), cz_0]
    exact congrArg (fun x => some (x, τ)) (b2_0.mpr (fun q => absurd q.1 (by decide))).symm
  · rw [if_neg (show ¬ nI c ≤ (0 : Int32) from nI_ge (a := 0) (by omega) (by omega))]
    simp only [R_i0_999, bd_eq, ib2]
    by_cases p1 : 0 ≤ a ∧ a ≤ 999
    rotate_left
    · simp only [if_neg p1, cz_0]
      exact congrArg (fun x => some (x, τ)) (b2_0.mpr (fun q => p1 q.2.1)).symm
    by_cases p2 : 0 ≤ b ∧ b ≤ 999
    rotate_left
    · simp only [if_pos p1, if_neg p2, cz_0]
      exact congrArg (fun x => some (x, τ)) (b2_0.mpr (fun q => p2 q.2.2.1)).symm
    by_cases p3 : 0 ≤ d ∧ d ≤ 999
    rotate_left
    · simp only [if_pos p1, if_pos p2, if_neg p3, cz_0]
      exact congrArg (fun x => some (x, τ)) (b2_0.mpr (fun q => p3 q.2.2.2)).symm
    simp only [if_pos p1, if_pos p2, if_pos p3, cz_1]
    exact congrArg (fun x => some (x, τ)) (b2_1.mpr ⟨by omega, p1, p2, p3⟩).symm
theorem C_june {σ τ : xS} {c : Nat} (h : SimSt σ τ) (hc : c ≤ 10) (e1 : sI σ 227 = nI c) (x s p q : Int32) : F_X11_broughtInJune x s p q σ = some (juneV (fun i => sA τ 3 (123 + i)) x s p q c 0 0, σ) := C_june_loop h hc e1 x s p q c FU 0 0 (by unfold FU; omega) (by omega)
theorem R_june {τ : xS} {c : Nat} (hc : c ≤ 10) (e2 : sA τ 3 5 = nI c) (x s p q : Int32) : F_X12_juneOf x s p q τ = some (juneV (fun i => sA τ 3 (123 + i)) x s p q c 0 0, τ) := R_june_loop hc e2 x s p q c FU 0 0 (by unfold FU; omega) (by omega)
theorem st_june : ∀ (σ τ : xS), Sim σ τ → ∀ (a1 a2 a3 a4 : Int32), ∃ (r : Int64) (σ1 τ1 : xS), F_X11_june a1 a2 a3 a4 σ = some (r, σ1) ∧ F_X12_june a1 a2 a3 a4 τ = some (r, τ1) ∧ Sim σ1 τ1 := by
  intro σ τ0 h0 a1 a2 a3 a4
  have h := Sim_thr h0
  unfold F_X11_june F_X12_june
  simp only [nm_eq]
  generalize uI τ0 0 0 = τ at h ⊢
  obtain ⟨c, hc, e1, e2⟩ := cnt3 h.1
  simp only [R_i0_999, C_isWithin, C_areSums _ _ _ hc e1, R_areSums _ _ _ hc e2, C_june h.1 hc e1, R_june hc e2, bd_eq, ib2]
  by_cases p : 0 ≤ a1 ∧ a1 ≤ 999
  rotate_left
  · simp only [if_neg p]
    exact ⟨_, _, _, rfl, rfl, h⟩
  simp only [if_pos p]
  by_cases p2 : 0 < c ∧ (0 ≤ a2 ∧ a2 ≤ 999) ∧ (0 ≤ a3 ∧ a3 ≤ 999) ∧ (0 ≤ a4 ∧ a4 ≤ 999)
  rotate_left
  · simp only [if_neg p2]
    exact ⟨_, _, _, rfl, rfl, h⟩
  simp only [if_pos p2]
  exact ⟨_, _, _, rfl, rfl, h⟩
