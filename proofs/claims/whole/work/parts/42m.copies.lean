/-! ===== what one glance more is ===== -/
theorem i32_sub {a b : Int32} (h1 : -2147483648 ≤ a.toInt - b.toInt) (h2 : a.toInt - b.toInt < 2147483648) : (a - b).toInt = a.toInt - b.toInt := by
  rw [Int32.toInt_sub]
  apply Int.bmod_eq_of_le_mul_two
  · rw [show ((2 ^ 32 : Nat) : Int) = 4294967296 from rfl]
    omega
  · rw [show ((2 ^ 32 : Nat) : Int) = 4294967296 from rfl]
    omega
theorem mul_bd {a b A B : Int} (h1 : -A ≤ a) (h2 : a ≤ A) (h3 : -B ≤ b) (h4 : b ≤ B) : -(A * B) ≤ a * b ∧ a * b ≤ A * B := by
  have k1 := Int.mul_nonneg (show 0 ≤ A - a by omega) (show 0 ≤ B + b by omega)
  have k2 := Int.mul_nonneg (show 0 ≤ A + a by omega) (show 0 ≤ B - b by omega)
  have k3 := Int.mul_nonneg (show 0 ≤ A - a by omega) (show 0 ≤ B - b by omega)
  have k4 := Int.mul_nonneg (show 0 ≤ A + a by omega) (show 0 ≤ B + b by omega)
  rw [Int.sub_mul, Int.mul_add, Int.mul_add] at k1
  rw [Int.add_mul, Int.mul_sub, Int.mul_sub] at k2
  rw [Int.sub_mul, Int.mul_sub, Int.mul_sub] at k3
  rw [Int.add_mul, Int.mul_add, Int.mul_add] at k4
  omega
def posI (z : Int) : Int := if z ≤ 0 then 0 else z
theorem mxL_z {z : Int} (h1 : -9223372036854775808 ≤ z) (h2 : z < 9223372036854775808) : mxL 0 (zL z) = zL (posI z) := by
  have hlt : zL z < 0 ↔ z < 0 := by rw [zL_0, Int64.lt_iff_toInt_lt, zL_toInt h1 h2, zL_toInt (by decide) (by decide)]
  unfold mxL posI
  by_cases h : z < 0
  · rw [if_pos (hlt.mpr h), if_pos (by omega), zL_0]
  · rw [if_neg (fun q => h (hlt.mp q))]
    by_cases h3 : z ≤ 0
    · rw [if_pos h3, show z = 0 by omega]
    · rw [if_neg h3]
theorem le0_z {z : Int} (h1 : -9223372036854775808 ≤ z) (h2 : z < 9223372036854775808) : lg_cmp (zL z) 0 ≤ 0 ↔ z ≤ 0 := by
  rw [lg_cmp_le, zL_0, zL_le h1 h2 (by decide) (by decide)]
theorem posI_mul {e : Int} {K : Nat} (hK : 0 < K) : posI (e * K) = posI e * K := by
  unfold posI
  by_cases h : e ≤ 0
  · rw [if_pos h, if_pos (Int.mul_nonpos_of_nonpos_of_nonneg h (by omega)), Int.zero_mul]
  · have h2 : 0 < e * (K : Int) := Int.mul_pos (by omega) (by omega)
    rw [if_neg h, if_neg (by omega)]
theorem R_gl_end {y1 y2 y5 : Int32} {t K : Nat} {e p q : Int} (hK : nI K = y1 - y2) (hK0 : 0 < K) (hK2 : K ≤ 20) (ht : t ≤ 500000000000) (ht0 : 0 < t) (he : -5000000000000000 ≤ e) (he2 : e ≤ 5000000000000000) (hp : -200000000000000000 ≤ p) (hp2 : p ≤ 200000000000000000) (hq : -200000000000000000 ≤ q) (hq2 : q ≤ 200000000000000000) (hs : e * K = p + q) (τ : xS) (σ : xS) : ∃ r : Int64, (F_X11_lowestTerms ((mxL 0 (zL p) + mxL 0 (zL q)) - mxL 0 (zL (e * K))) (zL t * (y1 - y2).toInt64) y5 σ = some (r, σ)) ∧ (if lg_cmp (zL p) 0 ≤ 0 then F_X12_glance_192 y1 y2 y5 (zL t) (zL e) (zL q) 0 τ else F_X12_glance_192 y1 y2 y5 (zL t) (zL e) (zL q) (zL p) τ) = some (r, τ) := by
  obtain ⟨m1, m2⟩ := mul_bd (A := 5000000000000000) (B := 20) he he2 (show -20 ≤ (K : Int) by omega) (show (K : Int) ≤ 20 by omega)
  have hT : t * K ≤ 500000000000 * 20 := Nat.mul_le_mul ht hK2
  have hT0 : 0 < t * K := Nat.mul_pos ht0 hK0
  have hn : 0 ≤ posI p + posI q - posI (e * K) ∧ posI p + posI q - posI (e * K) ≤ 400000000000000000 := by
    unfold posI
    constructor
    · split <;> split <;> split <;> omega
    · split <;> split <;> split <;> omega
  obtain ⟨U, hU⟩ : ∃ U : Nat, (U : Int) = posI p + posI q - posI (e * K) := ⟨(posI p + posI q - posI (e * K)).toNat, Int.toNat_of_nonneg hn.1⟩
  have hR : ∀ (x y : Int64), x = zL (posI p) → (F_X12_glance_192 y1 y2 y5 (zL t) (zL e) (zL q) x τ = some (loV U (t * K) y5, τ)) := by
    intro x y hx
    have h1 : ∀ z : Int64, z = zL (posI q) → F_X12_glance_205 y1 y2 y5 (zL t) (zL e) x z τ = some (loV U (t * K) y5, τ) := by
      intro z hz
      have h2 : ∀ v : Int64, v = zL (posI e) → F_X12_glance_219 y1 y2 y5 (zL t) (x + z) v τ = some (loV U (t * K) y5, τ) := by
        intro v hv
        unfold F_X12_glance_219
        rw [nm_eq, nm_eq, hx, hz, hv, ← hK, zL_n (by omega), zL_add, zL_mul, zL_mul, zL_sub, ← posI_mul hK0, ← hU, show ((t : Int) * (K : Int)) = ((t * K : Nat) : Int) from rfl, R_common (by omega) (by omega), bd_eq]
        unfold loV
        rw [if_neg (show ¬ t * K = 0 by omega)]
        by_cases hk : y5 = 0
        · rw [if_pos hk, if_pos hk, nzL_y (gcd_fit (by omega) hT0)]
        · rw [if_neg hk, if_neg hk, nzL_y (gcd_fit (by omega) hT0)]
      unfold F_X12_glance_205
      by_cases hb : e ≤ 0
      · rw [if_pos ((le0_z (by omega) (by omega)).mpr hb), h2 0 (by unfold posI; rw [if_pos hb]; rfl)]
      · rw [if_neg (fun w => hb ((le0_z (by omega) (by omega)).mp w)), h2 _ (by unfold posI; rw [if_neg hb])]
    unfold F_X12_glance_192
    by_cases hb : q ≤ 0
    · rw [if_pos ((le0_z (by omega) (by omega)).mpr hb), h1 0 (by unfold posI; rw [if_pos hb]; rfl)]
    · rw [if_neg (fun w => hb ((le0_z (by omega) (by omega)).mp w)), h1 _ (by unfold posI; rw [if_neg hb])]
  refine ⟨loV U (t * K) y5, ?_, ?_⟩
  · rw [mxL_z (by omega) (by omega), mxL_z (by omega) (by omega), mxL_z (by omega) (by omega), zL_add, zL_sub, ← hU, ← hK, zL_n (by omega), zL_mul, show ((t : Int) * (K : Int)) = ((t * K : Nat) : Int) from rfl, C_lo (by omega) (by omega)]
  · by_cases hb : p ≤ 0
    · rw [if_pos ((le0_z (by omega) (by omega)).mpr hb), hR 0 0 (by unfold posI; rw [if_pos hb]; rfl)]
    · rw [if_neg (fun w => hb ((le0_z (by omega) (by omega)).mp w)), hR _ 0 (by unfold posI; rw [if_neg hb])]
theorem glance_loop {σ τ : xS} (h : SimSt σ τ) {c : Nat} (hc : c ≤ 12) (e1 : sI σ 163 = nI c) (e2 : sA τ 3 3 = nI c) {G B J P : Nat} (k : Int32) (hG : G ≤ 20) (hB : B < G) (hJ : J ≤ B) (hP : P ≤ 9999) (hG1 : 1 ≤ G) (m : Nat) : ∀ (n n' i t : Nat) (e p q : Int), m < n → m < n' → i + m = c → t ≤ i * 34134779536 → -(i * 341313660580464 : Int) ≤ e → e ≤ i * 341313660580464 → -(i * 13652546423218560 : Int) ≤ p → p ≤ i * 13652546423218560 → -(i * 13652546423218560 : Int) ≤ q → q ≤ i * 13652546423218560 → e * ((G - B : Nat) : Int) = p + q → ∃ r : Int64, F_X11_glance_46 n (nI G) (nI B) (nI J) (nI P) k (zL t) (zL (e * ((G - B : Nat) : Int))) (zL p) (zL q) (nI i) σ = some (r, σ) ∧ F_X12_glance_53 n' (nI G) (nI B) (nI J) (nI P) k (zL t) (zL e) (zL p) (zL q) (nI i) τ = some (r, τ) := by
  have hd : nI G - nI B = nI (G - B) := pk_sub (by omega)
  induction m with
  | zero =>
    intro n n' i t e p q hn hn' hi ht h1 h2 h3 h4 h5 h6 hs
    obtain ⟨n, rfl⟩ : ∃ q, n = q + 1 := ⟨n - 1, by omega⟩
    obtain ⟨n', rfl⟩ : ∃ q, n' = q + 1 := ⟨n' - 1, by omega⟩
    have bt : t ≤ 12 * 34134779536 := Nat.le_trans ht (Nat.mul_le_mul_right _ (by omega))
    rw [F_X11_glance_46, e1, if_pos (nI_le (by omega) (by omega)), F_X12_glance_53, rdL3, e2, if_pos (nI_le (by omega) (by omega)), nm_eq]
    by_cases t0 : t = 0
    · subst t0
      rw [if_pos ((zL_c0 (by decide)).mpr rfl), show zL ((0 : Nat) : Int) = 0 from rfl, Int64.zero_mul, show (0 : Int64) = zL 0 from rfl, C_lowest0, bd_eq]
      exact ⟨_, rfl, rfl⟩
    · rw [if_neg (fun w => t0 ((zL_c0 (by omega)).mp w))]
      obtain ⟨r, r1, r2⟩ := R_gl_end (y5 := k) hd.symm (by omega) (by omega) (t := t) (by omega) (by omega) (e := e) (by omega) (by omega) (p := p) (by omega) (by omega) (q := q) (by omega) (by omega) hs τ σ
      rw [r1, bd_eq]
      exact ⟨r, rfl, r2⟩
  | succ m ih =>
    intro n n' i t e p q hn hn' hi ht h1 h2 h3 h4 h5 h6 hs
    obtain ⟨n, rfl⟩ : ∃ q, n = q + 1 := ⟨n - 1, by omega⟩
    obtain ⟨n', rfl⟩ : ∃ q, n' = q + 1 := ⟨n' - 1, by omega⟩
    obtain ⟨g, s, v, b1, b2', b3, b4, t0, t1, t2, c0, c1, c2⟩ := box_cell h e2 hc (i := i) (by omega)
    obtain ⟨w, w1, w2, w3⟩ := (way_eq h hc e1 e2 (i := i) (by omega) (nI G) (nI B) (nI J)).1 ⟨⟨nI_le (a := 1) hG1 (by omega), nI_le (b := 20) hG (by omega)⟩, ⟨nI_pos' (by omega), nI_le (by omega) (by omega)⟩, ⟨nI_pos' (by omega), nI_le (by omega) (by omega)⟩⟩
    have g1 : F_X6_get 1 (nI i) 1 σ = some (sA σ 11 (i * 3 + 1), σ) := C_getY (r := 1) (w := 1) e1 (show c ≤ 12 from hc) (by omega) (by decide)
    have g2 : F_X6_get 1 (nI i) 2 σ = some (sA σ 11 (i * 3 + 2), σ) := C_getY (r := 1) (w := 2) e1 (show c ≤ 12 from hc) (by omega) (by decide)
    have ei : (63 : Int32) + 3 * nI i = nI (63 + 3 * i) := by
      show nI 63 + nI 3 * nI i = _
      rw [pk_mul, nI_add]
    have ei1 : nI (63 + 3 * i) + 1 = nI (63 + 3 * i + 1) := nI_add _ 1
    have ei2 : nI (63 + 3 * i) + 2 = nI (63 + 3 * i + 2) := nI_add _ 2
    have hx : (nI s - nI J).toInt = (s : Int) - J := pk_sub_toInt (by omega) (by omega)
    have hv : (nI v - nI P).toInt = (v : Int) - P := pk_sub_toInt (by omega) (by omega)
    have hk : (nI (G - B) - (nI s - nI J)).toInt = ((G - B : Nat) : Int) - ((s : Int) - J) := by
      have a1 : (nI (G - B)).toInt = ((G - B : Nat) : Int) := nI_toInt (by omega)
      rw [i32_sub (by rw [hx, a1]; omega) (by rw [hx, a1]; omega), hx, a1]
    rw [F_X11_glance_46, e1, if_neg (nI_ge (by omega) (by omega)), F_X12_glance_53, rdL3, e2, if_neg (nI_ge (by omega) (by omega)), w2, w3, bd_eq, bd_eq, ei, ei1, ei2, rd_n (by omega) (by decide)]
    simp only [nm_eq]
    rw [rd_n (by omega) (by decide), t1, t2, hd]
    simp only [nI_1, g1, g2, bd_eq, c1, c2]
    rw [zL_i (nI v - nI P), zL_i (nI s - nI J), zL_i (nI (G - B) - (nI s - nI J)), hx, hv, hk, zL_n (n := G - B) (by omega)]
    simp only [zL_mul, zL_add]
    generalize hX : (s : Int) - J = x at *
    generalize hV : (v : Int) - P = z at *
    have hz : -9999 ≤ z ∧ z ≤ 9999 := by omega
    have hxx : -20 ≤ x ∧ x ≤ 20 := by omega
    have hkk : -40 ≤ ((G - B : Nat) : Int) - x ∧ ((G - B : Nat) : Int) - x ≤ 40 := by omega
    obtain ⟨m1, m2⟩ := mul_bd (a := (w : Int)) (A := 34134779536) (B := 9999) (by omega) (by omega) hz.1 hz.2
    obtain ⟨m3, m4⟩ := mul_bd (A := 341313660580464) (B := 40) m1 m2 (show -40 ≤ x by omega) (show x ≤ 40 by omega)
    obtain ⟨m5, m6⟩ := mul_bd (A := 341313660580464) (B := 40) m1 m2 hkk.1 hkk.2
    have c1' : (w : Int) * x * z = w * z * x := by rw [Int.mul_assoc, Int.mul_comm x z, ← Int.mul_assoc]
    have c2' : (w : Int) * (((G - B : Nat) : Int) - x) * z = w * z * (((G - B : Nat) : Int) - x) := by rw [Int.mul_assoc, Int.mul_comm _ z, ← Int.mul_assoc]
    have hcast : ((t : Int) + (w : Int)) = ((t + w : Nat) : Int) := rfl
    have hI : (((i + 1 : Nat) : Int)) = (i : Int) + 1 := rfl
    have hsum : (e + (w : Int) * z) * ((G - B : Nat) : Int) = (p + w * z * x) + (q + w * z * (((G - B : Nat) : Int) - x)) := by
      rw [Int.add_mul, hs, Int.mul_sub]
      omega
    rw [c1', c2', hcast]
    have hfin := ih n n' (i + 1) (t + w) (e + w * z) (p + w * z * x) (q + w * z * (((G - B : Nat) : Int) - x)) (by omega) (by omega) (by omega) (by rw [Nat.succ_mul]; omega) (by rw [hI]; omega) (by rw [hI]; omega) (by rw [hI]; omega) (by rw [hI]; omega) (by rw [hI]; omega) (by rw [hI]; omega) hsum
    by_cases hw : lg_cmp (zL (w : Int)) 0 ≤ 0
    · have hw0 : (w : Int) = 0 := by
        have := (le0_z (z := (w : Int)) (by omega) (by omega)).mp hw
        omega
      rw [if_pos hw]
      have ht0 : t + w = t := by omega
      rw [hw0, ht0] at hfin
      simp only [Int.zero_mul, Int.add_zero] at hfin
      rw [hw0, ht0]
      simp only [Int.zero_mul, Int.add_zero]
      exact hfin
    · rw [if_neg hw, ← Int.add_mul]
      exact hfin
theorem glance_none {σ τ : xS} (h : SimSt σ τ) {c : Nat} (hc : c ≤ 12) (e1 : sI σ 163 = nI c) (e2 : sA τ 3 3 = nI c) (a b d x k : Int32) (hg : ¬ ((1 ≤ a ∧ a ≤ 20) ∧ (0 ≤ b ∧ b ≤ a) ∧ (0 ≤ d ∧ d ≤ b))) (m : Nat) : ∀ (n i : Nat) (u v y : Int64), m < n → i + m = c → F_X11_glance_46 n a b d x k 0 u v y (nI i) σ = some (-1000000000000000000, σ) := by
  induction m with
  | zero =>
    intro n i u v y hn hi
    obtain ⟨n, rfl⟩ : ∃ q, n = q + 1 := ⟨n - 1, by omega⟩
    rw [F_X11_glance_46, e1, if_pos (nI_le (by omega) (by omega)), nm_eq, Int64.zero_mul]
    have z := C_lowest0 (mxL 0 v + mxL 0 y - mxL 0 u) k σ
    rw [show zL 0 = (0 : Int64) from rfl] at z
    rw [z, bd_eq]
  | succ m ih =>
    intro n i u v y hn hi
    obtain ⟨n, rfl⟩ : ∃ q, n = q + 1 := ⟨n - 1, by omega⟩
    have w2 := (way_eq h hc e1 e2 (i := i) (by omega) a b d).2 hg
    rw [F_X11_glance_46, e1, if_neg (nI_ge (by omega) (by omega)), w2, bd_eq, if_pos (show lg_cmp 0 0 ≤ 0 by decide), nm_eq, nI_1]
    exact ih n (i + 1) u v y (by omega) (by omega)
theorem st_glance : ∀ (σ τ : xS), Sim σ τ → ∀ (a1 a2 a3 a4 a5 : Int32), ∃ (r : Int64) (σ1 τ1 : xS), F_X11_glance a1 a2 a3 a4 a5 σ = some (r, σ1) ∧ F_X12_glance a1 a2 a3 a4 a5 τ = some (r, τ1) ∧ Sim σ1 τ1 := by
  intro σ τ0 h0 a1 a2 a3 a4 a5
  have h := Sim_thr h0
  unfold F_X11_glance F_X12_glance
  simp only [nm_eq]
  generalize uI τ0 0 0 = τ at h ⊢
  obtain ⟨c, hc, e1, e2⟩ := cnt1 h.1
  simp only [R_isGlance, R_i0_9999, C_isWithin, bd_eq, ib2]
  by_cases p : 0 ≤ a5 ∧ a5 ≤ 1
  rotate_left
  · simp only [if_neg p, if_neg (fun q : ((1 ≤ a1 ∧ a1 ≤ 20) ∧ (0 ≤ a2 ∧ a2 ≤ a1) ∧ (0 ≤ a3 ∧ a3 ≤ a2)) ∧ (0 ≤ a5 ∧ a5 ≤ 1) => p q.2)]
    exact ⟨_, _, _, rfl, rfl, h⟩
  simp only [if_pos p]
  by_cases p2 : (1 ≤ a1 ∧ a1 ≤ 20) ∧ (0 ≤ a2 ∧ a2 ≤ a1) ∧ (0 ≤ a3 ∧ a3 ≤ a2)
  · simp only [if_pos (And.intro p2 p)]
    by_cases p4 : 0 ≤ a4 ∧ a4 ≤ 9999
    · simp only [if_pos p4]
      obtain ⟨P, hP, rfl⟩ := idxle p4 (c := 9999) rfl (by omega)
      obtain ⟨G, hG, rfl⟩ := idxle (x := a1) (N := 20) ⟨Int32.le_trans (by decide) p2.1.1, p2.1.2⟩ (c := 20) rfl (by omega)
      obtain ⟨B, hB, rfl⟩ := idxle p2.2.1 rfl (by omega)
      obtain ⟨J, hJ, rfl⟩ := idxle p2.2.2 rfl (by omega)
      have hG1 : 1 ≤ G := by
        have z := p2.1.1
        rw [Int32.le_iff_toInt_le, nI_toInt (by omega), show (1 : Int32).toInt = 1 from rfl] at z
        omega
      by_cases e : B = G
      · subst e
        rw [if_neg (fun q : nI B < nI B => absurd q (nI_nlt (by omega) (by omega))), if_pos rfl]
        exact ⟨_, _, _, rfl, rfl, h⟩
      · rw [if_pos (nI_lt (by omega) (by omega)), if_neg (nI_ne (by omega) (by omega) e)]
        obtain ⟨r, r1, r2⟩ := glance_loop h.1 hc e1 e2 (G := G) (B := B) (J := J) (P := P) a5 hG (by omega) hJ hP hG1 c FU FU 0 0 0 0 0 (by unfold FU; omega) (by unfold FU; omega) (by omega) (by decide) (by decide) (by decide) (by decide) (by decide) (by decide) (by decide) (by rw [Int.zero_mul]; rfl)
        rw [Int.zero_mul] at r1
        exact ⟨r, σ, τ, r1, r2, h⟩
    · simp only [if_neg p4]
      split
      · exact ⟨_, _, _, rfl, rfl, h⟩
      · exact ⟨_, _, _, rfl, rfl, h⟩
  · simp only [if_neg (fun q : ((1 ≤ a1 ∧ a1 ≤ 20) ∧ (0 ≤ a2 ∧ a2 ≤ a1) ∧ (0 ≤ a3 ∧ a3 ≤ a2)) ∧ (0 ≤ a5 ∧ a5 ≤ 1) => p2 q.1)]
    by_cases p4 : 0 ≤ a4 ∧ a4 ≤ 9999
    · by_cases p5 : a2 < a1
      · simp only [if_pos p4, if_pos p5]
        exact ⟨_, _, _, glance_none h.1 hc e1 e2 a1 a2 a3 a4 a5 p2 c FU 0 0 0 0 (by unfold FU; omega) (by omega), rfl, h⟩
      · simp only [if_pos p4, if_neg p5]
        exact ⟨_, _, _, rfl, rfl, h⟩
    · simp only [if_neg p4]
      exact ⟨_, _, _, rfl, rfl, h⟩
/-! ===== copies ===== -/
def jT (o x s p q : Nat) : Int := ((min x o : Nat) : Int) * p + ((x - min x o : Nat) : Int) * q - (x : Int) * s
def jS (f : Nat → Nat) (x s p q : Nat) : Nat → Nat → Int → Int
  | 0, _, v => v
  | m + 1, i, v => jS f x s p q m (i + 1) (v + jT (f i) x s p q)
theorem mnI_n {a b : Nat} (ha : a < 2 ^ 31) (hb : b < 2 ^ 31) : mnI (nI a) (nI b) = nI (min a b) := by
  unfold mnI
  by_cases h : b < a
  · rw [if_pos (nI_lt h ha), show min a b = b by omega]
  · rw [if_neg (nI_nlt (by omega) hb), show min a b = a by omega]
theorem june_S {F : Nat → Int32} {f : Nat → Nat} {c : Nat} (hf : ∀ i, i < c → F i = nI (f i) ∧ f i ≤ 999) {x s p q : Nat} (hx : x ≤ 999) (hs : s ≤ 999) (hp : p ≤ 999) (hq : q ≤ 999) (m : Nat) : ∀ (i : Nat) (v : Int), i + m = c → juneV F (nI x) (nI s) (nI p) (nI q) m i (zL v) = zL (jS f x s p q m i v) := by
  induction m with
  | zero =>
    intro i v hi
    rfl
  | succ m ih =>
    intro i v hi
    obtain ⟨e1, e2⟩ := hf i (by omega)
    rw [juneV, jS, e1, mnI_n (by omega) (by omega), pk_sub (Nat.min_le_left x (f i)), zL_n (by omega), zL_n (by omega), zL_n (by omega), zL_n (by omega), zL_n (by omega), zL_n (by omega), zL_mul, zL_mul, zL_mul, zL_add, zL_sub, zL_add]
    exact ih (i + 1) _ (by omega)
theorem jT_bd {o x s p q : Nat} (hx : x ≤ 999) (hs : s ≤ 999) (hp : p ≤ 999) (hq : q ≤ 999) : -2000000 ≤ jT o x s p q ∧ jT o x s p q ≤ 2000000 := by
  have h1 : min x o * p ≤ 999 * 999 := Nat.mul_le_mul (by omega) hp
  have h2 : (x - min x o) * q ≤ 999 * 999 := Nat.mul_le_mul (by omega) hq
  have h3 : x * s ≤ 999 * 999 := Nat.mul_le_mul hx hs
  have e1 : ((min x o : Nat) : Int) * (p : Int) = ((min x o * p : Nat) : Int) := rfl
  have e2 : ((x - min x o : Nat) : Int) * (q : Int) = (((x - min x o) * q : Nat) : Int) := rfl
  have e3 : (x : Int) * (s : Int) = ((x * s : Nat) : Int) := rfl
  unfold jT
  rw [e1, e2, e3]
  omega
theorem jS_bd {f : Nat → Nat} {x s p q : Nat} (hx : x ≤ 999) (hs : s ≤ 999) (hp : p ≤ 999) (hq : q ≤ 999) (m : Nat) : ∀ (i : Nat) (v : Int), v - m * 2000000 ≤ jS f x s p q m i v ∧ jS f x s p q m i v ≤ v + m * 2000000 := by
  induction m with
  | zero =>
    intro i v
    unfold jS
    omega
  | succ m ih =>
    intro i v
    have h1 := jT_bd (o := f i) hx hs hp hq
    have h2 := ih (i + 1) (v + jT (f i) x s p q)
    rw [jS]
    omega
theorem jT_lin {o x s p q : Nat} (hx : 1 ≤ x) (ho : o ≠ x) : jT o (x + 1) s p q + jT o (x - 1) s p q = 2 * jT o x s p q := by
  unfold jT
  obtain ⟨y, rfl⟩ : ∃ y, x = y + 1 := ⟨x - 1, by omega⟩
  rw [show y + 1 - 1 = y by omega]
  rcases (show o ≤ y ∨ y + 2 ≤ o by omega) with h | h
  · rw [show min (y + 1 + 1) o = o by omega, show min y o = o by omega, show min (y + 1) o = o by omega, show y + 1 + 1 - o = (y - o) + 2 by omega, show y + 1 - o = (y - o) + 1 by omega]
    push_cast
    simp only [Int.add_mul]
    omega
  · rw [show min (y + 1 + 1) o = y + 1 + 1 by omega, show min y o = y by omega, show min (y + 1) o = y + 1 by omega, Nat.sub_self, Nat.sub_self, Nat.sub_self]
    push_cast
    simp only [Int.add_mul]
    omega
theorem jS_lin {f : Nat → Nat} {x s p q c : Nat} (hx : 1 ≤ x) (ho : ∀ i, i < c → f i ≠ x) (m : Nat) : ∀ (i : Nat) (u v y : Int), i + m = c → u + y = 2 * v → jS f (x + 1) s p q m i u + jS f (x - 1) s p q m i y = 2 * jS f x s p q m i v := by
  induction m with
  | zero =>
    intro i u v y hi h
    exact h
  | succ m ih =>
    intro i u v y hi h
    have h1 := jT_lin (s := s) (p := p) (q := q) hx (ho i (by omega))
    rw [jS, jS, jS]
    exact ih (i + 1) _ _ _ (by omega) (by omega)
/-- a's june is the better, or as good and a the less -/
def geJ (J : Nat → Int) (a b : Nat) : Prop := J b < J a ∨ (J b = J a ∧ a ≤ b)
theorem geJ_tr {J : Nat → Int} {a b d : Nat} (h1 : geJ J a b) (h2 : geJ J b d) : geJ J a d := by
  unfold geJ at *
  omega
def beJ (J : Nat → Int) (a b : Nat) : Nat := if J a = J b then min a b else if J a ≤ J b then b else a
theorem beJ_ge (J : Nat → Int) (a b : Nat) : geJ J (beJ J a b) a ∧ geJ J (beJ J a b) b ∧ (beJ J a b = a ∨ beJ J a b = b) := by
  unfold beJ geJ
  by_cases h1 : J a = J b
  · rw [if_pos h1]
    rcases (show min a b = a ∧ a ≤ b ∨ min a b = b ∧ b ≤ a by omega) with ⟨h, h2⟩ | ⟨h, h2⟩ <;> rw [h] <;> omega
  · rw [if_neg h1]
    by_cases h2 : J a ≤ J b
    · rw [if_pos h2]
      omega
    · rw [if_neg h2]
      omega
theorem C_better {σ τ : xS} {c : Nat} (h : SimSt σ τ) (hc : c ≤ 10) (e1 : sI σ 227 = nI c) {f : Nat → Nat} (hf : ∀ i, i < c → sA τ 3 (123 + i) = nI (f i) ∧ f i ≤ 999) {a b s p q : Nat} (ha : a ≤ 999) (hb : b ≤ 999) (hs : s ≤ 999) (hp : p ≤ 999) (hq : q ≤ 999) : F_X11_betterCopies (nI a) (nI b) (nI s) (nI p) (nI q) σ = some (nI (beJ (fun x => jS f x s p q c 0 0) a b), σ) := by
  have j1 := june_S hf ha hs hp hq c 0 0 (by omega)
  have j2 := june_S hf hb hs hp hq c 0 0 (by omega)
  have k1 := jS_bd (f := f) ha hs hp hq c 0 0
  have k2 := jS_bd (f := f) hb hs hp hq c 0 0
  have j1' : juneV (fun i => sA τ 3 (123 + i)) (nI a) (nI s) (nI p) (nI q) c 0 0 = _ := j1
  have j2' : juneV (fun i => sA τ 3 (123 + i)) (nI b) (nI s) (nI p) (nI q) c 0 0 = _ := j2
  unfold F_X11_betterCopies beJ
  rw [C_june h hc e1, bd_eq, C_june h hc e1, bd_eq, j1', j2']
  show _ = some (nI (if jS f a s p q c 0 0 = jS f b s p q c 0 0 then min a b else if jS f a s p q c 0 0 ≤ jS f b s p q c 0 0 then b else a), σ)
  generalize jS f a s p q c 0 0 = A at *
  generalize jS f b s p q c 0 0 = Z at *
  by_cases h1 : A = Z
  · rw [if_pos ((lg_cmp_eq _ _).mpr (by rw [h1])), if_pos h1, mnI_n (by omega) (by omega)]
  · rw [if_neg (fun w => h1 ((zL_eq (by omega) (by omega) (by omega) (by omega)).mp ((lg_cmp_eq _ _).mp w))), if_neg h1]
    by_cases h2 : A ≤ Z
    · rw [if_pos ((lg_cmp_le _ _).mpr ((zL_le (by omega) (by omega) (by omega) (by omega)).mpr h2)), if_pos h2]
    · rw [if_neg (fun w => h2 ((zL_le (by omega) (by omega) (by omega) (by omega)).mp ((lg_cmp_le _ _).mp w))), if_neg h2]
theorem C_copies_loop {σ τ : xS} {c : Nat} (h : SimSt σ τ) (hc : c ≤ 10) (e1 : sI σ 227 = nI c) {f : Nat → Nat} (hf : ∀ i, i < c → sA τ 3 (123 + i) = nI (f i) ∧ f i ≤ 999) {s p q : Nat} (hs : s ≤ 999) (hp : p ≤ 999) (hq : q ≤ 999) (m : Nat) : ∀ (n i b : Nat), m < n → i + m = c → b ≤ 999 → geJ (fun x => jS f x s p q c 0 0) b 0 → geJ (fun x => jS f x s p q c 0 0) b 999 → (∀ j, j < i → geJ (fun x => jS f x s p q c 0 0) b (f j)) → ∃ r : Nat, r ≤ 999 ∧ F_X11_copies_28 n (nI s) (nI p) (nI q) (nI b) (nI i) σ = some (nI r, σ) ∧ geJ (fun x => jS f x s p q c 0 0) r 0 ∧ geJ (fun x => jS f x s p q c 0 0) r 999 ∧ (∀ j, j < c → geJ (fun x => jS f x s p q c 0 0) r (f j)) := by
  induction m with
  | zero =>
    intro n i b hn hi hb g0 g9 gj
    obtain ⟨n, rfl⟩ : ∃ q, n = q + 1 := ⟨n - 1, by omega⟩
    rw [F_X11_copies_28, e1, if_pos (nI_le (by omega) (by omega))]
    exact ⟨b, hb, rfl, g0, g9, fun j hj => gj j (by omega)⟩
  | succ m ih =>
    intro n i b hn hi hb g0 g9 gj
    obtain ⟨n, rfl⟩ : ∃ q, n = q + 1 := ⟨n - 1, by omega⟩
    have g : F_X6_get 3 (nI i) 0 σ = some (sA σ 15 (i * 1 + 0), σ) := C_getY (r := 3) (w := 0) e1 (show c ≤ 10 from hc) (by omega) (by decide)
    obtain ⟨f1, f2⟩ := hf i (by omega)
    obtain ⟨x1, x2, x3⟩ := beJ_ge (fun x => jS f x s p q c 0 0) b (f i)
    rw [F_X11_copies_28, e1, if_neg (nI_ge (by omega) (by omega)), g, bd_eq, show i * 1 + 0 = i by omega, cell_oct h (by omega), f1, C_better h hc e1 hf hb f2 hs hp hq, bd_eq, nm_eq, nI_1]
    refine ih n (i + 1) _ (by omega) (by omega) (by rcases x3 with e | e <;> rw [e] <;> omega) (geJ_tr x1 g0) (geJ_tr x1 g9) (fun j hj => ?_)
    by_cases e : j = i
    · rw [e]
      exact x2
    · exact geJ_tr x1 (gj j (by omega))
theorem R_copies_loop {τ : xS} {c : Nat} (hc : c ≤ 10) (e2 : sA τ 3 5 = nI c) {f : Nat → Nat} (hf : ∀ i, i < c → sA τ 3 (123 + i) = nI (f i) ∧ f i ≤ 999) {s p q : Nat} (hs : s ≤ 999) (hp : p ≤ 999) (hq : q ≤ 999) (m : Nat) : ∀ (n i b : Nat), m < n → i + m = 1000 → b < i → (∀ x, x < i → geJ (fun x => jS f x s p q c 0 0) b x) → ∃ r : Nat, r ≤ 999 ∧ F_X12_copies_23 n (nI s) (nI p) (nI q) (nI b) (nI i) τ = some (nI r, τ) ∧ (∀ x, x ≤ 999 → geJ (fun x => jS f x s p q c 0 0) r x) := by
  induction m with
  | zero =>
    intro n i b hn hi hb g0
    obtain ⟨n, rfl⟩ : ∃ q, n = q + 1 := ⟨n - 1, by omega⟩
    rw [F_X12_copies_23, if_pos (show (1000 : Int32) ≤ nI i from nI_le (a := 1000) (by omega) (by omega))]
    exact ⟨b, by omega, rfl, fun x hx => g0 x (by omega)⟩
  | succ m ih =>
    intro n i b hn hi hb g0
    obtain ⟨n, rfl⟩ : ∃ q, n = q + 1 := ⟨n - 1, by omega⟩
    have j1 := june_S hf (show i ≤ 999 by omega) hs hp hq c 0 0 (by omega)
    have j2 := june_S hf (show b ≤ 999 by omega) hs hp hq c 0 0 (by omega)
    have k1 := jS_bd (f := f) (show i ≤ 999 by omega) hs hp hq c 0 0
    have k2 := jS_bd (f := f) (show b ≤ 999 by omega) hs hp hq c 0 0
    have j1' : juneV (fun i => sA τ 3 (123 + i)) (nI i) (nI s) (nI p) (nI q) c 0 0 = _ := j1
    have j2' : juneV (fun i => sA τ 3 (123 + i)) (nI b) (nI s) (nI p) (nI q) c 0 0 = _ := j2
    rw [F_X12_copies_23, if_neg (show ¬ (1000 : Int32) ≤ nI i from nI_ge (b := 1000) (by omega) (by decide)), R_june hc e2, bd_eq, R_june hc e2, bd_eq, j1', j2', nm_eq, nm_eq, nI_1]
    by_cases h2 : jS f i s p q c 0 0 ≤ jS f b s p q c 0 0
    · rw [if_pos ((lg_cmp_le _ _).mpr ((zL_le (by omega) (by omega) (by omega) (by omega)).mpr h2))]
      refine ih n (i + 1) b (by omega) (by omega) (by omega) (fun x hx => ?_)
      by_cases e : x = i
      · subst e
        unfold geJ
        show jS f x s p q c 0 0 < jS f b s p q c 0 0 ∨ jS f x s p q c 0 0 = jS f b s p q c 0 0 ∧ b ≤ x
        omega
      · exact g0 x (by omega)
    · rw [if_neg (fun w => h2 ((zL_le (by omega) (by omega) (by omega) (by omega)).mp ((lg_cmp_le _ _).mp w)))]
      refine ih n (i + 1) i (by omega) (by omega) (by omega) (fun x hx => ?_)
      have hib : geJ (fun x => jS f x s p q c 0 0) i b := Or.inl (by show jS f b s p q c 0 0 < jS f i s p q c 0 0; omega)
      by_cases e : x = i
      · subst e
        exact Or.inr ⟨rfl, Nat.le_refl _⟩
      · exact geJ_tr hib (g0 x (by omega))
theorem st_copies : ∀ (σ τ : xS), Sim σ τ → ∀ (a1 a2 a3 : Int32), ∃ (r : Int32) (σ1 τ1 : xS), F_X11_copies a1 a2 a3 σ = some (r, σ1) ∧ F_X12_copies a1 a2 a3 τ = some (r, τ1) ∧ Sim σ1 τ1 := by
  intro σ τ0 h0 a1 a2 a3
  have h := Sim_thr h0
  unfold F_X11_copies F_X12_copies
  simp only [nm_eq]
  generalize uI τ0 0 0 = τ at h ⊢
  obtain ⟨c, hc, e1, e2⟩ := cnt3 h.1
  simp only [C_areSums _ _ _ hc e1, R_areSums _ _ _ hc e2, bd_eq, ib2]
  by_cases p2 : 0 < c ∧ (0 ≤ a1 ∧ a1 ≤ 999) ∧ (0 ≤ a2 ∧ a2 ≤ 999) ∧ (0 ≤ a3 ∧ a3 ≤ 999)
  rotate_left
  · simp only [if_neg p2]
    exact ⟨_, _, _, rfl, rfl, h⟩
  simp only [if_pos p2]
  obtain ⟨s, hs, rfl⟩ := idxle p2.2.1 (c := 999) rfl (by omega)
  obtain ⟨p, hp, rfl⟩ := idxle p2.2.2.1 (c := 999) rfl (by omega)
  obtain ⟨q, hq, rfl⟩ := idxle p2.2.2.2 (c := 999) rfl (by omega)
  obtain ⟨f, hf⟩ : ∃ f : Nat → Nat, ∀ i, i < c → sA τ 3 (123 + i) = nI (f i) ∧ f i ≤ 999 := by
    refine ⟨fun i => (sA τ 3 (123 + i)).toNatClampNeg, fun i hi => ?_⟩
    obtain ⟨v, h1, h2, -⟩ := seg_nat h.1.2.1 (k := 123 + i) (by omega) (by omega)
    rw [hi_oct i (by omega)] at h1
    show sA τ 3 (123 + i) = nI (sA τ 3 (123 + i)).toNatClampNeg ∧ (sA τ 3 (123 + i)).toNatClampNeg ≤ 999
    rw [h2, nI_clamp (by omega)]
    exact ⟨rfl, by omega⟩
  obtain ⟨x1, x2, x3⟩ := beJ_ge (fun x => jS f x s p q c 0 0) 0 999
  have hb : F_X11_betterCopies 0 999 (nI s) (nI p) (nI q) σ = _ := C_better h.1 hc e1 hf (show 0 ≤ 999 by decide) (show 999 ≤ 999 by decide) hs hp hq
  rw [hb, bd_eq]
  obtain ⟨r, r1, r2, r3, r4, r5⟩ := C_copies_loop h.1 hc e1 hf hs hp hq c FU 0 _ (by unfold FU; omega) (by omega) (by rcases x3 with e | e <;> rw [e] <;> decide) x1 x2 (fun j hj => absurd hj (Nat.not_lt_zero j))
  obtain ⟨z, z1, z2, z3⟩ := R_copies_loop hc e2 hf hs hp hq 999 FU 1 0 (by decide) (by decide) (by decide) (fun x hx => by
    obtain rfl : x = 0 := by omega
    exact Or.inr ⟨rfl, Nat.le_refl _⟩)
  have hz : geJ (fun x => jS f x s p q c 0 0) r z := by
    by_cases k0 : z = 0
    · rw [k0]
      exact r3
    by_cases k9 : z = 999
    · rw [k9]
      exact r4
    by_cases kj : ∃ j, j < c ∧ f j = z
    · obtain ⟨j, hj, e⟩ := kj
      rw [← e]
      exact r5 j hj
    · exfalso
      have hl := jS_lin (f := f) (s := s) (p := p) (q := q) (c := c) (x := z) (by omega) (fun i hi e => kj ⟨i, hi, e⟩) c 0 0 0 0 (by omega) rfl
      have q1 := z3 (z - 1) (by omega)
      have q2 := z3 (z + 1) (by omega)
      have q1' : jS f (z - 1) s p q c 0 0 < jS f z s p q c 0 0 ∨ jS f (z - 1) s p q c 0 0 = jS f z s p q c 0 0 ∧ z ≤ z - 1 := q1
      have q2' : jS f (z + 1) s p q c 0 0 < jS f z s p q c 0 0 ∨ jS f (z + 1) s p q c 0 0 = jS f z s p q c 0 0 ∧ z ≤ z + 1 := q2
      omega
  have hr := z3 r r1
  have e : r = z := by
    unfold geJ at hz hr
    omega
  subst e
  exact ⟨nI r, σ, τ, r2, z2, h⟩
