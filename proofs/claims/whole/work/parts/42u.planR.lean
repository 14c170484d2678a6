section
/-! ===== the reference's plan ===== -/
def RPl (τ0 : xS) (b n i : Nat) (τ : xS) : Prop := sA τ 3 = sA τ0 3 ∧ KR τ0 τ ∧ sI τ 33 = sA τ0 3 (13 + 5 * b + 4) ∧ sI τ 35 = 0 ∧ ∀ v, i ≤ v → v ≤ n → ∀ p, p ≤ 20 → sL τ 36 (21 * v + p) = zL (moW τ0 b n (n - v) p) ∧ (v < n → sA τ 37 (21 * v + p) = nI (wrW τ0 b n (n - 1 - v) p))
theorem RPl_T {τ0 τ τ' : xS} {b n i : Nat} (h : RPl τ0 b n i τ) (g : frT τ τ') : RPl τ0 b n i τ' := by
  obtain ⟨h1, h2, h3, h4, h5⟩ := h
  refine ⟨(g.1 3).trans h1, KR_trans h2 (KR_T g), (g.2.1 33 (by decide) (by decide)).trans h3, (g.2.1 35 (by decide) (by decide)).trans h4, fun v hv hvn p hp => ?_⟩
  rw [g.2.2.2.1 36 (by decide) (by decide), g.1 37]
  exact h5 v hv hvn p hp
theorem R_priceAt {σ τ0 τ : xS} (hS : SimSt σ τ0) {b p : Nat} (hb : b < 10) (hp : p ≤ 20) (h3 : sA τ 3 = sA τ0 3) : F_X12_priceAt (nI b) (nI p) τ = some (nI (prN τ0 b p), τ) := by
  unfold F_X12_priceAt
  by_cases h : p = 20
  · subst h
    rw [if_pos (show nI 20 = 20 from rfl), show F_X12_ofBook (nI b) 3 τ = some (sA τ 3 (13 + 5 * b + 3), τ) from R_ofBook hb (w := 3) (by decide) τ, bd_eq, h3, prN_20 hS hb]
  · rw [if_neg (show ¬ nI p = 20 from nI_ne (b := 20) (by omega) (by decide) h), rdL12, h3, prN_g hS (by omega)]
theorem R_pow_loop (m : Nat) : ∀ (f j i : Nat) (τ : xS), m < f → i + m = j → j < 100 → F_X12_power_4 f (nI j) (zL ((100 ^ i : Nat) : Int)) (nI i) τ = some (zL ((100 ^ j : Nat) : Int), τ) := by
  induction m with
  | zero =>
    intro f j i τ hf hi hj
    obtain ⟨f, rfl⟩ : ∃ q, f = q + 1 := ⟨f - 1, by omega⟩
    obtain rfl : i = j := by omega
    rw [F_X12_power_4, if_pos (nI_le (by omega) (by omega))]
  | succ m ih =>
    intro f j i τ hf hi hj
    obtain ⟨f, rfl⟩ : ∃ q, f = q + 1 := ⟨f - 1, by omega⟩
    rw [F_X12_power_4, if_neg (nI_ge (by omega) (by omega)), nm_eq, nm_eq, nI_1, show (100 : Int64) = zL 100 from rfl, zL_mul]
    have := ih f j (i + 1) τ (by omega) (by omega) hj
    rw [Nat.pow_succ] at this
    exact this
theorem R_power {j : Nat} (hj : j < 100) (τ : xS) : F_X12_power (nI j) τ = some (zL ((100 ^ j : Nat) : Int), τ) := by
  have h : F_X12_power_4 FU (nI j) 1 0 τ = _ := R_pow_loop j FU j 0 τ (by unfold FU; omega) (by omega) hj
  unfold F_X12_power
  rw [nm_eq, nm_eq, h]
theorem R_worthOf {σ τ0 τ : xS} (hS : SimSt σ τ0) {b n v p : Nat} (hb : b < 10) (hn : n ≤ 6) (hv : v < n) (hp : p ≤ 20) (h3 : sA τ 3 = sA τ0 3) (h33 : sI τ 33 = sA τ0 3 (13 + 5 * b + 4)) (h34 : sI τ 34 = nI v) (h35 : sI τ 35 = 0) (hm : sL τ 36 (21 * (v + 1) + p) = zL (moW τ0 b n (n - 1 - v) p)) : ∃ τ', F_X12_worthOf (nI b) (nI n) (nI v) (nI p) τ = some (zL (wW τ0 b n (n - 1 - v) p), τ') ∧ frT τ τ' := by
  obtain ⟨τ1, s1, s2⟩ := sl_R hS hb (nI (prN τ0 b p)) (τ1 := τ) h3
  rw [h33, h34, h35] at s1
  have hcw : slN τ0 b (sA τ0 3 (13 + 5 * b + 4)) (nI v) (nI (prN τ0 b p)) 0 = cwN τ0 b v p := rfl
  rw [hcw] at s1
  have hc100 := cwN_le hS hb v p
  have hpr := prN_le hS hb hp
  have ej : nI n - nI v - 1 = nI (n - 1 - v) := by
    rw [pk_sub (by omega), show (1 : Int32) = nI 1 from rfl, pk_sub (by omega), show n - v - 1 = n - 1 - v by omega]
  have ei : (21 : Int32) * (nI v + 1) + nI p = nI (21 * (v + 1) + p) := by
    rw [nI_1]
    show nI 21 * nI (v + 1) + nI p = _
    rw [pk_mul, nI_add]
  unfold F_X12_worthOf
  rw [R_priceAt hS hb hp h3, bd_eq, s1, bd_eq, nm_eq, R_priceAt hS hb hp ((s2.1 3).trans h3), bd_eq, ej, R_power (by omega), bd_eq, ei, rd_n (by omega) (by decide), s2.2.2.2.1 36 (by decide) (by decide), hm, zL_n (by omega), zL_n (by omega), show (100 : Int64) = zL 100 from rfl]
  refine ⟨τ1, ?_, s2⟩
  rw [zL_sub, zL_mul, zL_mul, zL_mul, zL_add]
  unfold wW wK
  rw [show n - 1 - (n - 1 - v) = v by omega]
  congr 3
  congr 1
  congr 1
  omega
def bqK (f : Nat → Int) (R : Int) (p q : Nat) : Int := if q = 0 then f p else max (f p) (f (amx f q) - R)
def iqK (f : Nat → Int) (R : Int) (p q : Nat) : Nat := if q = 0 then p else if f p < f (amx f q) - R then amx f q else p
theorem q_step {f : Nat → Int} {R : Int} (hR : 0 ≤ R) (p q : Nat) {v : Int} (h : (f q = f p ∧ v = bqK f R p q) ∨ v = f q - R) : bqK f R p (q + 1) = (if v ≤ bqK f R p q then bqK f R p q else v) ∧ iqK f R p (q + 1) = (if v ≤ bqK f R p q then iqK f R p q else q) := by
  unfold bqK iqK at *
  rw [if_neg (show ¬ q + 1 = 0 by omega), if_neg (show ¬ q + 1 = 0 by omega), amx]
  by_cases h0 : q = 0
  · subst h0
    rw [if_pos rfl] at h
    rw [if_pos rfl, if_pos rfl, show amx f 0 = 0 from rfl, if_neg (show ¬ f 0 < f 0 by omega)]
    rcases h with ⟨h1, h2⟩ | h2
    · subst h2
      rw [if_pos (Int.le_refl _), if_pos (Int.le_refl _)]
      refine ⟨by omega, ?_⟩
      rw [if_neg (by omega)]
    · subst h2
      by_cases h3 : f 0 - R ≤ f p
      · rw [if_pos h3, if_pos h3, if_neg (by omega)]
        exact ⟨by omega, rfl⟩
      · rw [if_neg h3, if_neg h3, if_pos (by omega)]
        exact ⟨by omega, rfl⟩
  · rw [if_neg h0] at h
    rw [if_neg h0, if_neg h0]
    generalize amx f q = a at *
    rcases h with ⟨h1, h2⟩ | h2
    · subst h2
      rw [if_pos (Int.le_refl _), if_pos (Int.le_refl _)]
      by_cases h4 : f a < f q
      · rw [if_pos h4, if_neg (show ¬ f p < f q - R by omega), if_neg (show ¬ f p < f a - R by omega)]
        exact ⟨by omega, rfl⟩
      · rw [if_neg h4]
        exact ⟨rfl, rfl⟩
    · subst h2
      by_cases h4 : f a < f q
      · rw [if_pos h4]
        by_cases h5 : f q - R ≤ max (f p) (f a - R)
        · rw [if_pos h5, if_pos h5, if_neg (show ¬ f p < f q - R by omega), if_neg (show ¬ f p < f a - R by omega)]
          exact ⟨by omega, rfl⟩
        · rw [if_neg h5, if_neg h5, if_pos (show f p < f q - R by omega)]
          exact ⟨by omega, rfl⟩
      · rw [if_neg h4]
        by_cases h5 : f q - R ≤ max (f p) (f a - R)
        · rw [if_pos h5, if_pos h5]
          exact ⟨rfl, rfl⟩
        · omega
def RMid (τ0 : xS) (b n v p : Nat) (τ : xS) : Prop := RPl τ0 b n (v + 1) τ ∧ sI τ 34 = nI v ∧ ∀ q, q < p → sL τ 36 (21 * v + q) = zL (moW τ0 b n (n - v) q) ∧ sA τ 37 (21 * v + q) = nI (wrW τ0 b n (n - 1 - v) q)
theorem RMid_T {τ0 τ τ' : xS} {b n v p : Nat} (h : RMid τ0 b n v p τ) (g : frT τ τ') : RMid τ0 b n v p τ' := by
  obtain ⟨h1, h2, h3⟩ := h
  refine ⟨RPl_T h1 g, (g.2.1 34 (by decide) (by decide)).trans h2, fun q hq => ?_⟩
  rw [g.2.2.2.1 36 (by decide) (by decide), g.1 37]
  exact h3 q hq
theorem R_loop79 {σ τ0 : xS} (hS : SimSt σ τ0) {b n v p : Nat} (hb : b < 10) (hn : n ≤ 6) (hv : v < n) (hp : p ≤ 20) (k42 : Int32 → Int32 → Int32 → xS → Option (Unit × xS)) (k54 : Int32 → Int32 → Int32 → Int32 → xS → Option (Unit × xS)) (m : Nat) : ∀ (f q : Nat) (B : Int) (I : Nat) (τ : xS), m < f → q + m = 20 → B = bqK (wW τ0 b n (n - 1 - v)) (((sA τ0 3 9).toNatClampNeg : Int) * ((100 ^ (n - 1 - v + 1) : Nat) : Int)) p q → I = iqK (wW τ0 b n (n - 1 - v)) (((sA τ0 3 9).toNatClampNeg : Int) * ((100 ^ (n - 1 - v + 1) : Nat) : Int)) p q → RMid τ0 b n v p τ → ∃ τ', F_X12_findWrites_79 k42 k54 f (nI b) (nI n) (nI v) (nI p) (zL B) (nI I) (nI q) τ = k54 (nI b) (nI n) (nI v) (nI (p + 1)) τ' ∧ RMid τ0 b n v (p + 1) τ' := by
  have hk : n - 1 - v < 6 := by omega
  have hR := rubP hS (k := n - 1 - v + 1) (by omega)
  induction m with
  | zero =>
    intro f q B I τ hf hq hB hI hM
    obtain ⟨f, rfl⟩ : ∃ q, f = q + 1 := ⟨f - 1, by omega⟩
    obtain rfl : q = 20 := by omega
    have ei : (21 : Int32) * nI v + nI p = nI (21 * v + p) := by
      show nI 21 * nI v + nI p = _
      rw [pk_mul, nI_add]
    have eB : B = moW τ0 b n (n - v) p := by
      rw [hB, show n - v = n - 1 - v + 1 by omega]
      unfold bqK
      rw [if_neg (by decide)]
      rfl
    have eI : I = wrW τ0 b n (n - 1 - v) p := by
      rw [hI]
      unfold iqK
      rw [if_neg (by decide)]
      rfl
    rw [F_X12_findWrites_79, if_pos (show (20 : Int32) ≤ nI 20 from nI_le (a := 20) (by omega) (by omega)), ei, ck_n (by omega) (by decide), nm_eq, ck_n (by omega) (by decide), nm_eq, nm_eq, nI_1, nI_clamp (by omega)]
    refine ⟨_, rfl, ?_⟩
    obtain ⟨⟨h1, h2, h3, h4, h5⟩, h6, h7⟩ := hM
    refine ⟨⟨h1, KR_trans h2 ⟨fun k hk => if_neg (by omega), fun _ _ => rfl, rfl, rfl⟩, h3, h4, fun x hx hxn y hy => ?_⟩, h6, fun y hy => ?_⟩
    · obtain ⟨a1, a2⟩ := h5 x hx hxn y hy
      show vp_updL (sL τ 36) (21 * v + p) _ (21 * x + y) = _ ∧ (x < n → upd (sA τ 37) (21 * v + p) _ (21 * x + y) = _)
      unfold vp_updL upd
      rw [if_neg (by omega), if_neg (by omega)]
      exact ⟨a1, a2⟩
    · show vp_updL (sL τ 36) (21 * v + p) _ (21 * v + y) = _ ∧ upd (sA τ 37) (21 * v + p) _ (21 * v + y) = _
      unfold vp_updL upd
      by_cases e : y = p
      · subst e
        rw [if_pos rfl, if_pos rfl, eB, eI]
        exact ⟨rfl, rfl⟩
      · rw [if_neg (by omega), if_neg (by omega)]
        exact h7 y (by omega)
  | succ m ih =>
    intro f q B I τ hf hq hB hI hM
    obtain ⟨f, rfl⟩ : ∃ q, f = q + 1 := ⟨f - 1, by omega⟩
    have h3 := hM.1.1
    have bq := wW_in hS hb n hk (p := q) (by omega)
    have bp := wW_in hS hb n hk (p := p) hp
    have hBin : -99000000000000 ≤ B ∧ B ≤ 2000000000000000 := by
      have ba := wW_in hS hb n hk (p := amx (wW τ0 b n (n - 1 - v)) q) (by have := amx_le (wW τ0 b n (n - 1 - v)) q; omega)
      rw [hB]
      unfold bqK
      split <;> omega
    have hstep : ∀ (V : Int) (τ1 : xS), -99000000000000 ≤ V → V ≤ 2000000000000000 → ((wW τ0 b n (n - 1 - v) q = wW τ0 b n (n - 1 - v) p ∧ V = bqK (wW τ0 b n (n - 1 - v)) (((sA τ0 3 9).toNatClampNeg : Int) * ((100 ^ (n - 1 - v + 1) : Nat) : Int)) p q) ∨ V = wW τ0 b n (n - 1 - v) q - ((sA τ0 3 9).toNatClampNeg : Int) * ((100 ^ (n - 1 - v + 1) : Nat) : Int)) → RMid τ0 b n v p τ1 → ∃ τ', F_X12_findWrites_133 k42 k54 (F_X12_findWrites_79 k42 k54 f) (nI b) (nI n) (nI v) (nI p) (zL B) (nI I) (nI q) (zL V) τ1 = k54 (nI b) (nI n) (nI v) (nI (p + 1)) τ' ∧ RMid τ0 b n v (p + 1) τ' := by
      intro V τ1 hV1 hV2 hV hM1
      obtain ⟨z1, z2⟩ := q_step hR.1 p q hV
      rw [← hB] at z1 z2
      rw [← hI] at z2
      unfold F_X12_findWrites_133 F_X12_findWrites_150
      by_cases hc : V ≤ B
      · rw [if_pos hc] at z1 z2
        rw [if_pos ((lg_cmp_le _ _).mpr ((zL_le (by omega) (by omega) (by omega) (by omega)).mpr hc)), nm_eq, nI_1]
        rw [if_pos ((lg_cmp_le _ _).mpr ((zL_le (by omega) (by omega) (by omega) (by omega)).mpr hc))]
        exact ih f (q + 1) B I τ1 (by omega) (by omega) z1.symm z2.symm hM1
      · rw [if_neg hc] at z1 z2
        rw [if_neg (fun w => hc ((zL_le (by omega) (by omega) (by omega) (by omega)).mp ((lg_cmp_le _ _).mp w))), nm_eq, nI_1]
        rw [if_neg (fun w => hc ((zL_le (by omega) (by omega) (by omega) (by omega)).mp ((lg_cmp_le _ _).mp w)))]
        exact ih f (q + 1) V q τ1 (by omega) (by omega) z1.symm z2.symm hM1
    rw [F_X12_findWrites_79, if_neg (show ¬ (20 : Int32) ≤ nI q from nI_ge (b := 20) (by omega) (by decide)), R_priceAt hS hb (by omega) h3, bd_eq, R_priceAt hS hb hp h3, bd_eq]
    by_cases hpr : nI (prN τ0 b q) = nI (prN τ0 b p)
    · rw [if_pos hpr]
      have b1 := prN_le hS hb (p := q) (by omega)
      have b2' := prN_le hS hb hp
      have e : prN τ0 b q = prN τ0 b p := nI_inj (by omega) (by omega) hpr
      exact hstep B τ hBin.1 hBin.2 (Or.inl ⟨wW_pr τ0 b n _ e, hB⟩) hM
    · rw [if_neg hpr]
      have h36 := (hM.1.2.2.2.2 (v + 1) (Nat.le_refl _) (by omega) q (by omega)).1
      rw [show n - (v + 1) = n - 1 - v by omega] at h36
      obtain ⟨τ1, t1, t2⟩ := R_worthOf hS hb hn hv (p := q) (by omega) h3 hM.1.2.2.1 hM.2.1 hM.1.2.2.2.1 h36
      obtain ⟨-, ⟨r, r1, r2⟩, -⟩ := cell_row hS
      have en : nI n - nI v = nI (n - 1 - v + 1) := by
        rw [pk_sub (by omega), show n - v = n - 1 - v + 1 by omega]
      rw [t1, bd_eq, rdL9, t2.1 3, h3, en, R_power (by omega), bd_eq, r2, zL_n (by omega), zL_mul, zL_sub]
      rw [r2, nI_clamp (by omega)] at hR
      refine hstep _ τ1 (by omega) (by omega) (Or.inr ?_) (RMid_T hM t2)
      rw [r2, nI_clamp (by omega)]
theorem R_loop54 {σ τ0 : xS} (hS : SimSt σ τ0) {b n v : Nat} (hb : b < 10) (hn : n ≤ 6) (hv : v < n) (k42 : Int32 → Int32 → Int32 → xS → Option (Unit × xS)) (m : Nat) : ∀ (f p : Nat) (τ : xS), m < f → p + m = 21 → RMid τ0 b n v p τ → ∃ τ', F_X12_findWrites_54 k42 f (nI b) (nI n) (nI v) (nI p) τ = k42 (nI b) (nI n) (nI v - 1) τ' ∧ RPl τ0 b n v τ' := by
  induction m with
  | zero =>
    intro f p τ hf hp hM
    obtain ⟨f, rfl⟩ : ∃ q, f = q + 1 := ⟨f - 1, by omega⟩
    rw [F_X12_findWrites_54, if_pos (show (21 : Int32) ≤ nI p from nI_le (a := 21) (by omega) (by omega)), nm_eq, show nI v + (-1) = nI v - 1 from (Int32.sub_eq_add_neg ..).symm]
    refine ⟨τ, rfl, hM.1.1, hM.1.2.1, hM.1.2.2.1, hM.1.2.2.2.1, fun x hx hxn q hq => ?_⟩
    by_cases e : x = v
    · subst e
      obtain ⟨a1, a2⟩ := hM.2.2 q (by omega)
      exact ⟨a1, fun _ => a2⟩
    · exact hM.1.2.2.2.2 x (by omega) hxn q hq
  | succ m ih =>
    intro f p τ hf hp hM
    obtain ⟨f, rfl⟩ : ∃ q, f = q + 1 := ⟨f - 1, by omega⟩
    have h36 := (hM.1.2.2.2.2 (v + 1) (Nat.le_refl _) (by omega) p (by omega)).1
    rw [show n - (v + 1) = n - 1 - v by omega] at h36
    obtain ⟨τ1, t1, t2⟩ := R_worthOf hS hb hn hv (p := p) (by omega) hM.1.1 hM.1.2.2.1 hM.2.1 hM.1.2.2.2.1 h36
    obtain ⟨τ2, u1, u2⟩ := R_loop79 hS hb hn hv (p := p) (by omega) k42 (F_X12_findWrites_54 k42 f) 20 FU 0 _ p τ1 (by unfold FU; omega) (by omega) rfl rfl (RMid_T hM t2)
    have u1' : F_X12_findWrites_79 k42 (F_X12_findWrites_54 k42 f) FU (nI b) (nI n) (nI v) (nI p) (zL (wW τ0 b n (n - 1 - v) p)) (nI p) 0 τ1 = _ := u1
    rw [F_X12_findWrites_54, if_neg (show ¬ (21 : Int32) ≤ nI p from nI_ge (b := 21) (by omega) (by decide)), t1, bd_eq, nm_eq, u1']
    exact ih f (p + 1) τ2 (by omega) (by omega) u2
theorem R_loop42 {σ τ0 : xS} (hS : SimSt σ τ0) {b n : Nat} (hb : b < 10) (hn : n ≤ 6) (m : Nat) : ∀ (f : Nat) (y : Int32) (τ : xS), m < f → y = nI m - 1 → m ≤ n → RPl τ0 b n m τ → ∃ τ', F_X12_findWrites_42 f (nI b) (nI n) y τ = some ((), τ') ∧ RPl τ0 b n 0 τ' := by
  induction m with
  | zero =>
    intro f y τ hf hy hm hR
    obtain ⟨f, rfl⟩ : ∃ q, f = q + 1 := ⟨f - 1, by omega⟩
    rw [F_X12_findWrites_42, hy, if_pos (by decide)]
    exact ⟨τ, rfl, hR⟩
  | succ m ih =>
    intro f y τ hf hy hm hR
    obtain ⟨f, rfl⟩ : ∃ q, f = q + 1 := ⟨f - 1, by omega⟩
    have ey : y = nI m := by rw [hy]; exact pk_sub (a := m + 1) (b := 1) (by omega)
    obtain ⟨τ1, t1, t2⟩ := R_loop54 hS hb hn (v := m) (by omega) (F_X12_findWrites_42 f) 21 FU 0 (uI τ 34 (nI m)) (by unfold FU; omega) (by omega) ⟨⟨hR.1, KR_trans hR.2.1 (KR_I τ _ (by decide)), hR.2.2.1, hR.2.2.2.1, hR.2.2.2.2⟩, rfl, fun q hq => absurd hq (Nat.not_lt_zero q)⟩
    have t1' : F_X12_findWrites_54 (F_X12_findWrites_42 f) FU (nI b) (nI n) (nI m) 0 (uI τ 34 (nI m)) = _ := t1
    rw [F_X12_findWrites_42, ey, if_neg (nI_pos (by omega)), nm_eq, nm_eq, t1']
    exact ih f _ τ1 (by omega) rfl (by omega) t2
theorem R_plan {σ τ : xS} (hS : SimSt σ τ) {b n : Nat} (hb : b < 10) (hn : n ≤ 6) : ∃ τ', F_X12_findWrites (nI b) (nI n) τ = some ((), τ') ∧ RPl τ b n 0 τ' := by
  obtain ⟨-, -, ⟨l, l1, l2⟩⟩ := cell_row hS
  have hloop : ∀ (m f p : Nat) (τ1 : xS), m < f → p + m = 21 → (sA τ1 3 = sA τ 3 ∧ KR τ τ1 ∧ sI τ1 33 = sA τ 3 (13 + 5 * b + 4) ∧ sI τ1 35 = 0 ∧ ∀ q, q < p → sL τ1 36 (21 * n + q) = zL (l : Int)) → ∃ τ', F_X12_findWrites_7 f (nI b) (nI n) (nI p) τ1 = some ((), τ') ∧ RPl τ b n 0 τ' := by
    intro m
    induction m with
    | zero =>
      intro f p τ1 hf hp hR
      obtain ⟨f, rfl⟩ : ∃ q, f = q + 1 := ⟨f - 1, by omega⟩
      rw [F_X12_findWrites_7, if_pos (show (21 : Int32) ≤ nI p from nI_le (a := 21) (by omega) (by omega)), nm_eq]
      refine R_loop42 hS hb hn n FU _ τ1 (by unfold FU; omega) rfl (Nat.le_refl _) ⟨hR.1, hR.2.1, hR.2.2.1, hR.2.2.2.1, fun v hv hvn q hq => ?_⟩
      obtain rfl : v = n := by omega
      refine ⟨?_, fun h => absurd h (Nat.lt_irrefl _)⟩
      rw [hR.2.2.2.2 q (by omega), Nat.sub_self]
      unfold moW
      rw [l2, nI_clamp (by omega)]
    | succ m ih =>
      intro f p τ1 hf hp hR
      obtain ⟨f, rfl⟩ : ∃ q, f = q + 1 := ⟨f - 1, by omega⟩
      have ei : (21 : Int32) * nI n + nI p = nI (21 * n + p) := by
        show nI 21 * nI n + nI p = _
        rw [pk_mul, nI_add]
      rw [F_X12_findWrites_7, if_neg (show ¬ (21 : Int32) ≤ nI p from nI_ge (b := 21) (by omega) (by decide)), rdL10, ei, ck_n (by omega) (by decide), nm_eq, nm_eq, nI_1, nI_clamp (by omega), hR.1, l2, zL_n (by omega)]
      refine ih f (p + 1) _ (by omega) (by omega) ⟨hR.1, KR_trans hR.2.1 ⟨fun _ _ => rfl, fun _ _ => rfl, rfl, rfl⟩, hR.2.2.1, hR.2.2.2.1, fun q hq => ?_⟩
      show vp_updL (sL τ1 36) (21 * n + p) _ (21 * n + q) = _
      unfold vp_updL
      by_cases e : q = p
      · rw [if_pos (by omega)]
      · rw [if_neg (by omega)]
        exact hR.2.2.2.2 q (by omega)
  have hq := hloop 21 FU 0 (uI (uI (uI τ 33 (sA τ 3 (13 + 5 * b + 4))) 34 0) 35 0) (by unfold FU; omega) (by omega) ⟨rfl, KR_trans (KR_trans (KR_I _ _ (by decide)) (KR_I _ _ (by decide))) (KR_I _ _ (by decide)), rfl, rfl, fun q hq => absurd hq (Nat.not_lt_zero q)⟩
  unfold F_X12_findWrites
  rw [R_asTold hb, bd_eq, nm_eq]
  exact hq
theorem st_write : ∀ (σ τ : xS), Sim σ τ → ∀ (a1 a2 : Int32), ∃ (r : Int64) (σ1 τ1 : xS), F_X11_write a1 a2 σ = some (r, σ1) ∧ F_X12_write a1 a2 τ = some (r, τ1) ∧ Sim σ1 τ1 := by
  intro σ τ0 h0 a1 a2
  have h := Sim_thr h0
  unfold F_X11_write F_X12_write
  simp only [nm_eq2]
  generalize uI τ0 0 0 = τ at h ⊢
  obtain ⟨c, hc, e1, e2⟩ := cnt0 h.1
  simp only [R_isB (σ := σ) e2, R_i1_6, C_isWithin, bd_eq2, ib2, has_if 0 a1 σ e1]
  by_cases p : 0 ≤ a1 ∧ a1 < nI c
  rotate_left
  · simp only [if_neg p]
    exact ⟨_, _, _, rfl, rfl, h⟩
  by_cases p2 : 1 ≤ a2 ∧ a2 ≤ 6
  rotate_left
  · simp only [if_pos p, if_neg p2]
    exact ⟨_, _, _, rfl, rfl, h⟩
  simp only [if_pos p, if_pos p2]
  obtain ⟨b, hb, rfl⟩ := idxlt p rfl (by omega)
  obtain ⟨n, hn, rfl⟩ := idxle (x := a2) (N := 6) ⟨Int32.le_trans (by decide) p2.1, p2.2⟩ (c := 6) rfl (by omega)
  have hn1 : 1 ≤ n := by
    have z := p2.1
    rw [Int32.le_iff_toInt_le, nI_toInt (by omega), show (1 : Int32).toInt = 1 from rfl] at z
    omega
  obtain ⟨σ', q1, q2⟩ := C_plan h.1 e1 hc hb hn hn1
  obtain ⟨τ', r1, r2⟩ := R_plan h.1 (b := b) (n := n) (by omega) hn
  have hm : F_X10_most 0 20 σ' = _ := C_most h.1 (b := b) (n := n) (v := 0) (p := 20) (by omega) hn q2 (by omega) (by omega)
  have h20 := (r2.2.2.2.2 0 (by omega) (by omega) 20 (by omega)).1
  rw [q1, bd_eq, hm, bd_eq, r1, bd_eq, show rd 168 (sL τ' 36) 20 (fun v7 => some (v7, τ')) = _ from rd_n (i := 20) (by decide) (by decide) _]
  refine ⟨_, _, _, rfl, ?_, Sim_keep h q2.1 r2.2.1⟩
  rw [show sL τ' 36 20 = sL τ' 36 (21 * 0 + 20) from rfl, h20]
theorem pencil_loop {σ τ0 : xS} (hS : SimSt σ τ0) {b n l : Nat} (hb : b < 10) (hn : n ≤ 6) (hl : l < n) {σ1 τ1 : xS} (hC : CPl σ τ0 b n 0 σ1) (hR : RPl τ0 b n 0 τ1) (m : Nat) : ∀ (f f' i p : Nat), m < f → m < f' → i + m = l + 1 → p ≤ 20 → ∃ r, F_X10_priceInWeek_5 f (nI l) (nI p) (nI i) σ1 = some (r, σ1) ∧ F_X12_pencil_53 f' (nI b) (nI l) (nI p) (nI i) τ1 = some (r, τ1) := by
  induction m with
  | zero =>
    intro f f' i p hf hf' hi hp
    obtain ⟨f, rfl⟩ : ∃ q, f = q + 1 := ⟨f - 1, by omega⟩
    obtain ⟨f', rfl⟩ : ∃ q, f' = q + 1 := ⟨f' - 1, by omega⟩
    rw [F_X10_priceInWeek_5, F_X12_pencil_53, if_pos (nI_lt (by omega) (by omega)), if_pos (nI_lt (by omega) (by omega)), rd21 hp, hC.2.1 p hp, R_priceAt hS hb hp hR.1, bd_eq]
    exact ⟨_, rfl, rfl⟩
  | succ m ih =>
    intro f f' i p hf hf' hi hp
    obtain ⟨f, rfl⟩ : ∃ q, f = q + 1 := ⟨f - 1, by omega⟩
    obtain ⟨f', rfl⟩ : ∃ q, f' = q + 1 := ⟨f' - 1, by omega⟩
    obtain ⟨c1, c2, c3⟩ := hC.2.2 i (by omega) (by omega)
    have r1 := (hR.2.2.2.2 i (by omega) (by omega) p hp).2 (by omega)
    have ei : (21 : Int32) * nI i + nI p = nI (21 * i + p) := by
      show nI 21 * nI i + nI p = _
      rw [pk_mul, nI_add]
    have b1 := wW_in hS hb n (k := n - 1 - i) (by omega) hp
    have b2' := rW_in hS hb n (k := n - 1 - i) (by omega)
    have ha := amx_lt (wW τ0 b n (n - 1 - i)) 20 (by decide)
    rw [F_X10_priceInWeek_5, F_X12_pencil_53, if_neg (nI_nlt (by omega) (by omega)), if_neg (nI_nlt (by omega) (by omega)), rd_n (by omega) (by decide), ck_n (by omega) (by decide), nI_clamp (by omega), rd21 hp, c1 p hp, c2, ei, rd_n (by omega) (by decide), rd_n (by omega) (by decide), r1]
    unfold wrW
    by_cases hc : wW τ0 b n (n - 1 - i) p < rW τ0 b n (n - 1 - i)
    · rw [if_pos hc, if_neg (fun q => by
        have := (zL_le (by omega) (by omega) (by omega) (by omega)).mp ((lg_cmp_le _ _).mp q)
        omega), c3]
      simp only [nm_eq, nI_1]
      exact ih f f' (i + 1) _ (by omega) (by omega) (by omega) (by omega)
    · rw [if_neg hc, if_pos ((lg_cmp_le _ _).mpr ((zL_le (by omega) (by omega) (by omega) (by omega)).mpr (by omega)))]
      simp only [nm_eq, nI_1]
      exact ih f f' (i + 1) p (by omega) (by omega) (by omega) hp
theorem st_pencil : ∀ (σ τ : xS), Sim σ τ → ∀ (a1 a2 a3 : Int32), ∃ (r : Int32) (σ1 τ1 : xS), F_X11_pencil a1 a2 a3 σ = some (r, σ1) ∧ F_X12_pencil a1 a2 a3 τ = some (r, τ1) ∧ Sim σ1 τ1 := by
  intro σ τ0 h0 a1 a2 a3
  have h := Sim_thr h0
  unfold F_X11_pencil F_X12_pencil
  simp only [nm_eq2]
  generalize uI τ0 0 0 = τ at h ⊢
  obtain ⟨c, hc, e1, e2⟩ := cnt0 h.1
  simp only [R_isB (σ := σ) e2, R_i1_6, R_below, C_isWithin, bd_eq2, ib2, has_if 0 a1 σ e1]
  by_cases p : 0 ≤ a1 ∧ a1 < nI c
  rotate_left
  · simp only [if_neg p]
    exact ⟨_, _, _, rfl, rfl, h⟩
  by_cases p2 : 1 ≤ a2 ∧ a2 ≤ 6
  rotate_left
  · simp only [if_pos p, if_neg p2]
    exact ⟨_, _, _, rfl, rfl, h⟩
  obtain ⟨b, hb, rfl⟩ := idxlt p rfl (by omega)
  obtain ⟨n, hn, rfl⟩ := idxle (x := a2) (N := 6) ⟨Int32.le_trans (by decide) p2.1, p2.2⟩ (c := 6) rfl (by omega)
  have hn1 : 1 ≤ n := by
    have z := p2.1
    rw [Int32.le_iff_toInt_le, nI_toInt (by omega), show (1 : Int32).toInt = 1 from rfl] at z
    omega
  have en : nI n - 1 = nI (n - 1) := pk_sub (b := 1) (by omega)
  have hiff : (0 ≤ a3 ∧ a3 ≤ nI n - 1) ↔ (0 ≤ a3 ∧ a3 < nI n) := by
    rw [en, Int32.le_iff_toInt_le, Int32.le_iff_toInt_le, Int32.lt_iff_toInt_lt, nI_toInt (by omega), nI_toInt (by omega)]
    omega
  simp only [if_pos p, if_pos p2, hiff]
  by_cases p3 : 0 ≤ a3 ∧ a3 < nI n
  rotate_left
  · simp only [if_neg p3]
    exact ⟨_, _, _, rfl, rfl, h⟩
  simp only [if_pos p3]
  obtain ⟨l, hl, rfl⟩ := idxlt p3 rfl (by omega)
  obtain ⟨σ', q1, q2⟩ := C_plan h.1 e1 hc hb hn hn1
  obtain ⟨τ', r1, r2⟩ := R_plan h.1 (b := b) (n := n) (by omega) hn
  obtain ⟨r, s1, s2⟩ := pencil_loop h.1 (b := b) (by omega) hn hl q2 r2 (l + 1) FU FU 0 20 (by unfold FU; omega) (by unfold FU; omega) (by omega) (by omega)
  have e20 : nI 20 = (20 : Int32) := rfl
  have e0 : nI 0 = (0 : Int32) := rfl
  rw [e20, e0] at s1 s2
  have s1' : F_X10_priceInWeek (nI l) σ' = some (r, σ') := by
    unfold F_X10_priceInWeek
    rw [nm_eq2, nm_eq2]
    exact s1
  rw [q1, bd_eq, s1', bd_eq, r1, bd_eq, s2]
  exact ⟨_, _, _, rfl, rfl, Sim_keep h q2.1 r2.2.1⟩
end
