section
/-! ===== weeks: the draws, the loop ===== -/
def nxS (s : Nat) : Nat := (s * 1103 + 12345) % 1000003
theorem zL_i32 {n : Nat} (h : n < 2 ^ 31) : (zL (n : Int)).toInt32 = nI n := by
  apply Int32.toInt_inj.mp
  rw [Int64.toInt_toInt32, zL_toInt (by omega) (by omega), nI_toInt h]
  apply Int.bmod_eq_of_le_mul_two
  · rw [show ((2 ^ 32 : Nat) : Int) = 4294967296 from rfl]
    omega
  · rw [show ((2 ^ 32 : Nat) : Int) = 4294967296 from rfl]
    omega
theorem nxS_lt (s : Nat) : nxS s < 1000003 := Nat.mod_lt _ (by decide)
theorem draw_z {s : Nat} (hs : s < 1000003) : (zL (s : Int) * 1103 + 12345) - (zL (s : Int) * 1103 + 12345) / 1000003 * 1000003 = zL ((nxS s : Nat) : Int) := by
  have e1 : zL (s : Int) * 1103 + 12345 = zL ((s * 1103 + 12345 : Nat) : Int) := by
    rw [show (1103 : Int64) = zL 1103 from rfl, show (12345 : Int64) = zL 12345 from rfl, zL_mul, zL_add]
    rfl
  have e2 := zL_mod (a := s * 1103 + 12345) (b := 1000003) (by omega) (by decide)
  rw [e1]
  exact e2
theorem C_draw {σ : xS} {s : Nat} (hs : s < 1000003) (h : sI σ 1590 = nI s) : F_X2_drawOfHundred σ = some (nI (nxS s % 100), uI σ 1590 (nI (nxS s))) := by
  have hn := nxS_lt s
  unfold F_X2_drawOfHundred
  rw [nzL_y (by decide), h, zL_n (by omega), draw_z hs, zL_i32 (by omega), nm_eq, nz_y (by decide)]
  have e : sI (uI σ 1590 (nI (nxS s))) 1590 = nI (nxS s) := rfl
  have e2 : nI (nxS s) / 100 = nI (nxS s / 100) := pk_div (d := 100) (by omega) (by decide) (by decide)
  rw [e, e2, show nI (nxS s / 100) * 100 = nI (nxS s / 100 * 100) from pk_mul _ 100, pk_sub (by omega), show nxS s - nxS s / 100 * 100 = nxS s % 100 by omega]
theorem lvF_or (f : Nat → Int32) (S T : Nat) (v : Int32) : lvF (lvF f S v 0) T v 0 = lvF f (S ||| T) v 0 := by
  funext j
  unfold lvF
  rw [Nat.testBit_or]
  by_cases h1 : T.testBit j = true
  · by_cases h2 : j < 10
    · rw [if_pos ⟨Nat.zero_le _, h2, h1⟩, if_pos ⟨Nat.zero_le _, h2, by rw [h1, Bool.or_true]⟩]
    · rw [if_neg (fun q => h2 q.2.1), if_neg (fun q => h2 q.2.1), if_neg (fun q => h2 q.2.1)]
  · rw [if_neg (fun q => h1 q.2.2), Bool.eq_false_iff.mpr h1, Bool.or_false]
theorem sm_or (f : Nat → Nat) {S T : Nat} (m : Nat) (h : ∀ j, j < m → T.testBit j = true → S.testBit j = false) : smN f (S ||| T) m = smN f S m + smN f T m := by
  induction m with
  | zero => rfl
  | succ m ih =>
    have e := ih (fun j hj => h j (by omega))
    have h2 := h m (by omega)
    rw [smN, smN, smN, e, Nat.testBit_or]
    by_cases h1 : T.testBit m = true
    · rw [h1, h2 h1]
      simp only [Bool.or_true, if_true]
      rw [if_neg (by decide)]
      omega
    · rw [Bool.eq_false_iff.mpr h1, Bool.or_false, if_neg (show ¬ false = true by decide)]
      omega
theorem sm_bit (f : Nat → Nat) {i : Nat} (m : Nat) : smN f (2 ^ i) m = if i < m then f i else 0 := by
  induction m with
  | zero => rfl
  | succ m ih =>
    rw [smN, ih, Nat.testBit_two_pow]
    by_cases h : i = m
    · subst h
      rw [if_neg (by omega), if_pos (decide_eq_true rfl), if_pos (by omega), Nat.zero_add]
    · rw [if_neg (show ¬ decide (i = m) = true by rw [decide_eq_true_iff]; exact h)]
      by_cases h2 : i < m
      · rw [if_pos h2, if_pos (by omega), Nat.add_zero]
      · rw [if_neg h2, if_neg (by omega)]
theorem lvF_bit0 (f : Nat → Int32) (v : Int32) : lvF f 0 v 0 = f := by
  funext j
  unfold lvF
  rw [if_neg (fun q => by rw [Nat.zero_testBit] at q; exact Bool.noConfusion q.2.2)]
/-- what the reference's weeks keep -/
def KRw (τ τ' : xS) : Prop := (∀ k, k = 2 ∨ k = 3 ∨ k = 4 ∨ k = 5 ∨ k = 7 ∨ k = 40 → sA τ' k = sA τ k) ∧ (∀ k, k = 1 ∨ k = 6 ∨ k = 8 ∨ k = 13 ∨ k = 44 → sI τ' k = sI τ k) ∧ sL τ' 25 = sL τ 25 ∧ sL τ' 26 = sL τ 26
theorem KRw_refl (τ : xS) : KRw τ τ := ⟨fun _ _ => rfl, fun _ _ => rfl, rfl, rfl⟩
theorem KRw_trans {σ σ1 σ2 : xS} (h : KRw σ σ1) (g : KRw σ1 σ2) : KRw σ σ2 := ⟨fun k hk => (g.1 k hk).trans (h.1 k hk), fun k hk => (g.2.1 k hk).trans (h.2.1 k hk), g.2.2.1.trans h.2.2.1, g.2.2.2.trans h.2.2.2⟩
theorem KRw_V {σ σ1 : xS} (h : frV σ σ1) : KRw σ σ1 := ⟨fun k _ => h.1 k, fun k hk => h.2.1 k (by omega) (by omega) (by omega) (by omega), h.2.2.2.1 25 (by decide) (by decide), h.2.2.2.1 26 (by decide) (by decide)⟩
theorem sold_loop {σ0 τ0 : xS} (hS0 : SimSt σ0 τ0) {c : Nat} (e1 : sI σ0 131 = nI c) (e2 : sA τ0 3 0 = nI c) (hc : c ≤ 10) {A Aw wk cw v0 : Nat} (hA2 : A < 2 ^ c) (hAw : Aw < 2 ^ c) (hA : ∀ j, j < c → A.testBit j = !Aw.testBit j) (k92 : Int32 → Int32 → Int32 → xS → Option (Int32 × xS)) (N : Int32) (f42 f43 : Nat → Int32) (m : Nat) : ∀ (n f i S s : Nat) (σ τ : xS), m < n → m < f → i + m = c → S < 2 ^ i → s < 1000003 → (∀ j, S.testBit j = true → A.testBit j = true) → KW σ0 σ → sI σ 1589 = nI A → sI σ 1590 = nI s → sA τ 3 = sA τ0 3 → (∀ j, j < c → sA τ 40 j = nI (bpN τ0 j)) → sI τ 34 = nI wk → sI τ 41 = nI (Aw ||| S) → sJ τ 45 = zL (s : Int) → sA τ 42 = lvF f42 S (nI wk) 0 → sA τ 43 = lvF f43 S 1 0 → ∃ (S' s' : Nat) (σ' τ' : xS), F_X2_soldIn_11 n (nI wk) (nI cw) (nI S) (nI i) σ = some (nI S', σ') ∧ F_X12_weeks_137 k92 f N (nI (v0 + smN (bpN τ0) S c)) (nI wk) (nI cw) (nI i) τ = k92 N (nI (v0 + smN (bpN τ0) S' c)) (nI (wk + 1)) τ' ∧ S' < 2 ^ c ∧ s' < 1000003 ∧ (∀ j, S'.testBit j = true → A.testBit j = true) ∧ KW σ0 σ' ∧ sI σ' 1589 = nI A ∧ sI σ' 1590 = nI s' ∧ sA σ' 100 = sA σ 100 ∧ sA σ' 101 = sA σ 101 ∧ KRw τ τ' ∧ sI τ' 41 = nI (Aw ||| S') ∧ sJ τ' 45 = zL (s' : Int) ∧ sA τ' 42 = lvF f42 S' (nI wk) 0 ∧ sA τ' 43 = lvF f43 S' 1 0 := by
  have hp31 : ∀ t, t < 2 ^ c → t < 2 ^ 31 := fun t ht => Nat.lt_of_lt_of_le ht (Nat.le_trans (pow_le c (by omega)) (by decide))
  induction m with
  | zero =>
    intro n f i S s σ τ hn hf hi hS hs hSA hK h89 h90 h3 h40 h34 h41 h45 g42 g43
    obtain ⟨n, rfl⟩ : ∃ q, n = q + 1 := ⟨n - 1, by omega⟩
    obtain ⟨f, rfl⟩ : ∃ q, f = q + 1 := ⟨f - 1, by omega⟩
    obtain rfl : i = c := by omega
    rw [F_X2_soldIn_11, (hK.2.1 131 (by decide)).trans e1, if_pos (nI_le (by omega) (by omega)), F_X12_weeks_137, rdL0, h3, e2, if_pos (nI_le (by omega) (by omega)), nm_eq, nI_1]
    exact ⟨S, s, σ, τ, rfl, rfl, hS, hs, hSA, hK, h89, h90, rfl, rfl, KRw_refl τ, h41, h45, g42, g43⟩
  | succ m ih =>
    intro n f i S s σ τ hn hf hi hS hs hSA hK h89 h90 h3 h40 h34 h41 h45 g42 g43
    obtain ⟨n, rfl⟩ : ∃ q, n = q + 1 := ⟨n - 1, by omega⟩
    obtain ⟨f, rfl⟩ : ∃ q, f = q + 1 := ⟨f - 1, by omega⟩
    have e1' : sI σ 131 = nI c := (hK.2.1 131 (by decide)).trans e1
    have hS1 : SimSt σ τ0 := SimSt_W hS0 hK rfl
    have hSi : S.testBit i = false := bit_hi hS (Nat.le_refl _)
    have hSc : S < 2 ^ c := Nat.lt_of_lt_of_le hS (Nat.pow_le_pow_right (by decide) (by omega))
    have hAS : Aw ||| S < 2 ^ c := Nat.or_lt_two_pow hAw hSc
    have hS' : S < 2 ^ (i + 1) := Nat.lt_of_lt_of_le hS (Nat.pow_le_pow_right (by decide) (by omega))
    rw [F_X2_soldIn_11, e1', if_neg (nI_ge (by omega) (by omega)), h89, bit_if (hp31 A hA2) (by omega), F_X12_weeks_137, rdL0, h3, e2, if_neg (nI_ge (by omega) (by omega)), h41, R_is (hp31 _ hAS) (by omega), bd_eq, ib2, Nat.testBit_or, hSi, Bool.or_false]
    by_cases hb : A.testBit i = true
    rotate_left
    · have hw : Aw.testBit i = true := by
        have := hA i (by omega)
        cases hq : Aw.testBit i with
        | true => rfl
        | false => rw [hq] at this; exact absurd this hb
      rw [if_neg hb, if_pos hw]
      simp only [nm_eq, nI_1]
      exact ih n f (i + 1) S s σ τ (by omega) (by omega) (by omega) hS' hs hSA hK h89 h90 h3 h40 h34 h41 h45 g42 g43
    have hw : ¬ Aw.testBit i = true := by
      intro q
      have := hA i (by omega)
      rw [hb, q] at this
      exact Bool.noConfusion this
    obtain ⟨p1, p2⟩ := bp_ok hS0 (b := i) (by omega)
    obtain ⟨W, hW, w0, w1, w2, w3, w4, w5, w6, w7, w8, w9⟩ := C_about hS1 (b := i) (c := c) e1' hc (by omega) (nI wk)
    have hns := nxS_lt s
    have hK2 : KW σ0 (uI (uA σ 45 (upd W 8 (nI cw))) 1590 (nI (nxS s))) := KW_trans hK (KW_trans (KW_A σ _ (k := 45) (by decide)) (KW_I _ _ (by decide)))
    obtain ⟨σ1, s1, s2⟩ := sl_C2 (SimSt_W hS0 hK2 rfl) (b := i) (by omega) (pl := sA τ0 3 (13 + 5 * i + 4)) (lt := nI wk) (pr := nI (bpN τ0 i)) (cw := nI cw) (show wdT τ0 i (sA τ0 3 (13 + 5 * i + 4)) (nI wk) (nI (bpN τ0 i)) (nI cw) 0 (upd W 8 (nI cw)) from ⟨w0, w1, w2, w3, w4.trans p2, w5, w6, w7, rfl, w9⟩)
    have hdr : F_X2_drawOfHundred (uA σ 45 (upd W 8 (nI cw))) = _ := C_draw (σ := uA σ 45 (upd W 8 (nI cw))) hs h90
    have hof : F_X12_ofBook (nI i) 4 (uJ τ 45 (zL ((nxS s : Nat) : Int))) = some (sA τ0 3 (13 + 5 * i + 4), uJ τ 45 (zL ((nxS s : Nat) : Int))) := by
      rw [show F_X12_ofBook (nI i) 4 (uJ τ 45 (zL ((nxS s : Nat) : Int))) = _ from R_ofBook (i := i) (w := 4) (by omega) (by decide) _]
      show some (sA τ 3 (13 + 5 * i + 4), _) = _
      rw [h3]
    obtain ⟨τ1, t1, t2⟩ := sl_R hS0 (b := i) (by omega) (nI (bpN τ0 i)) (τ1 := uI (uI (uJ τ 45 (zL ((nxS s : Nat) : Int))) 33 (sA τ0 3 (13 + 5 * i + 4))) 35 (nI cw)) h3
    have h34' : sI (uI (uI (uJ τ 45 (zL ((nxS s : Nat) : Int))) 33 (sA τ0 3 (13 + 5 * i + 4))) 35 (nI cw)) 34 = nI wk := h34
    rw [h34'] at t1
    obtain ⟨c1, -⟩ := slN_ok hS0 (b := i) (by omega) (sA τ0 3 (13 + 5 * i + 4)) (nI wk) (nI (bpN τ0 i)) (nI cw)
    have t1' : F_X12_sells (nI i) (nI (bpN τ0 i)) (uI (uI (uJ τ 45 (zL ((nxS s : Nat) : Int))) 33 (sA τ0 3 (13 + 5 * i + 4))) 35 (nI cw)) = some (nI (slN τ0 i (sA τ0 3 (13 + 5 * i + 4)) (nI wk) (nI (bpN τ0 i)) (nI cw)), τ1) := t1
    generalize slN τ0 i (sA τ0 3 (13 + 5 * i + 4)) (nI wk) (nI (bpN τ0 i)) (nI cw) = ch at *
    have h40' : ∀ τ2 : xS, sA τ2 40 = sA τ 40 → sA τ2 40 i = nI (bpN τ0 i) := fun τ2 z => by rw [z]; exact h40 i (by omega)
    have hT40 : sA τ1 40 = sA τ 40 := t2.1 40
    have hz100 : sJ (uI (uI (uJ τ 45 (zL ((nxS s : Nat) : Int))) 33 (sA τ0 3 (13 + 5 * i + 4))) 35 (nI cw)) 45 = zL ((nxS s : Nat) : Int) := rfl
    have hdz : zL ((nxS s : Nat) : Int) - zL ((nxS s : Nat) : Int) / 100 * 100 = zL ((nxS s % 100 : Nat) : Int) := zL_mod (a := nxS s) (b := 100) (by omega) (by decide)
    have hK3 : KW σ0 σ1 := KW_trans hK2 (KW_X (frX_S s2))
    have h89' : sI σ1 1589 = nI A := (s2.2.1 1589 (by decide)).trans h89
    have h90' : sI σ1 1590 = nI (nxS s) := s2.2.1 1590 (by decide)
    have g3' : sA τ1 3 = sA τ0 3 := (t2.1 3).trans h3
    have hKRa : KRw τ (uI (uI (uJ τ 45 (zL ((nxS s : Nat) : Int))) 33 (sA τ0 3 (13 + 5 * i + 4))) 35 (nI cw)) := ⟨fun _ _ => rfl, fun k hk => by
      show (if k = 35 then (nI cw) else if k = 33 then (sA τ0 3 (13 + 5 * i + 4)) else sI τ k) = sI τ k
      rw [if_neg (by omega), if_neg (by omega)], rfl, rfl⟩
    have hKR1 : KRw τ τ1 := KRw_trans hKRa (KRw_V (frV_T t2))
    have e100 : sA σ1 100 = sA σ 100 := s2.1 100
    have e101 : sA σ1 101 = sA σ 101 := s2.1 101
    rw [if_pos hb, if_neg hw, hW, bd_eq, ck10_8, nm_eq, sA_s, uA_uA, cl8, hdr, bd_eq, s1, bd_eq, nzL_y (show ¬ (1000003 : Int64) = 0 by decide), h45, draw_z hs, nm_eq (uJ τ 45 (zL ((nxS s : Nat) : Int))), hof, bd_eq, nm_eq (uI (uJ τ 45 (zL ((nxS s : Nat) : Int))) 33 (sA τ0 3 (13 + 5 * i + 4))), nm_eq (uI (uI (uJ τ 45 (zL ((nxS s : Nat) : Int))) 33 (sA τ0 3 (13 + 5 * i + 4))) 35 (nI cw)), nzL_y (show ¬ (100 : Int64) = 0 by decide), rd_n (by omega) (by decide), h40' (uI (uI (uJ τ 45 (zL ((nxS s : Nat) : Int))) 33 (sA τ0 3 (13 + 5 * i + 4))) 35 (nI cw)) rfl, t1', bd_eq, hz100, hdz, zL_n (by omega)]
    by_cases hcmp : ch ≤ nxS s % 100
    · rw [if_pos (nI_le hcmp (by omega)), if_pos ((lg_cmp_ge _ _).mpr ((zL_le (by omega) (by omega) (by omega) (by omega)).mpr (by omega)))]
      simp only [nm_eq, nI_1]
      obtain ⟨S', s', σ', τ', z1, z2, z3, z4, z5, z6, z7, z8, z9, z10, z11, z12⟩ := ih n f (i + 1) S (nxS s) σ1 τ1 (by omega) (by omega) (by omega) hS' hns hSA hK3 h89' h90' g3' (fun j hj => by rw [hT40]; exact h40 j hj) ((t2.2.1 34 (by decide) (by decide)).trans h34) ((t2.2.1 41 (by decide) (by decide)).trans h41) ((t2.2.2.1 45 (by decide) (by decide)).trans rfl) ((t2.1 42).trans g42) ((t2.1 43).trans g43)
      exact ⟨S', s', σ', τ', z1, z2, z3, z4, z5, z6, z7, z8, z9.trans e100, z10.trans e101, KRw_trans hKR1 z11, z12⟩
    · have hSor : S ||| 2 ^ i < 2 ^ (i + 1) := or_lt hS' (by omega)
      have h41' : sI τ1 41 = nI (Aw ||| S) := (t2.2.1 41 (by decide) (by decide)).trans h41
      have hgo := R_go (T := 2 ^ i) (Nat.lt_of_le_of_lt (pow_le i (by omega)) (by decide)) (nI wk) 1 h41'
      have e42 : lvF (sA τ1 42) (2 ^ i) (nI wk) 0 = lvF f42 (S ||| 2 ^ i) (nI wk) 0 := by rw [t2.1 42]; show lvF (sA τ 42) _ _ _ = _; rw [g42, lvF_or]
      have e43 : lvF (sA τ1 43) (2 ^ i) 1 0 = lvF f43 (S ||| 2 ^ i) 1 0 := by rw [t2.1 43]; show lvF (sA τ 43) _ _ _ = _; rw [g43, lvF_or]
      have eor : Aw ||| S ||| 2 ^ i = Aw ||| (S ||| 2 ^ i) := Nat.or_assoc Aw S (2 ^ i)
      have esm : v0 + smN (bpN τ0) S c + bpN τ0 i = v0 + smN (bpN τ0) (S ||| 2 ^ i) c := by
        rw [sm_or (bpN τ0) (S := S) (T := 2 ^ i) c (fun j hj hq => by
          rw [Nat.testBit_two_pow] at hq
          have : i = j := of_decide_eq_true hq
          rw [← this]
          exact hSi), sm_bit, if_pos (by omega), Nat.add_assoc]
      rw [if_neg (nI_ge (by omega) (by omega)), if_neg (fun q => by
        have := (zL_le (by omega) (by omega) (by omega) (by omega)).mp ((lg_cmp_ge _ _).mp q)
        omega), rd_n (by omega) (by decide), h40' τ1 hT40, sl_i (by omega), hgo, e42, e43, eor]
      simp only [nm_eq, nI_1, bd_eq, or_n, nI_add, esm]
      have hKRb : KRw τ1 (uI (uA (uA τ1 42 (lvF f42 (S ||| 2 ^ i) (nI wk) 0)) 43 (lvF f43 (S ||| 2 ^ i) 1 0)) 41 (nI (Aw ||| (S ||| 2 ^ i)))) := ⟨fun k hk => by
        show (if k = 43 then (lvF f43 (S ||| 2 ^ i) 1 0) else if k = 42 then (lvF f42 (S ||| 2 ^ i) (nI wk) 0) else sA τ1 k) = sA τ1 k
        rw [if_neg (by omega), if_neg (by omega)], fun k hk => if_neg (by omega), rfl, rfl⟩
      obtain ⟨S', s', σ', τ', z1, z2, z3, z4, z5, z6, z7, z8, z9, z10, z11, z12⟩ := ih n f (i + 1) (S ||| 2 ^ i) (nxS s) σ1 (uI (uA (uA τ1 42 (lvF f42 (S ||| 2 ^ i) (nI wk) 0)) 43 (lvF f43 (S ||| 2 ^ i) 1 0)) 41 (nI (Aw ||| (S ||| 2 ^ i)))) (by omega) (by omega) (by omega) hSor hns (fun j hj => by
        rw [or_bit, Bool.or_eq_true] at hj
        rcases hj with hj | hj
        · exact hSA j hj
        · have : i = j := of_decide_eq_true hj
          rw [← this]
          exact hb) hK3 h89' h90' g3' (fun j hj => by show sA τ1 40 j = _; rw [hT40]; exact h40 j hj) ((t2.2.1 34 (by decide) (by decide)).trans h34) rfl ((t2.2.2.1 45 (by decide) (by decide)).trans rfl) rfl rfl
      exact ⟨S', s', σ', τ', z1, z2, z3, z4, z5, z6, z7, z8, z9.trans e100, z10.trans e101, KRw_trans (KRw_trans hKR1 hKRb) z11, z12⟩
theorem C_sold {σ : xS} {wk cw : Nat} {σ1 : xS} {r : Int32} {σ' : xS} (hcr : F_X2_crowdIn (nI wk) σ = some (nI cw, σ1)) (h : F_X2_soldIn_11 FU (nI wk) (nI cw) (nI 0) (nI 0) σ1 = some (r, σ')) : F_X2_soldIn (nI wk) σ = some (r, σ') := by
  have e0 : nI 0 = (0 : Int32) := rfl
  rw [e0] at h
  unfold F_X2_soldIn
  rw [hcr, bd_eq2, nm_eq2, nm_eq2]
  exact h
/-- who went, on both sides -/
def DI (c : Nat) (σ τ : xS) : Prop := ∀ j, j < 10 → sA σ 100 j = sA τ 42 j ∧ sA σ 101 j = sA τ 43 j ∧ (c ≤ j → sA τ 42 j = -1 ∧ sA τ 43 j = -1)
theorem weeks_loop {σ0 τ0 : xS} (hS0 : SimSt σ0 τ0) {c H : Nat} (e1 : sI σ0 131 = nI c) (e2 : sA τ0 3 0 = nI c) (hc : c ≤ 10) (eH : sA τ0 3 11 = nI H) (hH : H ≤ 9) {N : Nat} (hN : N ≤ 40) (m : Nat) : ∀ (n f wk A Aw v s : Nat) (σ τ : xS), m < n → m < f → wk + m = N → A < 2 ^ c → Aw < 2 ^ c → (∀ j, j < c → A.testBit j = !Aw.testBit j) → v ≤ wk * 20000 → s < 1000003 → KW σ0 σ → sI σ 1589 = nI A → sI σ 1590 = nI s → sA τ 3 = sA τ0 3 → (∀ j, j < c → sA τ 40 j = nI (bpN τ0 j)) → sI τ 41 = nI Aw → sJ τ 45 = zL (s : Int) → DI c σ τ → ∃ (v' : Nat) (σ' τ' : xS), F_X2_live_44 n (nI N) (nI v) (nI wk) σ = some (nI v', σ') ∧ F_X12_weeks_92 f (nI N) (nI v) (nI wk) τ = some (nI v', uI τ' 1 0) ∧ KW σ0 σ' ∧ KRw τ τ' ∧ DI c σ' τ' := by
  have hp31 : ∀ t, t < 2 ^ c → t < 2 ^ 31 := fun t ht => Nat.lt_of_lt_of_le ht (Nat.le_trans (pow_le c (by omega)) (by decide))
  induction m with
  | zero =>
    intro n f wk A Aw v s σ τ hn hf hi hA2 hAw hA hv hs hK h89 h90 h3 h40 h41 h45 hD
    obtain ⟨n, rfl⟩ : ∃ q, n = q + 1 := ⟨n - 1, by omega⟩
    obtain ⟨f, rfl⟩ : ∃ q, f = q + 1 := ⟨f - 1, by omega⟩
    obtain rfl : wk = N := by omega
    have hv2 : wk * 20000 ≤ 40 * 20000 := Nat.mul_le_mul_right _ hN
    rw [F_X2_live_44, F_X12_weeks_92, if_pos (nI_le (by omega) (by omega)), if_pos (nI_le (by omega) (by omega)), R_tN (by omega), bd_eq]
    exact ⟨v, σ, τ, rfl, rfl, hK, KRw_refl τ, hD⟩
  | succ m ih =>
    intro n f wk A Aw v s σ τ hn hf hi hA2 hAw hA hv hs hK h89 h90 h3 h40 h41 h45 hD
    obtain ⟨n, rfl⟩ : ∃ q, n = q + 1 := ⟨n - 1, by omega⟩
    obtain ⟨f, rfl⟩ : ∃ q, f = q + 1 := ⟨f - 1, by omega⟩
    have e0 : nI 0 = (0 : Int32) := rfl
    have e1' : sI σ 131 = nI c := (hK.2.1 131 (by decide)).trans e1
    have hS1 : SimSt σ τ0 := SimSt_W hS0 hK rfl
    have hG : ∀ j, j < c → gdN τ0 (bpN τ0) Aw (nI wk) j = if A.testBit j = true then gnN τ0 j (bpN τ0 j) (nI wk) else 0 := by
      intro j hj
      unfold gdN
      rw [hA j hj]
      cases Aw.testBit j <;> rfl
    obtain ⟨σ1, q1, q2⟩ := C_takes hS1 e1' hc eH hH hA2 (nI wk) hG c FU 0 σ (by unfold FU; omega) (by omega) (frX_refl σ) (fun j hj => absurd hj (Nat.not_lt_zero j))
    rw [e0] at q1
    have q1' : F_X1_takes (nI A) (nI wk) σ = some (nI (ggS (gdN τ0 (bpN τ0) Aw (nI wk)) c H 0), σ1) := by
      unfold F_X1_takes
      rw [nm_eq2]
      exact q1
    obtain ⟨τ1, t1, t2⟩ := R_taken hS0 e2 hc eH hH (P := bpN τ0) (fun j hj => by have := (bp_ok hS0 (b := j) (by omega)).1; omega) hAw (nI wk) (τ := uI τ 34 (nI wk)) h3 h40 h41 rfl
    have hT : ggS (gdN τ0 (bpN τ0) Aw (nI wk)) c H 0 < 2 ^ c := gg_lt H 0 (Nat.two_pow_pos c)
    generalize ggS (gdN τ0 (bpN τ0) Aw (nI wk)) c H 0 = T at *
    have a3 : sA τ1 3 = sA τ0 3 := (t2.1 3).trans h3
    have hpd : F_X12_paidFor (nI T) τ1 = _ := R_paid (τ := τ1) (P := bpN τ0) (by rw [a3]; exact e2) hc (fun j hj => by rw [t2.1 40]; exact h40 j hj) hT
    have h41' : sI τ1 41 = nI Aw := (t2.2.1 41 (by decide) (by decide) (by decide) (by decide)).trans h41
    have hgo := R_go (hp31 T hT) (nI wk) 0 h41'
    have h89' : sI σ1 1589 = nI A := (q2.2.1 1589 (by decide)).trans h89
    have hlv := C_leave (hp31 T hT) (nI wk) 0 h89'
    have hA' : dif A T < 2 ^ c := dif_lt hA2
    have hAw' : Aw ||| T < 2 ^ c := Nat.or_lt_two_pow hAw hT
    have hrel : ∀ j, j < c → (dif A T).testBit j = !(Aw ||| T).testBit j := by
      intro j hj
      rw [dif_bit, Nat.testBit_or, hA j hj]
      cases Aw.testBit j <;> cases T.testBit j <;> rfl
    have hK2 : KW σ0 (uA (uA (uI σ1 1589 (nI (dif A T))) 100 (lvF (sA σ1 100) T (nI wk) 0)) 101 (lvF (sA σ1 101) T 0 0)) := KW_trans (KW_trans hK (KW_X q2)) (KW_trans (KW_trans (KW_I σ1 _ (by decide)) (KW_A _ _ (k := 100) (by decide))) (KW_A _ _ (k := 101) (by decide)))
    obtain ⟨σ2, c1, c2⟩ := C_crowd hS0 e1 hc hA' (nI wk) hK2 rfl
    have b3 : sA (uI (uA (uA τ1 42 (lvF (sA τ1 42) T (nI wk) 0)) 43 (lvF (sA τ1 43) T 0 0)) 41 (nI (Aw ||| T))) 3 = sA τ0 3 := a3
    obtain ⟨τ2, d1, d2⟩ := R_crowd hS0 e2 hc hAw' hrel b3 rfl
    have h34' : sI (uI (uA (uA τ1 42 (lvF (sA τ1 42) T (nI wk) 0)) 43 (lvF (sA τ1 43) T 0 0)) 41 (nI (Aw ||| T))) 34 = nI wk := (t2.2.1 34 (by decide) (by decide) (by decide) (by decide)).trans rfl
    rw [h34'] at d1
    have hcr100 : sA σ2 100 = lvF (sA σ 100) T (nI wk) 0 := by
      rw [c2.1 100 (by decide) (by decide)]
      show lvF (sA σ1 100) T (nI wk) 0 = _
      rw [q2.1 100 (by decide) (by decide)]
    have hcr101 : sA σ2 101 = lvF (sA σ 101) T 0 0 := by
      rw [c2.1 101 (by decide) (by decide)]
      show lvF (sA σ1 101) T 0 0 = _
      rw [q2.1 101 (by decide) (by decide)]
    have hw42 : sA τ2 42 = lvF (sA τ 42) T (nI wk) 0 := by
      rw [d2.1 42]
      show lvF (sA τ1 42) T (nI wk) 0 = _
      rw [t2.1 42]
      rfl
    have hw43 : sA τ2 43 = lvF (sA τ 43) T 0 0 := by
      rw [d2.1 43]
      show lvF (sA τ1 43) T 0 0 = _
      rw [t2.1 43]
      rfl
    have f40 : sA τ2 40 = sA τ 40 := (d2.1 40).trans (t2.1 40)
    obtain ⟨S, s', σ3, τ3, z1, z2, z3, z4, z5, z6, z7, z8, z9, z10, z11, z12, z13, z14, z15⟩ := sold_loop hS0 e1 e2 hc (A := dif A T) (Aw := Aw ||| T) (wk := wk) (cw := crN τ0 (dif A T) (nI wk) c) (v0 := v + smN (bpN τ0) T c) hA' hAw' hrel (F_X12_weeks_92 f) (nI N) (lvF (sA τ 42) T (nI wk) 0) (lvF (sA τ 43) T 0 0) c FU FU 0 0 s σ2 τ2 (by unfold FU; omega) (by unfold FU; omega) (by omega) (Nat.two_pow_pos 0) hs (fun j hj => by rw [Nat.zero_testBit] at hj; exact Bool.noConfusion hj) (KW_trans hK2 (KW_X c2)) (c2.2.1 1589 (by decide)) ((c2.2.1 1590 (by decide)).trans ((q2.2.1 1590 (by decide)).trans h90)) ((d2.1 3).trans b3) (fun j hj => by rw [f40]; exact h40 j hj) ((d2.2.1 34 (by decide) (by decide) (by decide) (by decide)).trans h34') ((d2.2.1 41 (by decide) (by decide) (by decide) (by decide)).trans (by rw [Nat.or_zero]; rfl)) ((d2.2.2.1 45 (by decide) (by decide)).trans ((t2.2.2.1 45 (by decide) (by decide)).trans h45)) (by rw [lvF_bit0]; exact hw42) (by rw [lvF_bit0]; exact hw43)
    have hsd : F_X2_soldIn (nI wk) (uA (uA (uI σ1 1589 (nI (dif A T))) 100 (lvF (sA σ1 100) T (nI wk) 0)) 101 (lvF (sA σ1 101) T 0 0)) = some (nI S, σ3) := C_sold c1 z1
    have hlv2 := C_leave (hp31 S z3) (nI wk) 1 z7
    have hTS : T ||| S < 2 ^ c := Nat.or_lt_two_pow hT z3
    have hK4 : KW σ0 (uA (uA (uI σ3 1589 (nI (dif (dif A T) S))) 100 (lvF (sA σ3 100) S (nI wk) 0)) 101 (lvF (sA σ3 101) S 1 0)) := KW_trans z6 (KW_trans (KW_trans (KW_I σ3 _ (by decide)) (KW_A _ _ (k := 100) (by decide))) (KW_A _ _ (k := 101) (by decide)))
    have hpay := C_pays (SimSt_W hS0 hK4 rfl) ((hK4.2.1 131 (by decide)).trans e1) hc hTS
    have hdis : smN (bpN τ0) (T ||| S) c = smN (bpN τ0) T c + smN (bpN τ0) S c := sm_or (bpN τ0) c (fun j hj hq => by
      have h1 := z5 j hq
      rw [dif_bit] at h1
      cases hT1 : T.testBit j with
      | false => rfl
      | true => rw [hT1] at h1; simp at h1)
    have hsmN : ∀ X, smN (bpN τ0) X c ≤ 10 * 999 := fun X => Nat.le_trans (sm_le c (B := 999) (fun j hj => (bp_ok hS0 (b := j) (by omega)).1)) (Nat.mul_le_mul_right _ hc)
    have ev : v + smN (bpN τ0) T c + smN (bpN τ0) S c = v + smN (bpN τ0) (T ||| S) c := by rw [hdis, Nat.add_assoc]
    have z2' : F_X12_weeks_137 (F_X12_weeks_92 f) FU (nI N) (nI (v + smN (bpN τ0) T c)) (nI wk) (nI (crN τ0 (dif A T) (nI wk) c)) 0 τ2 = F_X12_weeks_92 f (nI N) (nI (v + smN (bpN τ0) T c + smN (bpN τ0) S c)) (nI (wk + 1)) τ3 := by
      have hz : smN (bpN τ0) 0 c = 0 := by
        have : ∀ k, smN (bpN τ0) 0 k = 0 := by
          intro k
          induction k with
          | zero => rfl
          | succ k ih => rw [smN, ih, Nat.zero_testBit, if_neg (by decide)]
        exact this c
      rw [hz, Nat.add_zero, e0] at z2
      exact z2
    rw [F_X2_live_44, F_X12_weeks_92, if_neg (nI_ge (by omega) (by omega)), if_neg (nI_ge (by omega) (by omega)), h89, q1', bd_eq, hlv, bd_eq, hsd, bd_eq, hlv2, bd_eq, or_n, hpay, bd_eq, nm_eq, nm_eq, nI_1, nI_add, nm_eq, t1, bd_eq, hpd, bd_eq, nm_eq, nI_add, hgo, bd_eq, d1, bd_eq, nm_eq, z2', ev]
    obtain ⟨v', σ', τ', y1, y2, y3, y4, y5⟩ := ih n f (wk + 1) (dif (dif A T) S) (Aw ||| T ||| S) (v + smN (bpN τ0) (T ||| S) c) s' _ τ3 (by omega) (by omega) (by omega) (dif_lt hA') (Nat.or_lt_two_pow hAw' z3) (fun j hj => by
      rw [dif_bit, Nat.testBit_or, hrel j hj]
      cases (Aw ||| T).testBit j <;> cases S.testBit j <;> rfl) (by have := hsmN (T ||| S); rw [Nat.succ_mul]; omega) z4 hK4 rfl z8 ((z11.1 3 (by decide)).trans ((d2.1 3).trans b3)) (fun j hj => by rw [z11.1 40 (by decide), f40]; exact h40 j hj) z12 z13 (fun j hj => by
      obtain ⟨k1, k2, k3⟩ := hD j hj
      show lvF (sA σ3 100) S (nI wk) 0 j = _ ∧ lvF (sA σ3 101) S 1 0 j = _ ∧ _
      rw [z9, z10, hcr100, hcr101, z14, z15]
      have hgen : ∀ (f g : Nat → Int32) (X : Nat) (y : Int32), f j = g j → lvF f X y 0 j = lvF g X y 0 j := by
        intro f g X y hfg
        unfold lvF
        split
        · rfl
        · exact hfg
      refine ⟨hgen _ _ _ _ (hgen _ _ _ _ k1), hgen _ _ _ _ (hgen _ _ _ _ k2), fun hcj => ?_⟩
      obtain ⟨k4, k5⟩ := k3 hcj
      have hT0 : T.testBit j = false := bit_hi hT hcj
      have hS9 : S.testBit j = false := bit_hi z3 hcj
      unfold lvF
      rw [hT0, hS9]
      rw [if_neg (fun q => Bool.noConfusion q.2.2), if_neg (fun q => Bool.noConfusion q.2.2), if_neg (fun q => Bool.noConfusion q.2.2), if_neg (fun q => Bool.noConfusion q.2.2)]
      exact ⟨k4, k5⟩)
    refine ⟨v', σ', τ', y1, y2, y3, ?_, y5⟩
    refine KRw_trans (KRw_trans (KRw_trans (KRw_trans (KRw_trans ?_ (KRw_V t2)) ?_) (KRw_V d2)) z11) y4
    · exact ⟨fun _ _ => rfl, fun k hk => if_neg (by omega), rfl, rfl⟩
    · exact ⟨fun k hk => by
        show (if k = 43 then _ else if k = 42 then _ else sA τ1 k) = sA τ1 k
        rw [if_neg (by omega), if_neg (by omega)], fun k hk => if_neg (by omega), rfl, rfl⟩
theorem st_weeks : ∀ (σ τ : xS), Sim σ τ → ∀ (a1 a2 : Int32), ∃ (r : Int32) (σ1 τ1 : xS), F_X11_weeks a1 a2 σ = some (r, σ1) ∧ F_X12_weeks a1 a2 τ = some (r, τ1) ∧ Sim σ1 τ1 := by
  intro σ τ0 h0 a1 a2
  have h := Sim_thr h0
  unfold F_X11_weeks F_X12_weeks F_X11_weeks_21 F_X12_weeks_29
  simp only [nm_eq2]
  generalize uI τ0 0 0 = τ at h ⊢
  obtain ⟨c, hc, e1, e2⟩ := cnt0 h.1
  obtain ⟨H, hH, eH⟩ := hands h.1
  simp only [R_i0_1000000, R_i1_40, C_isWithin, bd_eq2, ib2, C_r1, R_t1]
  by_cases p : 0 ≤ a1 ∧ a1 ≤ 1000000
  rotate_left
  · simp only [if_neg p]
    exact ⟨_, _, _, rfl, rfl, Sim_ref (Or.inl rfl) h⟩
  by_cases p2 : 1 ≤ a2 ∧ a2 ≤ 40
  rotate_left
  · simp only [if_pos p, if_neg p2]
    exact ⟨_, _, _, rfl, rfl, Sim_ref (Or.inl rfl) h⟩
  simp only [if_pos p, if_pos p2]
  obtain ⟨s, hs, rfl⟩ := idxle p (c := 1000000) rfl (by omega)
  obtain ⟨N, hN, rfl⟩ := idxle (x := a2) (N := 40) ⟨Int32.le_trans (by decide) p2.1, p2.2⟩ (c := 40) rfl (by omega)
  have e0 : nI 0 = (0 : Int32) := rfl
  have hpos : 1 ≤ 2 ^ c := Nat.two_pow_pos c
  have h2c : 2 ^ c ≤ 2048 := pow_le c (by omega)
  have em : (1 : Int32) <<< (nI c &&& 31) - 1 = nI (2 ^ c - 1) := by
    rw [sl_i (by omega)]
    exact pk_sub (b := 1) hpos
  obtain ⟨g, r1, r2⟩ := R_priced h.1
  have h50 : ∀ m n i (τ1 : xS) (f43 : Nat → Int32), m < n → i + m = 10 → (∀ j, j < i → sA τ1 42 j = -1 ∧ sA τ1 43 j = -1) → sA τ1 3 = sA τ 3 → ∃ (w42 w43 : Nat → Int32), (∀ j, j < 10 → w42 j = -1 ∧ w43 j = -1) ∧ F_X12_weeks_50 n (nI N) 0 (nI i) τ1 = F_X12_weeks_92 FU (nI N) 0 0 (uI (uA (uA τ1 42 w42) 43 w43) 44 (nI c)) := by
    intro m
    induction m with
    | zero =>
      intro n i τ1 f43 hn hi hj h3
      obtain ⟨n, rfl⟩ : ∃ q, n = q + 1 := ⟨n - 1, by omega⟩
      obtain rfl : i = 10 := by omega
      rw [F_X12_weeks_50, if_pos (show (10 : Int32) ≤ nI 10 from nI_le (a := 10) (by omega) (by omega)), rdL0, h3, e2, nm_eq2, nm_eq2]
      refine ⟨sA τ1 42, sA τ1 43, hj, ?_⟩
      rw [uA_self, uA_self]
    | succ m ih =>
      intro n i τ1 f43 hn hi hj h3
      obtain ⟨n, rfl⟩ : ∃ q, n = q + 1 := ⟨n - 1, by omega⟩
      rw [F_X12_weeks_50, if_neg (show ¬ (10 : Int32) ≤ nI i from nI_ge (b := 10) (by omega) (by decide)), ck_n (by omega) (by decide), nm_eq2, ck_n (by omega) (by decide), nm_eq2, nm_eq2, nI_1, nI_clamp (by omega)]
      obtain ⟨w42, w43, y1, y2⟩ := ih n (i + 1) (uA (uA τ1 42 (upd (sA τ1 42) i (-1))) 43 (upd (sA (uA τ1 42 (upd (sA τ1 42) i (-1))) 43) i (-1))) f43 (by omega) (by omega) (fun j hj2 => by
        show upd (sA τ1 42) i (-1) j = -1 ∧ upd (sA τ1 43) i (-1) j = -1
        unfold upd
        by_cases e : j = i
        · rw [if_pos e, if_pos e]
          exact ⟨rfl, rfl⟩
        · rw [if_neg e, if_neg e]
          exact hj j (by omega)) h3
      refine ⟨w42, w43, y1, ?_⟩
      rw [y2, uA_4]
  obtain ⟨w42, w43, x1, x2⟩ := h50 10 FU 0 (uJ (uI (uI (uA τ 40 g) 41 0) 34 0) 45 (nI s).toInt64) (sA τ 43) (by unfold FU; omega) rfl (fun j hj => absurd hj (Nat.not_lt_zero j)) rfl
  rw [e0] at x2
  obtain ⟨S1, hS1⟩ : ∃ S, S = uI (uI σ 1590 (nI s)) 1589 (nI (2 ^ c - 1)) := ⟨_, rfl⟩
  obtain ⟨S2, hS2⟩ : ∃ S, S = uA S1 100 (fillR (sA S1 100) 0 10 (-1)) := ⟨_, rfl⟩
  obtain ⟨S3, hS3⟩ : ∃ S, S = uA S2 101 (fillR (sA S2 101) 0 10 (-1)) := ⟨_, rfl⟩
  have hK1 : KW σ S1 := by
    rw [hS1]
    exact KW_trans (KW_I σ _ (by decide)) (KW_I _ _ (by decide))
  have hK2 : KW S1 S2 := by
    rw [hS2]
    exact KW_A _ _ (k := 100) (by decide)
  have hK3 : KW S2 S3 := by
    rw [hS3]
    exact KW_A _ _ (k := 101) (by decide)
  have z89 : sI S3 1589 = nI (2 ^ c - 1) := by rw [hS3, hS2, hS1]; rfl
  have z90 : sI S3 1590 = nI s := by rw [hS3, hS2, hS1]; rfl
  have z100 : ∀ j, j < 10 → sA S3 100 j = -1 := by
    intro j hj
    rw [hS3]
    show sA S2 100 j = -1
    rw [hS2, sA_s]
    exact if_pos ⟨Nat.zero_le _, hj⟩
  have z101 : ∀ j, j < 10 → sA S3 101 j = -1 := by
    intro j hj
    rw [hS3, sA_s]
    exact if_pos ⟨Nat.zero_le _, hj⟩
  obtain ⟨v', σ', τ', y1, y2, y3, y4, y5⟩ := weeks_loop h.1 e1 e2 hc eH hH hN N FU FU 0 (2 ^ c - 1) 0 0 s S3 (uI (uA (uA (uJ (uI (uI (uA τ 40 g) 41 0) 34 0) 45 (nI s).toInt64) 42 w42) 43 w43) 44 (nI c)) (by unfold FU; omega) (by unfold FU; omega) (by omega) (by omega) hpos (fun j hj => by rw [all_bit, decide_eq_true hj, Nat.zero_testBit]; rfl) (by omega) (by omega) (KW_trans hK1 (KW_trans hK2 hK3)) z89 z90 rfl (fun j hj => r2 j (by omega)) rfl (show (nI s).toInt64 = _ from zL_n (by omega)) (fun j hj => by
    obtain ⟨k1, k2⟩ := x1 j hj
    have k3 : sA (uI (uA (uA (uJ (uI (uI (uA τ 40 g) 41 0) 34 0) 45 (nI s).toInt64) 42 w42) 43 w43) 44 (nI c)) 42 j = -1 := k1
    have k4 : sA (uI (uA (uA (uJ (uI (uI (uA τ 40 g) 41 0) 34 0) 45 (nI s).toInt64) 42 w42) 43 w43) 44 (nI c)) 43 j = -1 := k2
    rw [k3, k4, z100 j hj, z101 j hj]
    exact ⟨rfl, rfl, fun _ => ⟨rfl, rfl⟩⟩)
  rw [e0] at y1 y2
  have hlive : F_X2_live (nI s) (nI N) σ = some (nI v', σ') := by
    unfold F_X2_live
    rw [nm_eq2, show sI (uI σ 1590 (nI s)) 131 = nI c from e1, em, nm_eq2, ← hS1, nm_eq2, ← hS2, nm_eq2, ← hS3, nm_eq2, nm_eq2]
    exact y1
  rw [hlive, bd_eq, C_accepted, bd_eq, r1, bd_eq, x2, y2]
  refine ⟨_, _, _, rfl, rfl, ?_⟩
  obtain ⟨hS, hI, hT, hM, hD, hC1, hC2, hC3⟩ := h
  have i1 : sI τ' 6 = sI τ 6 := y4.2.1 6 (by decide)
  have i8 : sI τ' 8 = sI τ 8 := y4.2.1 8 (by decide)
  have i13 : sI τ' 13 = sI τ 13 := y4.2.1 13 (by decide)
  have i44 : sI τ' 44 = nI c := y4.2.1 44 (by decide)
  have a3 : sA τ' 3 = sA τ 3 := y4.1 3 (by decide)
  have a7 : sA τ' 7 = sA τ 7 := y4.1 7 (by decide)
  have a2 : sA τ' 2 = sA τ 2 := y4.1 2 (by decide)
  refine ⟨show SimSt (uI σ' 14 0) (uI τ' 1 0) from SimSt_W (σ' := σ') (τ' := τ') hS y3 a3, SimIm_of hI (y3.1 2 (by decide)) (fun k => ⟨rowC_W y3 (by decide) k, rowC_W y3 (by decide) k⟩) ⟨y3.2.2.1 42, y3.2.2.1 43⟩ y3.2.2.2 (y4.1 5 (by decide)) (y4.1 4 (by decide)), ?_, ?_, ?_, ?_, y4.2.2.1.trans hC2, y4.2.2.2.trans hC3⟩
  · show sI σ' 11 = sI τ' 8 ∧ (0 ≤ (sI τ' 8).toInt ∧ (sI τ' 8).toInt ≤ 400) ∧ ∀ j, j < 400 → sA σ' 3 j = sA τ' 7 j ∧ 0 ≤ (sA τ' 7 j).toInt ∧ (sA τ' 7 j).toInt ≤ 255
    rw [i8, a7, y3.2.1 11 (by decide), y3.1 3 (by decide)]
    exact hT
  · show sI σ' 12 = sI τ' 13 ∧ sI σ' 13 = sI τ' 6 ∧ (0 : Int32) = 0 ∧ ∀ j, j < 7 → sA σ' 4 j = sA τ' 2 j
    rw [i13, i1, a2, y3.2.1 12 (by decide), y3.2.1 13 (by decide), y3.1 4 (by decide)]
    exact ⟨hM.1, hM.2.1, rfl, hM.2.2.2⟩
  · show (0 ≤ (sI τ' 44).toInt ∧ (sI τ' 44).toInt ≤ 10) ∧ ∀ j : Nat, j < 10 → sA σ' 100 j = (if (j : Int) < (sI τ' 44).toInt then sA τ' 42 j else -1) ∧ sA σ' 101 j = (if (j : Int) < (sI τ' 44).toInt then sA τ' 43 j else -1)
    rw [i44, nI_toInt (by omega)]
    refine ⟨by omega, fun j hj => ?_⟩
    obtain ⟨k1, k2, k3⟩ := y5 j hj
    rw [k1, k2]
    by_cases hcj : j < c
    · rw [if_pos (by omega), if_pos (by omega)]
      exact ⟨rfl, rfl⟩
    · rw [if_neg (by omega), if_neg (by omega)]
      exact k3 (by omega)
  · intro t j i ht hq
    have hq2 : sQ σ' (41 + t) j = some i := hq
    rw [y3.2.2.1] at hq2
    show i < (sP σ').length
    rw [y3.2.2.2]
    exact hC1 t j i ht hq2
end
