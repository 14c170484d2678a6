section
/-! ===== weeks ===== -/
def KW (σ σ' : xS) : Prop := (∀ k, k < 44 → sA σ' k = sA σ k) ∧ (∀ k, k < 704 → sI σ' k = sI σ k) ∧ (∀ k, sQ σ' k = sQ σ k) ∧ sP σ' = sP σ
theorem KW_refl (σ : xS) : KW σ σ := ⟨fun _ _ => rfl, fun _ _ => rfl, fun _ => rfl, rfl⟩
theorem KW_trans {σ σ1 σ2 : xS} (h : KW σ σ1) (g : KW σ1 σ2) : KW σ σ2 := ⟨fun k hk => (g.1 k hk).trans (h.1 k hk), fun k hk => (g.2.1 k hk).trans (h.2.1 k hk), fun k => (g.2.2.1 k).trans (h.2.2.1 k), g.2.2.2.trans h.2.2.2⟩
theorem KW_X {σ σ1 : xS} (h : frX σ σ1) : KW σ σ1 := ⟨fun k hk => h.1 k (by omega) (by omega), fun k hk => h.2.1 k (by omega), h.2.2.1, h.2.2.2⟩
theorem KW_A (σ : xS) {k : Nat} (f : Nat → Int32) (hk : 44 ≤ k) : KW σ (uA σ k f) := ⟨fun j hj => if_neg (by omega), fun _ _ => rfl, fun _ => rfl, rfl⟩
theorem KW_I (σ : xS) {k : Nat} (v : Int32) (hk : 704 ≤ k) : KW σ (uI σ k v) := ⟨fun _ _ => rfl, fun j hj => if_neg (by omega), fun _ => rfl, rfl⟩
theorem rowC_W {σ σ' : xS} (h : KW σ σ') {t : Nat} (ht : t < 3) (k : Nat) : rowC σ' t k = rowC σ t k := by
  have hA := h.1
  have hI := h.2.1
  unfold rowC
  rw [hI _ (by omega), hI _ (by omega), hI _ (by omega), hI _ (by omega), hI _ (by omega), hI _ (by omega), hI _ (by omega), hA _ (by omega), hA _ (by omega), hA _ (by omega), hA _ (by omega), hA _ (by omega), hA _ (by omega)]
theorem SimSt_W {σ σ' τ τ' : xS} (h : SimSt σ τ) (hK : KW σ σ') (h3 : sA τ' 3 = sA τ 3) : SimSt σ' τ' := by
  refine ⟨fun k hk => ?_, ?_, lawsOK_of h.2.2 (hK.2.2.1 41) hK.2.2.2 h3⟩
  · rw [rowC_W hK (by decide), h3]
    exact h.1 k hk
  · rw [h3]
    exact h.2.1
/-- of the first those that the second has not -/
def dif (A T : Nat) : Nat := A ^^^ (A &&& T)
theorem dif_bit (A T j : Nat) : (dif A T).testBit j = (A.testBit j && !T.testBit j) := by
  unfold dif
  rw [Nat.testBit_xor, Nat.testBit_and]
  cases A.testBit j <;> cases T.testBit j <;> rfl
theorem dif_lt {A T c : Nat} (h : A < 2 ^ c) : dif A T < 2 ^ c := Nat.xor_lt_two_pow h (Nat.lt_of_le_of_lt Nat.and_le_left h)
theorem dif_n (A T : Nat) : nI A &&& (nI T ^^^ (-1)) = nI (dif A T) := by
  apply Int32.toBitVec_inj.mp
  show BitVec.ofNat 32 A &&& (BitVec.ofNat 32 T ^^^ (-1 : Int32).toBitVec) = BitVec.ofNat 32 (dif A T)
  apply BitVec.eq_of_getLsbD_eq
  intro i hi
  have h1 : ((-1 : Int32).toBitVec).getLsbD i = true := by
    have e : (-1 : Int32).toBitVec = BitVec.allOnes 32 := rfl
    rw [e, BitVec.getLsbD_allOnes]
    exact decide_eq_true hi
  rw [BitVec.getLsbD_and, BitVec.getLsbD_xor, h1, BitVec.getLsbD_ofNat, BitVec.getLsbD_ofNat, BitVec.getLsbD_ofNat, dif_bit, decide_eq_true hi]
  cases A.testBit i <;> cases T.testBit i <;> rfl
/-- who left: a week and to whom, for the books of a set -/
def lvF (f : Nat → Int32) (T : Nat) (v : Int32) (i : Nat) : Nat → Int32 := fun j => if i ≤ j ∧ j < 10 ∧ T.testBit j = true then v else f j
theorem lvF_step (f : Nat → Int32) (T : Nat) (v : Int32) {i : Nat} (hi : i < 10) : lvF f T v i = if T.testBit i = true then lvF (upd f i v) T v (i + 1) else lvF f T v (i + 1) := by
  funext j
  by_cases hb : T.testBit i = true
  · rw [if_pos hb]
    unfold lvF upd
    by_cases e : j = i
    · subst e
      rw [if_pos ⟨Nat.le_refl _, hi, hb⟩, if_neg (by omega), if_pos rfl]
    · by_cases h2 : i ≤ j ∧ j < 10 ∧ T.testBit j = true
      · rw [if_pos h2, if_pos ⟨by omega, h2.2⟩]
      · rw [if_neg h2, if_neg (fun q => h2 ⟨by omega, q.2⟩), if_neg e]
  · rw [if_neg hb]
    unfold lvF
    by_cases h2 : i ≤ j ∧ j < 10 ∧ T.testBit j = true
    · have hne : j ≠ i := fun q => by subst q; exact hb h2.2.2
      rw [if_pos h2, if_pos ⟨by omega, h2.2⟩]
    · rw [if_neg h2, if_neg (fun q => h2 ⟨by omega, q.2⟩)]
theorem lvF_10 (f : Nat → Int32) (T : Nat) (v : Int32) : lvF f T v 10 = f := by
  funext j
  exact if_neg (by omega)
theorem uA_4 (σ : xS) {k l : Nat} (a b f g : Nat → Int32) : uA (uA (uA (uA σ k a) l b) k f) l g = uA (uA σ k f) l g := by
  unfold uA
  congr 1
  funext q
  show va_up (va_up (va_up (va_up σ.1 k a) l b) k f) l g q = va_up (va_up σ.1 k f) l g q
  unfold va_up
  by_cases h1 : q = l
  · simp only [if_pos h1]
  · by_cases h2 : q = k
    · simp only [if_neg h1, if_pos h2]
    · simp only [if_neg h1, if_neg h2]
theorem C_leave {A T : Nat} (hT : T < 2 ^ 31) (wk who : Int32) {σ : xS} (hA : sI σ 1589 = nI A) : F_X2_leave (nI T) wk who σ = some ((), uA (uA (uI σ 1589 (nI (dif A T))) 100 (lvF (sA σ 100) T wk 0)) 101 (lvF (sA σ 101) T who 0)) := by
  have hl : ∀ m n i (σ1 : xS), m < n → i + m = 10 → F_X2_leave_15 n (nI T) wk who (nI i) σ1 = some ((), uA (uA σ1 100 (lvF (sA σ1 100) T wk i)) 101 (lvF (sA σ1 101) T who i)) := by
    intro m
    induction m with
    | zero =>
      intro n i σ1 hn hi
      obtain ⟨n, rfl⟩ : ∃ q, n = q + 1 := ⟨n - 1, by omega⟩
      obtain rfl : i = 10 := by omega
      rw [F_X2_leave_15, if_pos (show (10 : Int32) ≤ nI 10 from nI_le (a := 10) (by omega) (by omega)), lvF_10, lvF_10, uA_self, uA_self]
    | succ m ih =>
      intro n i σ1 hn hi
      obtain ⟨n, rfl⟩ : ∃ q, n = q + 1 := ⟨n - 1, by omega⟩
      rw [F_X2_leave_15, if_neg (show ¬ (10 : Int32) ≤ nI i from nI_ge (b := 10) (by omega) (by decide)), bit_if hT (by omega), lvF_step (sA σ1 100) T wk (show i < 10 by omega), lvF_step (sA σ1 101) T who (show i < 10 by omega)]
      by_cases hb : T.testBit i = true
      · rw [if_pos hb, if_pos hb, if_pos hb, ck_n (by omega) (by decide), nm_eq, ck_n (by omega) (by decide), nm_eq, nm_eq, nI_1, nI_clamp (by omega), ih n (i + 1) _ (by omega) (by omega)]
        have e1 : sA (uA (uA σ1 100 (upd (sA σ1 100) i wk)) 101 (upd (sA (uA σ1 100 (upd (sA σ1 100) i wk)) 101) i who)) 100 = upd (sA σ1 100) i wk := rfl
        have e2 : sA (uA (uA σ1 100 (upd (sA σ1 100) i wk)) 101 (upd (sA (uA σ1 100 (upd (sA σ1 100) i wk)) 101) i who)) 101 = upd (sA σ1 101) i who := rfl
        rw [e1, e2]
        rw [uA_4]
      · rw [if_neg hb, if_neg hb, if_neg hb, nm_eq, nI_1, ih n (i + 1) _ (by omega) (by omega)]
  have h := hl 10 FU 0 (uI σ 1589 (nI (dif A T))) (by unfold FU; omega) rfl
  have e0 : nI 0 = (0 : Int32) := rfl
  rw [e0] at h
  unfold F_X2_leave
  rw [hA, dif_n, nm_eq2, nm_eq2, h]
  rfl
theorem R_go {T Aw : Nat} (hT : T < 2 ^ 31) (wk who : Int32) {τ : xS} (h41 : sI τ 41 = nI Aw) : F_X12_go (nI T) wk who τ = some ((), uI (uA (uA τ 42 (lvF (sA τ 42) T wk 0)) 43 (lvF (sA τ 43) T who 0)) 41 (nI (Aw ||| T))) := by
  have hl : ∀ m n i (τ1 : xS), m < n → i + m = 10 → sI τ1 41 = nI Aw → F_X12_go_3 n (nI T) wk who (nI i) τ1 = some ((), uI (uA (uA τ1 42 (lvF (sA τ1 42) T wk i)) 43 (lvF (sA τ1 43) T who i)) 41 (nI (Aw ||| T))) := by
    intro m
    induction m with
    | zero =>
      intro n i τ1 hn hi h1
      obtain ⟨n, rfl⟩ : ∃ q, n = q + 1 := ⟨n - 1, by omega⟩
      obtain rfl : i = 10 := by omega
      rw [F_X12_go_3, if_pos (show (10 : Int32) ≤ nI 10 from nI_le (a := 10) (by omega) (by omega)), lvF_10, lvF_10, uA_self, uA_self, h1, or_n, nm_eq]
    | succ m ih =>
      intro n i τ1 hn hi h1
      obtain ⟨n, rfl⟩ : ∃ q, n = q + 1 := ⟨n - 1, by omega⟩
      rw [F_X12_go_3, if_neg (show ¬ (10 : Int32) ≤ nI i from nI_ge (b := 10) (by omega) (by decide)), R_is hT (by omega), bd_eq, ib2, lvF_step (sA τ1 42) T wk (show i < 10 by omega), lvF_step (sA τ1 43) T who (show i < 10 by omega)]
      by_cases hb : T.testBit i = true
      · rw [if_pos hb, if_pos hb, if_pos hb, ck_n (by omega) (by decide), nm_eq, ck_n (by omega) (by decide), nm_eq, nm_eq, nI_1, nI_clamp (by omega), ih n (i + 1) (uA (uA τ1 42 (upd (sA τ1 42) i wk)) 43 (upd (sA (uA τ1 42 (upd (sA τ1 42) i wk)) 43) i who)) (by omega) (by omega) h1]
        have e1 : sA (uA (uA τ1 42 (upd (sA τ1 42) i wk)) 43 (upd (sA (uA τ1 42 (upd (sA τ1 42) i wk)) 43) i who)) 42 = upd (sA τ1 42) i wk := rfl
        have e2 : sA (uA (uA τ1 42 (upd (sA τ1 42) i wk)) 43 (upd (sA (uA τ1 42 (upd (sA τ1 42) i wk)) 43) i who)) 43 = upd (sA τ1 43) i who := rfl
        rw [e1, e2]
        rw [uA_4]
      · rw [if_neg hb, if_neg hb, if_neg hb, nm_eq, nI_1, ih n (i + 1) _ (by omega) (by omega) h1]
  have h := hl 10 FU 0 τ (by unfold FU; omega) rfl h41
  have e0 : nI 0 = (0 : Int32) := rfl
  rw [e0] at h
  unfold F_X12_go
  rw [nm_eq2]
  exact h
/-! ===== how many the table draws in ===== -/
def plN (τ : xS) (b : Nat) : Nat := (sA τ 3 (13 + 5 * b + 4)).toNatClampNeg
theorem pl_ok {σ τ : xS} (hS : SimSt σ τ) {b : Nat} (hb : b < 10) : plN τ b ≤ 2 ∧ sA τ 3 (13 + 5 * b + 4) = nI (plN τ b) := by
  obtain ⟨k, v, a, p, l, -, -, -, -, h2, -, -, -, -, e2⟩ := cell_bk hS hb
  unfold plN
  rw [e2, nI_clamp (by omega)]
  exact ⟨h2, rfl⟩
def crN (τ : xS) (A : Nat) (lt : Int32) : Nat → Nat
  | 0 => 0
  | m + 1 => crN τ A lt m + (if plN τ m = 1 ∧ A.testBit m = true then drN τ m lt else 0)
theorem C_crowd {σ0 τ : xS} (hS0 : SimSt σ0 τ) {c : Nat} (e1 : sI σ0 131 = nI c) (hc : c ≤ 10) {A : Nat} (hA : A < 2 ^ c) (lt : Int32) {σ : xS} (hK : KW σ0 σ) (h89 : sI σ 1589 = nI A) : ∃ σ', F_X2_crowdIn lt σ = some (nI (crN τ A lt c), σ') ∧ frX σ σ' := by
  have hA2 : A < 2 ^ 31 := Nat.lt_of_lt_of_le hA (Nat.le_trans (pow_le c (by omega)) (by decide))
  have hl : ∀ m n i (σ1 : xS), m < n → i + m = c → frX σ σ1 → ∃ σ', F_X2_crowdIn_4 n lt (nI (crN τ A lt i)) (nI i) σ1 = some (nI (crN τ A lt c), σ') ∧ frX σ σ' := by
    intro m
    induction m with
    | zero =>
      intro n i σ1 hn hi hX
      obtain ⟨n, rfl⟩ : ∃ q, n = q + 1 := ⟨n - 1, by omega⟩
      obtain rfl : i = c := by omega
      have e1' : sI σ1 131 = nI i := ((KW_trans hK (KW_X hX)).2.1 131 (by decide)).trans e1
      rw [F_X2_crowdIn_4, e1', if_pos (nI_le (by omega) (by omega))]
      exact ⟨σ1, rfl, hX⟩
    | succ m ih =>
      intro n i σ1 hn hi hX
      obtain ⟨n, rfl⟩ : ∃ q, n = q + 1 := ⟨n - 1, by omega⟩
      have hKW := KW_trans hK (KW_X hX)
      have e1' : sI σ1 131 = nI c := (hKW.2.1 131 (by decide)).trans e1
      have h89' : sI σ1 1589 = nI A := (hX.2.1 1589 (by decide)).trans h89
      have hS1 : SimSt σ1 τ := SimSt_W hS0 hKW rfl
      have g : F_X6_get 0 (nI i) 4 σ1 = some (sA σ1 9 (i * 5 + 4), σ1) := C_getY (r := 0) (w := 4) e1' (show c ≤ 10 from hc) (by omega) (by decide)
      obtain ⟨p1, p2⟩ := pl_ok hS1 (b := i) (by omega)
      rw [F_X2_crowdIn_4, e1', if_neg (nI_ge (by omega) (by omega)), h89', bit_if hA2 (by omega)]
      have hno : (¬ (plN τ i = 1 ∧ A.testBit i = true)) → ∃ σ', F_X2_crowdIn_4 n lt (nI (crN τ A lt i)) (nI (i + 1)) σ1 = some (nI (crN τ A lt c), σ') ∧ frX σ σ' := by
        intro hq
        have := ih n (i + 1) σ1 (by omega) (by omega) hX
        rw [crN, if_neg hq, Nat.add_zero] at this
        exact this
      by_cases hb : A.testBit i = true
      · rw [if_pos hb, g, bd_eq, cell_book hS1 (by omega) (by decide), p2]
        by_cases hp : plN τ i = 1
        · obtain ⟨d1, σ2, W, d2, d3⟩ := dr_C hS1 e1' hc (b := i) (by omega) lt
          rw [hp, if_pos (show nI 1 = 1 from rfl), d2, bd_eq, nm_eq, nm_eq, nI_1, nI_add]
          have := ih n (i + 1) σ2 (by omega) (by omega) (frX_trans hX (frX_trans (frX_A σ1 W (Or.inl rfl)) (frX_S d3)))
          rw [crN, if_pos ⟨hp, hb⟩] at this
          exact this
        · rw [if_neg (show ¬ nI (plN τ i) = 1 from nI_ne (b := 1) (by omega) (by decide) hp), nm_eq, nI_1]
          exact hno (fun q => hp q.1)
      · rw [if_neg hb, nm_eq, nI_1]
        exact hno (fun q => hb q.2)
  have h := hl c FU 0 σ (by unfold FU; omega) (by omega) (frX_refl σ)
  have e0 : nI 0 = (0 : Int32) := rfl
  rw [show crN τ A lt 0 = 0 from rfl, e0] at h
  unfold F_X2_crowdIn
  rw [nm_eq2, nm_eq2]
  exact h
theorem R_crowd {σ0 τ0 : xS} (hS0 : SimSt σ0 τ0) {c : Nat} (e2 : sA τ0 3 0 = nI c) (hc : c ≤ 10) {A Aw : Nat} (hAw : Aw < 2 ^ c) (hA : ∀ j, j < c → A.testBit j = !Aw.testBit j) {τ : xS} (h3 : sA τ 3 = sA τ0 3) (h41 : sI τ 41 = nI Aw) : ∃ τ', F_X12_tableCrowd τ = some (nI (crN τ0 A (sI τ 34) c), τ') ∧ frV τ τ' := by
  have hA2 : Aw < 2 ^ 31 := Nat.lt_of_lt_of_le hAw (Nat.le_trans (pow_le c (by omega)) (by decide))
  have hl : ∀ m n i (τ1 : xS), m < n → i + m = c → frV τ τ1 → ∃ τ', F_X12_tableCrowd_4 n (nI (crN τ0 A (sI τ 34) i)) (nI i) τ1 = some (nI (crN τ0 A (sI τ 34) c), τ') ∧ frV τ τ' := by
    intro m
    induction m with
    | zero =>
      intro n i τ1 hn hi hV
      obtain ⟨n, rfl⟩ : ∃ q, n = q + 1 := ⟨n - 1, by omega⟩
      obtain rfl : i = c := by omega
      rw [F_X12_tableCrowd_4, rdL0, hV.1 3, h3, e2, if_pos (nI_le (by omega) (by omega))]
      exact ⟨τ1, rfl, hV⟩
    | succ m ih =>
      intro n i τ1 hn hi hV
      obtain ⟨n, rfl⟩ : ∃ q, n = q + 1 := ⟨n - 1, by omega⟩
      have h3' : sA τ1 3 = sA τ0 3 := (hV.1 3).trans h3
      have h41' : sI τ1 41 = nI Aw := (hV.2.1 41 (by decide) (by decide) (by decide) (by decide)).trans h41
      obtain ⟨p1, p2⟩ := pl_ok hS0 (b := i) (by omega)
      have hof : F_X12_ofBook (nI i) 4 τ1 = some (nI (plN τ0 i), τ1) := by
        rw [show F_X12_ofBook (nI i) 4 τ1 = _ from R_ofBook (i := i) (w := 4) (by omega) (by decide) τ1, h3', p2]
      rw [F_X12_tableCrowd_4, rdL0, h3', e2, if_neg (nI_ge (by omega) (by omega)), hof, bd_eq]
      have hno : (¬ (plN τ0 i = 1 ∧ A.testBit i = true)) → ∃ τ', F_X12_tableCrowd_44 (F_X12_tableCrowd_4 n) (nI i) (nI (crN τ0 A (sI τ 34) i)) τ1 = some (nI (crN τ0 A (sI τ 34) c), τ') ∧ frV τ τ' := by
        intro hq
        have := ih n (i + 1) τ1 (by omega) (by omega) hV
        rw [crN, if_neg hq] at this
        unfold F_X12_tableCrowd_44 F_X12_tableCrowd_45
        rw [nm_eq, nm_eq, nI_1, show nI (crN τ0 A (sI τ 34) i) + 0 = nI (crN τ0 A (sI τ 34) i + 0) from nI_add _ 0]
        exact this
      by_cases hp : plN τ0 i = 1
      · rw [hp, if_pos (show nI 1 = 1 from rfl), h41', R_is hA2 (by omega), bd_eq, ib2]
        by_cases hb : Aw.testBit i = true
        · rw [if_pos hb]
          exact hno (fun q => by rw [hA i (by omega), hb] at q; exact Bool.noConfusion q.2)
        · obtain ⟨τ2, d1, d2⟩ := dr_R hS0 (b := i) (by omega) h3'
          rw [hV.2.1 34 (by decide) (by decide) (by decide) (by decide)] at d1
          rw [if_neg hb, d1, bd_eq]
          unfold F_X12_tableCrowd_45
          rw [nm_eq, nm_eq, nI_1, nI_add]
          have := ih n (i + 1) τ2 (by omega) (by omega) (frV_trans hV (frV_trans (frV_trans (frV_I τ1 _ (Or.inl rfl)) (frV_I _ _ (Or.inr rfl))) (frV_T d2)))
          rw [crN, if_pos ⟨hp, by rw [hA i (by omega), Bool.eq_false_iff.mpr hb]; rfl⟩] at this
          exact this
      · rw [if_neg (show ¬ nI (plN τ0 i) = 1 from nI_ne (b := 1) (by omega) (by decide) hp)]
        exact hno (fun q => hp q.1)
  have h := hl c FU 0 τ (by unfold FU; omega) (by omega) (frV_refl τ)
  have e0 : nI 0 = (0 : Int32) := rfl
  rw [show crN τ0 A (sI τ 34) 0 = 0 from rfl, e0] at h
  unfold F_X12_tableCrowd
  rw [nm_eq2, nm_eq2]
  exact h
end
