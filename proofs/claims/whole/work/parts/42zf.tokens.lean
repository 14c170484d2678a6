section
/-! ===== the tokens of a tape ===== -/
def isL (c : Nat) : Bool := decide (97 ≤ c ∧ c ≤ 122)
def isD (c : Nat) : Bool := decide (48 ≤ c ∧ c ≤ 57)
def skp (g : Nat → Nat) : Nat → Nat → Nat
  | 0, p => p
  | m + 1, p => if g p = 32 then skp g m (p + 1) else p
def runT (P : Nat → Bool) (g : Nat → Nat) : Nat → Nat → Nat
  | 0, p => p
  | m + 1, p => if P (g p) = true then runT P g m (p + 1) else p
def tkP (g : Nat → Nat) (T p : Nat) : Nat := skp g (T - p) p
def endT (g : Nat → Nat) (T q : Nat) : Nat := if T ≤ q then q else if isL (g q) = true then runT isL g (T - (q + 1)) (q + 1) else if isD (g q) = true then runT isD g (T - (q + 1)) (q + 1) else q + 1
theorem skp_le (g : Nat → Nat) (m : Nat) : ∀ p, p ≤ skp g m p ∧ skp g m p ≤ p + m := by
  induction m with
  | zero =>
    intro p
    exact ⟨Nat.le_refl _, Nat.le_refl _⟩
  | succ m ih =>
    intro p
    rw [skp]
    split
    · have := ih (p + 1)
      omega
    · omega
theorem run_le (P : Nat → Bool) (g : Nat → Nat) (m : Nat) : ∀ p, p ≤ runT P g m p ∧ runT P g m p ≤ p + m := by
  induction m with
  | zero =>
    intro p
    exact ⟨Nat.le_refl _, Nat.le_refl _⟩
  | succ m ih =>
    intro p
    rw [runT]
    split
    · have := ih (p + 1)
      omega
    · omega
theorem tkP_le {g : Nat → Nat} {T p : Nat} (h : p ≤ T) : p ≤ tkP g T p ∧ tkP g T p ≤ T := by
  have := skp_le g (T - p) p
  unfold tkP
  omega
theorem endT_le {g : Nat → Nat} {T q : Nat} (h : q < T) : q + 1 ≤ endT g T q ∧ endT g T q ≤ T := by
  unfold endT
  rw [if_neg (by omega)]
  have h1 := run_le isL g (T - (q + 1)) (q + 1)
  have h2 := run_le isD g (T - (q + 1)) (q + 1)
  split
  · omega
  · split
    · omega
    · omega
/-- the numbers, as the class and as the reference read them -/
def nmC (g : Nat → Nat) : Nat → Nat → Nat → Nat
  | 0, _, v => v
  | m + 1, p, v => nmC g m (p + 1) (min (10 * v + (g p - 48)) 1001)
def nmR (g : Nat → Nat) : Nat → Nat → Nat → Nat
  | 0, _, v => v
  | m + 1, p, v => nmR g m (p + 1) (if v ≤ 1000000 then 10 * v + (g p - 48) else v)
/-- the letters of a word in base 32 -/
def hvN (g : Nat → Nat) (q : Nat) : Nat → Nat
  | 0 => 0
  | m + 1 => hvN g q m * 32 + (g (q + m) - 96)
def wcN (j : Nat) : Nat := (wCh j).toNatClampNeg
theorem wc_ok : ∀ j, j < 90 → wCh j = nI (wcN j) := by decide +kernel
def mtc (g : Nat → Nat) (q L w i : Nat) : Prop := ∀ k, i ≤ k → k < 5 → (if k < L then g (q + k) else 32) = wcN (w * 5 + k)
def fwd (g : Nat → Nat) (q L : Nat) : Nat → Nat → Nat
  | 0, _ => 275
  | m + 1, x => if (if 0 < L then g (q + 0) else 32) = wcN (x * 5 + 0) ∧ (if 1 < L then g (q + 1) else 32) = wcN (x * 5 + 1) ∧ (if 2 < L then g (q + 2) else 32) = wcN (x * 5 + 2) ∧ (if 3 < L then g (q + 3) else 32) = wcN (x * 5 + 3) ∧ (if 4 < L then g (q + 4) else 32) = wcN (x * 5 + 4) then 256 + x else fwd g q L m (x + 1)
def tkK (g : Nat → Nat) (T q : Nat) : Nat := if T ≤ q then 276 else if isD (g q) = true then 274 else if isL (g q) = true then (if 5 < endT g T q - q then 275 else fwd g q (endT g T q - q) 18 0) else g q
def tkN (g : Nat → Nat) (T q : Nat) : Nat := if T ≤ q then 0 else if isD (g q) = true then nmC g (endT g T q - q) q 0 else 0
/-- the places of the tokens -/
def sqT (g : Nat → Nat) (T : Nat) : Nat → Nat
  | 0 => 0
  | k + 1 => endT g T (tkP g T (sqT g T k))
def plT (g : Nat → Nat) (T k : Nat) : Nat := tkP g T (sqT g T k)
/-- what a tape is -/
def TpC (g : Nat → Nat) (T : Nat) (σ : xS) : Prop := T ≤ 400 ∧ ∀ j, j < 400 → sA σ 3 j = nI (g j) ∧ g j ≤ 255
theorem C_isL {c : Nat} (hc : c ≤ 255) (σ : xS) : F_X9_isLetter (nI c) σ = some (b2 (isL c = true), σ) := by
  unfold F_X9_isLetter isL
  by_cases h1 : c < 97
  · rw [if_pos (show nI c < (97 : Int32) from nI_lt (b := 97) h1 (by decide)), cz_0, b2_0.mpr (by rw [decide_eq_true_iff]; omega)]
  · rw [if_neg (show ¬ nI c < (97 : Int32) from nI_nlt (b := 97) (by omega) (by omega))]
    by_cases h2 : 122 < c
    · rw [if_pos (show (122 : Int32) < nI c from nI_lt (a := 122) h2 (by omega)), cz_0, b2_0.mpr (by rw [decide_eq_true_iff]; omega)]
    · rw [if_neg (show ¬ (122 : Int32) < nI c from nI_nlt (a := 122) (by omega) (by omega)), cz_1, b2_1.mpr (by rw [decide_eq_true_iff]; omega)]
theorem C_isD {c : Nat} (hc : c ≤ 255) (σ : xS) : F_X9_isDigit (nI c) σ = some (b2 (isD c = true), σ) := by
  unfold F_X9_isDigit isD
  by_cases h1 : c < 48
  · rw [if_pos (show nI c < (48 : Int32) from nI_lt (b := 48) h1 (by decide)), cz_0, b2_0.mpr (by rw [decide_eq_true_iff]; omega)]
  · rw [if_neg (show ¬ nI c < (48 : Int32) from nI_nlt (b := 48) (by omega) (by omega))]
    by_cases h2 : 57 < c
    · rw [if_pos (show (57 : Int32) < nI c from nI_lt (a := 57) h2 (by omega)), cz_0, b2_0.mpr (by rw [decide_eq_true_iff]; omega)]
    · rw [if_neg (show ¬ (57 : Int32) < nI c from nI_nlt (a := 57) (by omega) (by omega)), cz_1, b2_1.mpr (by rw [decide_eq_true_iff]; omega)]
theorem R_isL {c : Nat} (hc : c ≤ 255) (σ : xS) : F_X12_isSmall (nI c) σ = some (b2 (isL c = true), σ) := C_isL hc σ
theorem R_isD {c : Nat} (hc : c ≤ 255) (σ : xS) : F_X12_isDigit (nI c) σ = some (b2 (isD c = true), σ) := C_isD hc σ
theorem notLD {c : Nat} (h : isL c = true) : isD c = false := by
  unfold isL at h
  unfold isD
  have := of_decide_eq_true h
  exact decide_eq_false (by omega)
theorem C_endOf {g : Nat → Nat} {T q : Nat} {σ : xS} (hT : TpC g T σ) (hq : q < T) : F_X9_endOfRow (nI q) (nI T) σ = some (nI (endT g T q), σ) := by
  obtain ⟨t1, t2⟩ := hT
  obtain ⟨q1, q2⟩ := t2 q (by omega)
  have hloop : ∀ (P : Nat → Bool) (y3 y4 : Int32), ((y3 = 1 ∧ y4 = 0 ∧ P = isL) ∨ (y3 = 0 ∧ y4 = 1 ∧ P = isD) ∨ (y3 = 0 ∧ y4 = 0 ∧ P = fun _ => false)) → ∀ m n p, m < n → p + m = T → F_X9_endOfRow_20 n (nI T) y3 y4 (nI p) σ = some (nI (runT P g m p), σ) := by
    intro P y3 y4 hP m
    induction m with
    | zero =>
      intro n p hn hp
      obtain ⟨n, rfl⟩ : ∃ q, n = q + 1 := ⟨n - 1, by omega⟩
      rw [F_X9_endOfRow_20, if_pos (nI_le (by omega) (by omega)), runT]
    | succ m ih =>
      intro n p hn hp
      obtain ⟨n, rfl⟩ : ∃ q, n = q + 1 := ⟨n - 1, by omega⟩
      obtain ⟨p1, p2⟩ := t2 p (by omega)
      have hnext := ih n (p + 1) (by omega) (by omega)
      rw [F_X9_endOfRow_20, if_neg (nI_ge (by omega) (by omega)), runT]
      unfold F_X9_endOfRow_40
      rcases hP with ⟨rfl, rfl, rfl⟩ | ⟨rfl, rfl, rfl⟩ | ⟨rfl, rfl, rfl⟩
      · rw [if_neg (by decide), rd_n (by omega) (by decide), p1, C_isL p2, bd_eq, ib2]
        by_cases hb : isL (g p) = true
        · rw [if_pos hb, if_pos hb, nm_eq, nI_1]
          exact hnext
        · rw [if_neg hb, if_neg hb, if_pos rfl]
      · rw [if_pos rfl, if_neg (by decide), rd_n (by omega) (by decide), p1, C_isD p2, bd_eq, ib2]
        by_cases hb : isD (g p) = true
        · rw [if_pos hb, if_pos hb, nm_eq, nI_1]
          exact hnext
        · rw [if_neg hb, if_neg hb]
      · rw [if_pos rfl, if_pos rfl, if_neg (show ¬ (fun _ : Nat => false) (g p) = true from fun q => Bool.noConfusion q)]
  unfold F_X9_endOfRow endT
  rw [rd_n (by omega) (by decide), q1, C_isL q2, bd_eq, rd_n (by omega) (by decide), q1, C_isD q2, bd_eq, nm_eq, nI_1, if_neg (show ¬ T ≤ q by omega)]
  have hst := fun P y3 y4 hP => hloop P y3 y4 hP (T - (q + 1)) FU (q + 1) (by unfold FU; omega) (by omega)
  by_cases hl : isL (g q) = true
  · have hd := notLD hl
    rw [if_pos hl]
    exact hst isL _ _ (Or.inl ⟨b2_1.mpr hl, b2_0.mpr (by rw [hd]; decide), rfl⟩)
  · rw [if_neg hl]
    by_cases hd : isD (g q) = true
    · rw [if_pos hd]
      exact hst isD _ _ (Or.inr (Or.inl ⟨b2_0.mpr hl, b2_1.mpr hd, rfl⟩))
    · rw [if_neg hd]
      have h := hst (fun _ => false) _ _ (Or.inr (Or.inr ⟨b2_0.mpr hl, b2_0.mpr hd, rfl⟩))
      rw [h]
      have : runT (fun _ => false) g (T - (q + 1)) (q + 1) = q + 1 := by
        cases T - (q + 1) with
        | zero => rfl
        | succ m => rw [runT, if_neg (by decide)]
      rw [this]
theorem C_num {g : Nat → Nat} {T : Nat} {σ : xS} (hT : TpC g T σ) {e : Nat} (he : e ≤ 400) (m : Nat) : ∀ (n p v : Nat), m < n → p + m = e → v ≤ 1001 → (∀ j, p ≤ j → j < e → 48 ≤ g j) → F_X9_numberOf_5 n (nI e) (nI v) (nI p) σ = some (nI (nmC g m p v), σ) := by
  induction m with
  | zero =>
    intro n p v hn hp hv hg
    obtain ⟨n, rfl⟩ : ∃ q, n = q + 1 := ⟨n - 1, by omega⟩
    rw [F_X9_numberOf_5, if_pos (nI_le (by omega) (by omega)), nmC]
  | succ m ih =>
    intro n p v hn hp hv hg
    obtain ⟨n, rfl⟩ : ∃ q, n = q + 1 := ⟨n - 1, by omega⟩
    obtain ⟨p1, p2⟩ := hT.2 p (by omega)
    have h48 := hg p (Nat.le_refl _) (by omega)
    have ex : nI v * 10 + nI (g p) - 48 = nI (10 * v + (g p - 48)) := by
      rw [show nI v * 10 = nI (v * 10) from pk_mul v 10, nI_add, show (48 : Int32) = nI 48 from rfl, pk_sub (by omega), show v * 10 + g p - 48 = 10 * v + (g p - 48) by omega]
    have em : mnI (nI (10 * v + (g p - 48))) 1001 = nI (min (10 * v + (g p - 48)) 1001) := mnI_n (b := 1001) (by omega) (by decide)
    rw [F_X9_numberOf_5, if_neg (nI_ge (by omega) (by omega)), rd_n (by omega) (by decide), p1, nm_eq, ex, em, nm_eq, nI_1, nmC]
    exact ih n (p + 1) _ (by omega) (by omega) (by omega) (fun j h1 h2 => hg j (by omega) h2)
theorem C_isW {g : Nat → Nat} {T : Nat} {σ : xS} (hT : TpC g T σ) {q L x : Nat} (hqL : q + L ≤ 400) (hx : x < 18) (m : Nat) : ∀ (n i : Nat), m < n → i + m = 5 → ∃ r : Int32, F_X9_isWord_2 n (nI x) (nI q) (nI (q + L)) (nI i) σ = some (r, σ) ∧ ((r = 1 ∧ mtc g q L x i) ∨ (r = 0 ∧ ¬ mtc g q L x i)) := by
  induction m with
  | zero =>
    intro n i hn hi
    obtain ⟨n, rfl⟩ : ∃ q, n = q + 1 := ⟨n - 1, by omega⟩
    rw [F_X9_isWord_2, if_pos (show (5 : Int32) ≤ nI i from nI_le (a := 5) (by omega) (by omega)), cz_1]
    exact ⟨1, rfl, Or.inl ⟨rfl, fun k h1 h2 => by omega⟩⟩
  | succ m ih =>
    intro n i hn hi
    obtain ⟨n, rfl⟩ : ∃ q, n = q + 1 := ⟨n - 1, by omega⟩
    have ex : nI x * 5 + nI i = nI (x * 5 + i) := by
      rw [show nI x * 5 = nI (x * 5) from pk_mul x 5, nI_add]
    have hw := wc_ok (x * 5 + i) (by omega)
    have hwb : wcN (x * 5 + i) < 2 ^ 31 := by
      have : ∀ j, j < 90 → wcN j < 2 ^ 31 := by decide +kernel
      exact this _ (by omega)
    obtain ⟨r, r1, r2⟩ := ih n (i + 1) (by omega) (by omega)
    have hcons : ((if i < L then g (q + i) else 32) = wcN (x * 5 + i)) → (mtc g q L x (i + 1) ↔ mtc g q L x i) := by
      intro h0
      constructor
      · intro h k h1 h2
        by_cases e : k = i
        · rw [e]
          exact h0
        · exact h k (by omega) h2
      · intro h k h1 h2
        exact h k (by omega) h2
    have hyes : ((if i < L then g (q + i) else 32) = wcN (x * 5 + i)) → ∃ r : Int32, F_X9_isWord_2 n (nI x) (nI q) (nI (q + L)) (nI (i + 1)) σ = some (r, σ) ∧ ((r = 1 ∧ mtc g q L x i) ∨ (r = 0 ∧ ¬ mtc g q L x i)) := by
      intro h0
      refine ⟨r, r1, ?_⟩
      rw [← hcons h0]
      exact r2
    rw [F_X9_isWord_2, if_neg (show ¬ (5 : Int32) ≤ nI i from nI_ge (b := 5) (by omega) (by decide)), nI_add, ex]
    by_cases hl : i < L
    · obtain ⟨p1, p2⟩ := hT.2 (q + i) (by omega)
      rw [if_neg (nI_ge (by omega) (by omega)), rd_n (by omega) (by decide), p1, rd_n (by omega) (by decide), hw]
      rw [if_pos hl] at hyes
      by_cases he : g (q + i) = wcN (x * 5 + i)
      · rw [if_pos (by rw [he]), nm_eq, nI_1]
        exact hyes he
      · rw [if_neg (nI_ne (by omega) hwb he), cz_0]
        refine ⟨0, rfl, Or.inr ⟨rfl, fun q2 => he ?_⟩⟩
        have := q2 i (Nat.le_refl _) (by omega)
        rw [if_pos hl] at this
        exact this
    · rw [if_pos (nI_le (by omega) (by omega)), rd_n (by omega) (by decide), hw]
      rw [if_neg hl] at hyes
      by_cases he : 32 = wcN (x * 5 + i)
      · rw [if_pos (show (32 : Int32) = nI (wcN (x * 5 + i)) by rw [← he]; rfl), nm_eq, nI_1]
        exact hyes he
      · rw [if_neg (show ¬ (32 : Int32) = nI (wcN (x * 5 + i)) from nI_ne (a := 32) (by decide) hwb he), cz_0]
        refine ⟨0, rfl, Or.inr ⟨rfl, fun q2 => he ?_⟩⟩
        have := q2 i (Nat.le_refl _) (by omega)
        rw [if_neg hl] at this
        exact this
theorem mtc_iff (g : Nat → Nat) (q L x : Nat) : mtc g q L x 0 ↔ ((if 0 < L then g (q + 0) else 32) = wcN (x * 5 + 0) ∧ (if 1 < L then g (q + 1) else 32) = wcN (x * 5 + 1) ∧ (if 2 < L then g (q + 2) else 32) = wcN (x * 5 + 2) ∧ (if 3 < L then g (q + 3) else 32) = wcN (x * 5 + 3) ∧ (if 4 < L then g (q + 4) else 32) = wcN (x * 5 + 4)) := by
  constructor
  · intro h
    exact ⟨h 0 (by decide) (by decide), h 1 (by decide) (by decide), h 2 (by decide) (by decide), h 3 (by decide) (by decide), h 4 (by decide) (by decide)⟩
  · intro ⟨h0, h1, h2, h3, h4⟩ k _ hk
    rcases (show k = 0 ∨ k = 1 ∨ k = 2 ∨ k = 3 ∨ k = 4 by omega) with rfl | rfl | rfl | rfl | rfl
    · exact h0
    · exact h1
    · exact h2
    · exact h3
    · exact h4
theorem C_word {g : Nat → Nat} {T : Nat} {σ : xS} (hT : TpC g T σ) {q L : Nat} (hqL : q + L ≤ 400) : F_X9_wordOf (nI q) (nI (q + L)) σ = some (nI (if 5 < L then 275 else fwd g q L 18 0), σ) := by
  have eL : nI (q + L) - nI q = nI L := by rw [pk_sub (by omega), show q + L - q = L by omega]
  have e0 : nI 0 = (0 : Int32) := rfl
  have hl : ∀ m n x, m < n → x + m = 18 → F_X9_wordOf_2 n (nI q) (nI (q + L)) (nI x) σ = some (nI (if 5 < L then 275 else fwd g q L m x), σ) := by
    intro m
    induction m with
    | zero =>
      intro n x hn hx
      obtain ⟨n, rfl⟩ : ∃ q, n = q + 1 := ⟨n - 1, by omega⟩
      rw [F_X9_wordOf_2, if_pos (show (18 : Int32) ≤ nI x from nI_le (a := 18) (by omega) (by omega)), fwd]
      split <;> rfl
    | succ m ih =>
      intro n x hn hx
      obtain ⟨n, rfl⟩ : ∃ q, n = q + 1 := ⟨n - 1, by omega⟩
      rw [F_X9_wordOf_2, if_neg (show ¬ (18 : Int32) ≤ nI x from nI_ge (b := 18) (by omega) (by decide)), eL]
      by_cases h5 : 5 < L
      · rw [if_pos (show (5 : Int32) < nI L from nI_lt (a := 5) h5 (by omega)), if_pos h5]
        rfl
      · obtain ⟨r, r1, r2⟩ := C_isW hT hqL (x := x) (by omega) 5 FU 0 (by unfold FU; omega) rfl
        rw [e0] at r1
        have r1' : F_X9_isWord (nI x) (nI q) (nI (q + L)) σ = some (r, σ) := r1
        have hnext := ih n (x + 1) (by omega) (by omega)
        rw [if_neg h5] at hnext
        rw [if_neg (show ¬ (5 : Int32) < nI L from nI_nlt (a := 5) (by omega) (by omega)), if_neg h5, r1', bd_eq, fwd]
        rw [mtc_iff] at r2
        rcases r2 with ⟨a1, a2⟩ | ⟨a1, a2⟩
        · rw [a1, if_neg (by decide), if_pos a2]
          exact congrArg (fun z => some (z, σ)) (nI_add 256 x)
        · rw [a1, if_pos rfl, if_neg a2, nm_eq, nI_1]
          exact hnext
  have h := hl 18 FU 0 (by unfold FU; omega) rfl
  rw [e0] at h
  unfold F_X9_wordOf
  rw [nm_eq]
  exact h
theorem run_all (P : Nat → Bool) (g : Nat → Nat) (m : Nat) : ∀ p j, p ≤ j → j < runT P g m p → P (g j) = true := by
  induction m with
  | zero =>
    intro p j h1 h2
    rw [runT] at h2
    omega
  | succ m ih =>
    intro p j h1 h2
    rw [runT] at h2
    split at h2
    · rename_i hb
      by_cases e : j = p
      · rw [e]
        exact hb
      · exact ih (p + 1) j (by omega) h2
    · omega
theorem end_dig {g : Nat → Nat} {T q : Nat} (hq : q < T) (hd : isD (g q) = true) : ∀ j, q ≤ j → j < endT g T q → isD (g j) = true := by
  intro j h1 h2
  unfold endT at h2
  have hl : ¬ isL (g q) = true := fun h => by rw [notLD h] at hd; exact Bool.noConfusion hd
  rw [if_neg (by omega), if_neg hl, if_pos hd] at h2
  by_cases e : j = q
  · rw [e]
    exact hd
  · exact run_all isD g _ (q + 1) j (by omega) h2
theorem end_let {g : Nat → Nat} {T q : Nat} (hq : q < T) (hl : isL (g q) = true) : ∀ j, q ≤ j → j < endT g T q → isL (g j) = true := by
  intro j h1 h2
  unfold endT at h2
  rw [if_neg (by omega), if_pos hl] at h2
  by_cases e : j = q
  · rw [e]
    exact hl
  · exact run_all isL g _ (q + 1) j (by omega) h2
/-- the class's tokens -/
def TA (g : Nat → Nat) (T C : Nat) (σ : xS) : Prop := sI σ 819 = nI (C + 1) ∧ ∀ j, j ≤ C → sA σ 52 j = nI (tkK g T (plT g T j)) ∧ sA σ 53 j = nI (plT g T j) ∧ sA σ 54 j = nI (tkN g T (plT g T j))
theorem C_add {σ : xS} {k : Nat} (hk : k ≤ 400) (h : sI σ 819 = nI k) (a b c : Int32) : F_X9_add a b c σ = some ((), uI (uA (uA (uA σ 52 (upd (sA σ 52) k a)) 53 (upd (sA σ 53) k b)) 54 (upd (sA σ 54) k c)) 819 (nI (k + 1))) := by
  have e1 : ∀ f, sI (uA σ 52 f) 819 = nI k := fun f => h
  have e2 : ∀ f f2, sI (uA (uA σ 52 f) 53 f2) 819 = nI k := fun f f2 => h
  unfold F_X9_add
  rw [h, if_neg (show ¬ (401 : Int32) ≤ nI k from nI_ge (b := 401) (by omega) (by decide)), ck_n (by omega) (by decide), nm_eq, e1, ck_n (by omega) (by decide), nm_eq, e2, ck_n (by omega) (by decide), nm_eq, nI_clamp (by omega)]
  have e3 : ∀ f f2 f3, sI (uA (uA (uA σ 52 f) 53 f2) 54 f3) 819 + 1 = nI (k + 1) := fun f f2 f3 => by
    show sI σ 819 + 1 = _
    rw [h, nI_1]
  rw [e3, nm_eq]
  rfl
theorem C_cut {g : Nat → Nat} {T : Nat} {σ0 : xS} (hT : TpC g T σ0) (m : Nat) : ∀ (n at' i k : Nat) (σ : xS), m < n → at' + m = T → i ≤ at' → k ≤ at' → KC σ0 σ → sI σ 819 = nI k → tkP g T at' = plT g T k → (∀ j, j < k → plT g T j < T ∧ sA σ 52 j = nI (tkK g T (plT g T j)) ∧ sA σ 53 j = nI (plT g T j) ∧ sA σ 54 j = nI (tkN g T (plT g T j))) → ∃ (C : Nat) (σ' : xS), F_X9_cut_18 n (nI T) (nI at') (nI i) σ = some ((), σ') ∧ KC σ0 σ' ∧ C ≤ T ∧ TA g T C σ' ∧ plT g T C = T ∧ ∀ j, j < C → plT g T j < T := by
  have hT4 := hT.1
  induction m using Nat.strongRecOn with
  | ind m ih =>
    intro n at' i k σ hn hat hi hk hK h819 hP hj
    obtain ⟨n, rfl⟩ : ∃ q, n = q + 1 := ⟨n - 1, by omega⟩
    have hend : T ≤ at' → ∃ (C : Nat) (σ' : xS), F_X9_cut_102 (nI T) σ = some ((), σ') ∧ KC σ0 σ' ∧ C ≤ T ∧ TA g T C σ' ∧ plT g T C = T ∧ ∀ j, j < C → plT g T j < T := by
      intro h
      have hTk : plT g T k = T := by
        rw [← hP]
        unfold tkP
        rw [show T - at' = 0 by omega]
        show at' = T
        omega
      unfold F_X9_cut_102
      rw [C_add (by omega) h819, bd_eq]
      refine ⟨k, _, rfl, KC_trans hK (KC_trans (KC_trans (KC_trans (KC_A σ _ (k := 52) (by decide)) (KC_A _ _ (k := 53) (by decide))) (KC_A _ _ (k := 54) (by decide))) ⟨fun _ _ => rfl, fun k hk => if_neg (by omega), fun _ => rfl, rfl⟩), by omega, ⟨rfl, fun j hj2 => ?_⟩, hTk, fun j hj2 => (hj j hj2).1⟩
      show upd (sA σ 52) k 276 j = _ ∧ upd (sA σ 53) k (nI T) j = _ ∧ upd (sA σ 54) k 0 j = _
      unfold upd
      by_cases e : j = k
      · rw [if_pos e, if_pos e, if_pos e, e, hTk]
        unfold tkK tkN
        rw [if_pos (Nat.le_refl _), if_pos (Nat.le_refl _)]
        exact ⟨rfl, rfl, rfl⟩
      · rw [if_neg e, if_neg e, if_neg e]
        exact (hj j (by omega)).2
    rw [F_X9_cut_18]
    by_cases h400 : 400 ≤ i
    · rw [if_pos (show (400 : Int32) ≤ nI i from nI_le (a := 400) h400 (by omega))]
      exact hend (by omega)
    rw [if_neg (show ¬ (400 : Int32) ≤ nI i from nI_ge (b := 400) (by omega) (by decide))]
    by_cases hTa : T ≤ at'
    · rw [if_pos (nI_le hTa (by omega))]
      exact hend hTa
    rw [if_neg (nI_ge (by omega) (by omega))]
    have hTσ : TpC g T σ := ⟨hT4, fun j hj2 => by rw [hK.1 3 (by decide)]; exact hT.2 j hj2⟩
    obtain ⟨p1, p2⟩ := hTσ.2 at' (by omega)
    rw [rd_n (by omega) (by decide), p1]
    have hsk : tkP g T at' = if g at' = 32 then tkP g T (at' + 1) else at' := by
      unfold tkP
      rw [show T - at' = (T - (at' + 1)) + 1 by omega, skp]
    by_cases h32 : g at' = 32
    · rw [if_pos h32] at hsk
      rw [h32, if_pos (show nI 32 = 32 from rfl), nm_eq, nm_eq, nI_1, nI_1]
      exact ih (m - 1) (by omega) n (at' + 1) (i + 1) k σ (by omega) (by omega) (by omega) (by omega) hK h819 (hsk.symm.trans hP) hj
    · rw [if_neg h32] at hsk
      have hpk : plT g T k = at' := hP.symm.trans hsk
      obtain ⟨en1, en2⟩ := endT_le (g := g) (T := T) (q := at') (by omega)
      have hkind : F_X9_kindOf (nI at') (nI (endT g T at')) σ = some (nI (tkK g T at'), σ) := by
        unfold F_X9_kindOf tkK
        rw [rd_n (by omega) (by decide), p1, C_isD p2, bd_eq, ib2, if_neg hTa]
        by_cases hd : isD (g at') = true
        · rw [if_pos hd, if_pos hd]
          rfl
        · rw [if_neg hd, if_neg hd, rd_n (by omega) (by decide), p1, C_isL p2, bd_eq, ib2]
          by_cases hl : isL (g at') = true
          · have hw := C_word hTσ (q := at') (L := endT g T at' - at') (by omega)
            rw [show at' + (endT g T at' - at') = endT g T at' by omega] at hw
            rw [if_pos hl, if_pos hl, hw, bd_eq]
          · rw [if_neg hl, if_neg hl, rd_n (by omega) (by decide), p1]
      have hfin : ∀ nv, nv = tkN g T at' → ∃ (C : Nat) (σ' : xS), F_X9_cut_89 (F_X9_cut_18 n) (nI T) (nI i) (nI (endT g T at')) (nI (tkK g T at')) (nI at') (nI nv) σ = some ((), σ') ∧ KC σ0 σ' ∧ C ≤ T ∧ TA g T C σ' ∧ plT g T C = T ∧ ∀ j, j < C → plT g T j < T := by
        intro nv hnv
        subst hnv
        unfold F_X9_cut_89
        rw [C_add (by omega) h819, bd_eq, nm_eq, nI_1]
        refine ih (T - endT g T at') (by omega) n (endT g T at') (i + 1) (k + 1) _ (by omega) (by omega) (by omega) (by omega) (KC_trans hK (KC_trans (KC_trans (KC_trans (KC_A σ _ (k := 52) (by decide)) (KC_A _ _ (k := 53) (by decide))) (KC_A _ _ (k := 54) (by decide))) ⟨fun _ _ => rfl, fun k hk => if_neg (by omega), fun _ => rfl, rfl⟩)) rfl ?_ (fun j hj2 => ?_)
        · show _ = tkP g T (endT g T (plT g T k))
          rw [hpk]
        · show plT g T j < T ∧ upd (sA σ 52) k (nI (tkK g T at')) j = _ ∧ upd (sA σ 53) k (nI at') j = _ ∧ upd (sA σ 54) k (nI (tkN g T at')) j = _
          unfold upd
          by_cases e : j = k
          · rw [if_pos e, if_pos e, if_pos e, e, hpk]
            exact ⟨by omega, rfl, rfl, rfl⟩
          · rw [if_neg e, if_neg e, if_neg e]
            exact hj j (by omega)
      rw [if_neg (show ¬ nI (g at') = 32 from nI_ne (b := 32) (by omega) (by decide) h32), C_endOf hTσ (by omega), bd_eq, hkind, bd_eq, rd_n (by omega) (by decide), p1, C_isD p2, bd_eq, ib2]
      by_cases hd : isD (g at') = true
      · have hnum : F_X9_numberOf (nI at') (nI (endT g T at')) σ = some (nI (tkN g T at'), σ) := by
          have h := C_num hTσ (e := endT g T at') (by omega) (endT g T at' - at') FU at' 0 (by unfold FU; omega) (by omega) (by decide) (fun j h1 h2 => by
            have := end_dig (by omega) hd j h1 h2
            unfold isD at this
            have := of_decide_eq_true this
            omega)
          have e0 : nI 0 = (0 : Int32) := rfl
          rw [e0] at h
          unfold F_X9_numberOf tkN
          rw [nm_eq, if_neg hTa, if_pos hd]
          exact h
        rw [if_pos hd, hnum, bd_eq]
        exact hfin _ rfl
      · rw [if_neg hd]
        exact hfin 0 (by unfold tkN; rw [if_neg hTa, if_neg hd])
end
