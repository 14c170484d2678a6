section
/-! ===== sets of books as bits ===== -/
theorem sr_k {t i : Nat} (ht : t < 2 ^ 31) (s : Int32) (h : (nI t >>> s).toBitVec = (nI t).toBitVec.sshiftRight i) : nI t >>> s = nI (t / 2 ^ i) := by
  apply Int32.toInt_inj.mp
  have hq : t / 2 ^ i ≤ t := Nat.div_le_self _ _
  have h2 : (nI t >>> s).toInt = ((nI t).toBitVec.sshiftRight i).toInt := by rw [← h]; rfl
  have h3 : (nI t).toBitVec.toInt = (t : Int) := nI_toInt ht
  rw [h2, BitVec.toInt_sshiftRight, h3, nI_toInt (by omega), Int.shiftRight_eq_div_pow]
  rfl
theorem sr_i {t i : Nat} (ht : t < 2 ^ 31) (hi : i < 12) : nI t >>> (nI i &&& 31) = nI (t / 2 ^ i) := by
  rcases (show i = 0 ∨ i = 1 ∨ i = 2 ∨ i = 3 ∨ i = 4 ∨ i = 5 ∨ i = 6 ∨ i = 7 ∨ i = 8 ∨ i = 9 ∨ i = 10 ∨ i = 11 by omega) with rfl | rfl | rfl | rfl | rfl | rfl | rfl | rfl | rfl | rfl | rfl | rfl <;> exact sr_k ht _ rfl
theorem and_1 (x : Nat) : nI x &&& 1 = nI (x % 2) := by
  apply Int32.toBitVec_inj.mp
  show BitVec.ofNat 32 x &&& BitVec.ofNat 32 1 = BitVec.ofNat 32 (x % 2)
  rw [← BitVec.ofNat_and, Nat.and_one_is_mod]
theorem and_n (x y : Nat) : nI x &&& nI y = nI (x &&& y) := by
  apply Int32.toBitVec_inj.mp
  show BitVec.ofNat 32 x &&& BitVec.ofNat 32 y = BitVec.ofNat 32 (x &&& y)
  rw [← BitVec.ofNat_and]
theorem or_n (x y : Nat) : nI x ||| nI y = nI (x ||| y) := by
  apply Int32.toBitVec_inj.mp
  show BitVec.ofNat 32 x ||| BitVec.ofNat 32 y = BitVec.ofNat 32 (x ||| y)
  rw [← BitVec.ofNat_or]
theorem sl_i {i : Nat} (hi : i < 12) : (1 : Int32) <<< (nI i &&& 31) = nI (2 ^ i) := by
  rcases (show i = 0 ∨ i = 1 ∨ i = 2 ∨ i = 3 ∨ i = 4 ∨ i = 5 ∨ i = 6 ∨ i = 7 ∨ i = 8 ∨ i = 9 ∨ i = 10 ∨ i = 11 by omega) with rfl | rfl | rfl | rfl | rfl | rfl | rfl | rfl | rfl | rfl | rfl | rfl <;> decide
theorem tb_mod (t i : Nat) : t / 2 ^ i % 2 = if t.testBit i = true then 1 else 0 := by
  rw [Nat.testBit_eq_decide_div_mod_eq]
  by_cases h : t / 2 ^ i % 2 = 1
  · rw [h]
    rfl
  · rw [if_neg (by rw [decide_eq_true_iff]; exact h)]
    omega
theorem bit_v {t i : Nat} (ht : t < 2 ^ 31) (hi : i < 12) : (nI t >>> (nI i &&& 31)) &&& 1 = b2 (t.testBit i = true) := by
  rw [sr_i ht hi, and_1, tb_mod]
  unfold b2
  split <;> rfl
theorem bit_1 {t i : Nat} (ht : t < 2 ^ 31) (hi : i < 12) : ((nI t >>> (nI i &&& 31)) &&& 1 = 1) = (t.testBit i = true) := by
  rw [bit_v ht hi]
  exact propext b2_1
theorem bit_0 {t i : Nat} (ht : t < 2 ^ 31) (hi : i < 12) : ((nI t >>> (nI i &&& 31)) &&& 1 = 0) = ¬ (t.testBit i = true) := by
  rw [bit_v ht hi]
  exact propext b2_0
theorem bit_if {α : Type} {t i : Nat} (ht : t < 2 ^ 31) (hi : i < 12) (X Y : α) : (if (nI t >>> (nI i &&& 31)) &&& 1 = 1 then X else Y) = if t.testBit i = true then X else Y := by
  by_cases h : t.testBit i = true
  · rw [if_pos h, if_pos (by rw [bit_1 ht hi]; exact h)]
  · rw [if_neg h, if_neg (by rw [bit_1 ht hi]; exact h)]
theorem bit_if0 {α : Type} {t i : Nat} (ht : t < 2 ^ 31) (hi : i < 12) (X Y : α) : (if (nI t >>> (nI i &&& 31)) &&& 1 = 0 then X else Y) = if t.testBit i = true then Y else X := by
  by_cases h : t.testBit i = true
  · rw [if_pos h, if_neg (by rw [bit_0 ht hi]; exact fun q => q h)]
  · rw [if_neg h, if_pos (by rw [bit_0 ht hi]; exact h)]
theorem R_is {t i : Nat} (ht : t < 2 ^ 31) (hi : i < 12) (τ : xS) : F_X12_is (nI t) (nI i) τ = some (b2 (t.testBit i = true), τ) := by
  unfold F_X12_is
  rw [bit_v ht hi]
  by_cases h : t.testBit i = true
  · rw [if_pos (b2_1.mpr h), cz_1, b2_1.mpr h]
  · rw [if_neg (fun q => h (b2_1.mp q)), cz_0, b2_0.mpr h]
theorem pow_le (i : Nat) (hi : i < 12) : 2 ^ i ≤ 2048 := by
  rcases (show i = 0 ∨ i = 1 ∨ i = 2 ∨ i = 3 ∨ i = 4 ∨ i = 5 ∨ i = 6 ∨ i = 7 ∨ i = 8 ∨ i = 9 ∨ i = 10 ∨ i = 11 by omega) with rfl | rfl | rfl | rfl | rfl | rfl | rfl | rfl | rfl | rfl | rfl | rfl <;> decide
/-- one more book -/
theorem or_bit (t i j : Nat) : (t ||| 2 ^ i).testBit j = (t.testBit j || decide (i = j)) := by
  rw [Nat.testBit_or, Nat.testBit_two_pow]
theorem or_lt {t i c : Nat} (ht : t < 2 ^ c) (hi : i < c) : t ||| 2 ^ i < 2 ^ c := Nat.or_lt_two_pow ht (Nat.pow_lt_pow_right (by decide) hi)
theorem bit_hi {t c j : Nat} (ht : t < 2 ^ c) (hj : c ≤ j) : t.testBit j = false := Nat.testBit_lt_two_pow (Nat.lt_of_lt_of_le ht (Nat.pow_le_pow_right (by decide) hj))
theorem all_bit {c j : Nat} : (2 ^ c - 1).testBit j = decide (j < c) := Nat.testBit_two_pow_sub_one c j
theorem and_0 {a b c : Nat} (ha : a < 2 ^ c) : a &&& b = 0 ↔ ∀ j, j < c → a.testBit j = true → b.testBit j = false := by
  constructor
  · intro h j hj ha1
    have h1 : (a &&& b).testBit j = false := by rw [h]; exact Nat.zero_testBit j
    rw [Nat.testBit_and, ha1, Bool.true_and] at h1
    exact h1
  · intro h
    apply Nat.eq_of_testBit_eq
    intro j
    rw [Nat.testBit_and, Nat.zero_testBit]
    by_cases hj : j < c
    · by_cases ha1 : a.testBit j = true
      · rw [h j hj ha1, Bool.and_false]
      · rw [Bool.eq_false_iff.mpr ha1, Bool.false_and]
    · rw [bit_hi ha (by omega), Bool.false_and]
/-- how many -/
def pcN (t : Nat) : Nat → Nat
  | 0 => 0
  | m + 1 => pcN t m + (if t.testBit m = true then 1 else 0)
def bcV (a1 : Int32) : Int32 :=
  let x1 := a1 - (((a1.toUInt32 >>> ((1 : Int32).toUInt32 &&& Int32.toUInt32 31)).toInt32) &&& 1431655765)
  let x2 := (x1 &&& 858993459) + (((x1.toUInt32 >>> ((2 : Int32).toUInt32 &&& Int32.toUInt32 31)).toInt32) &&& 858993459)
  let x3 := (x2 + ((x2.toUInt32 >>> ((4 : Int32).toUInt32 &&& Int32.toUInt32 31)).toInt32)) &&& 252645135
  let x4 := x3 + ((x3.toUInt32 >>> ((8 : Int32).toUInt32 &&& Int32.toUInt32 31)).toInt32)
  let x5 := x4 + ((x4.toUInt32 >>> ((16 : Int32).toUInt32 &&& Int32.toUInt32 31)).toInt32)
  x5 &&& 63
theorem bc_all : ∀ t, t < 1024 → bcV (nI t) = nI (pcN t 10) := by decide +kernel
theorem C_bits {t : Nat} (ht : t < 1024) (σ : xS) : F_JI_bitCount (nI t) σ = some (nI (pcN t 10), σ) := by
  rw [← bc_all t ht]
  rfl
theorem pcN_le (t m : Nat) : pcN t m ≤ m := by
  induction m with
  | zero => exact Nat.le_refl 0
  | succ m ih =>
    rw [pcN]
    split <;> omega
theorem R_bits_loop {t : Nat} (ht : t < 1024) (m : Nat) : ∀ (n i : Nat) (τ : xS), m < n → i + m = 10 → F_X12_bits_4 n (nI t) (nI (pcN t i)) (nI i) τ = some (nI (pcN t 10), τ) := by
  induction m with
  | zero =>
    intro n i τ hn hi
    obtain ⟨n, rfl⟩ : ∃ q, n = q + 1 := ⟨n - 1, by omega⟩
    obtain rfl : i = 10 := by omega
    rw [F_X12_bits_4, if_pos (show (10 : Int32) ≤ nI 10 from nI_le (a := 10) (by omega) (by omega))]
  | succ m ih =>
    intro n i τ hn hi
    obtain ⟨n, rfl⟩ : ∃ q, n = q + 1 := ⟨n - 1, by omega⟩
    rw [F_X12_bits_4, if_neg (show ¬ (10 : Int32) ≤ nI i from nI_ge (b := 10) (by omega) (by decide)), nm_eq, nm_eq, nI_1, bit_v (by omega) (by omega)]
    have e : nI (pcN t i) + b2 (t.testBit i = true) = nI (pcN t (i + 1)) := by
      rw [pcN]
      unfold b2
      split
      · exact nI_add _ 1
      · exact nI_add _ 0
    rw [e]
    exact ih n (i + 1) τ (by omega) (by omega)
theorem R_bits {t : Nat} (ht : t < 1024) (τ : xS) : F_X12_bits (nI t) τ = some (nI (pcN t 10), τ) := by
  have h := R_bits_loop ht 10 FU 0 τ (by unfold FU; omega) rfl
  have e0 : nI 0 = (0 : Int32) := rfl
  rw [show pcN t 0 = 0 from rfl, e0] at h
  unfold F_X12_bits
  rw [nm_eq2, nm_eq2]
  exact h
end
