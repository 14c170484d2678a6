/-! ===== Rows of the class: what each call answers ===== -/
def capN (r : Nat) : Nat := match r % 5 with | 0 => 10 | 1 => 12 | 2 => 8 | 3 => 10 | _ => 6
def widN (r : Nat) : Nat := match r % 5 with | 0 => 5 | 1 => 3 | 2 => 3 | 3 => 1 | _ => 2
theorem tab_r (r : Nat) : mostR r = nI (capN r) ∧ widR r = nI (widN r) ∧ lenR r = capN r * widN r ∧ 1 ≤ widN r ∧ widN r ≤ 5 ∧ capN r ≤ 12 := by
  unfold mostR widR lenR capN widN
  generalize r % 5 = m
  match m with
  | 0 => exact ⟨rfl, rfl, rfl, by decide, by decide, by decide⟩
  | 1 => exact ⟨rfl, rfl, rfl, by decide, by decide, by decide⟩
  | 2 => exact ⟨rfl, rfl, rfl, by decide, by decide, by decide⟩
  | 3 => exact ⟨rfl, rfl, rfl, by decide, by decide, by decide⟩
  | m + 4 => exact ⟨rfl, rfl, rfl, by show 1 ≤ 2; decide, by show 2 ≤ 5; decide, by show 6 ≤ 12; decide⟩
theorem C_has (r : Nat) (a : Int32) (σ : xS) : F_X6_has r a σ = some (b2 (0 ≤ a ∧ a < sI σ (16 * (8 + 2 * r) + 3)), σ) := by
  unfold F_X6_has b2
  by_cases h1 : a < 0
  · rw [if_pos h1, cz_0, if_neg]
    intro h
    exact absurd h.1 (Int32.not_le.mpr h1)
  · rw [if_neg h1]
    by_cases h2 : sI σ (16 * (8 + 2 * r) + 3) ≤ a
    · rw [if_pos h2, cz_0, if_neg]
      intro h
      exact absurd h.2 (Int32.not_lt.mpr h2)
    · rw [if_neg h2, cz_1, if_pos ⟨Int32.not_lt.mp h1, Int32.not_le.mp h2⟩]
theorem C_hasY {r i c : Nat} {σ : xS} (hc : sI σ (16 * (8 + 2 * r) + 3) = nI c) (hcap : c ≤ 12) (hi : i < c) : F_X6_has r (nI i) σ = some (1, σ) := by
  rw [C_has, hc]
  have h : (0 ≤ nI i ∧ nI i < nI c) := ⟨nI_pos' (by omega), nI_lt hi (by omega)⟩
  unfold b2
  rw [if_pos h]
theorem C_hasN {r : Nat} {a : Int32} {σ : xS} (h : ¬ (0 ≤ a ∧ a < sI σ (16 * (8 + 2 * r) + 3))) : F_X6_has r a σ = some (0, σ) := by
  rw [C_has]
  unfold b2
  rw [if_neg h]
theorem mul_le_cap {i c w W : Nat} (hi : i < c) (hw : w < W) : i * W + w < c * W := by
  have h1 : (i + 1) * W ≤ c * W := Nat.mul_le_mul_right W hi
  rw [Nat.succ_mul] at h1
  omega
theorem ix_eq (i W w : Nat) : nI i * nI W + nI w = nI (i * W + w) := by rw [pk_mul, nI_add]
theorem C_getY {r i w c : Nat} {σ : xS} (hc : sI σ (16 * (8 + 2 * r) + 3) = nI c) (hcap : c ≤ capN r) (hi : i < c) (hw : w < widN r) : F_X6_get r (nI i) (nI w) σ = some (sA σ (9 + 2 * r) (i * widN r + w), σ) := by
  obtain ⟨-, e2, e3, e4, e5, e6⟩ := tab_r r
  have hlt := mul_le_cap (Nat.lt_of_lt_of_le hi hcap) hw
  have hb : capN r * widN r ≤ 60 := Nat.le_trans (Nat.mul_le_mul e6 e5) (by decide)
  unfold F_X6_get
  rw [C_hasY hc (by omega) hi, bd_eq, if_neg (by decide), if_neg (nI_pos (by omega)), e2, if_neg (nI_ge hw (by omega)), ix_eq, e3, rd_n hlt (by omega)]
theorem C_getN {r : Nat} {a b : Int32} {σ : xS} (h : ¬ (0 ≤ a ∧ a < sI σ (16 * (8 + 2 * r) + 3)) ∨ b < 0 ∨ widR r ≤ b) : F_X6_get r a b σ = some (-1, σ) := by
  unfold F_X6_get
  by_cases h1 : 0 ≤ a ∧ a < sI σ (16 * (8 + 2 * r) + 3)
  · rw [C_has, bd_eq, if_neg (fun q => b2_0.mp q h1)]
    rcases h with h | h | h
    · exact absurd h1 h
    · rw [if_pos h]
    · by_cases h2 : b < 0
      · rw [if_pos h2]
      · rw [if_neg h2, if_pos h]
  · rw [C_hasN h1, bd_eq, if_pos rfl]
theorem C_setY {r i w c : Nat} {v : Int32} {σ : xS} (hc : sI σ (16 * (8 + 2 * r) + 3) = nI c) (hcap : c ≤ capN r) (hi : i < c) (hw : w < widN r) : F_X6_set r (nI i) (nI w) v σ = some ((), uA σ (9 + 2 * r) (upd (sA σ (9 + 2 * r)) (i * widN r + w) v)) := by
  obtain ⟨-, e2, e3, e4, e5, e6⟩ := tab_r r
  have hlt := mul_le_cap (Nat.lt_of_lt_of_le hi hcap) hw
  have hb : capN r * widN r ≤ 60 := Nat.le_trans (Nat.mul_le_mul e6 e5) (by decide)
  unfold F_X6_set
  rw [C_hasY hc (by omega) hi, bd_eq, if_neg (by decide), if_neg (nI_pos (by omega)), e2, if_neg (nI_ge hw (by omega)), ix_eq, e3, ck_n hlt (by omega), nm_eq, nI_clamp (by omega)]
theorem C_openY {r c : Nat} {σ : xS} (hc : sI σ (16 * (8 + 2 * r) + 3) = nI c) (h : c < capN r) : F_X6_open r σ = some (nI c, uI σ (16 * (8 + 2 * r) + 3) (nI (c + 1))) := by
  obtain ⟨e1, e2, e3, e4, e5, e6⟩ := tab_r r
  unfold F_X6_open
  rw [e1, hc, if_pos (nI_lt h (by omega)), nm_eq, nI_1, sI_uI, if_pos rfl, nI_pred]
theorem C_openN {r c : Nat} {σ : xS} (hc : sI σ (16 * (8 + 2 * r) + 3) = nI c) (h : c = capN r) : F_X6_open r σ = some (-1, σ) := by
  obtain ⟨e1, e2, e3, e4, e5, e6⟩ := tab_r r
  unfold F_X6_open
  rw [e1, hc, h, if_neg (nI_nlt (Nat.le_refl _) (by omega))]
/-! ===== the reference's small ones ===== -/
theorem i64_pred (a v : Int32) : a.toInt64 ≤ v.toInt64 - 1 ↔ a < v := by
  have h1 := Int32.toInt_lt v
  have h2 := Int32.le_toInt v
  have e : (1 : Int64).toInt = 1 := rfl
  rw [Int64.le_iff_toInt_le, Int32.lt_iff_toInt_lt, Int64.toInt_sub, Int32.toInt_toInt64, Int32.toInt_toInt64, e, Int.bmod_eq_of_le (by omega) (by omega)]
  omega
theorem i64_0 (a : Int32) : (0 : Int64) ≤ a.toInt64 ↔ 0 ≤ a := i64_le 0 a
theorem b2_iff {p q : Prop} [Decidable p] [Decidable q] (h : p ↔ q) : b2 p = b2 q := by
  unfold b2
  by_cases hp : p
  · rw [if_pos hp, if_pos (h.mp hp)]
  · rw [if_neg hp, if_neg (fun x => hp (h.mpr x))]
theorem R_below (a v : Int32) (τ : xS) : F_X12_in a.toInt64 0 (v.toInt64 - 1) τ = some (b2 (0 ≤ a ∧ a < v), τ) := by
  rw [R_in, b2_iff (and_congr (i64_0 a) (i64_pred a v))]
theorem R_in0 (a c : Int32) (τ : xS) : F_X12_in a.toInt64 0 c.toInt64 τ = some (b2 (0 ≤ a ∧ a ≤ c), τ) := R_inI a 0 c τ
theorem rd_0 {β : Type} (f : Nat → Int32) (k : Int32 → Option β) : rd 5550 f 0 k = k (f 0) := rd_n (i := 0) (by decide) (by decide) k
theorem R_isBook (a : Int32) (τ : xS) : F_X12_isBook a τ = some (b2 (0 ≤ a ∧ a < sA τ 3 0), τ) := by
  unfold F_X12_isBook
  rw [rd_0, R_below, bd_eq, cz_b2]
theorem R_isCard (a : Int32) (τ : xS) : F_X12_isCard a τ = some (b2 (0 ≤ a ∧ a < sA τ 3 4), τ) := by
  unfold F_X12_isCard
  have e : ∀ k : Int32 → Option (Int32 × xS), rd 5550 (sA τ 3) 4 k = k (sA τ 3 4) := fun k => rd_n (i := 4) (by decide) (by decide) k
  rw [e, R_below, bd_eq, cz_b2]
theorem R_ofBook {i w : Nat} (hi : i < 10) (hw : w < 5) (τ : xS) : F_X12_ofBook (nI i) (nI w) τ = some (sA τ 3 (13 + 5 * i + w), τ) := by
  unfold F_X12_ofBook
  have e : (13 : Int32) + (5 * nI i) + nI w = nI (13 + 5 * i + w) := by
    show nI 13 + nI 5 * nI i + nI w = _
    rw [pk_mul, nI_add, nI_add]
  rw [e, rd_n (by omega) (by omega)]
theorem R_change {i : Nat} (hi : i < 5550) (v : Int32) (τ : xS) : F_X12_change (nI i) v τ = some (sA τ 3 i, uI (uA τ 3 (upd (sA τ 3) i v)) 1 0) := by
  unfold F_X12_change
  rw [rd_n hi (by decide), ck_n hi (by decide), nm_eq, nI_clamp (by omega)]
  rfl
