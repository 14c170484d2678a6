theorem sA_uA (σ : xS) (k : Nat) (f : Nat → Int32) (j : Nat) : sA (uA σ k f) j = if j = k then f else sA σ j := rfl
theorem sA_uL (σ : xS) (k : Nat) (f : Nat → Int64) (j : Nat) : sA (uL σ k f) j = sA σ j := rfl
theorem sA_uI (σ : xS) (k : Nat) (v : Int32) (j : Nat) : sA (uI σ k v) j = sA σ j := rfl
theorem sA_uJ (σ : xS) (k : Nat) (v : Int64) (j : Nat) : sA (uJ σ k v) j = sA σ j := rfl
theorem sA_uQ (σ : xS) (k : Nat) (f : Nat → Option Nat) (j : Nat) : sA (uQ σ k f) j = sA σ j := rfl
theorem sA_uP (σ : xS) (f : List xP) (j : Nat) : sA (uP σ f) j = sA σ j := rfl
theorem sL_uA (σ : xS) (k : Nat) (f : Nat → Int32) (j : Nat) : sL (uA σ k f) j = sL σ j := rfl
theorem sL_uL (σ : xS) (k : Nat) (f : Nat → Int64) (j : Nat) : sL (uL σ k f) j = if j = k then f else sL σ j := rfl
theorem sL_uI (σ : xS) (k : Nat) (v : Int32) (j : Nat) : sL (uI σ k v) j = sL σ j := rfl
theorem sL_uJ (σ : xS) (k : Nat) (v : Int64) (j : Nat) : sL (uJ σ k v) j = sL σ j := rfl
theorem sL_uQ (σ : xS) (k : Nat) (f : Nat → Option Nat) (j : Nat) : sL (uQ σ k f) j = sL σ j := rfl
theorem sL_uP (σ : xS) (f : List xP) (j : Nat) : sL (uP σ f) j = sL σ j := rfl
theorem sI_uA (σ : xS) (k : Nat) (f : Nat → Int32) (j : Nat) : sI (uA σ k f) j = sI σ j := rfl
theorem sI_uL (σ : xS) (k : Nat) (f : Nat → Int64) (j : Nat) : sI (uL σ k f) j = sI σ j := rfl
theorem sI_uI (σ : xS) (k : Nat) (v : Int32) (j : Nat) : sI (uI σ k v) j = if j = k then v else sI σ j := rfl
theorem sI_uJ (σ : xS) (k : Nat) (v : Int64) (j : Nat) : sI (uJ σ k v) j = sI σ j := rfl
theorem sI_uQ (σ : xS) (k : Nat) (f : Nat → Option Nat) (j : Nat) : sI (uQ σ k f) j = sI σ j := rfl
theorem sI_uP (σ : xS) (f : List xP) (j : Nat) : sI (uP σ f) j = sI σ j := rfl
theorem sJ_uA (σ : xS) (k : Nat) (f : Nat → Int32) (j : Nat) : sJ (uA σ k f) j = sJ σ j := rfl
theorem sJ_uL (σ : xS) (k : Nat) (f : Nat → Int64) (j : Nat) : sJ (uL σ k f) j = sJ σ j := rfl
theorem sJ_uI (σ : xS) (k : Nat) (v : Int32) (j : Nat) : sJ (uI σ k v) j = sJ σ j := rfl
theorem sJ_uJ (σ : xS) (k : Nat) (v : Int64) (j : Nat) : sJ (uJ σ k v) j = if j = k then v else sJ σ j := rfl
theorem sJ_uQ (σ : xS) (k : Nat) (f : Nat → Option Nat) (j : Nat) : sJ (uQ σ k f) j = sJ σ j := rfl
theorem sJ_uP (σ : xS) (f : List xP) (j : Nat) : sJ (uP σ f) j = sJ σ j := rfl
theorem sQ_uA (σ : xS) (k : Nat) (f : Nat → Int32) (j : Nat) : sQ (uA σ k f) j = sQ σ j := rfl
theorem sQ_uL (σ : xS) (k : Nat) (f : Nat → Int64) (j : Nat) : sQ (uL σ k f) j = sQ σ j := rfl
theorem sQ_uI (σ : xS) (k : Nat) (v : Int32) (j : Nat) : sQ (uI σ k v) j = sQ σ j := rfl
theorem sQ_uJ (σ : xS) (k : Nat) (v : Int64) (j : Nat) : sQ (uJ σ k v) j = sQ σ j := rfl
theorem sQ_uQ (σ : xS) (k : Nat) (f : Nat → Option Nat) (j : Nat) : sQ (uQ σ k f) j = if j = k then f else sQ σ j := rfl
theorem sQ_uP (σ : xS) (f : List xP) (j : Nat) : sQ (uP σ f) j = sQ σ j := rfl
theorem sP_uA (σ : xS) (k : Nat) (f : Nat → Int32) : sP (uA σ k f) = sP σ := rfl
theorem sP_uL (σ : xS) (k : Nat) (f : Nat → Int64) : sP (uL σ k f) = sP σ := rfl
theorem sP_uI (σ : xS) (k : Nat) (v : Int32) : sP (uI σ k v) = sP σ := rfl
theorem sP_uJ (σ : xS) (k : Nat) (v : Int64) : sP (uJ σ k v) = sP σ := rfl
theorem sP_uQ (σ : xS) (k : Nat) (f : Nat → Option Nat) : sP (uQ σ k f) = sP σ := rfl
theorem sP_uP (σ : xS) (f : List xP) : sP (uP σ f) = f := rfl
theorem nm_eq {α β : Type} (a : α) (k : α → β) : nm a k = k a := rfl
theorem bd_eq {ρ β : Type} (r : ρ) (s : xS) (k : ρ → xS → Option β) : bd (some (r, s)) k = k r s := rfl
theorem bd_of {ρ β : Type} {o : Option (ρ × xS)} {r : ρ} {s : xS} (h : o = some (r, s)) (k : ρ → xS → Option β) : bd o k = k r s := by rw [h]; rfl
theorem cz_0 {β : Type} (k : Option β) : cz 0 k = k := if_pos (Or.inl rfl)
theorem cz_1 {β : Type} (k : Option β) : cz 1 k = k := if_pos (Or.inr rfl)
theorem ck_y {β : Type} {n : Nat} {i : Int32} (h : vp_in i n) (k : Option β) : ck n i k = k := if_neg h
theorem rd_y {α β : Type} {n : Nat} {f : Nat → α} {i : Int32} (h : vp_in i n) (k : α → Option β) : rd n f i k = k (f i.toNatClampNeg) := if_neg h
theorem ck_n {β : Type} {n i : Nat} (h : i < n) (hn : n < 2 ^ 31) (k : Option β) : ck n (nI i) k = k := ck_y (vp_in_nI h hn) k
theorem rd_n {α β : Type} {n i : Nat} {f : Nat → α} (h : i < n) (hn : n < 2 ^ 31) (k : α → Option β) : rd n f (nI i) k = k (f i) := by
  rw [rd_y (vp_in_nI h hn), nI_clamp (by omega)]
/-- a test's answer -/
def b2 (p : Prop) [Decidable p] : Int32 := if p then 1 else 0
theorem b2_0 {p : Prop} [Decidable p] : b2 p = 0 ↔ ¬ p := by
  unfold b2
  split <;> simp_all
theorem b2_1 {p : Prop} [Decidable p] : b2 p = 1 ↔ p := by
  unfold b2
  split <;> simp_all
theorem cz_b2 {β : Type} {p : Prop} [Decidable p] (k : Option β) : cz (b2 p) k = k := by
  unfold b2
  split
  · exact cz_1 k
  · exact cz_0 k
theorem i64_le (a b : Int32) : a.toInt64 ≤ b.toInt64 ↔ a ≤ b := by
  rw [Int64.le_iff_toInt_le, Int32.le_iff_toInt_le, Int32.toInt_toInt64, Int32.toInt_toInt64]
/-- in .. on longs -/
theorem R_in (a b c : Int64) (σ : xS) : F_X12_in a b c σ = some (b2 (b ≤ a ∧ a ≤ c), σ) := by
  unfold F_X12_in b2
  by_cases h1 : lg_cmp a b < 0
  · rw [if_pos h1, cz_0]
    have h2 := (lg_cmp_lt a b).mp h1
    rw [if_neg]
    intro h
    exact absurd h.1 (Int64.not_le.mpr h2)
  · rw [if_neg h1]
    have h2 : b ≤ a := Int64.not_lt.mp fun h => h1 ((lg_cmp_lt a b).mpr h)
    by_cases h3 : 0 < lg_cmp a c
    · rw [if_pos h3, cz_0]
      have h4 := (lg_cmp_gt a c).mp h3
      rw [if_neg]
      intro h
      exact absurd h.2 (Int64.not_le.mpr h4)
    · rw [if_neg h3, cz_1]
      have h4 : a ≤ c := Int64.not_lt.mp fun h => h3 ((lg_cmp_gt a c).mpr h)
      rw [if_pos ⟨h2, h4⟩]
theorem R_inI (a b c : Int32) (σ : xS) : F_X12_in a.toInt64 b.toInt64 c.toInt64 σ = some (b2 (b ≤ a ∧ a ≤ c), σ) := by
  rw [R_in]
  congr 2
  unfold b2
  simp only [i64_le]
theorem C_isWithin (a b c : Int32) (σ : xS) : F_X11_isWithin a b c σ = some (b2 (b ≤ a ∧ a ≤ c), σ) := by
  unfold F_X11_isWithin b2
  by_cases h1 : a < b
  · rw [if_pos h1, cz_0, if_neg]
    intro h
    exact absurd h.1 (Int32.not_le.mpr h1)
  · rw [if_neg h1]
    have h2 : b ≤ a := Int32.not_lt.mp h1
    by_cases h3 : c < a
    · rw [if_pos h3, cz_0, if_neg]
      intro h
      exact absurd h.2 (Int32.not_le.mpr h3)
    · rw [if_neg h3, cz_1, if_pos ⟨h2, Int32.not_lt.mp h3⟩]
