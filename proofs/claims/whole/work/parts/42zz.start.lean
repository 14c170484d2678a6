section
/-! ===== the first states ===== -/
theorem sim_start : Sim σ0 τ0 := by
  have h1 : ∀ k, k < 145 → rowC σ0 0 k = sA τ0 3 k := by decide +kernel
  have h2 : ∀ k, k < 145 → loT k ≤ (sA τ0 3 k).toInt ∧ (sA τ0 3 k).toInt ≤ hiT k := by decide +kernel
  have h3 : (sA τ0 3 2).toInt < (sA τ0 3 1).toInt := by decide +kernel
  have h4 : ∀ i, i < 12 → (sA τ0 3 (64 + 3 * i)).toInt ≤ (sA τ0 3 (63 + 3 * i)).toInt ∧ ((i : Int) < (sA τ0 3 3).toInt → 1 ≤ (sA τ0 3 (63 + 3 * i)).toInt) := by decide +kernel
  have h5 : (sA τ0 3 1).toInt = 0 := by decide +kernel
  have h6 : ∀ i, i < 2 → sA σ0 2 i = sA τ0 5 i ∧ sA τ0 5 i = 0 := by decide +kernel
  have h7 : ∀ j, j < 400 → sA σ0 3 j = sA τ0 7 j ∧ 0 ≤ (sA τ0 7 j).toInt ∧ (sA τ0 7 j).toInt ≤ 255 := by decide +kernel
  have h8 : ∀ j, j < 7 → sA σ0 4 j = sA τ0 2 j := by decide +kernel
  have h9 : ∀ j : Nat, j < 10 → sA σ0 100 j = (if (j : Int) < (sI τ0 44).toInt then sA τ0 42 j else -1) ∧ sA σ0 101 j = (if (j : Int) < (sI τ0 44).toInt then sA τ0 43 j else -1) := by decide +kernel
  refine ⟨⟨h1, ⟨h2, h3, h4⟩, fun i hi => ?_⟩, fun i hi => ?_, ⟨by decide +kernel, by decide +kernel, h7⟩, ⟨by decide +kernel, by decide +kernel, by decide +kernel, h8⟩, ⟨by decide +kernel, h9⟩, fun t j i ht hq => ?_, rfl, rfl⟩
  · rw [h5] at hi
    omega
  · obtain ⟨a1, a2⟩ := h6 i hi
    refine ⟨a1, Or.inl a2, fun q => ?_⟩
    rw [a2] at q
    exact absurd q (by decide)
  · rcases (show t = 0 ∨ t = 1 ∨ t = 2 by omega) with rfl | rfl | rfl <;> exact (no_some (show none = some i from hq)).elim
end
