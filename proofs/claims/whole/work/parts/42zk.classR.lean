section
/-! ===== the class's reader: its steps ===== -/
def okS (x : Nat × Nat) : Prop := x.1 ≤ 12 ∧ x.2 < 2000 ∧ (x.1 = 1 → x.2 < 10)
def codC (σ : xS) (K : Nat → Nat × Nat) (u : Nat) : Prop := ∀ j, j < u → sA σ 50 j = nI ((K j).1 + 16 * (K j).2) ∧ okS (K j)
/-- the tokens stand, and no fault is told -/
def TB (g : Nat → Nat) (T C : Nat) (σ : xS) : Prop := sI σ 819 = nI (C + 1) ∧ (∀ j, j ≤ C → sA σ 52 j = nI (tkK g T (plT g T j)) ∧ sA σ 53 j = nI (plT g T j) ∧ sA σ 54 j = nI (tkN g T (plT g T j))) ∧ sI σ 759 = -1
def PI (g : Nat → Nat) (T C : Nat) (σ : xS) (k n u : Nat) (K : Nat → Nat × Nat) : Prop := TB g T C σ ∧ sI σ 756 = nI k ∧ sI σ 757 = nI n ∧ sI σ 758 = nI u ∧ codC σ K u
def cxF (σ σ' : xS) : Prop := (∀ k, k ≠ 50 → sA σ' k = sA σ k) ∧ (∀ k, k ∉ [756, 757, 758, 759] → sI σ' k = sI σ k) ∧ (∀ k, sJ σ' k = sJ σ k) ∧ (∀ k, sL σ' k = sL σ k) ∧ (∀ k, sQ σ' k = sQ σ k) ∧ sP σ' = sP σ
theorem cxF_refl (τ : xS) : cxF τ τ := ⟨fun _ _ => rfl, fun _ _ => rfl, fun _ => rfl, fun _ => rfl, fun _ => rfl, rfl⟩
theorem cxF_trans {σ σ1 σ2 : xS} (h : cxF σ σ1) (g : cxF σ1 σ2) : cxF σ σ2 := ⟨fun k h1 => (g.1 k h1).trans (h.1 k h1), fun k h1 => (g.2.1 k h1).trans (h.2.1 k h1), fun k => (g.2.2.1 k).trans (h.2.2.1 k), fun k => (g.2.2.2.1 k).trans (h.2.2.2.1 k), fun k => (g.2.2.2.2.1 k).trans (h.2.2.2.2.1 k), g.2.2.2.2.2.trans h.2.2.2.2.2⟩
theorem cxF_I (σ : xS) {k : Nat} (v : Int32) (hk : k ∈ [756, 757, 758, 759]) : cxF σ (uI σ k v) := ⟨fun _ _ => rfl, fun j h1 => if_neg (fun (q : j = k) => h1 (by rw [q]; exact hk)), fun _ => rfl, fun _ => rfl, fun _ => rfl, rfl⟩
theorem cxF_A (σ : xS) (v : Nat → Int32) : cxF σ (uA σ 50 v) := ⟨fun j h1 => if_neg h1, fun _ _ => rfl, fun _ => rfl, fun _ => rfl, fun _ => rfl, rfl⟩
theorem fwd_le (g : Nat → Nat) (q L m : Nat) : ∀ x, x + m ≤ 18 → fwd g q L m x ≤ 275 := by
  induction m with
  | zero =>
    intro x hx
    rw [fwd]
    omega
  | succ m ih =>
    intro x hx
    rw [fwd]
    by_cases hc : ((if 0 < L then g (q + 0) else 32) = wcN (x * 5 + 0) ∧ (if 1 < L then g (q + 1) else 32) = wcN (x * 5 + 1) ∧ (if 2 < L then g (q + 2) else 32) = wcN (x * 5 + 2) ∧ (if 3 < L then g (q + 3) else 32) = wcN (x * 5 + 3) ∧ (if 4 < L then g (q + 4) else 32) = wcN (x * 5 + 4))
    · rw [if_pos hc]
      omega
    · rw [if_neg hc]
      exact ih _ (by omega)
theorem kd_le {g : Nat → Nat} {T C : Nat} (hX : TX g T C) (hg : ∀ j, j < 400 → g j ≤ 255) {k : Nat} (hk : k ≤ C) : kd g T k ≤ 276 := by
  have h1 := plT_le hX hk
  have h2 := hX.2.1
  unfold kd tkK
  by_cases c : T ≤ plT g T k
  · rw [if_pos c]
    omega
  rw [if_neg c]
  have h3 := hg (plT g T k) (by omega)
  by_cases c2 : isD (g (plT g T k)) = true
  · rw [if_pos c2]
    omega
  rw [if_neg c2]
  by_cases c3 : isL (g (plT g T k)) = true
  · rw [if_pos c3]
    by_cases c4 : 5 < endT g T (plT g T k) - plT g T k
    · rw [if_pos c4]
      omega
    · rw [if_neg c4]
      have := fwd_le g (plT g T k) (endT g T (plT g T k) - plT g T k) 18 0 (by omega)
      omega
  · rw [if_neg c3]
    omega
theorem TpR_g {g : Nat → Nat} {T : Nat} {τ : xS} (h : TpR g T τ) : ∀ j, j < 400 → g j ≤ 255 := fun j hj => (h.2.2 j hj).2
theorem PI_tok {g : Nat → Nat} {T C : Nat} (hX : TX g T C) {σ : xS} {k n u : Nat} {K : Nat → Nat × Nat} (h : PI g T C σ k n u K) (hk : k ≤ C) : F_X5_token σ = some (nI (kd g T k), σ) := by
  have := hX.1
  have := hX.2.1
  unfold F_X5_token
  rw [h.2.1, rd_n (by omega) (by decide), (h.1.2.1 k hk).1]
  rfl
theorem PI_fails {g : Nat → Nat} {T C : Nat} (hX : TX g T C) {σ : xS} {k n u : Nat} {K : Nat → Nat × Nat} (h : PI g T C σ k n u K) (hk : k ≤ C) : F_X5_fails σ = some (0, uI σ 759 (nI (plT g T k))) := by
  have := hX.1
  have := hX.2.1
  unfold F_X5_fails
  rw [h.2.1, rd_n (by omega) (by decide), (h.1.2.1 k hk).2.1, nm_eq, cz_0]
theorem PI_next {g : Nat → Nat} {T C : Nat} (hX : TX g T C) {σ : xS} {k n u : Nat} {K : Nat → Nat × Nat} (h : PI g T C σ k n u K) (hk : k < C) : F_X5_next σ = some ((), uI σ 756 (nI (k + 1))) ∧ PI g T C (uI σ 756 (nI (k + 1))) (k + 1) n u K := by
  have := hX.1
  have := hX.2.1
  refine ⟨?_, h.1, rfl, h.2.2.1, h.2.2.2.1, h.2.2.2.2⟩
  unfold F_X5_next
  rw [h.2.1, h.1.1, nI_1, if_neg (nI_ge (by omega) (by omega)), nm_eq]
def stS (σ : xS) (u a x : Nat) : xS := uI (uA σ 50 (upd (sA σ 50) u (nI (a + 16 * x)))) 758 (nI (u + 1))
theorem PI_step {g : Nat → Nat} {T C : Nat} {σ : xS} {k n u : Nat} {K : Nat → Nat × Nat} (h : PI g T C σ k n u K) (hu : u < 400) {a x : Nat} (hx : okS (a, x)) : F_X5_step (nI a) (nI x) σ = some ((), stS σ u a x) ∧ PI g T C (stS σ u a x) k n (u + 1) (updN K u (a, x)) ∧ cxF σ (stS σ u a x) := by
  have hx1 : a ≤ 12 ∧ x < 2000 := ⟨hx.1, hx.2.1⟩
  refine ⟨?_, ⟨h.1, h.2.1, h.2.2.1, rfl, fun j hj => ?_⟩, cxF_trans (cxF_A _ _) (cxF_I _ _ (by decide))⟩
  · have e1 : ∀ f, sI (uA σ 50 f) 758 + 1 = nI (u + 1) := fun f => by
      show sI σ 758 + 1 = _
      rw [h.2.2.2.1, nI_1]
    unfold F_X5_step
    rw [h.2.2.2.1, if_neg (show ¬ (400 : Int32) ≤ nI u from nI_ge (b := 400) hu (by decide)), ck_n hu (by decide), nm_eq, e1, nm_eq, nI_clamp (by omega), nI_pack (by omega) (by omega)]
    rfl
  · show upd (sA σ 50) u (nI (a + 16 * x)) j = _ ∧ _
    by_cases e : j = u
    · subst e
      rw [upd_s _ _ rfl, updN_s]
      exact ⟨rfl, hx⟩
    · rw [upd_n _ _ e, updN_n e]
      exact h.2.2.2.2 j (by omega)
theorem nI_is {a : Nat} (b : Nat) (ha : a < 1000) (hb : b < 1000) : (nI a = nI b) ↔ a = b := nI_eq (by omega) (by omega)
theorem PI_open1 {g : Nat → Nat} {T C : Nat} (hX : TX g T C) {σ : xS} {k n u a : Nat} {K : Nat → Nat × Nat} (h : PI g T C σ k n u K) (hk : k < C) (ha : a < 8) : F_X5_opens (nI a) σ = some (1, uI σ 756 (nI (k + 1))) := by
  unfold F_X5_opens
  rw [if_pos (show nI a < 8 from nI_lt (b := 8) ha (by decide)), (PI_next hX h hk).1, bd_eq, cz_1]
theorem PI_open0 {g : Nat → Nat} {T C : Nat} (hX : TX g T C) {σ : xS} {k n u a : Nat} {K : Nat → Nat × Nat} (h : PI g T C σ k n u K) (hk : k ≤ C) (ha : 8 ≤ a) (ha2 : a < 400) : F_X5_opens (nI a) σ = some (0, uI σ 759 (nI (plT g T k))) := by
  unfold F_X5_opens
  rw [if_neg (show ¬ nI a < 8 from nI_nlt (b := 8) ha (by omega)), PI_fails hX h hk, bd_eq, cz_0]
theorem PI_close1 {g : Nat → Nat} {T C : Nat} (hX : TX g T C) {σ : xS} {k n u a : Nat} {K : Nat → Nat × Nat} (h : PI g T C σ k n u K) (hk : k < C) (ha : kd g T k = a) : F_X5_closes (nI a) σ = some (1, uI σ 756 (nI (k + 1))) := by
  unfold F_X5_closes
  rw [PI_tok hX h (by omega), bd_eq, ha, if_pos rfl, (PI_next hX h hk).1, bd_eq, cz_1]
theorem PI_close0 {g : Nat → Nat} {T C : Nat} (hX : TX g T C) {σ : xS} {k n u a : Nat} {K : Nat → Nat × Nat} (h : PI g T C σ k n u K) (hk : k ≤ C) (hl : kd g T k ≤ 276) (ha2 : a ≤ 276) (ha : kd g T k ≠ a) : F_X5_closes (nI a) σ = some (0, uI σ 759 (nI (plT g T k))) := by
  unfold F_X5_closes
  rw [PI_tok hX h hk, bd_eq, if_neg (fun z => ha ((nI_is a (by omega) (by omega)).mp z)), PI_fails hX h hk, bd_eq, cz_0]
/-! a leaf, on the class's side -/
theorem PI_leaf1 {g : Nat → Nat} {T C : Nat} (hX : TX g T C) {σ : xS} {k n u a : Nat} {K : Nat → Nat × Nat} (kS : Int32 → xS → Option (Int32 × xS)) (h : PI g T C σ k n u K) (hk : k < C) (hn : n < 50) (hu : u < 400) (hl : lfOK (kd g T k) (nu g T k)) : ∃ σ', F_X5_readPart kS (nI a) σ = some (1, σ') ∧ PI g T C σ' (k + 1) (n + 1) (u + 1) (updN K u (lfC (kd g T k) (nu g T k))) ∧ cxF σ σ' := by
  have h400 : C ≤ 400 := Nat.le_trans hX.1 hX.2.1
  have hb : kd g T k < 1000 := by
    rcases hl with hl | hl <;> omega
  have h1 : PI g T C (uI σ 757 (nI (n + 1))) k (n + 1) u K := ⟨h.1, h.2.1, rfl, h.2.2.2.1, h.2.2.2.2⟩
  have ok : okS (lfC (kd g T k) (nu g T k)) := by
    unfold lfC
    by_cases e : kd g T k = 274
    · rw [if_pos e]
      rcases hl with hl | hl
      · exact ⟨by show 0 ≤ 12; omega, by show nu g T k < 2000; omega, fun z => absurd z (show ¬ (0 : Nat) = 1 by decide)⟩
      · omega
    · rw [if_neg e]
      rcases hl with hl | hl
      · exact absurd hl.1 e
      · exact ⟨by show 1 ≤ 12; omega, by show kd g T k - 256 < 2000; omega, fun _ => by show kd g T k - 256 < 10; omega⟩
  obtain ⟨s1, s2, s3⟩ := PI_step h1 hu (a := (lfC (kd g T k) (nu g T k)).1) (x := (lfC (kd g T k) (nu g T k)).2) ok
  obtain ⟨n1, n2⟩ := PI_next hX s2 hk
  refine ⟨_, ?_, n2, cxF_trans (cxF_trans (cxF_I _ _ (by decide)) s3) (cxF_I _ _ (by decide))⟩
  have h115 : ∀ y5 : Int32, (kd g T k = 274 → y5 = 0) → (kd g T k ≠ 274 → y5 = 1) → F_X5_readPart_115 kS (nI (nu g T k)) (nI (kd g T k) - 256) y5 σ = some (1, uI (stS (uI σ 757 (nI (n + 1))) u (lfC (kd g T k) (nu g T k)).1 (lfC (kd g T k) (nu g T k)).2) 756 (nI (k + 1))) := by
    intro y5 hy0 hy1
    unfold F_X5_readPart_115 F_X5_readPart_150 F_X5_readPart_160
    rw [h.2.2.1, if_pos (show nI n < 50 from nI_lt (b := 50) hn (by decide)), nI_1, nm_eq]
    unfold lfC at s1 n1 ⊢
    by_cases e : kd g T k = 274
    · rw [if_pos e] at s1 n1 ⊢
      rw [hy0 e, if_pos rfl, if_pos rfl, show F_X5_step 0 (nI (nu g T k)) = F_X5_step (nI 0) (nI (nu g T k)) from rfl, s1, bd_eq, n1, bd_eq, cz_1]
    · rw [if_neg e] at s1 n1 ⊢
      have h256 : 256 ≤ kd g T k := by
        rcases hl with hl | hl
        · exact absurd hl.1 e
        · exact hl.1
      rw [hy1 e, if_neg (by decide), if_neg (by decide), show nI (kd g T k) - 256 = nI (kd g T k - 256) from pk_sub (b := 256) h256, show F_X5_step 1 = F_X5_step (nI 1) from rfl, s1, bd_eq, n1, bd_eq, cz_1]
  unfold F_X5_readPart
  rw [PI_tok hX h (by omega), bd_eq, if_neg (show ¬ nI (kd g T k) = 91 from nI_ne (b := 91) (by omega) (by decide) (by rcases hl with hl | hl <;> omega)), h.2.1, rd_n (by omega) (by decide), (h.1.2.1 k (by omega)).2.2, PI_tok hX h (by omega), bd_eq, nm_eq, PI_tok hX h (by omega), bd_eq]
  rw [show tkN g T (plT g T k) = nu g T k from rfl]
  by_cases e : kd g T k = 274
  · have hv : nu g T k ≤ 1000 := by
      rcases hl with hl | hl
      · exact hl.2
      · omega
    rw [if_pos (show nI (kd g T k) = 274 by rw [e]; rfl), if_neg (show ¬ (1001 : Int32) ≤ nI (nu g T k) from nI_ge (b := 1001) (by omega) (by decide))]
    unfold F_X5_readPart_86 F_X5_readPart_102 F_X5_readPart_103
    rw [if_neg (show ¬ nI (kd g T k) - 256 < 0 by rw [e]; decide), if_pos (show (10 : Int32) ≤ nI (kd g T k) - 256 by rw [e]; decide), if_pos rfl, if_neg (by decide)]
    exact h115 0 (fun _ => rfl) (fun z => absurd e z)
  · have hw : 256 ≤ kd g T k ∧ kd g T k < 266 := hl.resolve_left (fun z => e z.1)
    rw [if_neg (show ¬ nI (kd g T k) = 274 from nI_ne (b := 274) (by omega) (by decide) e)]
    unfold F_X5_readPart_85 F_X5_readPart_86 F_X5_readPart_103
    have e2 : nI (kd g T k) - 256 = nI (kd g T k - 256) := pk_sub (b := 256) hw.1
    rw [if_neg (show ¬ nI (kd g T k) - 256 < 0 by rw [e2]; exact nI_pos (by omega)), if_neg (show ¬ (10 : Int32) ≤ nI (kd g T k) - 256 by rw [e2]; exact nI_ge (b := 10) (by omega) (by decide)), if_neg (by decide)]
    exact h115 1 (fun z => absurd z e) (fun _ => rfl)
theorem kd_sub {a : Nat} (h : a < 256) : nI a - 256 < 0 := by
  have : ∀ a, a < 256 → nI a - 256 < 0 := by decide +kernel
  exact this a h
theorem PI_leaf0 {g : Nat → Nat} {T C : Nat} (hX : TX g T C) {σ : xS} {k n u a : Nat} {K : Nat → Nat × Nat} (kS : Int32 → xS → Option (Int32 × xS)) (h : PI g T C σ k n u K) (hk : k ≤ C) (hn : n ≤ 50) (hb : kd g T k ≤ 276) (hnu : nu g T k ≤ 1001) (h9 : kd g T k ≠ 91) (hl : ¬ (lfOK (kd g T k) (nu g T k) ∧ n < 50)) : F_X5_readPart kS (nI a) σ = some (0, uI σ 759 (nI (plT g T k))) := by
  have h400 : C ≤ 400 := Nat.le_trans hX.1 hX.2.1
  have h124 : F_X5_readPart_124 kS σ = some (0, uI σ 759 (nI (plT g T k))) := by
    unfold F_X5_readPart_124
    rw [PI_fails hX h hk, bd_eq, cz_0]
  have h115 : ∀ y2 y3 y5 : Int32, 50 ≤ n → F_X5_readPart_115 kS y2 y3 y5 σ = some (0, uI σ 759 (nI (plT g T k))) := by
    intro y2 y3 y5 h50
    unfold F_X5_readPart_115
    rw [h.2.2.1, if_neg (show ¬ nI n < 50 from nI_nlt (b := 50) h50 (by omega))]
    exact h124
  unfold F_X5_readPart
  rw [PI_tok hX h (by omega), bd_eq, if_neg (show ¬ nI (kd g T k) = 91 from nI_ne (b := 91) (by omega) (by decide) h9), h.2.1, rd_n (by omega) (by decide), (h.1.2.1 k (by omega)).2.2, PI_tok hX h (by omega), bd_eq, nm_eq, PI_tok hX h (by omega), bd_eq]
  rw [show tkN g T (plT g T k) = nu g T k from rfl]
  by_cases e : kd g T k = 274
  · rw [if_pos (show nI (kd g T k) = 274 by rw [e]; rfl)]
    by_cases hv : nu g T k ≤ 1000
    · have h50 : 50 ≤ n := by
        apply Nat.le_of_not_lt
        intro z
        exact hl ⟨Or.inl ⟨e, hv⟩, z⟩
      rw [if_neg (show ¬ (1001 : Int32) ≤ nI (nu g T k) from nI_ge (b := 1001) (by omega) (by decide))]
      unfold F_X5_readPart_86 F_X5_readPart_102 F_X5_readPart_103
      rw [if_neg (show ¬ nI (kd g T k) - 256 < 0 by rw [e]; decide), if_pos (show (10 : Int32) ≤ nI (kd g T k) - 256 by rw [e]; decide), if_pos rfl, if_neg (by decide)]
      exact h115 _ _ _ h50
    · rw [if_pos (show (1001 : Int32) ≤ nI (nu g T k) from nI_le (a := 1001) (by omega) (by omega))]
      unfold F_X5_readPart_85 F_X5_readPart_86 F_X5_readPart_102 F_X5_readPart_103
      rw [if_neg (show ¬ nI (kd g T k) - 256 < 0 by rw [e]; decide), if_pos (show (10 : Int32) ≤ nI (kd g T k) - 256 by rw [e]; decide), if_pos rfl, if_pos rfl]
      exact h124
  · rw [if_neg (show ¬ nI (kd g T k) = 274 from nI_ne (b := 274) (by omega) (by decide) e)]
    unfold F_X5_readPart_85 F_X5_readPart_86 F_X5_readPart_102 F_X5_readPart_103
    by_cases c1 : kd g T k < 256
    · rw [if_pos (kd_sub c1), if_pos rfl, if_pos rfl]
      exact h124
    have e2 : nI (kd g T k) - 256 = nI (kd g T k - 256) := pk_sub (b := 256) (by omega)
    rw [if_neg (show ¬ nI (kd g T k) - 256 < 0 by rw [e2]; exact nI_pos (by omega))]
    by_cases c2 : kd g T k < 266
    · have h50 : 50 ≤ n := by
        apply Nat.le_of_not_lt
        intro z
        exact hl ⟨Or.inr ⟨by omega, c2⟩, z⟩
      rw [if_neg (show ¬ (10 : Int32) ≤ nI (kd g T k) - 256 by rw [e2]; exact nI_ge (b := 10) (by omega) (by decide)), if_neg (by decide)]
      exact h115 _ _ _ h50
    · rw [if_pos (show (10 : Int32) ≤ nI (kd g T k) - 256 by rw [e2]; exact nI_le (a := 10) (by omega) (by omega)), if_pos rfl, if_pos rfl]
      exact h124
theorem nmC_le (g : Nat → Nat) (m : Nat) : ∀ p v, v ≤ 1001 → nmC g m p v ≤ 1001 := by
  induction m with
  | zero => exact fun p v h => h
  | succ m ih =>
    intro p v h
    rw [nmC]
    exact ih _ _ (by omega)
theorem nu_le (g : Nat → Nat) (T k : Nat) : nu g T k ≤ 1001 := by
  unfold nu tkN
  repeat' split
  · omega
  · exact nmC_le g _ _ 0 (by decide)
  · omega
end
