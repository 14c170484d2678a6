section
/-! ===== what a clause's steps give ===== -/
theorem segR_run {R : Nat → Nat × Nat} {q b L : Nat} {s : (Nat → Int64) → Option Int64} (h : segR R q b L s) (hL : L ≤ 299) : ∀ R', eqOn R R' q b → ∀ e, mrR R' e b q [] (some (s e)) := by
  intro R' hR e
  refine h R' hR e b _ [] (Nat.le_refl _) (by show 0 + L ≤ 299; omega) (fun x hx => ?_) (fun hx => by rw [hx])
  rw [hx]
  exact mrR_end1
theorem segR_lt {R : Nat → Nat × Nat} {q b L : Nat} {s : (Nat → Int64) → Option Int64} (h : segR R q b L s) (hL : L ≤ 298) (hb : q ≤ b) : q < b := by
  apply Nat.lt_of_le_of_ne hb
  intro e
  subst e
  have h1 : ∀ S r, mrR R (fun _ => 0) q q S r → fin1 S = r := by
    intro S r hr
    have := hr 1 (by omega)
    rw [mr, if_pos (Nat.le_refl _)] at this
    exact this
  cases hs : s (fun _ => 0) with
  | none =>
    have := h R (eqOn_refl _ _ _) (fun _ => 0) q (some none) [0] (Nat.le_refl _) (by show 1 + L ≤ 299; omega) (fun x hx => by rw [hs] at hx; cases hx) (fun _ => rfl)
    have h2 := h1 _ _ this
    cases h2
  | some x =>
    have := h R (eqOn_refl _ _ _) (fun _ => 0) q none [0] (Nat.le_refl _) (by show 1 + L ≤ 299; omega) (fun y hy => by
      intro n hn
      obtain ⟨n, rfl⟩ : ∃ m, n = m + 1 := ⟨n - 1, by omega⟩
      rw [mr, if_pos (Nat.le_refl _)]
      rfl) (fun hx => by rw [hs] at hx; cases hx)
    have h2 := h1 _ _ this
    cases h2
def clS (K : Nat → Nat × Nat) (u u' h : Nat) (s : (Nat → Int64) → Option Int64) (c : (Nat → Int64) → Option Bool) : Prop := ∀ K', eqOn K K' u u' → ∀ e : Nat → Int64, ∃ sv, mcR K' (up1 e) u' u true 0 [] (some ((clV h (s e) (c e)).isSome, sv)) ∧ ∀ v, clV h (s e) (c e) = some v → h < 3 → sv = v
def clT (R : Nat → Nat × Nat) (q b d h : Nat) (s : (Nat → Int64) → Option Int64) (c : (Nat → Int64) → Option Bool) : Prop := ∀ R', eqOn R R' q d → ∀ e : Nat → Int64, (h < 3 → mrR R' e b q [] (some (s e))) ∧ (b < d → mrR R' e d b [] (some ((c e).map b2L))) ∧ (b = d → c e = some true)
theorem clV_t {h : Nat} {s : Option Int64} (hh : h < 3) : clV h s (some true) = s := by
  show (if h < 3 then s else some 1) = s
  rw [if_pos hh]
theorem clV_3 {h : Nat} {s : Option Int64} (hh : ¬ h < 3) : clV h s (some true) = some 1 := by
  show (if h < 3 then s else some 1) = _
  rw [if_neg hh]
/-- a sum, TELL, no test -/
theorem cl_s {K R : Nat → Nat × Nat} {u v q b L h x : Nat} {s : (Nat → Int64) → Option Int64} (h1 : segC K u v L s) (h2 : segR R q b L s) (hu : u ≤ v) (hL : L ≤ 60) (hL1 : 1 ≤ L) (hh : h < 3) (hK : K v = (12, x)) : clS K u (v + 1) h s (fun _ => some true) ∧ clT R q b b h s (fun _ => some true) := by
  refine ⟨fun K' hK' e => ?_, fun R' hR' e => ⟨fun _ => segR_run h2 (by omega) R' hR' e, fun z => absurd z (Nat.lt_irrefl _), fun _ => rfl⟩⟩
  rw [clV_t hh]
  refine ⟨(s e).getD 0, ?_, fun v hv _ => by rw [hv]; rfl⟩
  refine h1 K' (eqOn_mono hK' (Nat.le_refl _) (by omega)) e (v + 1) _ true 0 [] (by omega) (by show 0 + L ≤ 61; omega) (fun y hy => ?_) (fun hy => by rw [hy]; rfl)
  rw [hy]
  exact mcR_tell (by omega) (by show 1 ≤ 61; omega) ((hK' v hu (by omega)).trans hK) mcR_end
/-- a sum, TELL, a test -/
theorem cl_st {K R : Nat → Nat × Nat} {u v u' q b d L L2 h x : Nat} {s : (Nat → Int64) → Option Int64} {c : (Nat → Int64) → Option Bool} (h1 : segC K u v L s) (h2 : segR R q b L s) (g1 : tsegC K (v + 1) u' L2 c) (g2 : segR R b d L2 (asL c)) (hu : u ≤ v) (hu2 : v + 1 ≤ u') (hb : q ≤ b) (hd : b ≤ d) (hL : L ≤ 60) (hL1 : 1 ≤ L) (hL2 : L2 ≤ 60) (hh : h < 3) (hK : K v = (12, x)) : clS K u u' h s c ∧ clT R q b d h s c := by
  have hbd := segR_lt g2 (by omega) hd
  refine ⟨fun K' hK' e => ?_, fun R' hR' e => ⟨fun _ => segR_run h2 (by omega) R' (eqOn_mono hR' (Nat.le_refl _) hd) e, fun _ => segR_run g2 (by omega) R' (eqOn_mono hR' hb (Nat.le_refl _)) e, fun z => by omega⟩⟩
  have e1 : eqOn K K' u v := eqOn_mono hK' (Nat.le_refl _) (by omega)
  have e2 : eqOn K K' (v + 1) u' := eqOn_mono hK' (by omega) (Nat.le_refl _)
  cases hs : s e with
  | none =>
    refine ⟨0, ?_, fun w hw _ => ?_⟩
    · have : (clV h none (c e)).isSome = false := by
        cases hc : c e with
        | none => rfl
        | some t =>
          cases t with
          | true => rw [clV_t hh]; rfl
          | false => rfl
      rw [this]
      exact h1 K' e1 e u' _ true 0 [] (by omega) (by show 0 + L ≤ 61; omega) (fun y hy => by rw [hs] at hy; cases hy) (fun _ => rfl)
    · cases hc : c e with
      | none => rw [hc] at hw; cases hw
      | some t =>
        rw [hc] at hw
        cases t with
        | true => rw [clV_t hh] at hw; cases hw
        | false => cases hw
  | some y =>
    refine ⟨y, ?_, fun w hw _ => ?_⟩
    · refine h1 K' e1 e u' _ true 0 [] (by omega) (by show 0 + L ≤ 61; omega) (fun y2 hy => ?_) (fun hy => by rw [hs] at hy; cases hy)
      rw [hs] at hy
      cases hy
      refine mcR_tell (by omega) (by show 1 ≤ 61; omega) ((hK' v hu (by omega)).trans hK) ?_
      refine g1 K' e2 e u' _ y [] (Nat.le_refl _) (by show 0 + L2 ≤ 61; omega) (fun t ht => ?_) (fun ht => by rw [ht]; rfl) true
      rw [ht]
      cases t with
      | true =>
        rw [clV_t hh]
        exact mcR_end
      | false => exact mcR_end
    · cases hc : c e with
      | none => rw [hc] at hw; cases hw
      | some t =>
        rw [hc] at hw
        cases t with
        | true =>
          rw [clV_t hh] at hw
          cases hw
          rfl
        | false => cases hw
/-- no sum, no test -/
theorem cl_0 (K R : Nat → Nat × Nat) (u q h : Nat) (hh : ¬ h < 3) : clS K u u h (fun _ => none) (fun _ => some true) ∧ clT R q q q h (fun _ => none) (fun _ => some true) := by
  refine ⟨fun K' _ e => ⟨0, ?_, fun v _ z => absurd z hh⟩, fun R' _ e => ⟨fun z => absurd z hh, fun z => absurd z (Nat.lt_irrefl _), fun _ => rfl⟩⟩
  rw [clV_3 hh]
  exact mcR_end
/-- no sum, a test -/
theorem cl_t {K R : Nat → Nat × Nat} {u u' q d L2 h : Nat} {c : (Nat → Int64) → Option Bool} (g1 : tsegC K u u' L2 c) (g2 : segR R q d L2 (asL c)) (hd : q ≤ d) (hL2 : L2 ≤ 60) (hh : ¬ h < 3) : clS K u u' h (fun _ => none) c ∧ clT R q q d h (fun _ => none) c := by
  have hbd := segR_lt g2 (by omega) hd
  refine ⟨fun K' hK' e => ⟨0, ?_, fun v _ z => absurd z hh⟩, fun R' hR' e => ⟨fun z => absurd z hh, fun _ => segR_run g2 (by omega) R' hR' e, fun z => by omega⟩⟩
  refine g1 K' hK' e u' _ 0 [] (Nat.le_refl _) (by show 0 + L2 ≤ 61; omega) (fun t ht => ?_) (fun ht => by rw [ht]; rfl) true
  rw [ht]
  cases t with
  | true =>
    rw [clV_3 hh]
    exact mcR_end
  | false => exact mcR_end
end
