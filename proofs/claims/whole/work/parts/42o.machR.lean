/-! ===== the reference's machine of a law, on lists ===== -/
def skr (g : Nat → Int64) : List Int64 → Prop
  | [] => True
  | v :: S => g S.length = v ∧ skr g S
theorem skr_upd {g : Nat → Int64} {S : List Int64} {k : Nat} (v : Int64) (h : skr g S) (hk : S.length ≤ k) : skr (vp_updL g k v) S := by
  induction S with
  | nil => trivial
  | cons x S ih =>
    have hk2 : S.length + 1 ≤ k := hk
    refine ⟨?_, ih h.2 (by omega)⟩
    unfold vp_updL
    rw [if_neg (by omega)]
    exact h.1
def frR (σ σ' : xS) : Prop := (∀ k, sA σ' k = sA σ k) ∧ (∀ k, k ≠ 30 → sI σ' k = sI σ k) ∧ (∀ k, k ≠ 31 → sJ σ' k = sJ σ k) ∧ (∀ k, k ≠ 29 → sL σ' k = sL σ k) ∧ (∀ k, sQ σ' k = sQ σ k) ∧ sP σ' = sP σ
theorem frR_refl (σ : xS) : frR σ σ := ⟨fun _ => rfl, fun _ _ => rfl, fun _ _ => rfl, fun _ _ => rfl, fun _ => rfl, rfl⟩
theorem frR_trans {σ σ1 σ2 : xS} (h : frR σ σ1) (g : frR σ1 σ2) : frR σ σ2 := ⟨fun k => (g.1 k).trans (h.1 k), fun k hk => (g.2.1 k hk).trans (h.2.1 k hk), fun k hk => (g.2.2.1 k hk).trans (h.2.2.1 k hk), fun k hk => (g.2.2.2.1 k hk).trans (h.2.2.2.1 k hk), fun k => (g.2.2.2.2.1 k).trans (h.2.2.2.2.1 k), g.2.2.2.2.2.trans h.2.2.2.2.2⟩
theorem frR_I (σ : xS) (v : Int32) : frR σ (uI σ 30 v) := ⟨fun _ => rfl, fun k hk => if_neg hk, fun _ _ => rfl, fun _ _ => rfl, fun _ => rfl, rfl⟩
theorem frR_J (σ : xS) (v : Int64) : frR σ (uJ σ 31 v) := ⟨fun _ => rfl, fun _ _ => rfl, fun k hk => if_neg hk, fun _ _ => rfl, fun _ => rfl, rfl⟩
theorem frR_L (σ : xS) (g : Nat → Int64) : frR σ (uL σ 29 g) := ⟨fun _ => rfl, fun _ _ => rfl, fun _ _ => rfl, fun k hk => if_neg hk, fun _ => rfl, rfl⟩
theorem R_end {e : Nat → Int64} {S : List Int64} {σ : xS} {r : Option Int64} (h30 : sI σ 30 = 0) (hs : skr (sL σ 29) S) (hm : fin1 S = some r) : ∃ σ', F_X12_reckonAll_245 (nI S.length) σ = some ((), σ') ∧ frR σ σ' ∧ (∀ v, r = some v → sI σ' 30 = 0 ∧ sJ σ' 31 = v) ∧ (r = none → sI σ' 30 ≠ 0) := by
  unfold F_X12_reckonAll_245 F_X12_reckonAll_260
  rcases S with _ | ⟨v, _ | ⟨a, T⟩⟩
  · have hm2 : some (some (0 : Int64)) = some r := hm
    cases hm2
    rw [if_pos (by decide), nm_eq]
    exact ⟨_, rfl, frR_J _ _, fun v hv => by cases hv; exact ⟨h30, rfl⟩, fun q => by cases q⟩
  · have hm2 : some (some v) = some r := hm
    cases hm2
    rw [if_neg (show ¬ nI [v].length ≤ (0 : Int32) from nI_ge (a := 0) (b := 1) (by decide) (by decide)), show rd 400 (sL σ 29) 0 (fun v19 => nm (uJ σ 31 v19) fun σ24 => some ((), σ24)) = _ from rd_n (i := 0) (by decide) (by decide) _, nm_eq]
    exact ⟨_, rfl, frR_J _ _, fun x hx => by cases hx; exact ⟨h30, hs.1⟩, fun q => by cases q⟩
  · exact (no_some (show (none : Option (Option Int64)) = some r from hm)).elim
theorem R_brk {n : Nat} {z y3 pc : Int32} {σ : xS} (h30 : sI σ 30 ≠ 0) : ∃ σ', F_X12_reckonAll_10 (n + 1) z y3 pc σ = some ((), σ') ∧ frR σ σ' ∧ sI σ' 30 ≠ 0 := by
  have h : ∃ σ', F_X12_reckonAll_245 y3 σ = some ((), σ') ∧ frR σ σ' ∧ sI σ' 30 ≠ 0 := by
    unfold F_X12_reckonAll_245 F_X12_reckonAll_260
    by_cases h : y3 ≤ 0
    · rw [if_pos h, nm_eq]
      exact ⟨_, rfl, frR_J _ _, h30⟩
    · rw [if_neg h, show rd 400 (sL σ 29) 0 (fun v19 => nm (uJ σ 31 v19) fun σ24 => some ((), σ24)) = _ from rd_n (i := 0) (by decide) (by decide) _, nm_eq]
      exact ⟨_, rfl, frR_J _ _, h30⟩
  rw [F_X12_reckonAll_10]
  by_cases h2 : z ≤ pc
  · rw [if_pos h2]
    exact h
  · rw [if_neg h2, if_neg h30]
    exact h
theorem R_in2 (v : Int64) (σ : xS) : F_X12_in v (-1000000000) 1000000000 σ = some (b2 ((bdI v).isSome = true), σ) := by
  rw [R_in]
  congr 2
  unfold bdI b2
  by_cases h1 : v < -1000000000
  · rw [if_pos (Or.inl h1), if_neg (fun q => absurd h1 (Int64.not_lt.mpr q.1))]
    rfl
  · by_cases h2 : 1000000000 < v
    · rw [if_pos (Or.inr h2), if_neg (fun q => absurd h2 (Int64.not_lt.mpr q.2))]
      rfl
    · rw [if_pos ⟨Int64.not_lt.mp h1, Int64.not_lt.mp h2⟩, if_neg (fun q : v < -1000000000 ∨ 1000000000 < v => q.elim h1 h2)]
      rfl
/-- what reckon gives: the number, and whether it is broken -/
theorem R_reck {w : Nat} (hw : 20 ≤ w ∧ w ≤ 26) (a b : Int64) {σ : xS} (h30 : sI σ 30 = 0) : ∃ (v : Int64) (q : Int32), (q = 0 ∨ q = 1) ∧ F_X12_reckon (nI w) a b σ = some (v, uI σ 30 q) ∧ (∀ x, arR w a b = some x → q = 0 ∧ v = x ∧ (bdI v).isSome = true) ∧ (arR w a b = none → q = 1 ∨ (bdI v).isSome = false) := by
  have hself : uI σ 30 0 = σ := by
    unfold uI
    rw [show (0 : Int32) = σ.2.2.1 30 from h30.symm, up_self]
  have hb : ∀ v : Int64, (∀ x, bdI v = some x → (0 : Int32) = 0 ∧ v = x ∧ (bdI v).isSome = true) ∧ (bdI v = none → (0 : Int32) = 1 ∨ (bdI v).isSome = false) := fun v => ⟨fun x hx => ⟨rfl, (bdI_some hx).symm, by rw [hx]; rfl⟩, fun hx => Or.inr (by rw [hx]; rfl)⟩
  unfold F_X12_reckon
  rcases (show w = 20 ∨ w = 21 ∨ w = 22 ∨ w = 23 ∨ w = 24 ∨ w = 25 ∨ w = 26 by omega) with rfl | rfl | rfl | rfl | rfl | rfl | rfl
  · rw [if_pos (by decide), show arR 20 a b = bdI (a + b) from rfl]
    exact ⟨_, 0, Or.inl rfl, by rw [hself], (hb (a + b)).1, (hb (a + b)).2⟩
  · rw [if_neg (by decide), if_pos (by decide), show arR 21 a b = bdI (a - b) from rfl]
    exact ⟨_, 0, Or.inl rfl, by rw [hself], (hb (a - b)).1, (hb (a - b)).2⟩
  · rw [if_neg (by decide), if_neg (by decide), if_pos (by decide), show arR 22 a b = bdI (a * b) from rfl]
    exact ⟨_, 0, Or.inl rfl, by rw [hself], (hb (a * b)).1, (hb (a * b)).2⟩
  · rw [if_neg (by decide), if_neg (by decide), if_neg (by decide), if_pos (by decide), show arR 23 a b = (if b = 0 then none else bdI (a / b)) from rfl]
    unfold F_X12_reckon_68
    by_cases h0 : b = 0
    · rw [if_pos ((lg_cmp_eq _ _).mpr h0), cz_1, nm_eq, if_pos h0]
      rw [if_neg (show ¬ sI (uI σ 30 1) 30 = 0 from show ¬ (1 : Int32) = 0 by decide)]
      exact ⟨0, 1, Or.inr rfl, rfl, fun x hx => (no_some hx).elim, fun _ => Or.inl rfl⟩
    · rw [if_neg (fun q => h0 ((lg_cmp_eq _ _).mp q)), cz_0, nm_eq, if_neg h0]
      rw [if_pos (show sI (uI σ 30 0) 30 = 0 from rfl), nzL_y h0]
      exact ⟨_, 0, Or.inl rfl, rfl, (hb (a / b)).1, (hb (a / b)).2⟩
  · rw [if_neg (by decide), if_neg (by decide), if_neg (by decide), if_neg (by decide), if_pos (by decide), show arR 24 a b = some (if a < b then 1 else 0) from rfl]
    by_cases h : a < b
    · rw [if_neg (fun q => absurd h (Int64.not_lt.mpr ((lg_cmp_ge _ _).mp q))), if_pos h]
      exact ⟨1, 0, Or.inl rfl, by rw [hself], fun x hx => by cases hx; exact ⟨rfl, rfl, rfl⟩, fun hx => by cases hx⟩
    · rw [if_pos ((lg_cmp_ge _ _).mpr (Int64.not_lt.mp h)), if_neg h]
      exact ⟨0, 0, Or.inl rfl, by rw [hself], fun x hx => by cases hx; exact ⟨rfl, rfl, rfl⟩, fun hx => by cases hx⟩
  · rw [if_neg (by decide), if_neg (by decide), if_neg (by decide), if_neg (by decide), if_neg (by decide), if_pos (by decide), show arR 25 a b = some (if b < a then 1 else 0) from rfl]
    by_cases h : b < a
    · rw [if_neg (fun q => absurd h (Int64.not_lt.mpr ((lg_cmp_le _ _).mp q))), if_pos h]
      exact ⟨1, 0, Or.inl rfl, by rw [hself], fun x hx => by cases hx; exact ⟨rfl, rfl, rfl⟩, fun hx => by cases hx⟩
    · rw [if_pos ((lg_cmp_le _ _).mpr (Int64.not_lt.mp h)), if_neg h]
      exact ⟨0, 0, Or.inl rfl, by rw [hself], fun x hx => by cases hx; exact ⟨rfl, rfl, rfl⟩, fun hx => by cases hx⟩
  · rw [if_neg (by decide), if_neg (by decide), if_neg (by decide), if_neg (by decide), if_neg (by decide), if_neg (by decide), show arR 26 a b = some (if a = b then 1 else 0) from rfl]
    by_cases h : a = b
    · rw [if_pos ((lg_cmp_eq _ _).mpr h), if_pos h]
      exact ⟨1, 0, Or.inl rfl, by rw [hself], fun x hx => by cases hx; exact ⟨rfl, rfl, rfl⟩, fun hx => by cases hx⟩
    · rw [if_neg (fun q => h ((lg_cmp_eq _ _).mp q)), if_neg h]
      exact ⟨0, 0, Or.inl rfl, by rw [hself], fun x hx => by cases hx; exact ⟨rfl, rfl, rfl⟩, fun hx => by cases hx⟩
theorem R_mr {C : Nat → Nat × Nat} {e : Nat → Int64} {z bs : Nat} (ρ : Nat → Int32) (hC : okR ρ C z) (hbs : bs ≤ 4650) (n : Nat) : ∀ (pc : Nat) (S : List Int64) (σ : xS) (r : Option Int64), pc ≤ 4000 → (∀ k, k < 900 → sA σ 3 (bs + k) = ρ k) → sI σ 27 = nI bs → (∀ k, 1 ≤ k → k < 11 → sL σ 28 k = e k) → sI σ 30 = 0 → skr (sL σ 29) S → mr C e z n pc S = some r → ∃ σ', F_X12_reckonAll_10 (n + 1) (nI z) (nI S.length) (nI pc) σ = some ((), σ') ∧ frR σ σ' ∧ (∀ v, r = some v → sI σ' 30 = 0 ∧ sJ σ' 31 = v) ∧ (r = none → sI σ' 30 ≠ 0) := by
  obtain ⟨z1, hK⟩ := hC
  induction n with
  | zero =>
    intro pc S σ r hpc hρ h27 he h30 hs hm
    cases hm
  | succ n ih =>
    intro pc S σ r hpc hρ h27 he h30 hs hm
    rw [mr] at hm
    rw [F_X12_reckonAll_10]
    by_cases hz : z ≤ pc
    · rw [if_pos hz] at hm
      rw [if_pos (nI_le hz (by omega))]
      exact R_end (e := e) h30 hs hm
    rw [if_neg hz] at hm
    rw [if_neg (nI_ge (by omega) (by omega)), if_pos h30]
    by_cases h300 : 300 ≤ S.length
    · rw [if_pos h300] at hm
      exact (no_some hm).elim
    rw [if_neg h300] at hm
    obtain ⟨k1, k2, k3, k4, k5⟩ := hK pc (by omega)
    have hend : ∀ (pc2 : Nat) (S2 : List Int64) (σ2 : xS), pc2 ≤ 4000 → frR σ σ2 → sI σ2 30 = 0 → skr (sL σ2 29) S2 → mr C e z n pc2 S2 = some r → ∃ σ', F_X12_reckonAll_10 (n + 1) (nI z) (nI S2.length) (nI pc2) σ2 = some ((), σ') ∧ frR σ σ' ∧ (∀ v, r = some v → sI σ' 30 = 0 ∧ sJ σ' 31 = v) ∧ (r = none → sI σ' 30 ≠ 0) := by
      intro pc2 S2 σ2 g0 g1 g2 g3 g4
      obtain ⟨σ', q1, q2, q3⟩ := ih pc2 S2 σ2 r g0 (fun k hk => by rw [g1.1]; exact hρ k hk) (by rw [g1.2.1 27 (by decide)]; exact h27) (fun k hk1 hk => by rw [g1.2.2.2.1 28 (by decide)]; exact he k hk1 hk) g2 g3 g4
      exact ⟨σ', q1, frR_trans g1 q2, q3⟩
    have ei : nI bs + 98 + 2 * nI pc = nI (bs + (98 + 2 * pc)) := by
      show nI bs + nI 98 + nI 2 * nI pc = _
      rw [pk_mul, nI_add, nI_add, Nat.add_assoc]
    have ei1 : nI (bs + (98 + 2 * pc)) + 1 = nI (bs + (98 + 2 * pc + 1)) := nI_add _ 1
    rw [h27, ei, ei1, rd_n (by omega) (by decide), rd_n (by omega) (by decide), hρ _ (by omega), hρ _ (by omega), k1, k2, nm_eq, nI_1]
    generalize hx : (C pc).2 = x at *
    generalize hw : (C pc).1 = w at *
    clear ih k1 k2
    have q0 : ∀ j : Nat, j < 2 ^ 31 → w ≠ j → ¬ nI w = nI j := fun j hj hn => nI_ne (by omega) hj hn
    by_cases h20 : w < 20
    · rw [if_neg (show ¬ (20 : Int32) ≤ nI w from nI_ge (b := 20) h20 (by decide))]
      have hpush : ∀ v : Int64, mr C e z n (pc + 1) (v :: S) = some r → ∃ σ', F_X12_reckonAll_96 (F_X12_reckonAll_10 (n + 1)) (nI z) (nI S.length) (nI (pc + 1)) (nI S.length) v σ = some ((), σ') ∧ frR σ σ' ∧ (∀ v, r = some v → sI σ' 30 = 0 ∧ sJ σ' 31 = v) ∧ (r = none → sI σ' 30 ≠ 0) := by
        intro v hv
        unfold F_X12_reckonAll_96
        rw [ck_n (by omega) (by decide), nm_eq, nm_eq, nI_clamp (by omega), nI_1]
        exact hend (pc + 1) (v :: S) _ (by omega) (frR_L _ _) h30 ⟨if_pos rfl, skr_upd v hs (Nat.le_refl _)⟩ hv
      by_cases h0 : w = 0
      · subst h0
        rw [if_pos rfl] at hm
        rw [if_pos (show nI 0 = 0 from rfl), zL_n (by omega)]
        exact hpush _ hm
      · rw [if_neg h0, if_pos h20] at hm
        have h10 := k5 h20
        rw [if_neg (show ¬ nI w = (0 : Int32) from q0 0 (by decide) h0), rd_n (by omega) (by decide), he w (by omega) (by omega)]
        exact hpush _ hm
    rw [if_neg (show ¬ w = 0 by omega), if_neg h20] at hm
    rw [if_pos (show (20 : Int32) ≤ nI w from nI_le (a := 20) (by omega) (by omega))]
    by_cases h27' : 27 ≤ w
    · rw [if_pos (show (27 : Int32) ≤ nI w from nI_le (a := 27) h27' (by omega))]
      rcases S with _ | ⟨v, T⟩
      · rcases (show w = 27 ∨ w = 28 ∨ w = 29 by omega) with rfl | rfl | rfl
        · rw [if_pos rfl] at hm
          exact (no_some (show (none : Option (Option Int64)) = some r from hm)).elim
        · rw [if_neg (by decide), if_pos rfl] at hm
          exact (no_some (show (none : Option (Option Int64)) = some r from hm)).elim
        · rw [if_neg (by decide), if_neg (by decide), if_pos rfl] at hm
          exact (no_some (show (none : Option (Option Int64)) = some r from hm)).elim
      have hT : T.length < 300 := by
        have : T.length + 1 < 300 := by
          have h9 : ¬ 300 ≤ T.length + 1 := h300
          omega
        omega
      have e7 : nI (v :: T).length - 1 = nI T.length := pk_sub (a := T.length + 1) (b := 1) (by omega)
      have e8 : nI (v :: T).length + (-1) = nI T.length := by
        have e9 : nI (v :: T).length + (-1) = nI (v :: T).length - 1 := (Int32.sub_eq_add_neg ..).symm
        rw [e9, e7]
      have hv : sL σ 29 T.length = v := hs.1
      rcases (show w = 27 ∨ w = 28 ∨ w = 29 by omega) with rfl | rfl | rfl
      · rw [if_pos rfl] at hm
        have hm2 : mr C e z n (pc + 1) ((1 - v) :: T) = some r := hm
        rw [if_pos (show nI 27 = 27 from rfl), e7, rd_n (by omega) (by decide), ck_n (by omega) (by decide), nm_eq, nI_clamp (by omega), hv]
        exact hend (pc + 1) ((1 - v) :: T) _ (by omega) (frR_L _ _) h30 ⟨if_pos rfl, skr_upd _ hs.2 (Nat.le_refl _)⟩ hm2
      · rw [if_neg (by decide), if_pos rfl] at hm
        have hm2 : (if v = 0 then mr C e z n x (v :: T) else mr C e z n (pc + 1) T) = some r := hm
        rw [if_neg (show ¬ nI 28 = 27 by decide), e7, rd_n (by omega) (by decide), hv, if_pos (show nI 28 = 28 from rfl)]
        unfold F_X12_reckonAll_228
        by_cases hv0 : v = 0
        · rw [if_pos hv0] at hm2
          rw [if_pos ((lg_cmp_eq _ _).mpr hv0)]
          exact hend x (v :: T) σ (by omega) (frR_refl σ) h30 hs hm2
        · rw [if_neg hv0] at hm2
          rw [if_neg (fun q => hv0 ((lg_cmp_eq _ _).mp q)), nm_eq, e8]
          exact hend (pc + 1) T σ (by omega) (frR_refl σ) h30 hs.2 hm2
      · rw [if_neg (by decide), if_neg (by decide), if_pos rfl] at hm
        have hm2 : (if v = 1 then mr C e z n x (v :: T) else mr C e z n (pc + 1) T) = some r := hm
        rw [if_neg (show ¬ nI 29 = 27 by decide), e7, rd_n (by omega) (by decide), hv, if_neg (show ¬ nI 29 = 28 by decide)]
        unfold F_X12_reckonAll_228
        by_cases hv0 : v = 1
        · rw [if_pos hv0] at hm2
          rw [if_pos ((lg_cmp_eq _ _).mpr hv0)]
          exact hend x (v :: T) σ (by omega) (frR_refl σ) h30 hs hm2
        · rw [if_neg hv0] at hm2
          rw [if_neg (fun q => hv0 ((lg_cmp_eq _ _).mp q)), nm_eq, e8]
          exact hend (pc + 1) T σ (by omega) (frR_refl σ) h30 hs.2 hm2
    rw [if_neg (show ¬ w = 27 by omega), if_neg (show ¬ w = 28 by omega), if_neg (show ¬ w = 29 by omega)] at hm
    rw [if_neg (show ¬ (27 : Int32) ≤ nI w from nI_ge (b := 27) (by omega) (by decide))]
    rcases S with _ | ⟨b, _ | ⟨a, T⟩⟩
    · exact (no_some (show (none : Option (Option Int64)) = some r from hm)).elim
    · exact (no_some (show (none : Option (Option Int64)) = some r from hm)).elim
    have hT : T.length < 298 := by
      have h9 : ¬ 300 ≤ T.length + 1 + 1 := h300
      omega
    have e7 : nI (b :: a :: T).length - 1 = nI (T.length + 1) := pk_sub (a := T.length + 2) (b := 1) (by omega)
    have e8 : nI (b :: a :: T).length + (-1) = nI (T.length + 1) := by
      have e9 : nI (b :: a :: T).length + (-1) = nI (b :: a :: T).length - 1 := (Int32.sub_eq_add_neg ..).symm
      rw [e9, e7]
    have e9 : nI (T.length + 1) - 1 = nI T.length := pk_sub (a := T.length + 1) (b := 1) (by omega)
    have hb : sL σ 29 (T.length + 1) = b := hs.1
    have ha : sL σ 29 T.length = a := hs.2.1
    obtain ⟨v, q, hq, r1, r2, r3⟩ := R_reck (w := w) ⟨by omega, by omega⟩ a b h30
    have hin : sL (uL (uI σ 30 q) 29 (vp_updL (sL (uI σ 30 q) 29) T.length v)) 29 T.length = v := if_pos rfl
    have hI30 : sI (uL (uI σ 30 q) 29 (vp_updL (sL (uI σ 30 q) 29) T.length v)) 30 = q := rfl
    rw [e8, nm_eq, e9, rd_n (by omega) (by decide), rd_n (by omega) (by decide), ha, hb, r1, bd_eq, ck_n (by omega) (by decide), nm_eq, nI_clamp (by omega), hI30]
    have hfr : frR σ (uL (uI σ 30 q) 29 (vp_updL (sL (uI σ 30 q) 29) T.length v)) := frR_trans (frR_I _ _) (frR_L _ _)
    generalize hσ2 : uL (uI σ 30 q) 29 (vp_updL (sL (uI σ 30 q) 29) T.length v) = σ2 at *
    have hsk : skr (sL σ2 29) (v :: T) := by
      rw [← hσ2]
      exact ⟨if_pos rfl, skr_upd (g := sL (uI σ 30 q) 29) _ hs.2.2 (Nat.le_refl _)⟩
    have hm3 : oel (arR w a b) (some none) (fun v => mr C e z n (pc + 1) (v :: T)) = some r := hm
    have hbad : ∃ σ', F_X12_reckonAll_169 (F_X12_reckonAll_10 (n + 1)) (nI z) (nI (T.length + 1)) (nI (pc + 1)) σ2 = some ((), σ') ∧ frR σ σ' ∧ sI σ' 30 ≠ 0 := by
      unfold F_X12_reckonAll_169 F_X12_reckonAll_174
      rw [cz_1, nm_eq]
      obtain ⟨σ', a1, a2, a3⟩ := R_brk (n := n) (z := nI z) (y3 := nI (T.length + 1)) (pc := nI (pc + 1)) (σ := uI σ2 30 1) (show (1 : Int32) ≠ 0 by decide)
      exact ⟨σ', a1, frR_trans (frR_trans hfr (frR_I _ _)) a2, a3⟩
    cases ho : arR w a b with
    | none =>
      rw [ho] at hm3
      have hr : r = none := by
        cases hm3
        rfl
      subst hr
      have hfin : ∃ σ', F_X12_reckonAll_169 (F_X12_reckonAll_10 (n + 1)) (nI z) (nI (T.length + 1)) (nI (pc + 1)) σ2 = some ((), σ') ∧ frR σ σ' ∧ (∀ v, (none : Option Int64) = some v → sI σ' 30 = 0 ∧ sJ σ' 31 = v) ∧ ((none : Option Int64) = none → sI σ' 30 ≠ 0) := by
        obtain ⟨σ', a1, a2, a3⟩ := hbad
        exact ⟨σ', a1, a2, fun v hv => (no_some hv).elim, fun _ => a3⟩
      rcases hq with rfl | rfl
      · rcases r3 ho with h1 | h1
        · exact absurd h1 (by decide)
        · rw [if_pos rfl, rd_n (by omega) (by decide), hin, R_in2, bd_eq, h1, if_pos (by decide)]
          exact hfin
      · rw [if_neg (by decide)]
        exact hfin
    | some x =>
      rw [ho] at hm3
      have hm4 : mr C e z n (pc + 1) (x :: T) = some r := hm3
      obtain ⟨g1, g2, g3⟩ := r2 x ho
      subst g1
      subst g2
      rw [if_pos rfl, rd_n (by omega) (by decide), hin, R_in2, bd_eq, g3, if_neg (by decide)]
      unfold F_X12_reckonAll_174
      rw [cz_0, nm_eq]
      exact hend (pc + 1) (v :: T) (uI σ2 30 0) (by omega) (frR_trans hfr (frR_I _ _)) rfl hsk hm4
theorem mr_mono {C : Nat → Nat × Nat} {e : Nat → Int64} {z : Nat} (n : Nat) : ∀ (pc : Nat) (S : List Int64) (r : Option Int64), mr C e z n pc S = some r → mr C e z (n + 1) pc S = some r := by
  induction n with
  | zero =>
    intro pc S r h
    cases h
  | succ n ih =>
    intro pc S r h
    rw [mr] at h ⊢
    by_cases h1 : z ≤ pc
    · rw [if_pos h1] at h ⊢
      exact h
    rw [if_neg h1] at h ⊢
    by_cases h2 : 300 ≤ S.length
    · rw [if_pos h2] at h
      exact (no_some h).elim
    rw [if_neg h2] at h ⊢
    by_cases c0 : (C pc).1 = 0
    · rw [if_pos c0] at h ⊢
      exact ih _ _ _ h
    rw [if_neg c0] at h ⊢
    by_cases c1 : (C pc).1 < 20
    · rw [if_pos c1] at h ⊢
      exact ih _ _ _ h
    rw [if_neg c1] at h ⊢
    by_cases c6 : (C pc).1 = 27
    · rw [if_pos c6] at h ⊢
      rcases S with _ | ⟨b, T⟩
      · exact h
      · exact ih _ _ _ h
    rw [if_neg c6] at h ⊢
    by_cases c9 : (C pc).1 = 28
    · rw [if_pos c9] at h ⊢
      rcases S with _ | ⟨b, T⟩
      · exact h
      · have h5 : (if b = 0 then mr C e z n (C pc).2 (b :: T) else mr C e z n (pc + 1) T) = some r := h
        show (if b = 0 then mr C e z (n + 1) (C pc).2 (b :: T) else mr C e z (n + 1) (pc + 1) T) = some r
        by_cases hb : b = 0
        · rw [if_pos hb] at h5 ⊢
          exact ih _ _ _ h5
        · rw [if_neg hb] at h5 ⊢
          exact ih _ _ _ h5
    rw [if_neg c9] at h ⊢
    by_cases c10 : (C pc).1 = 29
    · rw [if_pos c10] at h ⊢
      rcases S with _ | ⟨b, T⟩
      · exact h
      · have h5 : (if b = 1 then mr C e z n (C pc).2 (b :: T) else mr C e z n (pc + 1) T) = some r := h
        show (if b = 1 then mr C e z (n + 1) (C pc).2 (b :: T) else mr C e z (n + 1) (pc + 1) T) = some r
        by_cases hb : b = 1
        · rw [if_pos hb] at h5 ⊢
          exact ih _ _ _ h5
        · rw [if_neg hb] at h5 ⊢
          exact ih _ _ _ h5
    rw [if_neg c10] at h ⊢
    rcases S with _ | ⟨b, _ | ⟨a, T⟩⟩
    · exact h
    · exact h
    · cases ho : arR (C pc).1 a b with
      | none =>
        have h2 : oel (arR (C pc).1 a b) (some none) (fun v => mr C e z n (pc + 1) (v :: T)) = some r := h
        show oel (arR (C pc).1 a b) (some none) (fun v => mr C e z (n + 1) (pc + 1) (v :: T)) = some r
        rw [ho] at h2 ⊢
        exact h2
      | some v =>
        have h2 : oel (arR (C pc).1 a b) (some none) (fun v => mr C e z n (pc + 1) (v :: T)) = some r := h
        show oel (arR (C pc).1 a b) (some none) (fun v => mr C e z (n + 1) (pc + 1) (v :: T)) = some r
        rw [ho] at h2 ⊢
        exact ih _ _ _ h2
