section
/-! ===== what the law in force tells ===== -/
theorem mc_le {C : Nat → Nat × Nat} {e : Nat → Int64} {z n n' pc : Nat} {f : Bool} {s : Int64} {S : List Int64} {r : Bool × Int64} (hn : n ≤ n') (h : mc C e z n pc f s S = some r) : mc C e z n' pc f s S = some r := by
  obtain ⟨j, rfl⟩ : ∃ j, n' = n + j := ⟨n' - n, by omega⟩
  induction j with
  | zero => exact h
  | succ j ih => exact mc_mono _ _ _ _ _ _ (ih (by omega))
theorem mr_le {C : Nat → Nat × Nat} {e : Nat → Int64} {z n n' pc : Nat} {S : List Int64} {r : Option Int64} (hn : n ≤ n') (h : mr C e z n pc S = some r) : mr C e z n' pc S = some r := by
  obtain ⟨j, rfl⟩ : ∃ j, n' = n + j := ⟨n' - n, by omega⟩
  induction j with
  | zero => exact h
  | succ j ih => exact mr_mono _ _ _ _ (ih (by omega))
theorem okC_le {p : xP} {C : Nat → Nat × Nat} {z z' : Nat} (h : okC p C z) (hz : z' ≤ z) : okC p C z' := ⟨Nat.le_trans hz h.1, h.2.1, fun k hk => h.2.2 k (by omega)⟩
theorem okR_le {ρ : Nat → Int32} {C : Nat → Nat × Nat} {z z' : Nat} (h : okR ρ C z) (hz : z' ≤ z) : okR ρ C z' := ⟨Nat.le_trans hz h.1, fun k hk => h.2 k (by omega)⟩
theorem C_holds {p : xP} {ρ : Nat → Int32} {m z : Nat} {hd st a b d : Nat → Nat} {K R : Nat → Nat × Nat} {sm : Nat → (Nat → Int64) → Option Int64} {cd : Nat → (Nat → Int64) → Option Bool} (hL : lawBy p ρ m z hd st a b d K R sm cd) {σ : xS} {g c : Nat} {e : Nat → Int64} (hp : (sP σ)[g]? = some p) (he : ∀ k, k < 10 → (sA σ 45 k).toInt64 = e (k + 1)) (hc : c < m) : ∃ σ', F_X0_holds g (nI c) σ = some (b2 ((clV (hd c) (sm c e) (cd c e)).isSome = true), σ') ∧ (∀ v, clV (hd c) (sm c e) (cd c e) = some v → hd c < 3 → sJ σ' 708 = v) ∧ frS σ σ' := by
  obtain ⟨h1, h2, h3, h4, h5, h6, h7, h8, h9, h10, h11⟩ := hL
  obtain ⟨s1, s2⟩ := h9 c (by omega)
  obtain ⟨t1, t2⟩ := h9 (c + 1) (by omega)
  have hu := h6.2.1
  obtain ⟨⟨s, q1, q2⟩, -⟩ := h11 c hc e
  obtain ⟨σ', x1, x2, x3⟩ := C_mc (okC_le h6 t2) FU (st c) true 0 [] (uJ (uI σ 707 2) 708 0) _ s (by omega) (show (sP (uJ (uI σ 707 2) 708 0))[g]? = some p from hp) he rfl trivial rfl (by decide) (mc_le (by decide) q1)
  refine ⟨σ', ?_, fun v hv hh => by rw [x2]; exact q2 v hv hh, frS_trans (frS_trans (frS_I σ 2) (frS_J _ 0)) x3⟩
  have hlw : ∀ {β : Type} (k : xP → Option β), lw (uJ (uI σ 707 2) 708 0) g k = k p := fun k => by
    unfold lw
    rw [show (sP (uJ (uI σ 707 2) 708 0))[g]? = some p from hp]
  have ec : nI c + 1 = nI (c + 1) := nI_add c 1
  have em : mnI (nI (st (c + 1))) (Int32.ofNat p.2.2.2.1) = nI (st (c + 1)) := by
    show mnI (nI (st (c + 1))) (nI p.2.2.2.1) = _
    rw [mnI_n (by omega) (by omega), Nat.min_eq_left t2]
  unfold F_X0_holds
  rw [nm_eq, nm_eq, nm_eq, hlw, ec, rd_n (by omega) (by omega), hlw, nm_eq, hlw, rd_n (by omega) (by omega), t1, s1, em]
  exact x1
/-- the last clause of a head that holds -/
def lastT (h : Nat) (hd : Nat → Nat) (res : Nat → Option Int64) : Nat → Option Int64
  | 0 => none
  | c + 1 => if hd c = h then (match res c with
    | some v => some v
    | none => lastT h hd res c) else lastT h hd res c
def ansL (s most : Int64) : Int32 := (mxL 0 (mnL s most)).toInt32
theorem C_told_loop {p : xP} {ρ : Nat → Int32} {m z : Nat} {hd st a b d : Nat → Nat} {K R : Nat → Nat × Nat} {sm : Nat → (Nat → Int64) → Option Int64} {cd : Nat → (Nat → Int64) → Option Bool} (hL : lawBy p ρ m z hd st a b d K R sm cd) {g h : Nat} (hh : h < 4) {e : Nat → Int64} (most wo : Int32) (c : Nat) : ∀ (n : Nat) (σ : xS), c < n → c ≤ m → (sP σ)[g]? = some p → (∀ k, k < 10 → (sA σ 45 k).toInt64 = e (k + 1)) → ∃ (s : Int64) (σ' : xS), F_X0_told_25 n (nI (10 + h)) most wo g (nI c - 1) σ = some ((match lastT h hd (fun c => clV (hd c) (sm c e) (cd c e)) c with
    | none => wo
    | some _ => ansL s most.toInt64), σ') ∧ (∀ v, lastT h hd (fun c => clV (hd c) (sm c e) (cd c e)) c = some v → h < 3 → s = v) ∧ frS σ σ' := by
  induction c with
  | zero =>
    intro n σ hn hc hp he
    obtain ⟨n, rfl⟩ : ∃ q, n = q + 1 := ⟨n - 1, by omega⟩
    rw [F_X0_told_25, if_pos (show nI 0 - 1 < 0 by decide)]
    exact ⟨0, σ, rfl, fun v hv => (no_some hv).elim, frS_refl σ⟩
  | succ c ih =>
    intro n σ hn hc hp he
    obtain ⟨n, rfl⟩ : ∃ q, n = q + 1 := ⟨n - 1, by omega⟩
    have h1 := hL
    obtain ⟨m1, -, m2, -, -, -, -, m8, -⟩ := h1
    obtain ⟨k1, k2, -⟩ := m8 c (by omega)
    have e1 : nI (c + 1) - 1 = nI c := pk_sub (a := c + 1) (b := 1) (by omega)
    have e2 : nI c + (-1) = nI c - 1 := (Int32.sub_eq_add_neg ..).symm
    have hlw : ∀ {β : Type} (k : xP → Option β), lw σ g k = k p := fun k => by
      unfold lw
      rw [hp]
    rw [F_X0_told_25, e1, if_neg (nI_pos (by omega)), hlw, rd_n (by omega) (by omega), k2, e2]
    by_cases hq : hd c = h
    · rw [if_pos (by rw [hq])]
      obtain ⟨σ1, x1, x2, x3⟩ := C_holds hL (c := c) hp he (by omega)
      rw [x1, bd_eq, ib2]
      cases hv : clV (hd c) (sm c e) (cd c e) with
      | none =>
        rw [if_neg (by decide), nm_eq]
        obtain ⟨s, σ', y1, y2, y3⟩ := ih n σ1 (by omega) (by omega) (by rw [x3.2.2.2.2.2]; exact hp) (fun k hk => by rw [x3.1]; exact he k hk)
        have hl : lastT h hd (fun c => clV (hd c) (sm c e) (cd c e)) (c + 1) = lastT h hd (fun c => clV (hd c) (sm c e) (cd c e)) c := by
          rw [lastT, if_pos hq]
          show (match clV (hd c) (sm c e) (cd c e) with
            | some v => some v
            | none => lastT h hd (fun c => clV (hd c) (sm c e) (cd c e)) c) = _
          rw [hv]
        rw [hl]
        exact ⟨s, σ', y1, y2, frS_trans x3 y3⟩
      | some v =>
        have hl : lastT h hd (fun c => clV (hd c) (sm c e) (cd c e)) (c + 1) = some v := by
          rw [lastT, if_pos hq]
          show (match clV (hd c) (sm c e) (cd c e) with
            | some v => some v
            | none => lastT h hd (fun c => clV (hd c) (sm c e) (cd c e)) c) = _
          rw [hv]
        rw [if_pos (show (some v).isSome = true from rfl), hl]
        exact ⟨sJ σ1 708, σ1, rfl, fun x hx h3 => by cases hx; exact x2 v hv (by omega), x3⟩
    · rw [if_neg (fun q => hq (by have := nI_inj (by omega) (by omega) q; omega)), nm_eq]
      obtain ⟨s, σ', y1, y2, y3⟩ := ih n σ (by omega) (by omega) hp he
      rw [show lastT h hd (fun c => clV (hd c) (sm c e) (cd c e)) (c + 1) = lastT h hd (fun c => clV (hd c) (sm c e) (cd c e)) c from if_neg hq]
      exact ⟨s, σ', y1, y2, y3⟩
/-! ===== and in the reference ===== -/
def frT (τ τ' : xS) : Prop := (∀ k, sA τ' k = sA τ k) ∧ (∀ k, k ≠ 27 → k ≠ 30 → sI τ' k = sI τ k) ∧ (∀ k, k ≠ 31 → k ≠ 32 → sJ τ' k = sJ τ k) ∧ (∀ k, k ≠ 28 → k ≠ 29 → sL τ' k = sL τ k) ∧ (∀ k, sQ τ' k = sQ τ k) ∧ sP τ' = sP τ
theorem frT_refl (τ : xS) : frT τ τ := ⟨fun _ => rfl, fun _ _ _ => rfl, fun _ _ _ => rfl, fun _ _ _ => rfl, fun _ => rfl, rfl⟩
theorem frT_trans {σ σ1 σ2 : xS} (h : frT σ σ1) (g : frT σ1 σ2) : frT σ σ2 := ⟨fun k => (g.1 k).trans (h.1 k), fun k h1 h2 => (g.2.1 k h1 h2).trans (h.2.1 k h1 h2), fun k h1 h2 => (g.2.2.1 k h1 h2).trans (h.2.2.1 k h1 h2), fun k h1 h2 => (g.2.2.2.1 k h1 h2).trans (h.2.2.2.1 k h1 h2), fun k => (g.2.2.2.2.1 k).trans (h.2.2.2.2.1 k), g.2.2.2.2.2.trans h.2.2.2.2.2⟩
theorem frT_R {σ σ1 : xS} (h : frR σ σ1) : frT σ σ1 := ⟨h.1, fun k _ h2 => h.2.1 k h2, fun k h1 _ => h.2.2.1 k h1, fun k _ h2 => h.2.2.2.1 k h2, h.2.2.2.2.1, h.2.2.2.2.2⟩
/-- what a clause leaves as it was: frT, and the words too -/
def frU (τ τ' : xS) : Prop := frT τ τ' ∧ sI τ' 27 = sI τ 27 ∧ sL τ' 28 = sL τ 28
theorem frU_R {σ σ1 : xS} (h : frR σ σ1) : frU σ σ1 := ⟨frT_R h, h.2.1 27 (by decide), h.2.2.2.1 28 (by decide)⟩
theorem frU_trans {σ σ1 σ2 : xS} (h : frU σ σ1) (g : frU σ1 σ2) : frU σ σ2 := ⟨frT_trans h.1 g.1, g.2.1.trans h.2.1, g.2.2.trans h.2.2⟩
theorem frU_J (σ : xS) (v : Int64) : frU σ (uJ σ 32 v) := ⟨⟨fun _ => rfl, fun _ _ _ => rfl, fun k _ h2 => if_neg h2, fun _ _ _ => rfl, fun _ => rfl, rfl⟩, rfl, rfl⟩
theorem R_all {ρ : Nat → Int32} {R : Nat → Nat × Nat} {z bs x y : Nat} {e : Nat → Int64} {σ : xS} {r : Option Int64} (hC : okR ρ R y) (hbs : bs ≤ 4650) (hx : x ≤ 400) (hρ : ∀ k, k < 900 → sA σ 3 (bs + k) = ρ k) (h27 : sI σ 27 = nI bs) (he : ∀ k, 1 ≤ k → k < 11 → sL σ 28 k = e k) (hm : mr R e y 2000 x [] = some r) : ∃ σ', F_X12_reckonAll (nI x) (nI y) σ = some ((), σ') ∧ frR σ σ' ∧ (∀ v, r = some v → sI σ' 30 = 0 ∧ sJ σ' 31 = v) ∧ (r = none → sI σ' 30 ≠ 0) := by
  obtain ⟨σ', q1, q2, q3⟩ := R_mr ρ hC hbs 99999 x [] (uI σ 30 0) r (by omega) hρ h27 he rfl trivial (mr_le (by decide) hm)
  refine ⟨σ', ?_, frR_trans (frR_I σ 0) q2, q3⟩
  unfold F_X12_reckonAll
  rw [cz_0, nm_eq, nm_eq]
  exact q1
theorem R_isSo {p : xP} {ρ : Nat → Int32} {m z : Nat} {hd st a b d : Nat → Nat} {K R : Nat → Nat × Nat} {sm : Nat → (Nat → Int64) → Option Int64} {cd : Nat → (Nat → Int64) → Option Bool} (hL : lawBy p ρ m z hd st a b d K R sm cd) {σ : xS} {bs c : Nat} {e : Nat → Int64} (hbs : bs ≤ 4650) (hρ : ∀ k, k < 900 → sA σ 3 (bs + k) = ρ k) (h27 : sI σ 27 = nI bs) (he : ∀ k, 1 ≤ k → k < 11 → sL σ 28 k = e k) (hc : c < m) : ∃ σ', F_X12_isSo (nI (bs + (2 + 8 * c))) σ = some (b2 ((clV (hd c) (sm c e) (cd c e)).isSome = true), σ') ∧ (∀ v, clV (hd c) (sm c e) (cd c e) = some v → hd c < 3 → sJ σ' 32 = v) ∧ frU σ σ' := by
  obtain ⟨h1, h2, h3, h4, h5, h6, h7, h8, h9, h10, h11⟩ := hL
  obtain ⟨g0, -, g1⟩ := h8 c hc
  obtain ⟨a1, a2, a3, a4, a5, a6, a7⟩ := h10 c hc
  obtain ⟨-, b1, b2', b3⟩ := h11 c hc e
  have hz := h7.1
  have ix : ∀ (j : Nat) (v : Int32), j < 900 → ρ j = v → ∀ (σ1 : xS), sA σ1 3 = sA σ 3 → ∀ {β : Type} (k : Int32 → Option β), rd 5550 (sA σ1 3) (nI (bs + j)) k = k v := by
    intro j v hj hv σ1 h3 β k
    rw [rd_n (by omega) (by decide), h3, hρ j hj, hv]
  have e3 : nI (bs + (2 + 8 * c)) + 3 = nI (bs + (2 + 8 * c + 3)) := nI_add _ 3
  have e4 : nI (bs + (2 + 8 * c)) + 4 = nI (bs + (2 + 8 * c + 4)) := nI_add _ 4
  have e5 : nI (bs + (2 + 8 * c)) + 5 = nI (bs + (2 + 8 * c + 5)) := nI_add _ 5
  have e6 : nI (bs + (2 + 8 * c)) + 6 = nI (bs + (2 + 8 * c + 6)) := nI_add _ 6
  have h59 : cd c e = some true → ∀ σ1, frU σ σ1 → ∃ σ', F_X12_isSo_59 (nI (bs + (2 + 8 * c))) σ1 = some (b2 ((clV (hd c) (sm c e) (cd c e)).isSome = true), σ') ∧ (∀ v, clV (hd c) (sm c e) (cd c e) = some v → hd c < 3 → sJ σ' 32 = v) ∧ frU σ σ' := by
    intro hcd σ1 hf
    have e0 : sA σ1 3 = sA σ 3 := hf.1.1 3
    unfold F_X12_isSo_59
    rw [ix _ _ (by omega) g1 σ1 e0, hcd]
    by_cases h3' : hd c < 3
    · rw [if_neg (show ¬ (3 : Int32) ≤ nI (hd c) from nI_ge (b := 3) h3' (by decide)), e3, e4, ix _ _ (by omega) a1 σ1 e0, ix _ _ (by omega) a2 σ1 e0]
      obtain ⟨σ2, q1, q2, q3, q4⟩ := R_all (z := z) (okR_le h7 (show b c ≤ z by omega)) hbs (by omega) (fun k hk => by rw [e0]; exact hρ k hk) (by rw [hf.2.1]; exact h27) (fun k k1 k2 => by rw [hf.2.2]; exact he k k1 k2) (b1 h3')
      rw [q1, bd_eq, nm_eq]
      have hfin := frU_trans hf (frU_trans (frU_R q2) (frU_J σ2 (sJ σ2 31)))
      show ∃ σ', (if sI σ2 30 = 0 then cz 1 (some (1, uJ σ2 32 (sJ σ2 31))) else cz 0 (some (0, uJ σ2 32 (sJ σ2 31)))) = _ ∧ _
      cases hs : sm c e with
      | none =>
        rw [if_neg (q4 hs), cz_0]
        refine ⟨_, ?_, fun v hv => ?_, hfin⟩
        · unfold clV
          rw [if_pos h3']
          rfl
        · unfold clV at hv
          rw [if_pos h3'] at hv
          exact (no_some hv).elim
      | some v =>
        obtain ⟨x1, x2⟩ := q3 v hs
        rw [if_pos x1, cz_1]
        refine ⟨_, ?_, fun y hy _ => ?_, hfin⟩
        · unfold clV
          rw [if_pos h3']
          rfl
        · unfold clV at hy
          rw [if_pos h3'] at hy
          cases hy
          exact x2
    · rw [if_pos (show (3 : Int32) ≤ nI (hd c) from nI_le (a := 3) (by omega) (by omega)), cz_1]
      refine ⟨σ1, ?_, fun v hv hh => absurd hh h3', hf⟩
      unfold clV
      rw [if_neg h3']
      rfl
  unfold F_X12_isSo
  rw [e5, e6, ix _ _ (by omega) a3 σ rfl, ix _ _ (by omega) a4 σ rfl]
  by_cases hbd : d c ≤ b c
  · rw [if_pos (nI_le hbd (by omega))]
    exact h59 (b3 (by omega)) σ ⟨frT_refl σ, rfl, rfl⟩
  · rw [if_neg (nI_ge (by omega) (by omega)), ix _ _ (by omega) a3 σ rfl, ix _ _ (by omega) a4 σ rfl]
    obtain ⟨σ2, q1, q2, q3, q4⟩ := R_all (z := z) (okR_le h7 a7) hbs (by omega) hρ h27 he (b2' (by omega))
    rw [q1, bd_eq]
    have hno : (cd c e ≠ some true) → ∃ σ', cz 0 (some (0, σ2)) = some (b2 ((clV (hd c) (sm c e) (cd c e)).isSome = true), σ') ∧ (∀ v, clV (hd c) (sm c e) (cd c e) = some v → hd c < 3 → sJ σ' 32 = v) ∧ frU σ σ' := by
      intro hne
      have hv0 : clV (hd c) (sm c e) (cd c e) = none := by
        unfold clV
        split
        · rename_i hx
          exact absurd hx hne
        · rfl
      rw [hv0, cz_0]
      exact ⟨σ2, rfl, fun v hv => (no_some hv).elim, frU_R q2⟩
    cases hcd : cd c e with
    | none =>
      rw [hcd] at q4 hno
      rw [if_neg (q4 rfl)]
      exact hno (fun q => no_some q)
    | some t =>
      rw [hcd] at q3
      obtain ⟨x1, x2⟩ := q3 (b2L t) rfl
      rw [if_pos x1, x2]
      cases t with
      | false =>
        rw [hcd] at hno
        rw [if_pos (by decide)]
        exact hno (fun q => by cases q)
      | true =>
        rw [if_neg (by decide), ← hcd]
        exact h59 hcd σ2 (frU_R q2)
theorem R_told_loop {p : xP} {ρ : Nat → Int32} {m z : Nat} {hd st a b d : Nat → Nat} {K R : Nat → Nat × Nat} {sm : Nat → (Nat → Int64) → Option Int64} {cd : Nat → (Nat → Int64) → Option Bool} (hL : lawBy p ρ m z hd st a b d K R sm cd) {bs h : Nat} (hh : h < 4) (hbs : bs ≤ 4650) {e : Nat → Int64} (most : Int32) (wo : Int64) (i : Nat) : ∀ (n c : Nat) (y : Int64) (σ : xS), i < n → c + i = m → (∀ k, k < 900 → sA σ 3 (bs + k) = ρ k) → sI σ 27 = nI bs → (∀ k, 1 ≤ k → k < 11 → sL σ 28 k = e k) → y = (lastT h hd (fun c => clV (hd c) (sm c e) (cd c e)) c).getD wo → ∃ σ', F_X12_tells_171 n (nI h) most y (nI c) σ = some ((if 0 ≤ lg_cmp ((lastT h hd (fun c => clV (hd c) (sm c e) (cd c e)) m).getD wo) 0 then (if lg_cmp ((lastT h hd (fun c => clV (hd c) (sm c e) (cd c e)) m).getD wo) most.toInt64 ≤ 0 then ((lastT h hd (fun c => clV (hd c) (sm c e) (cd c e)) m).getD wo).toInt32 else most) else 0), σ') ∧ frU σ σ' := by
  have hL2 := hL
  obtain ⟨m1, -, -, -, m5, -, -, m8, -⟩ := hL2
  induction i with
  | zero =>
    intro n c y σ hn hc hρ h27 he hy
    obtain ⟨n, rfl⟩ : ∃ q, n = q + 1 := ⟨n - 1, by omega⟩
    obtain rfl : c = m := by omega
    have e1 : nI bs + 1 = nI (bs + 1) := nI_add _ 1
    rw [F_X12_tells_171, h27, e1, rd_n (by omega) (by decide), hρ 1 (by decide), m5, if_pos (nI_le (Nat.le_refl _) (by omega)), ← hy]
    refine ⟨σ, ?_, frT_refl σ, rfl, rfl⟩
    split
    · split <;> rfl
    · rfl
  | succ i ih =>
    intro n c y σ hn hc hρ h27 he hy
    obtain ⟨n, rfl⟩ : ∃ q, n = q + 1 := ⟨n - 1, by omega⟩
    have e1 : nI bs + 1 = nI (bs + 1) := nI_add _ 1
    have e2 : nI bs + 2 + 8 * nI c = nI (bs + (2 + 8 * c)) := by
      show nI bs + nI 2 + nI 8 * nI c = _
      rw [pk_mul, nI_add, nI_add, Nat.add_assoc]
    obtain ⟨k1, -, k3⟩ := m8 c (by omega)
    rw [F_X12_tells_171, h27, e1, rd_n (by omega) (by decide), hρ 1 (by decide), m5, if_neg (nI_ge (by omega) (by omega)), nm_eq, e2, rd_n (by omega) (by decide), hρ _ (by omega), k3]
    by_cases hq : hd c = h
    · rw [if_pos (by rw [hq])]
      obtain ⟨σ1, x1, x2, x3⟩ := R_isSo hL (c := c) hbs hρ h27 he (by omega)
      have hnext : ∀ y', y' = (lastT h hd (fun c => clV (hd c) (sm c e) (cd c e)) (c + 1)).getD wo → ∀ σ2, σ2 = σ1 → ∃ σ', F_X12_tells_171 n (nI h) most y' (nI (c + 1)) σ2 = some ((if 0 ≤ lg_cmp ((lastT h hd (fun c => clV (hd c) (sm c e) (cd c e)) m).getD wo) 0 then (if lg_cmp ((lastT h hd (fun c => clV (hd c) (sm c e) (cd c e)) m).getD wo) most.toInt64 ≤ 0 then ((lastT h hd (fun c => clV (hd c) (sm c e) (cd c e)) m).getD wo).toInt32 else most) else 0), σ') ∧ frU σ σ' := by
        intro y' hy' σ2 h2
        subst h2
        obtain ⟨σ', z1, z2⟩ := ih n (c + 1) y' σ2 (by omega) (by omega) (fun k hk => by rw [x3.1.1]; exact hρ k hk) (by rw [x3.2.1]; exact h27) (fun k q1 q2 => by rw [x3.2.2]; exact he k q1 q2) hy'
        exact ⟨σ', z1, frU_trans x3 z2⟩
      rw [x1, bd_eq, ib2]
      have hl : lastT h hd (fun c => clV (hd c) (sm c e) (cd c e)) (c + 1) = (match clV (hd c) (sm c e) (cd c e) with
            | some v => some v
            | none => lastT h hd (fun c => clV (hd c) (sm c e) (cd c e)) c) := by
        rw [lastT, if_pos hq]
      cases hv : clV (hd c) (sm c e) (cd c e) with
      | none =>
        rw [hv] at hl
        rw [if_neg (by decide), nm_eq, nI_1]
        exact hnext y (by rw [hl]; exact hy) σ1 rfl
      | some v =>
        rw [hv] at hl
        rw [if_pos (show (some v).isSome = true from rfl)]
        by_cases h3 : h < 3
        · rw [if_neg (show ¬ (3 : Int32) ≤ nI h from nI_ge (b := 3) h3 (by decide)), nm_eq, nm_eq, nI_1]
          exact hnext _ (by rw [hl]; exact x2 v hv (by omega)) σ1 rfl
        · rw [if_pos (show (3 : Int32) ≤ nI h from nI_le (a := 3) (by omega) (by omega)), nm_eq, nm_eq, nI_1]
          refine hnext _ ?_ σ1 rfl
          rw [hl]
          unfold clV at hv
          split at hv
          · rw [if_neg (by omega)] at hv
            cases hv
            rfl
          · exact (no_some hv).elim
    · rw [if_neg (fun q => hq (nI_inj (by omega) (by omega) q)), nm_eq, nI_1]
      exact ih n (c + 1) y σ (by omega) (by omega) hρ h27 he (by rw [show lastT h hd (fun c => clV (hd c) (sm c e) (cd c e)) (c + 1) = lastT h hd (fun c => clV (hd c) (sm c e) (cd c e)) c from if_neg hq]; exact hy)
theorem clamp_eq (v : Int64) (most : Int32) (hm : 0 ≤ most) : (if 0 ≤ lg_cmp v 0 then (if lg_cmp v most.toInt64 ≤ 0 then v.toInt32 else most) else 0) = ansL v most.toInt64 := by
  have hm2 : (0 : Int64) ≤ most.toInt64 := (i64_le 0 most).mpr hm
  have ht : most.toInt64.toInt32 = most := by
    apply Int32.toInt_inj.mp
    have h1 := Int32.le_toInt most
    have h2 := Int32.toInt_lt most
    rw [Int64.toInt_toInt32, Int32.toInt_toInt64]
    apply Int.bmod_eq_of_le_mul_two
    · rw [show ((2 ^ 32 : Nat) : Int) = 4294967296 from rfl]
      omega
    · rw [show ((2 ^ 32 : Nat) : Int) = 4294967296 from rfl]
      omega
  unfold ansL mxL mnL
  by_cases h1 : (0 : Int64) ≤ v
  · rw [if_pos ((lg_cmp_ge _ _).mpr h1)]
    by_cases h2 : v ≤ most.toInt64
    · rw [if_pos ((lg_cmp_le _ _).mpr h2), if_neg (show ¬ most.toInt64 < v from Int64.not_lt.mpr h2), if_neg (show ¬ v < 0 from Int64.not_lt.mpr h1)]
    · rw [if_neg (fun q => h2 ((lg_cmp_le _ _).mp q)), if_pos (show most.toInt64 < v from Int64.not_le.mp h2), if_neg (show ¬ most.toInt64 < 0 from Int64.not_lt.mpr hm2), ht]
  · rw [if_neg (fun q => h1 ((lg_cmp_ge _ _).mp q))]
    have h2 : v < 0 := Int64.not_le.mp h1
    have h3 : ¬ most.toInt64 < v := by
      rw [Int64.lt_iff_toInt_lt] at h2 ⊢
      rw [Int64.le_iff_toInt_le] at hm2
      omega
    rw [if_neg h3, if_pos h2]
    rfl
end
