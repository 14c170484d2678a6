section
/-! ===== AND, OR: the class's chains ===== -/
def hd1 : List Nat → Nat
  | [] => 0
  | j :: _ => j + 1
def chv : List Nat → Int32
  | [] => -1
  | j :: _ => nI j
theorem chv_1 (J : List Nat) : chv J + 1 = nI (hd1 J) := by
  cases J with
  | nil => rfl
  | cons j J => exact nI_1 j
theorem chv_0 (J : List Nat) : nI (hd1 J) - 1 = chv J := by
  cases J with
  | nil => rfl
  | cons j J => exact nI_pred j
def chn (K : Nat → Nat × Nat) (wd : Nat) : List Nat → Prop
  | [] => True
  | j :: J => K j = (wd, hd1 J) ∧ (∀ i, i ∈ J → i < j) ∧ chn K wd J
theorem chn_on {K K1 : Nat → Nat × Nat} {wd : Nat} {J : List Nat} (h : chn K wd J) (he : ∀ j, j ∈ J → K1 j = K j) : chn K1 wd J := by
  induction J with
  | nil => trivial
  | cons j J ih => exact ⟨(he j List.mem_cons_self).trans h.1, h.2.1, ih h.2.2 (fun i hi => he i (List.mem_cons_of_mem _ hi))⟩
theorem hd1_lt {J : List Nat} {u : Nat} (h : ∀ j, j ∈ J → j < u) : hd1 J ≤ u := by
  cases J with
  | nil => exact Nat.zero_le _
  | cons j J => exact h j List.mem_cons_self
theorem PI_jump {g : Nat → Nat} {T C : Nat} {σ : xS} {k n u : Nat} {K : Nat → Nat × Nat} {J : List Nat} (h : PI g T C σ k n u K) (hu : u < 400) {a : Nat} (ha : a = 10 ∨ a = 11) (hJ : ∀ j, j ∈ J → j < u) : F_X5_jump (nI a) (chv J) σ = some (chv (u :: J), stS σ u a (hd1 J)) ∧ PI g T C (stS σ u a (hd1 J)) k n (u + 1) (updN K u (a, hd1 J)) ∧ cxF σ (stS σ u a (hd1 J)) := by
  have hl := hd1_lt hJ
  obtain ⟨s1, s2, s3⟩ := PI_step h hu (a := a) (x := hd1 J) ⟨show a ≤ 12 by omega, show hd1 J < 2000 by omega, fun z => absurd z (show ¬ a = 1 by omega)⟩
  refine ⟨?_, s2, s3⟩
  unfold F_X5_jump
  rw [chv_1, s1, bd_eq, s2.2.2.2.1, nI_pred]
  rfl
theorem lnd_cons {K : Nat → Nat × Nat} {wd u j : Nat} {J : List Nat} : lnd (updN K j (wd, u)) wd u J = lnd K wd u (j :: J) := by
  funext i
  by_cases c : i ∈ J
  · rw [lnd_in c, lnd_in (List.mem_cons_of_mem _ c)]
  · rw [lnd_out c]
    by_cases e : i = j
    · subst e
      rw [updN_s, lnd_in List.mem_cons_self]
    · rw [updN_n e, lnd_out (fun z => (List.mem_cons.mp z).elim e c)]
theorem PI_land {g : Nat → Nat} {T C k n u wd : Nat} (hw : wd = 10 ∨ wd = 11) (hu : u ≤ 400) (J : List Nat) : ∀ (m cnt : Nat) (σ : xS) (K : Nat → Nat × Nat), J.length < m → cnt + J.length ≤ 400 → (∀ j, j ∈ J → j < u) → chn K wd J → PI g T C σ k n u K → ∃ σ', F_X5_land_4 m (chv J) (nI cnt) σ = some ((), σ') ∧ PI g T C σ' k n u (lnd K wd u J) ∧ cxF σ σ' := by
  induction J with
  | nil =>
    intro m cnt σ K hm hc hJ hn h
    obtain ⟨m, rfl⟩ : ∃ q, m = q + 1 := ⟨m - 1, by omega⟩
    have hc2 : cnt ≤ 400 := Nat.le_trans (Nat.le_add_right _ _) hc
    refine ⟨σ, ?_, by rw [lnd_nil]; exact h, cxF_refl σ⟩
    rw [F_X5_land_4, if_neg (show ¬ (400 : Int32) < nI cnt from nI_nlt (a := 400) (b := cnt) hc2 (by decide)), if_pos (show chv [] < 0 by decide)]
  | cons j J ih =>
    intro m cnt σ K hm hc hJ hn h
    have hln : (j :: J).length = J.length + 1 := rfl
    obtain ⟨m, rfl⟩ : ∃ q, m = q + 1 := ⟨m - 1, by omega⟩
    have hju := hJ j List.mem_cons_self
    have hJ2 : ∀ i, i ∈ J → i < u := fun i hi => hJ i (List.mem_cons_of_mem _ hi)
    have hl := hd1_lt hJ2
    obtain ⟨c1, c2⟩ := h.2.2.2.2 j hju
    rw [hn.1] at c1
    have h2 : PI g T C (uA σ 50 (upd (sA σ 50) j (nI (wd + 16 * u)))) k n u (updN K j (wd, u)) := by
      refine ⟨h.1, h.2.1, h.2.2.1, h.2.2.2.1, fun i hi => ?_⟩
      show upd (sA σ 50) j (nI (wd + 16 * u)) i = _ ∧ _
      by_cases e : i = j
      · subst e
        rw [upd_s _ _ rfl, updN_s]
        exact ⟨rfl, show wd ≤ 12 by omega, show u < 2000 by omega, fun z => absurd z (show ¬ wd = 1 by omega)⟩
      · rw [upd_n _ _ e, updN_n e]
        exact h.2.2.2.2 i hi
    obtain ⟨σ', t1, t2, t3⟩ := ih m (cnt + 1) _ _ (by omega) (by omega) hJ2 (chn_on hn.2.2 (fun i hi => updN_n (by have := hn.2.1 i hi; omega))) h2
    refine ⟨σ', ?_, by rw [lnd_cons] at t2; exact t2, cxF_trans (cxF_A _ _) t3⟩
    have c1' : sA σ 50 j = nI (wd + 16 * hd1 J) := c1
    rw [F_X5_land_4, if_neg (show ¬ (400 : Int32) < nI cnt from nI_nlt (a := 400) (b := cnt) (by omega) (by decide)), show chv (j :: J) = nI j from rfl, if_neg (nI_pos (by omega)), rd_n (by omega) (by decide), c1', nI_sr4 (by omega) (by omega), chv_0, nm_eq2, rd_n (by omega) (by decide), c1', nI_and15 (by omega) (by omega), ck_n (by omega) (by decide), h.2.2.2.1, nI_pack (by omega) (by omega), nI_clamp (by omega), nm_eq2, nI_1, nm_eq2]
    exact t1
/-! the reference's signs -/
theorem R_sg {g : Nat → Nat} {T C : Nat} (hX : TX g T C) {τ : xS} {k n q d tok lev op : Nat} {R : Nat → Nat × Nat} {Q P : List (Nat × Nat)} (hv : (tok = 272 ∧ lev = 2 ∧ op = 28) ∨ (tok = 271 ∧ lev = 1 ∧ op = 29)) (h : RI g T τ k n q d R (Q ++ P)) (hk : k ≤ C) (hc : kd g T k = tok) (h14 : sI τ 14 = 0) (hQ : ∀ x, x ∈ Q → x.1 ≤ 29 ∧ lev ≤ bindN x.1) (hP : topB P lev) (hl : (Q ++ P).length ≤ 400) (hl2 : P.length < 400) (hq : q + wt Q < 400) : ∃ τ', F_X12_behindTest τ = some (0, τ') ∧ RI g T τ' (k + 1) n (q + wt Q + 1) d (updN (flush Q q R).2 (q + wt Q) (op, 0)) ((op, q + wt Q) :: P) ∧ pzF τ τ' ∧ sI τ' 14 = 0 ∧ sI τ' 13 = sI τ 13 := by
  have hw := fun x (hx : x < 18) => R_isWd (x := x) h.1 h.2.1 (plT_le hX hk) hx
  have hql : (Q ++ P).length = Q.length + P.length := List.length_append
  have hkd : tkK g T (plT g T k) = kd g T k := rfl
  obtain ⟨τ1, a1, a2, a3, a4, a5⟩ := RI_settle (b := lev) (by omega) (by omega) hP Q FU q R τ (by unfold FU; omega) hl (by omega) (fun x hx => (hQ x hx).2) h
  rw [flush_q Q (fun x hx => (hQ x hx).1)] at a2
  obtain ⟨b1, b2, b3⟩ := RI_push a2 hl2 op (q + wt Q) ⟨by omega, by omega⟩ (by omega)
  obtain ⟨c1, c2, c3⟩ := RI_emit b2 (by omega) op 0 ⟨show op ≤ 29 by omega, Nat.zero_le _, fun z => absurd z (show ¬ op < 20 by omega)⟩
  obtain ⟨τ2, d1, d2, d3, d4, d5⟩ := RI_next hX c2 hk
  refine ⟨τ2, ?_, d2, pzF_trans (pzF_trans (pzF_trans a3 b3) c3) d3, d4.trans (a4.trans h14), d5.trans a5⟩
  unfold F_X12_behindTest
  rw [show F_X12_isWord 1476 = F_X12_isWord (zL (cod 16 : Nat)) from rfl, show F_X12_isWord 498 = F_X12_isWord (zL (cod 15 : Nat)) from rfl, hw 16 (by decide), bd_eq, ib2, hkd]
  rcases hv with ⟨rfl, rfl, rfl⟩ | ⟨rfl, rfl, rfl⟩
  · rw [if_pos hc, b2_1.mpr (show kd g T k = 256 + 16 from hc)]
    unfold F_X12_behindTest_22 F_X12_behindTest_32 F_X12_behindTest_47 F_X12_behindTest_66 F_X12_settle
    rw [if_neg (by decide), show F_X12_settle_0 FU 2 τ = F_X12_settle_0 FU (nI 2) τ from rfl, a1, bd_eq, if_neg (by decide), a2.2.2.2.1, show F_X12_push 28 = F_X12_push (nI 28) from rfl, b1, bd_eq, if_neg (by decide), show F_X12_emit 28 0 = F_X12_emit (nI 28) (nI 0) from rfl, c1, bd_eq, d1]
    rfl
  · rw [if_neg (show ¬ kd g T k = 256 + 16 by omega), hw 15 (by decide), bd_eq, ib2, hkd, if_pos (show kd g T k = 256 + 15 from hc), b2_0.mpr (show ¬ kd g T k = 256 + 16 by omega)]
    unfold F_X12_behindTest_22 F_X12_behindTest_32 F_X12_behindTest_47 F_X12_behindTest_66 F_X12_settle
    rw [if_pos rfl, show F_X12_settle_0 FU 1 τ = F_X12_settle_0 FU (nI 1) τ from rfl, a1, bd_eq, if_pos rfl, a2.2.2.2.1, show F_X12_push 29 = F_X12_push (nI 29) from rfl, b1, bd_eq, if_pos rfl, show F_X12_emit 29 0 = F_X12_emit (nI 29) (nI 0) from rfl, c1, bd_eq, d1]
    rfl
end
