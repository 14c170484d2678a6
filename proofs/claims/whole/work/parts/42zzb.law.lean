section
/-! ===== a law's text into the row ===== -/
def cpF (ρ src : Nat → Int32) (o j e : Nat) : Nat → Int32 := fun i => if o + j ≤ i ∧ i < o + e then src (i - o) else ρ i
def cp2 (ρ A B : Nat → Int32) (o j e : Nat) : Nat → Int32 := fun i => if o + 2 * j ≤ i ∧ i < o + 2 * e then (if (i - o) % 2 = 0 then A ((i - o) / 2) else B ((i - o) / 2)) else ρ i
theorem cpF_end (ρ src : Nat → Int32) (o e : Nat) : cpF ρ src o e e = ρ := by
  funext i
  exact if_neg (by omega)
theorem cp2_end (ρ A B : Nat → Int32) (o e : Nat) : cp2 ρ A B o e e = ρ := by
  funext i
  exact if_neg (by omega)
theorem cpF_step (ρ src : Nat → Int32) {o j e : Nat} (h : j < e) : cpF (upd ρ (o + j) (src j)) src o (j + 1) e = cpF ρ src o j e := by
  funext i
  unfold cpF
  by_cases c : o + (j + 1) ≤ i ∧ i < o + e
  · rw [if_pos c, if_pos (by omega)]
  · rw [if_neg c]
    by_cases c2 : i = o + j
    · rw [upd_s _ _ c2, if_pos (by omega), show i - o = j by omega]
    · rw [upd_n _ _ c2, if_neg (by omega)]
theorem cp2_step (ρ A B : Nat → Int32) {o j e : Nat} (h : j < e) : cp2 (upd (upd ρ (o + 2 * j) (A j)) (o + 2 * j + 1) (B j)) A B o (j + 1) e = cp2 ρ A B o j e := by
  funext i
  unfold cp2
  by_cases c : o + 2 * (j + 1) ≤ i ∧ i < o + 2 * e
  · rw [if_pos c, if_pos (show o + 2 * j ≤ i ∧ i < o + 2 * e by omega)]
  · rw [if_neg c]
    by_cases c2 : i = o + 2 * j + 1
    · rw [upd_s _ _ c2, if_pos (show o + 2 * j ≤ i ∧ i < o + 2 * e by omega), if_neg (show ¬ (i - o) % 2 = 0 by omega), show (i - o) / 2 = j by omega]
    · rw [upd_n _ _ c2]
      by_cases c3 : i = o + 2 * j
      · rw [upd_s _ _ c3, if_pos (show o + 2 * j ≤ i ∧ i < o + 2 * e by omega), if_pos (show (i - o) % 2 = 0 by omega), show (i - o) / 2 = j by omega]
      · rw [upd_n _ _ c3, if_neg (show ¬ (o + 2 * j ≤ i ∧ i < o + 2 * e) by omega)]
theorem cpF_in {ρ src : Nat → Int32} {o j e i : Nat} (h : o + j ≤ i ∧ i < o + e) : cpF ρ src o j e i = src (i - o) := if_pos h
theorem cpF_out {ρ src : Nat → Int32} {o j e i : Nat} (h : ¬ (o + j ≤ i ∧ i < o + e)) : cpF ρ src o j e i = ρ i := if_neg h
theorem cp2_out {ρ A B : Nat → Int32} {o j e i : Nat} (h : ¬ (o + 2 * j ≤ i ∧ i < o + 2 * e)) : cp2 ρ A B o j e i = ρ i := if_neg h
theorem cp2_a {ρ A B : Nat → Int32} {o j e i x : Nat} (h : j ≤ x ∧ x < e) (hi : i = o + 2 * x) : cp2 ρ A B o j e i = A x := by
  unfold cp2
  rw [if_pos (by omega), if_pos (by omega), show (i - o) / 2 = x by omega]
theorem cp2_b {ρ A B : Nat → Int32} {o j e i x : Nat} (h : j ≤ x ∧ x < e) (hi : i = o + 2 * x + 1) : cp2 ρ A B o j e i = B x := by
  unfold cp2
  rw [if_pos (by omega), if_neg (by omega), show (i - o) / 2 = x by omega]
theorem uA3 (τ : xS) (f : Nat → Int32) : sA (uA τ 3 f) 3 = f := sA_s τ 3 f
theorem R_180 {X q : Nat} (hX : X ≤ 4650) (hX1 : 150 ≤ X) (hq : q ≤ 400) {n : Nat} (hn : n < 6) (w : Nat) : ∀ (f j : Nat) (τ : xS), w < f → j + w = q → sI τ 17 = nI q → sA τ 3 1 = nI n → F_X12_law_180 f (nI X) (nI j) τ = some (nI n, uI (uA τ 3 (upd (cp2 (sA τ 3) (sA τ 18) (sA τ 19) (X + 98) j q) 1 (nI (n + 1)))) 1 0) := by
  induction w with
  | zero =>
    intro f j τ hf hj h17 h1
    obtain ⟨f, rfl⟩ : ∃ q, f = q + 1 := ⟨f - 1, by omega⟩
    obtain rfl : j = q := by omega
    rw [F_X12_law_180, h17, if_pos (nI_le (Nat.le_refl _) (by omega)), rdL1, h1, ckL1, nm_eq2, cl1, nI_1, rdL1, uA3, upd_s _ _ rfl, show nI (n + 1) - 1 = nI n from pk_sub (b := 1) (by omega), R_tN (by omega), bd_eq2, cp2_end]
  | succ w ih =>
    intro f j τ hf hj h17 h1
    obtain ⟨f, rfl⟩ : ∃ q, f = q + 1 := ⟨f - 1, by omega⟩
    have e1 : nI X + 98 + 2 * nI j = nI (X + 98 + 2 * j) := by
      show nI X + nI 98 + nI 2 * nI j = _
      rw [pk_mul, nI_add, nI_add]
    have e2 : nI (X + 98 + 2 * j) + 1 = nI (X + 98 + 2 * j + 1) := nI_1 _
    rw [F_X12_law_180, h17, if_neg (nI_ge (by omega) (by omega)), rd_n (by omega) (by decide), e1, ck_n (by omega) (by decide), nm_eq2, nI_clamp (by omega), rd_n (by omega) (by decide), e2, ck_n (by omega) (by decide), nm_eq2, nI_clamp (by omega), nm_eq2, nI_1, uA3]
    have hs : sA (uA τ 3 (upd (sA τ 3) (X + 98 + 2 * j) (sA τ 18 j))) 19 = sA τ 19 := rfl
    rw [hs, uA_uA, ih f (j + 1) (uA τ 3 (upd (upd (sA τ 3) (X + 98 + 2 * j) (sA τ 18 j)) (X + 98 + 2 * j + 1) (sA τ 19 j))) (by omega) (by omega) h17 (by rw [uA3, upd_n _ _ (by omega), upd_n _ _ (by omega)]; exact h1), uA_uA, uA3]
    have hs2 : ∀ f, sA (uA τ 3 f) 18 = sA τ 18 ∧ sA (uA τ 3 f) 19 = sA τ 19 := fun f => ⟨rfl, rfl⟩
    rw [(hs2 _).1, (hs2 _).2, cp2_step (sA τ 3) (sA τ 18) (sA τ 19) (o := X + 98) (j := j) (e := q) (by omega)]
theorem R_145 {X m : Nat} (hX : X ≤ 4650) (hm : m ≤ 12) (w : Nat) : ∀ (f j : Nat) (τ : xS), w < f → j + w = 8 * m → sI τ 15 = nI m → F_X12_law_145 f (nI X) (nI j) τ = F_X12_law_180 FU (nI X) 0 (uA τ 3 (cpF (sA τ 3) (sA τ 16) (X + 2) j (8 * m))) := by
  induction w with
  | zero =>
    intro f j τ hf hj h15
    obtain ⟨f, rfl⟩ : ∃ q, f = q + 1 := ⟨f - 1, by omega⟩
    obtain rfl : j = 8 * m := by omega
    have e8 : (8 : Int32) * nI m = nI (8 * m) := pk_mul 8 m
    rw [F_X12_law_145, h15, e8, if_pos (nI_le (Nat.le_refl _) (by omega)), nm_eq2, cpF_end, uA_self]
  | succ w ih =>
    intro f j τ hf hj h15
    obtain ⟨f, rfl⟩ : ∃ q, f = q + 1 := ⟨f - 1, by omega⟩
    have e8 : (8 : Int32) * nI m = nI (8 * m) := pk_mul 8 m
    have e1 : nI X + 2 + nI j = nI (X + 2 + j) := by
      show nI X + nI 2 + nI j = _
      rw [nI_add, nI_add]
    rw [F_X12_law_145, h15, e8, if_neg (nI_ge (by omega) (by omega)), rd_n (by omega) (by decide), e1, ck_n (by omega) (by decide), nm_eq2, nI_clamp (by omega), nm_eq2, nI_1, ih f (j + 1) (uA τ 3 (upd (sA τ 3) (X + 2 + j) (sA τ 16 j))) (by omega) (by omega) h15, uA_uA, uA3]
    have hs : sA (uA τ 3 (upd (sA τ 3) (X + 2 + j) (sA τ 16 j))) 16 = sA τ 16 := rfl
    rw [hs, cpF_step (sA τ 3) (sA τ 16) (o := X + 2) (j := j) (e := 8 * m) (by omega)]
/-- the row with the new law in it -/
def rwL (τ : xS) (n m q : Nat) : Nat → Int32 := upd (cp2 (cpF (upd (sA τ 3) (150 + 900 * n + 1) (nI m)) (sA τ 16) (150 + 900 * n + 2) 0 (8 * m)) (sA τ 18) (sA τ 19) (150 + 900 * n + 98) 0 q) 1 (nI (n + 1))
theorem R_97 {τ : xS} {n m q : Nat} (hn : n < 6) (hm : m ≤ 12) (hq : q ≤ 400) (h14 : sI τ 14 = 0) (h15 : sI τ 15 = nI m) (h17 : sI τ 17 = nI q) (h1 : sA τ 3 1 = nI n) : F_X12_law_97 τ = some (nI n, uI (uA (uI τ 8 0) 3 (rwL τ n m q)) 1 0) := by
  unfold F_X12_law_97
  rw [nm_eq2, if_pos (show sI (uI τ 8 0) 14 = 0 from h14), rdL1, show sA (uI τ 8 0) 3 = sA τ 3 from rfl, h1]
  have e1 : (150 : Int32) + 900 * nI n = nI (150 + 900 * n) := by
    show nI 150 + nI 900 * nI n = _
    rw [pk_mul, nI_add]
  have e2 : nI (150 + 900 * n) + 1 = nI (150 + 900 * n + 1) := nI_1 _
  rw [e1, nm_eq2, e2, ck_n (by omega) (by decide), nI_clamp (by omega), nm_eq2, nm_eq2, show sI (uI τ 8 0) 15 = nI m from h15]
  have h145 := R_145 (X := 150 + 900 * n) (m := m) (by omega) hm (8 * m) FU 0 (uA (uI τ 8 0) 3 (upd (sA τ 3) (150 + 900 * n + 1) (nI m))) (by unfold FU; omega) (by omega) h15
  have e0 : nI 0 = (0 : Int32) := rfl
  rw [e0] at h145
  rw [h145, uA_uA, uA3]
  have h180 := R_180 (X := 150 + 900 * n) (q := q) (by omega) (by omega) hq hn q FU 0 (uA (uI τ 8 0) 3 (cpF (upd (sA τ 3) (150 + 900 * n + 1) (nI m)) (sA τ 16) (150 + 900 * n + 2) 0 (8 * m))) (by unfold FU; omega) (by omega) h17 (by
    rw [uA3, cpF_out (by omega), upd_n _ _ (by omega)]
    exact h1)
  rw [e0] at h180
  have hs : sA (uA (uI τ 8 0) 3 (upd (sA τ 3) (150 + 900 * n + 1) (nI m))) 16 = sA τ 16 := rfl
  rw [hs, h180, uA_uA, uA3]
  rfl
theorem R_97f {τ : xS} (h14 : sI τ 14 = 1) : F_X12_law_97 τ = some (-6, refR (uI τ 8 0) (-6)) := by
  unfold F_X12_law_97
  rw [nm_eq2, if_neg (show ¬ sI (uI τ 8 0) 14 = 0 by rw [show sI (uI τ 8 0) 14 = 1 from h14]; decide), R_t6, bd_eq2]
theorem rwL_1 (τ : xS) (n m q : Nat) : rwL τ n m q 1 = nI (n + 1) := upd_s _ _ rfl
theorem rwL_old (τ : xS) {n m q i : Nat} (hm : m ≤ 12) (h1 : i ≠ 1) (hi : i < 150 + 900 * n) : rwL τ n m q i = sA τ 3 i := by
  unfold rwL
  rw [upd_n _ _ h1, cp2_out (by omega), cpF_out (by omega), upd_n _ _ (by omega)]
theorem rwL_m (τ : xS) {n m q : Nat} (hm : m ≤ 12) : rwL τ n m q (150 + 900 * n + 1) = nI m := by
  unfold rwL
  rw [upd_n _ _ (by omega), cp2_out (by omega), cpF_out (by omega), upd_s _ _ rfl]
theorem rwL_cl (τ : xS) {n m q i : Nat} (hm : m ≤ 12) (hi : i < 8 * m) : rwL τ n m q (150 + 900 * n + (2 + i)) = sA τ 16 i := by
  unfold rwL
  rw [upd_n _ _ (by omega), cp2_out (by omega), cpF_in (by omega), show 150 + 900 * n + (2 + i) - (150 + 900 * n + 2) = i by omega]
theorem rwL_a (τ : xS) {n m q j : Nat} (hj : j < q) : rwL τ n m q (150 + 900 * n + (98 + 2 * j)) = sA τ 18 j ∧ rwL τ n m q (150 + 900 * n + (98 + 2 * j + 1)) = sA τ 19 j := by
  unfold rwL
  rw [upd_n _ _ (show 150 + 900 * n + (98 + 2 * j) ≠ 1 by omega), upd_n _ _ (show 150 + 900 * n + (98 + 2 * j + 1) ≠ 1 by omega)]
  exact ⟨cp2_a (x := j) (by omega) (by omega), cp2_b (x := j) (by omega) (by omega)⟩
/-- the law read: object and text tell alike -/
theorem law_rel {g : Nat → Nat} {T C : Nat} (hT : C ≤ 400) {σ τ : xS} {m k n u q l : Nat} {K R : Nat → Nat × Nat} {hd st a b d : Nat → Nat} {sm : Nat → (Nat → Int64) → Option Int64} {cd : Nat → (Nat → Int64) → Option Bool} (hm : m ≤ 12) (hL : LkJ g T C σ τ k n u q K R) (hI : clI σ τ m u q K R hd st a b d sm cd) : lawRel (nI m, (m, sA σ 48), (m + 1, upd (sA σ 49) m (nI u)), (u, sA σ 50)) (fun k => rwL τ l m q (150 + 900 * l + k)) := by
  obtain ⟨l1, l2, l3, l4, l5, l6, l7⟩ := hL
  obtain ⟨hs, hc⟩ := hI
  have hcR := l2.2.2.2.2.1
  have hcC := l1.2.2.2.2
  have hst : ∀ c, c ≤ m → st c ≤ u := by
    intro c hcm
    by_cases e : c = m
    · rw [e, hs]
      exact Nat.le_refl _
    · have := (hc c (by omega)).2.1
      omega
  refine ⟨m, q, hd, st, a, b, d, K, R, sm, cd, hm, rfl, rfl, rfl, rwL_m τ hm, ⟨Nat.le_refl _, by show u ≤ 400; omega, fun j hj => ?_⟩, ⟨by omega, fun j hj => ?_⟩, fun c h1 => ?_, fun c h1 => ⟨?_, hst c h1⟩, fun c h1 => ?_, fun c h1 e => ?_⟩
  · exact hcC j hj
  · obtain ⟨x1, x2, x3⟩ := hcR j hj
    obtain ⟨y1, y2⟩ := rwL_a τ (n := l) (m := m) hj
    exact ⟨y1.trans x1, y2.trans x2, x3⟩
  · obtain ⟨⟨a1, a2, a3⟩, a4, ⟨a6, a7, a8, a9, a10⟩, a11, a14, a15⟩ := hc c h1
    exact ⟨a1, a2, (rwL_cl τ (n := l) (q := q) hm (show 8 * c < 8 * m by omega)).trans a6⟩
  · show upd (sA σ 49) m (nI u) c = nI (st c)
    by_cases e : c = m
    · rw [upd_s _ _ e, e, hs]
    · rw [upd_n _ _ e]
      exact (hc c (by omega)).1.2.2
  · obtain ⟨⟨a1, a2, a3⟩, a4, ⟨a6, a7, a8, a9, a10⟩, ⟨a11, a12, a13⟩, a14, a15⟩ := hc c h1
    have z : ∀ i, i < 8 → rwL τ l m q (150 + 900 * l + (2 + 8 * c + i)) = sA τ 16 (8 * c + i) := fun i hi => by
      rw [show 2 + 8 * c + i = 2 + (8 * c + i) by omega]
      exact rwL_cl τ hm (by omega)
    exact ⟨(z 3 (by decide)).trans a7, (z 4 (by decide)).trans a8, (z 5 (by decide)).trans a9, (z 6 (by decide)).trans a10, a11, a12, a13⟩
  · obtain ⟨⟨a1, a2, a3⟩, ⟨a4, a5⟩, ⟨a6, a7, a8, a9, a10⟩, ⟨a11, a12, a13⟩, a14, a15⟩ := hc c h1
    obtain ⟨sv, b1, b2⟩ := a14 K (eqOn_refl _ _ _) e
    obtain ⟨c1, c2, c3⟩ := a15 R (eqOn_refl _ _ _) e
    exact ⟨⟨sv, b1 2000 (by omega), b2⟩, fun h3 => c1 h3 2000 (by omega), fun h3 => c2 h3 2000 (by omega), c3⟩
/-- a law more, on both sides -/
theorem grows {σ : xS} {p p' : xP} {d : Nat} (h : (sP σ)[d]? = some p) : (sP σ ++ [p'])[d]? = some p := by
  obtain ⟨hl, -⟩ := List.getElem?_eq_some_iff.mp h
  rw [List.getElem?_append_left hl]
  exact h
theorem Sim_newlaw {σ τ : xS} (h : Sim σ τ) {n : Nat} (hn : n < 6) (e1 : sA τ 3 1 = nI n) {p : xP} {ρ : Nat → Int32} (r1 : ρ 1 = nI (n + 1)) (rO : ∀ i, i ≠ 1 → i < 150 + 900 * n → ρ i = sA τ 3 i) (hL : lawRel p (fun k => ρ (150 + 900 * n + k))) : Sim (uI (uQ (uP σ (sP σ ++ [p])) 41 (va_up (sQ σ 41) n (some (sP σ).length))) 87 (nI (n + 1))) (uA τ 3 ρ) := by
  obtain ⟨hS, hI, hT, hM, hD, hc1, hc2, hc3⟩ := h
  have qP : sP (uI (uQ (uP σ (sP σ ++ [p])) 41 (va_up (sQ σ 41) n (some (sP σ).length))) 87 (nI (n + 1))) = sP σ ++ [p] := rfl
  have a3 : sA (uA τ 3 ρ) 3 = ρ := uA3 τ ρ
  have t1 : (ρ 1).toInt = n + 1 := by
    rw [r1, nI_toInt (by omega)]
    omega
  have t0 : (sA τ 3 1).toInt = n := by
    rw [e1, nI_toInt (by omega)]
  have gQ : ∀ i, va_up (sQ σ 41) n (some (sP σ).length) i = if i = n then some (sP σ).length else sQ σ 41 i := fun i => rfl
  refine ⟨⟨fun k hk => ?_, ?_, ?_⟩, ?_, hT, hM, hD, ?_, hc2, hc3⟩
  · rw [rowC_s1 _ _ k hk, a3]
    by_cases e : k = 1
    · rw [if_pos e, e, r1]
    · rw [if_neg e, rO k e (by omega), ← hS.1 k hk]
      rfl
  · rw [a3]
    obtain ⟨s1, s2, s3⟩ := hS.2.1
    refine ⟨fun k hk => ?_, ?_, fun i hi => ?_⟩
    · by_cases e : k = 1
      · subst e
        have l1 : loT 1 = 0 := rfl
        have l2 : hiT 1 = 6 := rfl
        rw [t1, l1, l2]
        omega
      · rw [rO k e (by omega)]
        exact s1 k hk
    · rw [rO 2 (by decide) (by omega), t1]
      omega
    · rw [rO _ (by omega) (by omega), rO _ (by omega) (by omega), rO _ (by omega) (by omega)]
      exact s3 i hi
  · intro i hi
    rw [a3, t1] at hi
    by_cases e : i = n
    · rw [e]
      refine ⟨(sP σ).length, p, ?_, ?_, ?_⟩
      · show va_up (sQ σ 41) n (some (sP σ).length) n = some (sP σ).length
        exact if_pos rfl
      · show (sP σ ++ [p])[(sP σ).length]? = some p
        rw [List.getElem?_append_right (Nat.le_refl _), Nat.sub_self]
        rfl
      · rw [a3]
        exact hL
    · obtain ⟨d, p', b1, b2, b3⟩ := hS.2.2 i (by rw [t0]; omega)
      refine ⟨d, p', ?_, grows b2, ?_⟩
      · show va_up (sQ σ 41) n (some (sP σ).length) i = some d
        exact (if_neg e).trans b1
      · rw [a3]
        exact lawRel_congr (fun k hk => (rO _ (by omega) (by omega)).symm) b3
  · intro i hi
    obtain ⟨b1, b2, b3⟩ := hI i hi
    refine ⟨b1, b2, fun h1 => ?_⟩
    obtain ⟨c1, c2, c3⟩ := b3 h1
    refine ⟨fun k hk => Eq.trans ?_ (c1 k hk), c2, fun j hj => ?_⟩
    · rcases (show i = 0 ∨ i = 1 by omega) with rfl | rfl
      · rfl
      · rfl
    · obtain ⟨d, p', x1, x2, x3⟩ := c3 j hj
      refine ⟨d, p', ?_, grows x2, x3⟩
      rcases (show i = 0 ∨ i = 1 by omega) with rfl | rfl
      · exact x1
      · exact x1
  · intro t j i ht hq
    rw [qP, List.length_append]
    show i < (sP σ).length + 1
    rcases (show t = 0 ∨ t = 1 ∨ t = 2 by omega) with rfl | rfl | rfl
    · have hq' : va_up (sQ σ 41) n (some (sP σ).length) j = some i := hq
      rw [gQ] at hq'
      by_cases e : j = n
      · rw [if_pos e] at hq'
        have := Option.some.inj hq'
        omega
      · rw [if_neg e] at hq'
        have := hc1 0 j i (by decide) hq'
        omega
    · have := hc1 1 j i (by decide) hq
      omega
    · have := hc1 2 j i (by decide) hq
      omega
theorem Sim_1112 {σ τ : xS} (h : Sim σ τ) (f : Int32) : Sim (uI (uI σ 11 0) 12 f) (uI (uI τ 8 0) 13 f) := by
  obtain ⟨hS, hI, hT, hM, hD, hC⟩ := h
  refine ⟨hS, SimIm_of hI rfl (fun k => ⟨rfl, rfl⟩) ⟨rfl, rfl⟩ rfl rfl rfl, ⟨rfl, (show (0 : Int) ≤ (0 : Int32).toInt ∧ (0 : Int32).toInt ≤ 400 by decide), hT.2.2⟩, ⟨rfl, hM.2⟩, hD, hC⟩
end
