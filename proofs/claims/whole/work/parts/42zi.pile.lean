section
/-! ===== the reference's reader: its state ===== -/
def updN (R : Nat → Nat × Nat) (i : Nat) (v : Nat × Nat) : Nat → Nat × Nat := fun j => if j = i then v else R j
theorem updN_s (R : Nat → Nat × Nat) (i : Nat) (v : Nat × Nat) : updN R i v i = v := if_pos rfl
theorem updN_n {R : Nat → Nat × Nat} {i j : Nat} {v : Nat × Nat} (h : j ≠ i) : updN R i v j = R j := if_neg h
theorem updN_on (R : Nat → Nat × Nat) (u i : Nat) (v : Nat × Nat) : eqOn R (updN R i v) u i := fun j _ h => updN_n (by omega)
def bindN (x : Nat) : Nat := if x < 30 then (if x = 29 then 1 else if x = 28 then 2 else if x = 27 then 3 else if x < 24 then (if x < 22 then 5 else 6) else 4) else 0
def topB : List (Nat × Nat) → Nat → Prop
  | [], _ => True
  | x :: _, b => bindN x.1 < b
def wt : List (Nat × Nat) → Nat
  | [] => 0
  | x :: P => (if x.1 < 28 then 1 else 0) + wt P
def flush : List (Nat × Nat) → Nat → (Nat → Nat × Nat) → Nat × (Nat → Nat × Nat)
  | [], q, R => (q, R)
  | x :: Q, q, R => if x.1 = 28 ∨ x.1 = 29 then flush Q q (updN R x.2 ((R x.2).1, q)) else flush Q (q + 1) (updN R q (x.1, 0))
def inn : List (Nat × Nat) → Nat
  | [] => 99
  | x :: P => if x.1 < 30 then inn P else x.1
theorem flush_app (Q1 Q2 : List (Nat × Nat)) : ∀ q R, flush (Q1 ++ Q2) q R = flush Q2 (flush Q1 q R).1 (flush Q1 q R).2 := by
  induction Q1 with
  | nil =>
    intro q R
    rfl
  | cons x Q ih =>
    intro q R
    show flush (x :: (Q ++ Q2)) q R = _
    rw [flush, flush]
    split
    · exact ih _ _
    · exact ih _ _
theorem wt_app (Q1 Q2 : List (Nat × Nat)) : wt (Q1 ++ Q2) = wt Q1 + wt Q2 := by
  induction Q1 with
  | nil => exact (Nat.zero_add _).symm
  | cons x Q ih =>
    show wt (x :: (Q ++ Q2)) = _
    rw [wt, wt, ih]
    omega
theorem flush_q (Q : List (Nat × Nat)) (hx : ∀ x, x ∈ Q → x.1 ≤ 29) : ∀ q R, (flush Q q R).1 = q + wt Q := by
  induction Q with
  | nil =>
    intro q R
    rfl
  | cons x Q ih =>
    intro q R
    have h29 := hx x List.mem_cons_self
    rw [flush, wt]
    by_cases h : x.1 = 28 ∨ x.1 = 29
    · rw [if_pos h, ih (fun y hy => hx y (List.mem_cons_of_mem _ hy)), if_neg (by omega)]
      omega
    · rw [if_neg h, ih (fun y hy => hx y (List.mem_cons_of_mem _ hy)), if_pos (by omega)]
      omega
def okE (x : Nat × Nat) : Prop := x.1 ≤ 29 ∧ x.2 ≤ 1000 ∧ (x.1 < 20 → x.1 ≤ 10)
def codR (τ : xS) (R : Nat → Nat × Nat) (q : Nat) : Prop := ∀ j, j < q → sA τ 18 j = nI (R j).1 ∧ sA τ 19 j = nI (R j).2 ∧ okE (R j)
def pil (τ : xS) : List (Nat × Nat) → Prop
  | [] => True
  | x :: P => sA τ 21 P.length = nI x.1 ∧ sA τ 22 P.length = nI x.2 ∧ pil τ P
def pv (P : List (Nat × Nat)) : Prop := ∀ x, x ∈ P → 20 ≤ x.1 ∧ x.1 ≤ 31 ∧ x.2 < 400
def RI (g : Nat → Nat) (T : Nat) (τ : xS) (k n q dep : Nat) (R : Nat → Nat × Nat) (P : List (Nat × Nat)) : Prop :=
  TpR g T τ ∧ RT g T (plT g T k) τ ∧ sI τ 20 = nI n ∧ sI τ 17 = nI q ∧ codR τ R q ∧ sI τ 23 = nI P.length ∧ pil τ P ∧ pv P ∧ sI τ 24 = nI dep ∧ (sL τ 25 = sL τ0 25 ∧ sL τ 26 = sL τ0 26)
def pzF (τ τ' : xS) : Prop := (∀ k, k ∉ [18, 19, 21, 22] → sA τ' k = sA τ k) ∧ (∀ k, k ∉ [9, 10, 11, 13, 14, 17, 20, 23, 24] → sI τ' k = sI τ k) ∧ (∀ k, k ≠ 12 → sJ τ' k = sJ τ k) ∧ (∀ k, sL τ' k = sL τ k) ∧ (∀ k, sQ τ' k = sQ τ k) ∧ sP τ' = sP τ
theorem pzF_refl (τ : xS) : pzF τ τ := ⟨fun _ _ => rfl, fun _ _ => rfl, fun _ _ => rfl, fun _ => rfl, fun _ => rfl, rfl⟩
theorem pzF_trans {σ σ1 σ2 : xS} (h : pzF σ σ1) (g : pzF σ1 σ2) : pzF σ σ2 := ⟨fun k h1 => (g.1 k h1).trans (h.1 k h1), fun k h1 => (g.2.1 k h1).trans (h.2.1 k h1), fun k h1 => (g.2.2.1 k h1).trans (h.2.2.1 k h1), fun k => (g.2.2.2.1 k).trans (h.2.2.2.1 k), fun k => (g.2.2.2.2.1 k).trans (h.2.2.2.2.1 k), g.2.2.2.2.2.trans h.2.2.2.2.2⟩
theorem pzF_I (σ : xS) {k : Nat} (v : Int32) (hk : k ∈ [9, 10, 11, 13, 14, 17, 20, 23, 24]) : pzF σ (uI σ k v) := ⟨fun _ _ => rfl, fun j h1 => if_neg (fun (q : j = k) => h1 (by rw [q]; exact hk)), fun _ _ => rfl, fun _ => rfl, fun _ => rfl, rfl⟩
theorem pzF_A (σ : xS) {k : Nat} (v : Nat → Int32) (hk : k ∈ [18, 19, 21, 22]) : pzF σ (uA σ k v) := ⟨fun j h1 => if_neg (fun (q : j = k) => h1 (by rw [q]; exact hk)), fun _ _ => rfl, fun _ _ => rfl, fun _ => rfl, fun _ => rfl, rfl⟩
theorem pzF_N {τ τ' : xS} (h : frN τ τ') : pzF τ τ' := ⟨fun k _ => h.1 k, fun k hk => h.2.1 k (fun q => hk (by subst q; decide)) (fun q => hk (by subst q; decide)) (fun q => hk (by subst q; decide)), fun k hk => h.2.2.1 k hk, h.2.2.2.1, h.2.2.2.2.1, h.2.2.2.2.2⟩
theorem pil_upd {τ : xS} {P : List (Nat × Nat)} {m : Nat} (hm : P.length ≤ m) (f2 : Nat → Int32) (v : Int32) (h : pil τ P) (h2 : ∀ j, j < m → f2 j = sA τ 22 j) : pil (uA (uA τ 21 (upd (sA τ 21) m v)) 22 f2) P := by
  induction P with
  | nil => trivial
  | cons x P ih =>
    have hl : (x :: P).length = P.length + 1 := rfl
    refine ⟨?_, ?_, ih (by omega) h.2.2⟩
    · show upd (sA τ 21) m v P.length = _
      rw [upd_n _ _ (by omega)]
      exact h.1
    · show f2 P.length = _
      rw [h2 _ (by omega)]
      exact h.2.1
theorem pil_of {τ τ' : xS} {P : List (Nat × Nat)} (h : pil τ P) (h1 : sA τ' 21 = sA τ 21) (h2 : sA τ' 22 = sA τ 22) : pil τ' P := by
  induction P with
  | nil => trivial
  | cons x P ih => exact ⟨by rw [h1]; exact h.1, by rw [h2]; exact h.2.1, ih h.2.2⟩
theorem codR_of {τ τ' : xS} {R : Nat → Nat × Nat} {q : Nat} (h : codR τ R q) (h1 : sA τ' 18 = sA τ 18) (h2 : sA τ' 19 = sA τ 19) : codR τ' R q := fun j hj => by
  rw [h1, h2]
  exact h j hj
def emS (τ : xS) (q a x : Nat) : xS := uI (uA (uA τ 18 (upd (sA τ 18) q (nI a))) 19 (upd (sA τ 19) q (nI x))) 17 (nI (q + 1))
theorem RI_emit {g : Nat → Nat} {T : Nat} {τ : xS} {k n q dep : Nat} {R : Nat → Nat × Nat} {P : List (Nat × Nat)} (h : RI g T τ k n q dep R P) (hq : q < 400) (a x : Nat) (hx : okE (a, x)) : F_X12_emit (nI a) (nI x) τ = some ((), emS τ q a x) ∧ RI g T (emS τ q a x) k n (q + 1) dep (updN R q (a, x)) P ∧ pzF τ (emS τ q a x) := by
  obtain ⟨r1, r2, r3, r4, r5, r6, r7, r8, r9, r10⟩ := h
  refine ⟨?_, ⟨r1, r2, r3, rfl, ?_, r6, pil_of r7 rfl rfl, r8, r9, r10⟩, pzF_trans (pzF_trans (pzF_A _ _ (by decide)) (pzF_A _ _ (by decide))) (pzF_I _ _ (by decide))⟩
  · have e1 : ∀ f, sI (uA τ 18 f) 17 = nI q := fun f => r4
    have e2 : ∀ f f2, sI (uA (uA τ 18 f) 19 f2) 17 + 1 = nI (q + 1) := fun f f2 => by
      show sI τ 17 + 1 = _
      rw [r4, nI_1]
    unfold F_X12_emit
    rw [r4, ck_n hq (by decide), nm_eq, e1, ck_n hq (by decide), nm_eq, e2, nm_eq, nI_clamp (by omega)]
    rfl
  · intro j hj
    show upd (sA τ 18) q (nI a) j = _ ∧ upd (sA τ 19) q (nI x) j = _ ∧ _
    by_cases e : j = q
    · subst e
      rw [upd_s _ _ rfl, upd_s _ _ rfl, updN_s]
      exact ⟨rfl, rfl, hx⟩
    · rw [upd_n _ _ e, upd_n _ _ e, updN_n e]
      exact r5 j (by omega)
def puS (τ : xS) (l a x : Nat) : xS := uI (uA (uA τ 21 (upd (sA τ 21) l (nI a))) 22 (upd (sA τ 22) l (nI x))) 23 (nI (l + 1))
theorem RI_push {g : Nat → Nat} {T : Nat} {τ : xS} {k n q dep : Nat} {R : Nat → Nat × Nat} {P : List (Nat × Nat)} (h : RI g T τ k n q dep R P) (hq : P.length < 400) (a x : Nat) (ha : 20 ≤ a ∧ a ≤ 31) (hx : x < 400) : F_X12_push (nI a) (nI x) τ = some ((), puS τ P.length a x) ∧ RI g T (puS τ P.length a x) k n q dep R ((a, x) :: P) ∧ pzF τ (puS τ P.length a x) := by
  obtain ⟨r1, r2, r3, r4, r5, r6, r7, r8, r9, r10⟩ := h
  refine ⟨?_, ⟨r1, r2, r3, r4, codR_of r5 rfl rfl, rfl, ⟨upd_s _ _ rfl, upd_s _ _ rfl, ?_⟩, ?_, r9, r10⟩, pzF_trans (pzF_trans (pzF_A _ _ (by decide)) (pzF_A _ _ (by decide))) (pzF_I _ _ (by decide))⟩
  · have e1 : ∀ f, sI (uA τ 21 f) 23 = nI P.length := fun f => r6
    have e2 : ∀ f f2, sI (uA (uA τ 21 f) 22 f2) 23 + 1 = nI (P.length + 1) := fun f f2 => by
      show sI τ 23 + 1 = _
      rw [r6, nI_1]
    unfold F_X12_push
    rw [r6, ck_n hq (by decide), nm_eq, e1, ck_n hq (by decide), nm_eq, e2, nm_eq, nI_clamp (by omega)]
    rfl
  · exact pil_of (pil_upd (m := P.length) (Nat.le_refl _) (upd (sA τ 22) P.length (nI x)) (nI a) r7 (fun j hj => upd_n _ _ (by omega))) rfl rfl
  · intro y hy
    rcases List.mem_cons.mp hy with rfl | hy
    · exact ⟨ha.1, ha.2, hx⟩
    · exact r8 y hy
theorem R_binds {a : Nat} (h1 : 20 ≤ a) (h2 : a ≤ 31) (τ : xS) : F_X12_binds (nI a) τ = some (nI (bindN a), τ) := by
  rcases (show a = 20 ∨ a = 21 ∨ a = 22 ∨ a = 23 ∨ a = 24 ∨ a = 25 ∨ a = 26 ∨ a = 27 ∨ a = 28 ∨ a = 29 ∨ a = 30 ∨ a = 31 by omega) with rfl | rfl | rfl | rfl | rfl | rfl | rfl | rfl | rfl | rfl | rfl | rfl <;> rfl
theorem bindN_le (a : Nat) : bindN a ≤ 6 := by
  unfold bindN
  repeat' split
  all_goals omega
theorem RI_pop {g : Nat → Nat} {T : Nat} {τ : xS} {k n q dep : Nat} {R : Nat → Nat × Nat} {x : Nat × Nat} {P : List (Nat × Nat)} (h : RI g T τ k n q dep R (x :: P)) : RI g T (uI τ 23 (nI P.length)) k n q dep R P := by
  obtain ⟨r1, r2, r3, r4, r5, r6, r7, r8, r9, r10⟩ := h
  exact ⟨r1, r2, r3, r4, codR_of r5 rfl rfl, rfl, pil_of r7.2.2 rfl rfl, fun y hy => r8 y (List.mem_cons_of_mem _ hy), r9, r10⟩
theorem RI_settle {g : Nat → Nat} {T : Nat} {k n dep b : Nat} {P : List (Nat × Nat)} (hb : b < 10) (hb1 : 1 ≤ b) (hP : topB P b) (Q : List (Nat × Nat)) : ∀ (m q : Nat) (R : Nat → Nat × Nat) (τ : xS), Q.length < m → (Q ++ P).length ≤ 400 → q + wt Q ≤ 400 → (∀ x, x ∈ Q → b ≤ bindN x.1) → RI g T τ k n q dep R (Q ++ P) → ∃ τ', F_X12_settle_0 m (nI b) τ = some ((), τ') ∧ RI g T τ' k n (flush Q q R).1 dep (flush Q q R).2 P ∧ pzF τ τ' ∧ sI τ' 14 = sI τ 14 ∧ sI τ' 13 = sI τ 13 := by
  induction Q with
  | nil =>
    intro m q R τ hm hl hq hx h
    obtain ⟨m, rfl⟩ : ∃ q, m = q + 1 := ⟨m - 1, by omega⟩
    refine ⟨τ, ?_, h, pzF_refl τ, rfl, rfl⟩
    obtain ⟨r1, r2, r3, r4, r5, r6, r7, r8, r9, r10⟩ := h
    rw [F_X12_settle_0]
    cases P with
    | nil => rw [r6, if_pos (by decide)]
    | cons x P =>
      have hl2 : (x :: P).length = P.length + 1 := rfl
      have hl3 : ([] ++ (x :: P)).length = P.length + 1 := rfl
      obtain ⟨v1, v2, v3⟩ := r8 x List.mem_cons_self
      have hbx : bindN x.1 < b := hP
      rw [r6, hl3, if_neg (show ¬ nI (P.length + 1) ≤ 0 from nI_nle (by omega) (by omega)), nI_pred, rd_n (by omega) (by decide), r7.1, R_binds v1 v2, bd_eq, if_pos (nI_lt hbx (by omega))]
  | cons x Q ih =>
    intro m q R τ hm hl hq hx h
    obtain ⟨m, rfl⟩ : ∃ q, m = q + 1 := ⟨m - 1, by omega⟩
    have hlm : (x :: Q).length = Q.length + 1 := rfl
    have hll : (x :: Q ++ P).length = (Q ++ P).length + 1 := rfl
    have hp : RI g T (uI τ 23 (nI (Q ++ P).length)) k n q dep R (Q ++ P) := RI_pop h
    have hf := pzF_I τ (k := 23) (nI (Q ++ P).length) (by decide)
    obtain ⟨r1, r2, r3, r4, r5, r6, r7, r8, r9, r10⟩ := h
    obtain ⟨v1, v2, v3⟩ := r8 x List.mem_cons_self
    have hbx := hx x List.mem_cons_self
    have hx2 : ∀ y, y ∈ Q → b ≤ bindN y.1 := fun y hy => hx y (List.mem_cons_of_mem _ hy)
    have h29 : x.1 ≤ 29 := by
      apply Nat.le_of_not_lt
      intro z
      have : bindN x.1 = 0 := if_neg (by omega)
      omega
    have e231 : sI τ 23 - 1 = nI (Q ++ P).length := by rw [r6, hll, nI_pred]
    have r71 : sA τ 21 (Q ++ P).length = nI x.1 := r7.1
    have e23 : sI (uI τ 23 (nI (Q ++ P).length)) 23 = nI (Q ++ P).length := rfl
    have e21 : sA (uI τ 23 (nI (Q ++ P).length)) 21 (Q ++ P).length = nI x.1 := r7.1
    have e22 : sA (uI τ 23 (nI (Q ++ P).length)) 22 (Q ++ P).length = nI x.2 := r7.2.1
    have e17 : sI (uI τ 23 (nI (Q ++ P).length)) 17 = nI q := r4
    rw [wt] at hq
    have h63 : (x.1 = 28 ∨ x.1 = 29) → ∃ τ', F_X12_settle_63 (F_X12_settle_0 m) (nI b) (uI τ 23 (nI (Q ++ P).length)) = some ((), τ') ∧ RI g T τ' k n (flush (x :: Q) q R).1 dep (flush (x :: Q) q R).2 P ∧ pzF τ τ' ∧ sI τ' 14 = sI τ 14 ∧ sI τ' 13 = sI τ 13 := by
      intro hc
      unfold F_X12_settle_63
      rw [e23, rd_n (by omega) (by decide), e22, ck_n v3 (by decide), e17, nm_eq, nI_clamp (by omega)]
      rw [flush, if_pos hc]
      have hr : RI g T (uA (uI τ 23 (nI (Q ++ P).length)) 19 (upd (sA (uI τ 23 (nI (Q ++ P).length)) 19) x.2 (nI q))) k n q dep (updN R x.2 ((R x.2).1, q)) (Q ++ P) := by
        obtain ⟨p1, p2, p3, p4, p5, p6, p7, p8, p9, p10⟩ := hp
        refine ⟨p1, p2, p3, p4, fun j hj => ?_, p6, pil_of p7 rfl rfl, p8, p9, p10⟩
        show sA τ 18 j = _ ∧ upd (sA τ 19) x.2 (nI q) j = _ ∧ _
        obtain ⟨c1, c2, c3⟩ := r5 j hj
        by_cases e : j = x.2
        · subst e
          rw [upd_s _ _ rfl, updN_s]
          exact ⟨c1, rfl, c3.1, by show q ≤ 1000; omega, c3.2.2⟩
        · rw [upd_n _ _ e, updN_n e]
          exact ⟨c1, c2, c3⟩
      obtain ⟨τ', t1, t2, t3, t4, t5⟩ := ih m q _ _ (by omega) (by omega) (by omega) hx2 hr
      exact ⟨τ', t1, t2, pzF_trans (pzF_trans hf (pzF_A _ _ (by decide))) t3, t4, t5⟩
    rw [F_X12_settle_0, r6, hll, if_neg (show ¬ nI ((Q ++ P).length + 1) ≤ 0 from nI_nle (by omega) (by omega)), nI_pred, rd_n (by omega) (by decide), r71, R_binds v1 v2, bd_eq, if_neg (nI_nlt hbx (by have := bindN_le x.1; omega)), nm_eq, e231, e23, rd_n (by omega) (by decide), e21]
    by_cases h28 : x.1 = 28
    · rw [if_pos (show nI x.1 = 28 by rw [h28]; rfl)]
      exact h63 (Or.inl h28)
    rw [if_neg (show ¬ nI x.1 = 28 from nI_ne (b := 28) (by omega) (by decide) h28), rd_n (by omega) (by decide), e21]
    by_cases h29' : x.1 = 29
    · rw [if_pos (show nI x.1 = 29 by rw [h29']; rfl)]
      exact h63 (Or.inr h29')
    have hw : (if x.1 < 28 then 1 else 0) = 1 := if_pos (by omega)
    rw [if_neg (show ¬ nI x.1 = 29 from nI_ne (b := 29) (by omega) (by decide) h29'), rd_n (by omega) (by decide), e21]
    obtain ⟨m1, m2, m3⟩ := RI_emit hp (by omega) x.1 0 ⟨h29, Nat.zero_le _, fun z => absurd z (show ¬ x.1 < 20 by omega)⟩
    rw [show F_X12_emit (nI x.1) 0 = F_X12_emit (nI x.1) (nI 0) from rfl, m1, bd_eq, flush, if_neg (show ¬ (x.1 = 28 ∨ x.1 = 29) by omega)]
    obtain ⟨τ', t1, t2, t3, t4, t5⟩ := ih m (q + 1) _ _ (by omega) (by omega) (by omega) hx2 m2
    exact ⟨τ', t1, t2, pzF_trans (pzF_trans hf m3) t3, t4, t5⟩
theorem split_b (b : Nat) (P : List (Nat × Nat)) : ∃ Q P', P = Q ++ P' ∧ (∀ x, x ∈ Q → b ≤ bindN x.1) ∧ topB P' b := by
  induction P with
  | nil => exact ⟨[], [], rfl, fun x hx => (by cases hx), trivial⟩
  | cons x P ih =>
    by_cases h : b ≤ bindN x.1
    · obtain ⟨Q, P', h1, h2, h3⟩ := ih
      refine ⟨x :: Q, P', by rw [h1]; rfl, fun y hy => ?_, h3⟩
      rcases List.mem_cons.mp hy with rfl | hy
      · exact h
      · exact h2 y hy
    · exact ⟨[], x :: P, rfl, fun x hx => (by cases hx), by show bindN x.1 < b; omega⟩
/-! ===== the reader's questions ===== -/
theorem R_inner {g : Nat → Nat} {T : Nat} {τ : xS} {k n q dep : Nat} {R : Nat → Nat × Nat} {P : List (Nat × Nat)} (h : RI g T τ k n q dep R P) (hl : P.length ≤ 400) : F_X12_inner τ = some (if inn P = 99 then -1 else nI (inn P), τ) := by
  obtain ⟨r1, r2, r3, r4, r5, r6, r7, r8, r9, r10⟩ := h
  have key : ∀ (A B : List (Nat × Nat)), A ++ B = P → ∀ m, A.length < m → F_X12_inner_4 m (if inn B = 99 then -1 else nI (inn B)) (nI B.length) τ = some (if inn P = 99 then -1 else nI (inn P), τ) := by
    intro A
    induction hA : A.length generalizing A with
    | zero =>
      intro B hB m hm
      obtain ⟨m, rfl⟩ : ∃ q, m = q + 1 := ⟨m - 1, by omega⟩
      have : A = [] := List.eq_nil_of_length_eq_zero hA
      subst this
      have hB2 : B = P := hB
      subst hB2
      rw [F_X12_inner_4, r6, if_pos (nI_le (Nat.le_refl _) (by omega))]
    | succ l ih =>
      intro B hB m hm
      obtain ⟨m, rfl⟩ : ∃ q, m = q + 1 := ⟨m - 1, by omega⟩
      obtain ⟨A', x, rfl⟩ : ∃ A' x, A = A' ++ [x] := by
        rcases List.eq_nil_or_concat A with rfl | ⟨A', x, h⟩
        · cases hA
        · exact ⟨A', x, by rw [h, List.concat_eq_append]⟩
      have hB2 : A' ++ (x :: B) = P := by rw [← hB, List.append_assoc]; rfl
      have hlA : A'.length = l := by
        rw [List.length_append] at hA
        exact Nat.succ.inj hA
      have hPl : P.length = A'.length + (B.length + 1) := by rw [← hB2, List.length_append]; rfl
      have hpx : sA τ 21 B.length = nI x.1 := by
        have hpl : ∀ A0, pil τ (A0 ++ (x :: B)) → sA τ 21 B.length = nI x.1 := by
          intro A0
          induction A0 with
          | nil => exact fun z => z.1
          | cons y A0 ih0 => exact fun z => ih0 z.2.2
        exact hpl A' (hB2 ▸ r7)
      have hmem : x ∈ P := by rw [← hB2]; exact List.mem_append_right _ List.mem_cons_self
      obtain ⟨v1, v2, v3⟩ := r8 x hmem
      have hn := ih A' hlA (x :: B) hB2 m (by omega)
      rw [show (x :: B).length = B.length + 1 from rfl, inn] at hn
      rw [F_X12_inner_4, r6, if_neg (nI_ge (by omega) (by omega)), rd_n (by omega) (by decide), hpx]
      by_cases h30 : x.1 < 30
      · rw [if_pos h30] at hn
        rw [if_pos (show nI x.1 < 30 from nI_lt (b := 30) h30 (by decide)), nm_eq, nI_1]
        exact hn
      · rw [if_neg h30, if_neg (show ¬ x.1 = 99 by omega)] at hn
        rw [if_neg (show ¬ nI x.1 < 30 from nI_nlt (b := 30) (by omega) (by omega)), rd_n (by omega) (by decide), hpx, nm_eq, nI_1]
        exact hn
  unfold F_X12_inner
  rw [nm_eq, nm_eq]
  exact key P [] (List.append_nil _) FU (by unfold FU; omega)
def isCmp : List (Nat × Nat) → Bool
  | [] => false
  | x :: P => if x.1 ≤ 23 then isCmp P else decide (x.1 ≤ 26)
theorem R_isC {g : Nat → Nat} {T : Nat} {τ : xS} {k n q dep : Nat} {R : Nat → Nat × Nat} {P : List (Nat × Nat)} (h : RI g T τ k n q dep R P) (hl : P.length ≤ 400) : F_X12_isCompared τ = some (b2 (isCmp P = true), τ) := by
  obtain ⟨r1, r2, r3, r4, r5, r6, r7, r8, r9, r10⟩ := h
  have key : ∀ (B : List (Nat × Nat)), pil τ B → pv B → B.length ≤ 400 → ∀ m, B.length < m → F_X12_isCompared_7 m (nI B.length - 1) τ = some (b2 (isCmp B = true), τ) := by
    intro B
    induction B with
    | nil =>
      intro _ _ _ m hm
      obtain ⟨m, rfl⟩ : ∃ q, m = q + 1 := ⟨m - 1, by omega⟩
      rw [F_X12_isCompared_7, show nI ([] : List (Nat × Nat)).length - 1 = -1 from rfl, if_pos (by decide)]
      unfold F_X12_isCompared_36
      rw [if_pos (by decide), cz_0, b2_0.mpr (by decide)]
    | cons x B ih =>
      intro h1 h2 h3 m hm
      obtain ⟨m, rfl⟩ : ∃ q, m = q + 1 := ⟨m - 1, by omega⟩
      have hl2 : (x :: B).length = B.length + 1 := rfl
      obtain ⟨v1, v2, v3⟩ := h2 x List.mem_cons_self
      have hin : ∀ a b : Nat, a < 100 → b < 100 → F_X12_in (nI x.1).toInt64 (nI a).toInt64 (nI b).toInt64 τ = some (b2 (a ≤ x.1 ∧ x.1 ≤ b), τ) := by
        intro a b ha hb
        rw [R_inI, b2_iff (show (nI a ≤ nI x.1 ∧ nI x.1 ≤ nI b) ↔ (a ≤ x.1 ∧ x.1 ≤ b) from and_congr (nI_leI (by omega) (by omega)) (nI_leI (by omega) (by omega)))]
      rw [F_X12_isCompared_7, hl2, nI_pred, if_neg (nI_pos (by omega)), rd_n (by omega) (by decide), h1.1, show (20 : Int64) = (nI 20).toInt64 from rfl, show (23 : Int64) = (nI 23).toInt64 from rfl, hin 20 23 (by decide) (by decide), bd_eq, ib2, isCmp]
      by_cases h23 : x.1 ≤ 23
      · rw [if_pos ⟨v1, h23⟩, if_pos h23, nm_eq2, show nI B.length + -1 = nI B.length - 1 from (Int32.sub_eq_add_neg _ _).symm]
        exact ih h1.2.2 (fun y hy => h2 y (List.mem_cons_of_mem _ hy)) (by omega) m (by omega)
      · rw [if_neg (fun z => h23 z.2), if_neg h23]
        unfold F_X12_isCompared_36
        rw [if_neg (nI_pos (by omega)), rd_n (by omega) (by decide), h1.1, show (24 : Int64) = (nI 24).toInt64 from rfl, show (26 : Int64) = (nI 26).toInt64 from rfl, hin 24 26 (by decide) (by decide), bd_eq, ib2]
        by_cases h26 : x.1 ≤ 26
        · rw [if_pos ⟨by omega, h26⟩, cz_1, b2_1.mpr (decide_eq_true h26)]
        · rw [if_neg (fun z => h26 z.2), cz_0, b2_0.mpr (fun z => h26 (of_decide_eq_true z))]
  unfold F_X12_isCompared
  rw [r6, nm_eq]
  exact key P r7 r8 hl FU (by unfold FU; omega)

end
