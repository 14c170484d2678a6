section
/-! ===== AND, OR: both readers in step ===== -/
theorem topB_1 {P : List (Nat × Nat)} {lo : Nat} (h : topB P lo) : topB P (lo + 1) := by
  cases P with
  | nil => trivial
  | cons x P => exact Nat.lt_succ_of_lt h
def headT (g : Nat → Nat) (T C lev op wd : Nat) (b : Bool) (σ0 τ0 : xS) (k0 n0 u0 q0 a : Nat) (K0 R0 : Nat → Nat × Nat) (P : List (Nat × Nat)) (σ τ : xS) (k L u q : Nat) (K R : Nat → Nat × Nat) (J JR : List Nat) (acc : (Nat → Int64) → Option Bool) : Prop :=
  LkS g T C σ τ k (n0 + L) u q a K R (JR.map (fun j => (op, j)) ++ P) ∧ cxF σ0 σ ∧ pzF τ0 τ ∧ sI τ 13 = sI τ0 13 ∧ (k0 ≤ k ∧ u0 ≤ u ∧ q0 ≤ q ∧ u + k0 ≤ u0 + k ∧ q + k0 ≤ q0 + k ∧ JR.length ≤ 1 ∧ JR.length + k0 ≤ k ∧ J.length + k0 ≤ k) ∧ eqOn K0 K 0 u0 ∧ eqOn R0 R 0 q0 ∧ chn K wd J ∧ (∀ j, j ∈ JR → (R j).1 = op) ∧ chC wd b K u0 u L J acc ∧ chR op b R q0 q L JR acc ∧ ∀ r, RLr C k 1 0 τ r → RLr C k0 1 0 τ0 r
theorem wt_map {op : Nat} (h : op = 28 ∨ op = 29) (JR : List Nat) : wt (JR.map (fun j => (op, j))) = 0 := by
  induction JR with
  | nil => rfl
  | cons j JR ih =>
    show (if op < 28 then 1 else 0) + wt (JR.map (fun j => (op, j))) = 0
    rw [ih, if_neg (by omega)]
theorem flush_map {op q : Nat} (h : op = 28 ∨ op = 29) {R : Nat → Nat × Nat} {JR : List Nat} (hl : JR.length ≤ 1) (ho : ∀ j, j ∈ JR → (R j).1 = op) : flush (JR.map (fun j => (op, j))) q R = (q, lnd R op q JR) := by
  cases JR with
  | nil =>
    show (q, R) = _
    rw [lnd_nil]
  | cons j JR =>
    have hJ : JR = [] := List.eq_nil_of_length_eq_zero (by
      have : (j :: JR).length = JR.length + 1 := rfl
      omega)
    subst hJ
    show flush [(op, j)] q R = _
    rw [flush, if_pos h, flush, ho j List.mem_cons_self]
    congr 1
    funext i
    by_cases e : i = j
    · subst e
      rw [updN_s, lnd_in List.mem_cons_self]
    · rw [updN_n e, lnd_out (fun z => (List.mem_cons.mp z).elim e (fun z => by cases z))]
theorem P_Both_loop {g : Nat → Nat} {T C a : Nat} (hX : TX g T C) {kT : Int32 → xS → Option (Int32 × xS)} (hT : a < 8 → TestH g T C 1 kT (a + 1)) {σ0 τ0 : xS} {k0 n0 u0 q0 : Nat} {K0 R0 : Nat → Nat × Nat} {P : List (Nat × Nat)} (hP : topB P 2) (hi : inn P = 99 ∨ inn P = 30) (w : Nat) : ∀ (m cnt : Nat) (σ τ : xS) (k L u q : Nat) (K R : Nat → Nat × Nat) (J JR : List Nat) (acc : (Nat → Int64) → Option Bool), C - k < w → w ≤ m → cnt ≤ k → headT g T C 2 28 11 true σ0 τ0 k0 n0 u0 q0 a K0 R0 P σ τ k L u q K R J JR acc → outT g T C 0 2 false 0 σ0 τ0 k0 n0 u0 q0 a K0 R0 P (F_X5_readBoth_4 kT m (nI a) (chv J) (nI cnt) σ) := by
  have hT1 := hX.1
  have hT2 := hX.2.1
  induction w with
  | zero =>
    intro m cnt σ τ k L u q K R J JR acc hw
    omega
  | succ w ih =>
    intro m cnt σ τ k L u q K R J JR acc hw hm hc hh
    obtain ⟨m, rfl⟩ : ∃ q, m = q + 1 := ⟨m - 1, by omega⟩
    obtain ⟨hLS, f1, f2, f3, ⟨b1, b2, b3, b4, b5, b6, b7, b8⟩, eK, eR, hch, hJR, hC, hR, hr⟩ := hh
    have hop : (28 : Nat) = 28 ∨ (28 : Nat) = 29 := by decide
    have hW0 := wt_map hop JR
    have hWl : (JR.map (fun j => (28, j))).length = JR.length := List.length_map _
    have l4 := hLS.2.2.2.1
    have l6 := hLS.2.2.2.2.2.1
    have hWQ : ∀ x, x ∈ JR.map (fun j => ((28 : Nat), j)) → 20 ≤ x.1 ∧ x.1 ≤ 29 ∧ 2 ≤ bindN x.1 ∧ x.1 < 30 ∧ ((x.1 = 28 ∨ x.1 = 29) → q0 ≤ x.2) ∧ bindN x.1 < 3 := by
      intro x hx
      obtain ⟨j, hj, rfl⟩ := List.mem_map.mp hx
      exact ⟨show 20 ≤ 28 by decide, show 28 ≤ 29 by decide, show 2 ≤ bindN 28 by decide, show 28 < 30 by decide, fun _ => (hR.1 j hj).1, show bindN 28 < 3 by decide⟩
    have hPW : topB (JR.map (fun j => ((28 : Nat), j)) ++ P) 3 := by
      cases JR with
      | nil => exact topB_1 hP
      | cons j JR => exact (show bindN 28 < 3 by decide)
    have hiW : inn (JR.map (fun j => ((28 : Nat), j)) ++ P) = 99 ∨ inn (JR.map (fun j => ((28 : Nat), j)) ++ P) = 30 := by
      rw [inn_app (fun x hx => (hWQ x hx).2.2.2.1)]
      exact hi
    rw [F_X5_readBoth_4, if_neg (show ¬ (400 : Int32) < nI cnt from nI_nlt (a := 400) (b := cnt) (by omega) (by decide))]
    rcases P_plain hX hT _ _ _ _ _ _ _ _ _ hLS hPW hiW with hf | ⟨σ2, τ2, k2, L2, u2, q2, K2, R2, Q, c, d1, d2, d3, d4, d5, d6, d7, d8, d9, d10, d11, d12, d13⟩
    · left
      have hf1 := fail_mono hf f1 f2 hr
      obtain ⟨σ', τf, kf, g1, g2⟩ := hf1
      rw [g1, bd_eq, if_pos rfl, cz_0]
      exact ⟨σ', τf, kf, rfl, g2⟩
    obtain ⟨m1, m2, m3, m4, m5, m6, m7, m8, m9⟩ := d3
    rw [if_neg (by decide)] at d11
    have hkd := kd_le hX (TpR_g m2.1) m4
    rw [← List.append_assoc] at m2 m7 m8
    have hw2 : wt (Q ++ JR.map (fun j => (28, j)) ++ P) = wt Q + wt P := by rw [wt_app, wt_app, hW0]; omega
    have hl2 : (Q ++ JR.map (fun j => (28, j)) ++ P).length = Q.length + JR.length + P.length := by rw [List.length_append, List.length_append, hWl]
    have hwQ : wt (Q ++ JR.map (fun j => (28, j))) = wt Q := by rw [wt_app, hW0]; omega
    have hlQ : (Q ++ JR.map (fun j => (28, j))).length = Q.length + JR.length := by rw [List.length_append, hWl]
    have hQW : ∀ x, x ∈ Q ++ JR.map (fun j => ((28 : Nat), j)) → 20 ≤ x.1 ∧ x.1 ≤ 29 ∧ 2 ≤ bindN x.1 ∧ ((x.1 = 28 ∨ x.1 = 29) → q0 ≤ x.2) := by
      intro x hx
      rcases List.mem_append.mp hx with hx | hx
      · have := d10 x hx
        exact ⟨this.1, this.2.1, by omega, fun z => by have := this.2.2.2 z; omega⟩
      · have := hWQ x hx
        exact ⟨this.1, this.2.1, this.2.2.1, this.2.2.2.2.1⟩
    have eKK : eqOn K K2 u0 u := eqOn_mono d8 (Nat.zero_le _) (Nat.le_refl _)
    have eR3 : eqOn R (flush Q q2 R2).2 0 q := eqOn_trans d9 (flush_on9 d10 q2 R2 (by omega))
    have hop3 : ∀ j, j ∈ JR → ((flush Q q2 R2).2 j).1 = 28 := fun j hj => by
      rw [eR3 j (Nat.zero_le _) (hR.1 j hj).2]
      exact hJR j hj
    have hfl : flush (Q ++ JR.map (fun j => (28, j))) q2 R2 = (q2 + wt Q, lnd (flush Q q2 R2).2 28 (q2 + wt Q) JR) := by
      rw [flush_app, flush_q9 d10, flush_map hop b6 hop3]
    have hJu : ∀ j, j ∈ J → j < u2 := fun j hj => by
      have := (hC.1 j hj).2
      omega
    have hch2 : chn K2 11 J := chn_on hch (fun j hj => d8 j (Nat.zero_le _) (hC.1 j hj).2)
    have eR4 : eqOn R0 (lnd (flush Q q2 R2).2 28 (q2 + wt Q) JR) 0 q0 := by
      intro i i1 i2
      rw [lnd_out (fun z => by have := (hR.1 i z).1; omega), eR3 i i1 (by omega)]
      exact eR i i1 i2
    rw [d1, bd_eq, if_neg (by decide), PI_tok hX m1 m4, bd_eq]
    by_cases ct : kd g T k2 = 272
    · have hkC := kd_end hX m4 (by omega)
      rw [if_pos (show nI (kd g T k2) = 272 by rw [ct]; rfl)]
      obtain ⟨j1, j2, j3⟩ := PI_jump m1 (show u2 < 400 by omega) (a := 11) (by decide) hJu
      obtain ⟨n1, n2⟩ := PI_next hX j2 hkC
      rw [show F_X5_jump 11 = F_X5_jump (nI 11) from rfl, j1, bd_eq2, n1, bd_eq2, nI_1, nm_eq2]
      obtain ⟨τ3, t1, t2, t3, t4, t5⟩ := R_sg hX (tok := 272) (lev := 2) (op := 28) (Or.inl ⟨rfl, rfl, rfl⟩) m2 m4 ct m3 (fun x hx => ⟨(hQW x hx).2.1, (hQW x hx).2.2.1⟩) hP (by omega) (by omega) (by omega)
      rw [hfl, hwQ] at t2
      refine ih m (cnt + 1) _ τ3 (k2 + 1) (L + L2) (u2 + 1) (q2 + wt Q + 1) (updN K2 u2 (11, hd1 J)) (updN (lnd (flush Q q2 R2).2 28 (q2 + wt Q) JR) (q2 + wt Q) (28, 0)) (u2 :: J) [q2 + wt Q] (cmb true acc c) (by omega) (by omega) (by omega) ⟨⟨?_, ?_, t4, by omega, by omega, by omega, ?_, ?_, m9⟩, cxF_trans (cxF_trans (cxF_trans f1 d4) j3) (cxF_I _ _ (by decide)), pzF_trans (pzF_trans f2 d5) t3, t5.trans (d6.trans f3), ?_, ?_, ?_, ⟨updN_s _ _ _, hJu, chn_on hch2 (fun j hj => updN_n (by have := hJu j hj; omega))⟩, ?_, ?_, ?_, ?_⟩
      · rw [← Nat.add_assoc]
        exact n2
      · rw [← Nat.add_assoc]
        exact t2
      · show q2 + wt Q + 1 + ((if 28 < 28 then 1 else 0) + wt P) ≤ k2 + 1
        rw [if_neg (by decide)]
        omega
      · show P.length + 1 ≤ k2 + 1
        omega
      · have e1 : ([q2 + wt Q] : List Nat).length = 1 := rfl
        have e2 : (u2 :: J).length = J.length + 1 := rfl
        omega
      · exact eqOn_trans eK (eqOn_trans (eqOn_mono d8 (Nat.le_refl _) b2) (eqOn_mono (updN_on K2 0 u2 _) (Nat.le_refl _) (by omega)))
      · exact eqOn_trans eR4 (eqOn_mono (updN_on _ 0 (q2 + wt Q) _) (Nat.le_refl _) (by omega))
      · intro j hj
        rcases List.mem_cons.mp hj with rfl | hj
        · rw [updN_s]
        · cases hj
      · exact chC_step (Or.inl ⟨rfl, rfl⟩) hC d11 b2 (by omega) eKK (updN_on K2 u0 u2 _)
      · exact chR_step (Or.inl ⟨rfl, rfl⟩) hR d12 b3 (by omega) (by omega) (eqOn_mono eR3 (Nat.zero_le _) (Nat.le_refl _)) (updN_on _ q0 (q2 + wt Q) _)
      · exact fun r h => hr r (d13 r (RL_2 (t' := 0) m3 t1 (by have h1 : rk 0 = 2 := rfl; have h2 : rk 2 = 2 := rfl; omega) h))
    · rw [if_neg (show ¬ nI (kd g T k2) = 272 from nI_ne (b := 272) (by omega) (by decide) ct)]
      obtain ⟨σ3, e1, e2, e3⟩ := PI_land (wd := 11) (by decide) (show u2 ≤ 400 by omega) J FU 0 σ2 K2 (by unfold FU; omega) (by omega) hJu hch2 m1
      have hland : F_X5_land (chv J) σ2 = some ((), σ3) := by
        unfold F_X5_land
        rw [nm_eq2]
        exact e1
      rw [hland, bd_eq, cz_1]
      refine Or.inr ⟨σ3, τ2, k2, L + L2, u2, q2, lnd K2 11 u2 J, R2, Q ++ JR.map (fun j => (28, j)), cmb true acc c, rfl, ⟨?_, ?_⟩, ⟨?_, ?_, m3, m4, by omega, m6, m7, m8, m9⟩, cxF_trans (cxF_trans f1 d4) e3, pzF_trans f2 d5, d6.trans f3, by omega, ?_, ?_, hQW, ?_, ?_, fun r h => hr r (d13 r h)⟩
      · intro _
        exact ct
      · intro z
        omega
      · rw [← Nat.add_assoc]
        exact e2
      · rw [← Nat.add_assoc]
        exact m2
      · intro i i1 i2
        rw [lnd_out (fun z => by have := (hC.1 i z).1; omega), d8 i i1 (by omega)]
        exact eK i i1 i2
      · exact eqOn_trans eR (eqOn_mono d9 (Nat.le_refl _) b3)
      · rw [if_neg (by decide)]
        exact chC_end hC d11 b2 (by omega) eKK (eqOn_refl _ _ _)
      · rw [hfl, hwQ]
        exact chR_end hR d12 b3 (by omega) (eqOn_mono eR3 (Nat.zero_le _) (Nat.le_refl _)) (eqOn_refl _ _ _)
theorem P_Both {g : Nat → Nat} {T C a : Nat} (hX : TX g T C) {kT : Int32 → xS → Option (Int32 × xS)} (hT : a < 8 → TestH g T C 1 kT (a + 1)) : TestH g T C 2 (F_X5_readBoth kT) a := by
  intro σ τ k n u q K R P h hP hi
  have hT1 := hX.1
  have hT2 := hX.2.1
  unfold F_X5_readBoth
  rw [nm_eq2, nm_eq2]
  exact P_Both_loop hX hT hP hi (C - k + 1) FU 0 σ τ k 0 u q K R [] [] (fun _ => some true) (by omega) (by unfold FU; omega) (Nat.zero_le _) ⟨h, cxF_refl σ, pzF_refl τ, rfl, ⟨by omega, by omega, by omega, by omega, by omega, Nat.zero_le _, by show 0 + k ≤ k; omega, by show 0 + k ≤ k; omega⟩, eqOn_refl _ _ _, eqOn_refl _ _ _, trivial, (fun j hj => by cases hj), chC_nil _ _ _ _, chR_nil _ _ _ _, fun r h => h⟩
theorem P_Test_loop {g : Nat → Nat} {T C a : Nat} (hX : TX g T C) {kT : Int32 → xS → Option (Int32 × xS)} (hT : a < 8 → TestH g T C 1 kT (a + 1)) {σ0 τ0 : xS} {k0 n0 u0 q0 : Nat} {K0 R0 : Nat → Nat × Nat} {P : List (Nat × Nat)} (hP : topB P 1) (hi : inn P = 99 ∨ inn P = 30) (w : Nat) : ∀ (m cnt : Nat) (σ τ : xS) (k L u q : Nat) (K R : Nat → Nat × Nat) (J JR : List Nat) (acc : (Nat → Int64) → Option Bool), C - k < w → w ≤ m → cnt ≤ k → headT g T C 1 29 10 false σ0 τ0 k0 n0 u0 q0 a K0 R0 P σ τ k L u q K R J JR acc → outT g T C 0 1 false 0 σ0 τ0 k0 n0 u0 q0 a K0 R0 P (F_X5_readTest_4 kT m (nI a) (chv J) (nI cnt) σ) := by
  have hT1 := hX.1
  have hT2 := hX.2.1
  induction w with
  | zero =>
    intro m cnt σ τ k L u q K R J JR acc hw
    omega
  | succ w ih =>
    intro m cnt σ τ k L u q K R J JR acc hw hm hc hh
    obtain ⟨m, rfl⟩ : ∃ q, m = q + 1 := ⟨m - 1, by omega⟩
    obtain ⟨hLS, f1, f2, f3, ⟨b1, b2, b3, b4, b5, b6, b7, b8⟩, eK, eR, hch, hJR, hC, hR, hr⟩ := hh
    have hop : (29 : Nat) = 28 ∨ (29 : Nat) = 29 := by decide
    have hW0 := wt_map hop JR
    have hWl : (JR.map (fun j => (29, j))).length = JR.length := List.length_map _
    have l4 := hLS.2.2.2.1
    have l6 := hLS.2.2.2.2.2.1
    have hWQ : ∀ x, x ∈ JR.map (fun j => ((29 : Nat), j)) → 20 ≤ x.1 ∧ x.1 ≤ 29 ∧ 1 ≤ bindN x.1 ∧ x.1 < 30 ∧ ((x.1 = 28 ∨ x.1 = 29) → q0 ≤ x.2) ∧ bindN x.1 < 2 := by
      intro x hx
      obtain ⟨j, hj, rfl⟩ := List.mem_map.mp hx
      exact ⟨show 20 ≤ 29 by decide, show 29 ≤ 29 by decide, show 1 ≤ bindN 29 by decide, show 29 < 30 by decide, fun _ => (hR.1 j hj).1, show bindN 29 < 2 by decide⟩
    have hPW : topB (JR.map (fun j => ((29 : Nat), j)) ++ P) 2 := by
      cases JR with
      | nil => exact topB_1 hP
      | cons j JR => exact (show bindN 29 < 2 by decide)
    have hiW : inn (JR.map (fun j => ((29 : Nat), j)) ++ P) = 99 ∨ inn (JR.map (fun j => ((29 : Nat), j)) ++ P) = 30 := by
      rw [inn_app (fun x hx => (hWQ x hx).2.2.2.1)]
      exact hi
    rw [F_X5_readTest_4, if_neg (show ¬ (400 : Int32) < nI cnt from nI_nlt (a := 400) (b := cnt) (by omega) (by decide))]
    rcases P_Both hX hT _ _ _ _ _ _ _ _ _ hLS hPW hiW with hf | ⟨σ2, τ2, k2, L2, u2, q2, K2, R2, Q, c, d1, d2, d3, d4, d5, d6, d7, d8, d9, d10, d11, d12, d13⟩
    · left
      have hf1 := fail_mono hf f1 f2 hr
      obtain ⟨σ', τf, kf, g1, g2⟩ := hf1
      rw [g1, bd_eq, if_pos rfl, cz_0]
      exact ⟨σ', τf, kf, rfl, g2⟩
    obtain ⟨m1, m2, m3, m4, m5, m6, m7, m8, m9⟩ := d3
    rw [if_neg (by decide)] at d11
    have hkd := kd_le hX (TpR_g m2.1) m4
    rw [← List.append_assoc] at m2 m7 m8
    have hw2 : wt (Q ++ JR.map (fun j => (29, j)) ++ P) = wt Q + wt P := by rw [wt_app, wt_app, hW0]; omega
    have hl2 : (Q ++ JR.map (fun j => (29, j)) ++ P).length = Q.length + JR.length + P.length := by rw [List.length_append, List.length_append, hWl]
    have hwQ : wt (Q ++ JR.map (fun j => (29, j))) = wt Q := by rw [wt_app, hW0]; omega
    have hlQ : (Q ++ JR.map (fun j => (29, j))).length = Q.length + JR.length := by rw [List.length_append, hWl]
    have hQW : ∀ x, x ∈ Q ++ JR.map (fun j => ((29 : Nat), j)) → 20 ≤ x.1 ∧ x.1 ≤ 29 ∧ 1 ≤ bindN x.1 ∧ ((x.1 = 28 ∨ x.1 = 29) → q0 ≤ x.2) := by
      intro x hx
      rcases List.mem_append.mp hx with hx | hx
      · have := d10 x hx
        exact ⟨this.1, this.2.1, by omega, fun z => by have := this.2.2.2 z; omega⟩
      · have := hWQ x hx
        exact ⟨this.1, this.2.1, this.2.2.1, this.2.2.2.2.1⟩
    have eKK : eqOn K K2 u0 u := eqOn_mono d8 (Nat.zero_le _) (Nat.le_refl _)
    have eR3 : eqOn R (flush Q q2 R2).2 0 q := eqOn_trans d9 (flush_on9 d10 q2 R2 (by omega))
    have hop3 : ∀ j, j ∈ JR → ((flush Q q2 R2).2 j).1 = 29 := fun j hj => by
      rw [eR3 j (Nat.zero_le _) (hR.1 j hj).2]
      exact hJR j hj
    have hfl : flush (Q ++ JR.map (fun j => (29, j))) q2 R2 = (q2 + wt Q, lnd (flush Q q2 R2).2 29 (q2 + wt Q) JR) := by
      rw [flush_app, flush_q9 d10, flush_map hop b6 hop3]
    have hJu : ∀ j, j ∈ J → j < u2 := fun j hj => by
      have := (hC.1 j hj).2
      omega
    have hch2 : chn K2 10 J := chn_on hch (fun j hj => d8 j (Nat.zero_le _) (hC.1 j hj).2)
    have eR4 : eqOn R0 (lnd (flush Q q2 R2).2 29 (q2 + wt Q) JR) 0 q0 := by
      intro i i1 i2
      rw [lnd_out (fun z => by have := (hR.1 i z).1; omega), eR3 i i1 (by omega)]
      exact eR i i1 i2
    rw [d1, bd_eq, if_neg (by decide), PI_tok hX m1 m4, bd_eq]
    by_cases ct : kd g T k2 = 271
    · have hkC := kd_end hX m4 (by omega)
      rw [if_pos (show nI (kd g T k2) = 271 by rw [ct]; rfl)]
      obtain ⟨j1, j2, j3⟩ := PI_jump m1 (show u2 < 400 by omega) (a := 10) (by decide) hJu
      obtain ⟨n1, n2⟩ := PI_next hX j2 hkC
      rw [show F_X5_jump 10 = F_X5_jump (nI 10) from rfl, j1, bd_eq2, n1, bd_eq2, nI_1, nm_eq2]
      obtain ⟨τ3, t1, t2, t3, t4, t5⟩ := R_sg hX (tok := 271) (lev := 1) (op := 29) (Or.inr ⟨rfl, rfl, rfl⟩) m2 m4 ct m3 (fun x hx => ⟨(hQW x hx).2.1, (hQW x hx).2.2.1⟩) hP (by omega) (by omega) (by omega)
      rw [hfl, hwQ] at t2
      refine ih m (cnt + 1) _ τ3 (k2 + 1) (L + L2) (u2 + 1) (q2 + wt Q + 1) (updN K2 u2 (10, hd1 J)) (updN (lnd (flush Q q2 R2).2 29 (q2 + wt Q) JR) (q2 + wt Q) (29, 0)) (u2 :: J) [q2 + wt Q] (cmb false acc c) (by omega) (by omega) (by omega) ⟨⟨?_, ?_, t4, by omega, by omega, by omega, ?_, ?_, m9⟩, cxF_trans (cxF_trans (cxF_trans f1 d4) j3) (cxF_I _ _ (by decide)), pzF_trans (pzF_trans f2 d5) t3, t5.trans (d6.trans f3), ?_, ?_, ?_, ⟨updN_s _ _ _, hJu, chn_on hch2 (fun j hj => updN_n (by have := hJu j hj; omega))⟩, ?_, ?_, ?_, ?_⟩
      · rw [← Nat.add_assoc]
        exact n2
      · rw [← Nat.add_assoc]
        exact t2
      · show q2 + wt Q + 1 + ((if 29 < 28 then 1 else 0) + wt P) ≤ k2 + 1
        rw [if_neg (by decide)]
        omega
      · show P.length + 1 ≤ k2 + 1
        omega
      · have e1 : ([q2 + wt Q] : List Nat).length = 1 := rfl
        have e2 : (u2 :: J).length = J.length + 1 := rfl
        omega
      · exact eqOn_trans eK (eqOn_trans (eqOn_mono d8 (Nat.le_refl _) b2) (eqOn_mono (updN_on K2 0 u2 _) (Nat.le_refl _) (by omega)))
      · exact eqOn_trans eR4 (eqOn_mono (updN_on _ 0 (q2 + wt Q) _) (Nat.le_refl _) (by omega))
      · intro j hj
        rcases List.mem_cons.mp hj with rfl | hj
        · rw [updN_s]
        · cases hj
      · exact chC_step (Or.inr ⟨rfl, rfl⟩) hC d11 b2 (by omega) eKK (updN_on K2 u0 u2 _)
      · exact chR_step (Or.inr ⟨rfl, rfl⟩) hR d12 b3 (by omega) (by omega) (eqOn_mono eR3 (Nat.zero_le _) (Nat.le_refl _)) (updN_on _ q0 (q2 + wt Q) _)
      · exact fun r h => hr r (d13 r (RL_2 (t' := 0) m3 t1 (by have h1 : rk 0 = 2 := rfl; have h2 : rk 2 = 2 := rfl; omega) h))
    · rw [if_neg (show ¬ nI (kd g T k2) = 271 from nI_ne (b := 271) (by omega) (by decide) ct)]
      obtain ⟨σ3, e1, e2, e3⟩ := PI_land (wd := 10) (by decide) (show u2 ≤ 400 by omega) J FU 0 σ2 K2 (by unfold FU; omega) (by omega) hJu hch2 m1
      have hland : F_X5_land (chv J) σ2 = some ((), σ3) := by
        unfold F_X5_land
        rw [nm_eq2]
        exact e1
      rw [hland, bd_eq, cz_1]
      refine Or.inr ⟨σ3, τ2, k2, L + L2, u2, q2, lnd K2 10 u2 J, R2, Q ++ JR.map (fun j => (29, j)), cmb false acc c, rfl, ⟨?_, ?_⟩, ⟨?_, ?_, m3, m4, by omega, m6, m7, m8, m9⟩, cxF_trans (cxF_trans f1 d4) e3, pzF_trans f2 d5, d6.trans f3, by omega, ?_, ?_, hQW, ?_, ?_, fun r h => hr r (d13 r h)⟩
      · intro _
        exact d2.1 (by decide)
      · intro z
        exact ct
      · rw [← Nat.add_assoc]
        exact e2
      · rw [← Nat.add_assoc]
        exact m2
      · intro i i1 i2
        rw [lnd_out (fun z => by have := (hC.1 i z).1; omega), d8 i i1 (by omega)]
        exact eK i i1 i2
      · exact eqOn_trans eR (eqOn_mono d9 (Nat.le_refl _) b3)
      · rw [if_neg (by decide)]
        exact chC_end hC d11 b2 (by omega) eKK (eqOn_refl _ _ _)
      · rw [hfl, hwQ]
        exact chR_end hR d12 b3 (by omega) (eqOn_mono eR3 (Nat.zero_le _) (Nat.le_refl _)) (eqOn_refl _ _ _)
theorem P_Test {g : Nat → Nat} {T C a : Nat} (hX : TX g T C) {kT : Int32 → xS → Option (Int32 × xS)} (hT : a < 8 → TestH g T C 1 kT (a + 1)) : TestH g T C 1 (F_X5_readTest kT) a := by
  intro σ τ k n u q K R P h hP hi
  have hT1 := hX.1
  have hT2 := hX.2.1
  unfold F_X5_readTest
  rw [nm_eq2, nm_eq2]
  exact P_Test_loop hX hT hP hi (C - k + 1) FU 0 σ τ k 0 u q K R [] [] (fun _ => some false) (by omega) (by unfold FU; omega) (Nat.zero_le _) ⟨h, cxF_refl σ, pzF_refl τ, rfl, ⟨by omega, by omega, by omega, by omega, by omega, Nat.zero_le _, by show 0 + k ≤ k; omega, by show 0 + k ≤ k; omega⟩, eqOn_refl _ _ _, eqOn_refl _ _ _, trivial, (fun j hj => by cases hj), chC_nil _ _ _ _, chR_nil _ _ _ _, fun r h => h⟩
theorem P_TestD {g : Nat → Nat} {T C : Nat} (hX : TX g T C) (d : Nat) : ∀ a, a ≤ 8 → 9 ≤ a + d → TestH g T C 1 (F_X5_readTestD d) a := by
  induction d with
  | zero =>
    intro a h1 h2
    omega
  | succ d ih =>
    intro a h1 h2 σ τ k n u q K R P h hP hi
    rw [F_X5_readTestD]
    exact P_Test hX (fun ha => ih (a + 1) (by omega) (by omega)) σ τ k n u q K R P h hP hi
end
