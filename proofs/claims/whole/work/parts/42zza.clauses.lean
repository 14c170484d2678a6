section
/-! ===== all clauses of a law ===== -/
theorem kd_srt {g : Nat → Nat} {T C : Nat} (hX : TX g T C) (hg : ∀ j, j < 400 → g j ≤ 255) {k : Nat} (hk : k ≤ C) : kd g T k = 276 ↔ T ≤ plT g T k := by
  have h1 := plT_le hX hk
  have h2 := hX.2.1
  unfold kd tkK
  by_cases c : T ≤ plT g T k
  · rw [if_pos c]
    exact ⟨fun _ => c, fun _ => rfl⟩
  · rw [if_neg c]
    refine ⟨fun h => ?_, fun h => absurd h c⟩
    have h3 := hg (plT g T k) (by omega)
    by_cases c2 : isD (g (plT g T k)) = true
    · rw [if_pos c2] at h
      omega
    rw [if_neg c2] at h
    by_cases c3 : isL (g (plT g T k)) = true
    · rw [if_pos c3] at h
      by_cases c4 : 5 < endT g T (plT g T k) - plT g T k
      · rw [if_pos c4] at h
        omega
      · rw [if_neg c4] at h
        have := fwd_le g (plT g T k) (endT g T (plT g T k) - plT g T k) 18 0 (by omega)
        omega
    · rw [if_neg c3] at h
      omega
theorem R_is0 {g : Nat → Nat} {T C : Nat} (hX : TX g T C) {τ : xS} {k n q : Nat} {R : Nat → Nat × Nat} (h : RJ g T τ k n q R) (hk : k ≤ C) : sI τ 11 = 0 ↔ kd g T k = 276 := by
  rw [kd_srt hX (TpR_g h.1) hk, h.2.1.2.2.1]
  unfold srtN
  by_cases c : T ≤ plT g T k
  · rw [if_pos c]
    exact ⟨fun _ => c, fun _ => rfl⟩
  · rw [if_neg c]
    refine ⟨fun z => ?_, fun z => absurd z c⟩
    by_cases c1 : isL (g (plT g T k)) = true
    · rw [if_pos c1] at z
      exact absurd z (by decide)
    · rw [if_neg c1] at z
      by_cases c2 : isD (g (plT g T k)) = true
      · rw [if_pos c2] at z
        exact absurd z (by decide)
      · rw [if_neg c2] at z
        exact absurd z (by decide)
theorem bd_id {ρ : Type} (o : Option (ρ × xS)) : (bd o fun v s => some (v, s)) = o := by
  cases o with
  | none => rfl
  | some p => rfl
def upF {α : Type} (f : Nat → α) (m : Nat) (v : α) : Nat → α := fun j => if j = m then v else f j
theorem upF_s {α : Type} (f : Nat → α) (m : Nat) (v : α) : upF f m v m = v := if_pos rfl
theorem upF_n {α : Type} {f : Nat → α} {m j : Nat} {v : α} (h : j ≠ m) : upF f m v j = f j := if_neg h
theorem clS_on {K K1 : Nat → Nat × Nat} {u u' h : Nat} {s : (Nat → Int64) → Option Int64} {c : (Nat → Int64) → Option Bool} (q : clS K u u' h s c) (g : eqOn K K1 u u') : clS K1 u u' h s c := fun K' hK => q K' (eqOn_trans g hK)
theorem clT_on {R R1 : Nat → Nat × Nat} {a b d h : Nat} {s : (Nat → Int64) → Option Int64} {c : (Nat → Int64) → Option Bool} (q : clT R a b d h s c) (g : eqOn R R1 a d) : clT R1 a b d h s c := fun R' hR => q R' (eqOn_trans g hR)
/-- the clauses read so far, on both sides -/
def clI (σ τ : xS) (m u q : Nat) (K R : Nat → Nat × Nat) (hd st a b d : Nat → Nat) (sm : Nat → (Nat → Int64) → Option Int64) (cd : Nat → (Nat → Int64) → Option Bool) : Prop :=
  st m = u ∧ ∀ c, c < m → (hd c < 4 ∧ sA σ 48 c = nI (10 + hd c) ∧ sA σ 49 c = nI (st c)) ∧ (st c ≤ st (c + 1) ∧ st (c + 1) ≤ u) ∧ (sA τ 16 (8 * c) = nI (hd c) ∧ sA τ 16 (8 * c + 3) = nI (a c) ∧ sA τ 16 (8 * c + 4) = nI (b c) ∧ sA τ 16 (8 * c + 5) = nI (b c) ∧ sA τ 16 (8 * c + 6) = nI (d c)) ∧ (a c ≤ b c ∧ b c ≤ d c ∧ d c ≤ q) ∧ clS K (st c) (st (c + 1)) (hd c) (sm c) (cd c) ∧ clT R (a c) (b c) (d c) (hd c) (sm c) (cd c)
theorem clI_of {σ τ σ' τ' : xS} {m u q : Nat} {K R : Nat → Nat × Nat} {hd st a b d : Nat → Nat} {sm : Nat → (Nat → Int64) → Option Int64} {cd : Nat → (Nat → Int64) → Option Bool} (h : clI σ τ m u q K R hd st a b d sm cd) (h48 : sA σ' 48 = sA σ 48) (h49 : sA σ' 49 = sA σ 49) (h16 : sA τ' 16 = sA τ 16) : clI σ' τ' m u q K R hd st a b d sm cd := by
  unfold clI
  rw [h48, h49, h16]
  exact h
theorem clI_step {σ τ σ' τ' : xS} {m u q u' b' q' hh : Nat} {K R K' R' : Nat → Nat × Nat} {hd st a b d : Nat → Nat} {sm : Nat → (Nat → Int64) → Option Int64} {cd : Nat → (Nat → Int64) → Option Bool} {s : (Nat → Int64) → Option Int64} {c : (Nat → Int64) → Option Bool} (h : clI σ τ m u q K R hd st a b d sm cd) (h1 : u ≤ u') (h2 : q ≤ b') (h3 : b' ≤ q') (h4 : hh < 4) (eK : eqOn K K' 0 u) (eR : eqOn R R' 0 q) (e48 : sA σ' 48 = upd (sA σ 48) m (nI (10 + hh))) (e49 : sA σ' 49 = upd (sA σ 49) m (nI u)) (e16 : ∀ i, i < 8 * m → sA τ' 16 i = sA τ 16 i) (c0 : sA τ' 16 (8 * m) = nI hh) (c3 : sA τ' 16 (8 * m + 3) = nI q) (c4 : sA τ' 16 (8 * m + 4) = nI b') (c5 : sA τ' 16 (8 * m + 5) = nI b') (c6 : sA τ' 16 (8 * m + 6) = nI q') (hs : clS K' u u' hh s c) (ht : clT R' q b' q' hh s c) : clI σ' τ' (m + 1) u' q' K' R' (upF hd m hh) (upF st (m + 1) u') (upF a m q) (upF b m b') (upF d m q') (upF sm m s) (upF cd m c) := by
  obtain ⟨g0, g⟩ := h
  refine ⟨upF_s _ _ _, fun i hi => ?_⟩
  have hst : upF st (m + 1) u' i = st i := upF_n (by omega)
  by_cases e : i = m
  · subst e
    rw [hst, upF_s, upF_s, upF_s, upF_s, upF_s, upF_s, upF_s, e48, e49, g0, upd_s _ _ rfl, upd_s _ _ rfl]
    exact ⟨⟨h4, rfl, rfl⟩, ⟨h1, Nat.le_refl _⟩, ⟨c0, c3, c4, c5, c6⟩, ⟨h2, h3, Nat.le_refl _⟩, hs, ht⟩
  · have hst2 : upF st (m + 1) u' (i + 1) = st (i + 1) := upF_n (by omega)
    obtain ⟨⟨a1, a2, a3⟩, ⟨a4, a5⟩, ⟨a6, a7, a8, a9, a10⟩, ⟨a11, a12, a13⟩, a14, a15⟩ := g i (by omega)
    rw [hst, hst2, upF_n e, upF_n e, upF_n e, upF_n e, upF_n e, upF_n e, e48, e49, upd_n _ _ e, upd_n _ _ e, e16 _ (by omega), e16 _ (by omega), e16 _ (by omega), e16 _ (by omega), e16 _ (by omega)]
    exact ⟨⟨a1, a2, a3⟩, ⟨a4, by omega⟩, ⟨a6, a7, a8, a9, a10⟩, ⟨a11, a12, by omega⟩, clS_on a14 (eqOn_mono eK (Nat.zero_le _) a5), clT_on a15 (eqOn_mono eR (Nat.zero_le _) a13)⟩
def lawF (g : Nat → Nat) (T C : Nat) (σ τ : xS) (rC : Option (Option Nat × xS)) (rR : Option (Int32 × xS)) : Prop := ∃ (σ' τf : xS) (kf : Nat), rC = some (none, σ') ∧ rR = F_X12_law_97 τf ∧ cxC σ σ' ∧ pzC τ τf ∧ kf ≤ C ∧ sI σ' 759 = nI (plT g T kf) ∧ sI τf 14 = 1 ∧ sI τf 13 = nI (plT g T kf)
def lawG (g : Nat → Nat) (T C : Nat) (σ τ : xS) (rC : Option (Option Nat × xS)) (rR : Option (Int32 × xS)) : Prop := ∃ (σ' τ' : xS) (m k n u q : Nat) (K R : Nat → Nat × Nat) (hd st a b d : Nat → Nat) (sm : Nat → (Nat → Int64) → Option Int64) (cd : Nat → (Nat → Int64) → Option Bool), rC = F_X5_made (nI m) σ' ∧ rR = F_X12_law_97 τ' ∧ LkJ g T C σ' τ' k n u q K R ∧ cxC σ σ' ∧ pzC τ τ' ∧ sI τ' 13 = sI τ 13 ∧ sI τ' 15 = nI m ∧ m ≤ 12 ∧ clI σ' τ' m u q K R hd st a b d sm cd
theorem R_51f {τ : xS} (f : Nat) (h : sI τ 14 = 1) : F_X12_law_51 (f + 1) τ = F_X12_law_97 τ := by
  rw [F_X12_law_51, if_neg (by rw [h]; decide)]
  unfold F_X12_law_78
  rw [if_neg (by rw [h]; decide)]
theorem R_51 {g : Nat → Nat} {T C : Nat} (hX : TX g T C) {τ : xS} {k n q : Nat} {R : Nat → Nat × Nat} (f : Nat) (h : RJ g T τ k n q R) (hk : k ≤ C) (h14 : sI τ 14 = 0) : F_X12_law_51 (f + 1) τ = if kd g T k = 59 then (bd (F_X12_next τ) fun _ σ13 => bd (F_X12_readClause σ13) fun _ σ14 => F_X12_law_51 f σ14) else if kd g T k = 276 then F_X12_law_97 τ else F_X12_law_97 (flS τ) := by
  rw [F_X12_law_51, if_pos h14, show F_X12_isSign 59 τ = F_X12_isSign (nI 59) τ from rfl, R_isSg h.1 h.2.1 (plT_le hX hk) (c := 59) (by decide) (by decide) (by decide), bd_eq2, ib2]
  by_cases c : kd g T k = 59
  · rw [if_pos c, if_pos (show tkK g T (plT g T k) = 59 from c)]
  · rw [if_neg c, if_neg (show ¬ tkK g T (plT g T k) = 59 from c)]
    unfold F_X12_law_78
    rw [if_pos h14]
    by_cases c2 : kd g T k = 276
    · rw [if_pos c2, if_pos ((R_is0 hX h hk).mpr c2)]
    · rw [if_neg c2, if_neg (fun z => c2 ((R_is0 hX h hk).mp z)), (RJ_must0 h h14).1, bd_eq2]
theorem L_loop {g : Nat → Nat} {T C : Nat} (hX : TX g T C) (w : Nat) : ∀ (m f f' : Nat) (σ τ : xS) (k n u q : Nat) (K R : Nat → Nat × Nat) (hd st a b d : Nat → Nat) (sm : Nat → (Nat → Int64) → Option Int64) (cd : Nat → (Nat → Int64) → Option Bool), w < f → w < f' → m + w = 12 → sI τ 15 = nI m → LkJ g T C σ τ k n u q K R → clI σ τ m u q K R hd st a b d sm cd → lawF g T C σ τ (F_X5_read_31 f (nI m) σ) (bd (F_X12_readClause τ) fun _ σ14 => F_X12_law_51 f' σ14) ∨ lawG g T C σ τ (F_X5_read_31 f (nI m) σ) (bd (F_X12_readClause τ) fun _ σ14 => F_X12_law_51 f' σ14) := by
  induction w with
  | zero =>
    intro m f f' σ τ k n u q K R hd st a b d sm cd hf hf' hm h15 hL hI
    obtain ⟨f, rfl⟩ : ∃ q, f = q + 1 := ⟨f - 1, by omega⟩
    obtain ⟨f', rfl⟩ : ∃ q, f' = q + 1 := ⟨f' - 1, by omega⟩
    obtain ⟨l1, l2, l3, l4, l5, l6, l7⟩ := hL
    obtain ⟨a1, a2, a3, a4, a5⟩ := RJ_must0 l2 l3
    left
    rw [F_X5_read_31, if_pos (show (12 : Int32) ≤ nI m from nI_le (a := 12) (by omega) (by omega)), PI_fails hX l1 l4, bd_eq2, R_cl0 hX l2 l4 l3 (Or.inr (by rw [h15]; exact nI_le (a := 12) (by omega) (by omega))), bd_eq2, R_51f f' a4]
    exact ⟨_, flS τ, k, rfl, rfl, cxC_F (cxF_I _ _ (by decide)), pzC_F a3, l4, rfl, a4, a5⟩
  | succ w ih =>
    intro m f f' σ τ k n u q K R hd st a b d sm cd hf hf' hm h15 hL hI
    obtain ⟨f, rfl⟩ : ∃ q, f = q + 1 := ⟨f - 1, by omega⟩
    obtain ⟨f', rfl⟩ : ∃ q, f' = q + 1 := ⟨f' - 1, by omega⟩
    rw [F_X5_read_31, if_neg (show ¬ (12 : Int32) ≤ nI m from nI_ge (b := 12) (by omega) (by decide))]
    rcases P_clause hX (show m < 12 by omega) h15 hL with ⟨σ', τf, kf, f1, f2, f3, f4, f5, f6, f7, f8⟩ | ⟨σ', τ', k', n', u', q', b', h', K', R', s, c, d1, d2, d3, d4, d5, d6, d7, ⟨d8, d9, d10, d11, d12⟩, d13, d14, d15, d16, d17, d18, d19, d20, d21, d22, d23, d24⟩
    · left
      rw [f1, bd_eq2, if_pos rfl, f2, bd_eq2, R_51f f' f7]
      exact ⟨σ', τf, kf, rfl, rfl, f3, f4, f5, f6, f7, f8⟩
    have hI' := clI_step hI d9 d10 d11 d12 d13 d14 d15 d16 d17 d18 d19 d20 d21 d22 d23 d24
    have hJ := d3
    obtain ⟨m1, m2, m3, m4, m5, m6, m7⟩ := d3
    have hkd := kd_le hX (TpR_g m2.1) m4
    rw [d1, bd_eq2, if_neg (by decide), PI_tok hX m1 m4, bd_eq2, d2, bd_eq2, R_51 hX f' m2 m4 m3]
    by_cases c1 : kd g T k' = 276
    · right
      rw [if_pos (show nI (kd g T k') = 276 by rw [c1]; rfl), nI_1, bd_id, if_neg (show ¬ kd g T k' = 59 by omega), if_pos c1]
      exact ⟨σ', τ', m + 1, k', n', u', q', K', R', _, _, _, _, _, _, _, rfl, rfl, hJ, d4, d5, d6, d7, by omega, hI'⟩
    rw [if_neg (show ¬ nI (kd g T k') = 276 from nI_ne (b := 276) (by omega) (by decide) c1), PI_tok hX m1 m4, bd_eq2]
    by_cases c2 : kd g T k' = 59
    · have hkC := kd_end hX m4 c1
      obtain ⟨n1, n2⟩ := PI_next hX m1 hkC
      obtain ⟨τ2, t1, t2, t3, t4, t5⟩ := RJ_next hX m2 m4
      have hc : cxC σ (uI σ' 756 (nI (k' + 1))) := cxC_trans d4 (cxC_F (cxF_I _ _ (by decide)))
      have hp : pzC τ τ2 := pzC_trans d5 (pzC_F t3)
      have hz : LkJ g T C (uI σ' 756 (nI (k' + 1))) τ2 (k' + 1) n' u' q' K' R' := ⟨n2, t2, t4.trans m3, by omega, m5, by omega, by omega⟩
      have h15' : sI τ2 15 = nI (m + 1) := (t3.2.1 15 (by decide)).trans d7
      have hI2 := clI_of (σ' := uI σ' 756 (nI (k' + 1))) (τ' := τ2) hI' rfl rfl (t3.1 16 (by decide))
      rw [if_pos (show nI (kd g T k') = 59 by rw [c2]; rfl), n1, bd_eq2, nI_1, nm_eq2, if_pos c2, t1, bd_eq2]
      rcases ih (m + 1) f f' _ τ2 (k' + 1) n' u' q' K' R' _ _ _ _ _ _ _ (by omega) (by omega) (by omega) h15' hz hI2 with ⟨σ3, τ3, kf, g1, g2, g3, g4, g5⟩ | ⟨σ3, τ3, m3', k3, n3, u3, q3, K3, R3, hd3, st3, a3, b3, dd3, sm3, cd3, g1, g2, g3, g4, g5, g6, g7⟩
      · exact Or.inl ⟨σ3, τ3, kf, g1, g2, cxC_trans hc g3, pzC_trans hp g4, g5⟩
      · exact Or.inr ⟨σ3, τ3, m3', k3, n3, u3, q3, K3, R3, hd3, st3, a3, b3, dd3, sm3, cd3, g1, g2, g3, cxC_trans hc g4, pzC_trans hp g5, (g6.trans t5).trans d6, g7⟩
    · left
      obtain ⟨a1, a2, a3, a4, a5⟩ := RJ_must0 m2 m3
      rw [if_neg (show ¬ nI (kd g T k') = 59 from nI_ne (b := 59) (by omega) (by decide) c2), PI_fails hX m1 m4, bd_eq2, if_neg c2, if_neg c1]
      exact ⟨_, flS τ', k', rfl, rfl, cxC_trans d4 (cxC_F (cxF_I _ _ (by decide))), pzC_trans d5 (pzC_F a3), m4, rfl, a4, a5⟩
end
