/-! ===== the class's machine of a law, on lists ===== -/
theorem no_some {α : Type} {x : α} (h : none = some x) : False := by cases h
def stk (g : Nat → Int64) : List Int64 → Prop
  | [] => True
  | v :: S => g (S.length + 2) = v ∧ stk g S
theorem stk_upd {g : Nat → Int64} {S : List Int64} {k : Nat} (v : Int64) (h : stk g S) (hk : S.length + 2 ≤ k) : stk (vp_updL g k v) S := by
  induction S with
  | nil => trivial
  | cons x S ih =>
    have hk2 : S.length + 1 + 2 ≤ k := hk
    refine ⟨?_, ih h.2 (by omega)⟩
    unfold vp_updL
    rw [if_neg (by omega)]
    exact h.1
/-- what a run of a clause leaves as it was -/
def frS (σ σ' : xS) : Prop := (∀ k, sA σ' k = sA σ k) ∧ (∀ k, k ≠ 707 → sI σ' k = sI σ k) ∧ (∀ k, k ≠ 708 → sJ σ' k = sJ σ k) ∧ (∀ k, k ≠ 46 → sL σ' k = sL σ k) ∧ (∀ k, sQ σ' k = sQ σ k) ∧ sP σ' = sP σ
theorem frS_refl (σ : xS) : frS σ σ := ⟨fun _ => rfl, fun _ _ => rfl, fun _ _ => rfl, fun _ _ => rfl, fun _ => rfl, rfl⟩
theorem frS_trans {σ σ1 σ2 : xS} (h : frS σ σ1) (g : frS σ1 σ2) : frS σ σ2 := ⟨fun k => (g.1 k).trans (h.1 k), fun k hk => (g.2.1 k hk).trans (h.2.1 k hk), fun k hk => (g.2.2.1 k hk).trans (h.2.2.1 k hk), fun k hk => (g.2.2.2.1 k hk).trans (h.2.2.2.1 k hk), fun k => (g.2.2.2.2.1 k).trans (h.2.2.2.2.1 k), g.2.2.2.2.2.trans h.2.2.2.2.2⟩
theorem frS_I (σ : xS) (v : Int32) : frS σ (uI σ 707 v) := ⟨fun _ => rfl, fun k hk => if_neg hk, fun _ _ => rfl, fun _ _ => rfl, fun _ => rfl, rfl⟩
theorem frS_J (σ : xS) (v : Int64) : frS σ (uJ σ 708 v) := ⟨fun _ => rfl, fun _ _ => rfl, fun k hk => if_neg hk, fun _ _ => rfl, fun _ => rfl, rfl⟩
theorem frS_L (σ : xS) (g : Nat → Int64) : frS σ (uL σ 46 g) := ⟨fun _ => rfl, fun _ _ => rfl, fun _ _ => rfl, fun k hk => if_neg hk, fun _ => rfl, rfl⟩
theorem nI_and15 {a x : Nat} (ha : a < 16) (hx : x < 2000) : nI (a + 16 * x) &&& 15 = nI a := by
  apply Int32.toBitVec_inj.mp
  show BitVec.ofNat 32 (a + 16 * x) &&& BitVec.ofNat 32 15 = BitVec.ofNat 32 a
  rw [← BitVec.ofNat_and, show (15 : Nat) = 2 ^ 4 - 1 from rfl, Nat.and_two_pow_sub_one_eq_mod]
  congr 1
  omega
theorem nI_sr4 {a x : Nat} (ha : a < 16) (hx : x < 2000) : nI (a + 16 * x) >>> ((4 : Int32) &&& 31) = nI x := by
  apply Int32.toInt_inj.mp
  have h1 : (nI (a + 16 * x) >>> ((4 : Int32) &&& 31)).toBitVec = (nI (a + 16 * x)).toBitVec.sshiftRight 4 := rfl
  have h2 : (nI (a + 16 * x) >>> ((4 : Int32) &&& 31)).toInt = ((nI (a + 16 * x)).toBitVec.sshiftRight 4).toInt := by rw [← h1]; rfl
  have h3 : (nI (a + 16 * x)).toBitVec.toInt = ((a + 16 * x : Nat) : Int) := nI_toInt (n := a + 16 * x) (by omega)
  rw [h2, BitVec.toInt_sshiftRight, h3, nI_toInt (by omega), Int.shiftRight_eq_div_pow]
  show ((a + 16 * x : Nat) : Int) / 16 = (x : Int)
  omega
theorem nI_pack {a x : Nat} (ha : a < 16) (hx : x < 2000) : nI a ||| (nI x <<< ((4 : Int32) &&& 31)) = nI (a + 16 * x) := by
  have h1 : nI x <<< ((4 : Int32) &&& 31) = nI (16 * x) := by
    apply Int32.toBitVec_inj.mp
    show BitVec.ofNat 32 x <<< 4 = BitVec.ofNat 32 (16 * x)
    apply BitVec.toNat_inj.mp
    rw [BitVec.toNat_shiftLeft, BitVec.toNat_ofNat, BitVec.toNat_ofNat, Nat.shiftLeft_eq]
    omega
  rw [h1]
  apply Int32.toBitVec_inj.mp
  show BitVec.ofNat 32 a ||| BitVec.ofNat 32 (16 * x) = BitVec.ofNat 32 (a + 16 * x)
  rw [← BitVec.ofNat_or]
  congr 1
  have h2 := Nat.shiftLeft_add_eq_or_of_lt (i := 4) (b := a) ha x
  rw [Nat.shiftLeft_eq] at h2
  rw [Nat.or_comm, Nat.add_comm a, show 16 * x = x * 2 ^ 4 by omega, h2]
theorem ckL64 {β : Type} {i : Nat} (h : i < 64) (k : Option β) : ck 64 (nI i) k = k := ck_n h (by decide) k
theorem b2_dec (b : Bool) : b2 (b = true) = if b = true then 1 else 0 := rfl
theorem C_cmp {w : Nat} (hw : w = 6 ∨ w = 7 ∨ w = 8) (a b : Int64) (σ : xS) : F_X0_compared (nI w) a b σ = some (b2 (cmI w a b = true), σ) := by
  unfold F_X0_compared
  rcases hw with rfl | rfl | rfl
  · rw [if_pos (by decide), show cmI 6 a b = decide (a < b) from rfl]
    by_cases h : a < b
    · rw [if_neg (fun q => absurd h (Int64.not_lt.mpr ((lg_cmp_ge _ _).mp q))), cz_1, decide_eq_true h]
      rfl
    · rw [if_pos ((lg_cmp_ge _ _).mpr (Int64.not_lt.mp h)), cz_0, decide_eq_false h]
      rfl
  · rw [if_neg (by decide), if_pos (by decide), show cmI 7 a b = decide (b < a) from rfl]
    by_cases h : b < a
    · rw [if_neg (fun q => absurd h (Int64.not_lt.mpr ((lg_cmp_le _ _).mp q))), cz_1, decide_eq_true h]
      rfl
    · rw [if_pos ((lg_cmp_le _ _).mpr (Int64.not_lt.mp h)), cz_0, decide_eq_false h]
      rfl
  · rw [if_neg (by decide), if_neg (by decide), show cmI 8 a b = decide (a = b) from rfl]
    by_cases h : a = b
    · rw [if_pos ((lg_cmp_eq _ _).mpr h), cz_1, decide_eq_true h]
      rfl
    · rw [if_neg (fun q => h ((lg_cmp_eq _ _).mp q)), cz_0, decide_eq_false h]
      rfl
theorem C_fin {v : Int64} {σ : xS} {m : Nat} (h : sI σ 707 = nI (m + 4)) (hm : m + 3 < 64) : F_X0_reckons_121 v σ = some (b2 ((bdI v).isSome = true), uL (uI σ 707 (nI (m + 3))) 46 (vp_updL (sL σ 46) (m + 2) v)) := by
  unfold F_X0_reckons_121 bdI
  have e1 : sI σ 707 - 1 = nI (m + 3) := by
    rw [h]
    exact pk_sub (b := 1) (by omega)
  have e2 : nI (m + 3) - 1 = nI (m + 2) := pk_sub (b := 1) (by omega)
  rw [nm_eq, e1]
  have e3 : sI (uI σ 707 (nI (m + 3))) 707 = nI (m + 3) := rfl
  rw [e3, e2, ckL64 (by omega), nm_eq, nI_clamp (by omega)]
  have e4 : sL (uI σ 707 (nI (m + 3))) 46 = sL σ 46 := rfl
  rw [e4]
  by_cases h1 : v < -1000000000
  · rw [if_pos ((lg_cmp_lt _ _).mpr h1), cz_0, if_pos (Or.inl h1)]
    rfl
  · rw [if_neg (fun q => h1 ((lg_cmp_lt _ _).mp q))]
    by_cases h2 : 1000000000 < v
    · rw [if_pos ((lg_cmp_gt _ _).mpr h2), cz_0, if_pos (Or.inr h2)]
      rfl
    · rw [if_neg (fun q => h2 ((lg_cmp_gt _ _).mp q)), cz_1, if_neg (fun q => q.elim h1 h2)]
      rfl
theorem bdI_some {v x : Int64} (h : bdI v = some x) : x = v := by
  unfold bdI at h
  split at h
  · cases h
  · cases h
    rfl
theorem C_reck {w : Nat} (hw : 2 ≤ w ∧ w ≤ 5) {a b : Int64} {S : List Int64} {σ : xS} (h : sI σ 707 = nI (S.length + 4)) (hm : S.length + 4 ≤ 64) (hs : stk (sL σ 46) (b :: a :: S)) : ∃ σ', F_X0_reckons (nI w) σ = some (b2 ((arI w a b).isSome = true), σ') ∧ frS σ σ' ∧ sJ σ' 708 = sJ σ 708 ∧ ∀ v, arI w a b = some v → sI σ' 707 = nI (S.length + 3) ∧ stk (sL σ' 46) (v :: S) := by
  have e1 : nI (S.length + 4) - 1 = nI (S.length + 3) := pk_sub (b := 1) (by omega)
  have e2 : nI (S.length + 4) - 2 = nI (S.length + 2) := pk_sub (b := 2) (by omega)
  have hb : sL σ 46 (S.length + 3) = b := hs.1
  have ha : sL σ 46 (S.length + 2) = a := hs.2.1
  have hfin : ∀ v, ∃ σ', F_X0_reckons_121 v σ = some (b2 ((bdI v).isSome = true), σ') ∧ frS σ σ' ∧ sJ σ' 708 = sJ σ 708 ∧ ∀ x, bdI v = some x → sI σ' 707 = nI (S.length + 3) ∧ stk (sL σ' 46) (x :: S) := by
    intro v
    refine ⟨_, C_fin h (by omega), frS_trans (frS_I _ _) (frS_L _ _), rfl, fun x hx => ⟨rfl, ?_, stk_upd v hs.2.2 (Nat.le_refl _)⟩⟩
    rw [bdI_some hx]
    exact if_pos rfl
  unfold F_X0_reckons
  rw [h, if_neg (show ¬ nI (S.length + 4) < (2 : Int32) from nI_nlt (b := 2) (by omega) (by omega)), if_pos (show nI (S.length + 4) ≤ (64 : Int32) from nI_le (b := 64) hm (by decide)), e1, e2, rd_n (by omega) (by decide), rd_n (by omega) (by decide), hb, ha]
  unfold arI
  rcases (show w = 2 ∨ w = 3 ∨ w = 4 ∨ w = 5 by omega) with rfl | rfl | rfl | rfl
  · rw [if_neg (by decide), if_neg (by decide), if_pos rfl]
    unfold F_X0_reckons_60
    rw [if_pos (by decide), nm_eq]
    exact hfin _
  · rw [if_neg (by decide), if_neg (by decide), if_neg (by decide), if_pos rfl]
    unfold F_X0_reckons_60
    rw [if_neg (by decide), if_pos (by decide), nm_eq]
    exact hfin _
  · rw [if_neg (by decide), if_neg (by decide), if_neg (by decide), if_neg (by decide)]
    unfold F_X0_reckons_60
    rw [if_neg (by decide), if_neg (by decide), if_pos (by decide), nm_eq]
    exact hfin _
  · rw [if_pos (by decide), if_pos rfl]
    by_cases h0 : b = 0
    · rw [if_pos ((lg_cmp_eq _ _).mpr h0), cz_0, if_pos h0]
      exact ⟨σ, rfl, frS_refl σ, rfl, fun v hv => by cases hv⟩
    · rw [if_neg (fun q => h0 ((lg_cmp_eq _ _).mp q)), if_neg h0]
      unfold F_X0_reckons_60
      rw [if_neg (by decide), if_neg (by decide), if_neg (by decide), nzL_y h0, nm_eq]
      exact hfin _
theorem mxI_n {a b : Nat} (ha : a < 2 ^ 30) (hb : b < 2 ^ 30) : mxI (nI a) (nI b - 1) = nI (max a (b - 1)) := by
  have h1 : (nI b - 1).toInt = (b : Int) - 1 := pk_sub_toInt (a := b) (b := 1) hb (by decide)
  unfold mxI
  by_cases h : b = 0
  · subst h
    have hlt : ¬ nI a < nI 0 - 1 := by
      rw [Int32.lt_iff_toInt_lt, h1, nI_toInt (by omega)]
      omega
    rw [if_neg hlt, show max a (0 - 1) = a by omega]
  · have e : nI b - 1 = nI (b - 1) := pk_sub (b := 1) (by omega)
    rw [e]
    by_cases h2 : a < b - 1
    · rw [if_pos (nI_lt h2 (by omega)), show max a (b - 1) = b - 1 by omega]
    · rw [if_neg (nI_nlt (by omega) (by omega)), show max a (b - 1) = a by omega]
theorem stk_push {σ : xS} {S : List Int64} (v : Int64) (h : stk (sL σ 46) S) (x : Int32) : stk (sL (uI (uL σ 46 (vp_updL (sL σ 46) (S.length + 2) v)) 707 x) 46) (v :: S) := ⟨if_pos rfl, stk_upd v h (Nat.le_refl _)⟩

theorem C_mc {C : Nat → Nat × Nat} {e : Nat → Int64} {z d : Nat} {p : xP} (hC : okC p C z) (n : Nat) : ∀ (pc : Nat) (f : Bool) (s : Int64) (S : List Int64) (σ : xS) (r : Bool) (s' : Int64), pc ≤ 4000 → (sP σ)[d]? = some p → (∀ k, k < 10 → (sA σ 45 k).toInt64 = e k) → sI σ 707 = nI (S.length + 2) → stk (sL σ 46) S → sJ σ 708 = s → S.length ≤ 62 → mc C e z n pc f s S = some (r, s') → ∃ σ', F_X0_holds_38 d n (b2 (f = true)) (nI z) (nI pc) σ = some (b2 (r = true), σ') ∧ sJ σ' 708 = s' ∧ frS σ σ' := by
  obtain ⟨z1, z2, hK⟩ := hC
  induction n with
  | zero =>
    intro pc f s S σ r s' hpc hp he h7 hs hJ hl hm
    cases hm
  | succ n ih =>
    intro pc f s S σ r s' hpc hp he h7 hs hJ hl hm
    rw [mc] at hm
    rw [F_X0_holds_38]
    by_cases hz : z ≤ pc
    · rw [if_pos hz] at hm
      cases hm
      rw [if_pos (nI_le hz (by omega)), cz_b2]
      exact ⟨σ, rfl, hJ, frS_refl σ⟩
    rw [if_neg hz] at hm
    rw [if_neg (nI_ge (by omega) (by omega)), h7, if_neg (show ¬ nI (S.length + 2) < (2 : Int32) from nI_nlt (b := 2) (by omega) (by omega))]
    by_cases h62 : 62 ≤ S.length
    · rw [if_pos h62] at hm
      cases hm
      rw [if_neg (show ¬ nI (S.length + 2) < (64 : Int32) from nI_nlt (b := 64) (by omega) (by omega)), cz_0]
      exact ⟨σ, rfl, hJ, frS_refl σ⟩
    rw [if_neg h62] at hm
    obtain ⟨k1, k2, k3, k4⟩ := hK pc (by omega)
    have hlw : ∀ {β : Type} (k : xP → Option β), lw σ d k = k p := fun k => by
      unfold lw
      rw [hp]
    have hend : ∀ (pc2 : Nat) (f2 : Bool) (s2 : Int64) (S2 : List Int64) (σ2 : xS), pc2 ≤ 4000 → frS σ σ2 → sI σ2 707 = nI (S2.length + 2) → stk (sL σ2 46) S2 → sJ σ2 708 = s2 → S2.length ≤ 62 → mc C e z n pc2 f2 s2 S2 = some (r, s') → ∃ σ', F_X0_holds_38 d n (b2 (f2 = true)) (nI z) (nI pc2) σ2 = some (b2 (r = true), σ') ∧ sJ σ' 708 = s' ∧ frS σ σ' := by
      intro pc2 f2 s2 S2 σ2 g0 g1 g2 g3 g4 g5 g6
      obtain ⟨σ', q1, q2, q3⟩ := ih pc2 f2 s2 S2 σ2 r s' g0 (by rw [g1.2.2.2.2.2]; exact hp) (fun k hk => by rw [g1.1]; exact he k hk) g2 g3 g4 g5 g6
      exact ⟨σ', q1, q2, frS_trans g1 q3⟩
    rw [if_pos (show nI (S.length + 2) < (64 : Int32) from nI_lt (b := 64) (by omega) (by decide)), hlw, rd_n (by omega) (by omega), k1, nI_and15 (by omega) (by omega), nm_eq, hlw, rd_n (by omega) (by omega), k1, nI_sr4 (by omega) (by omega), nm_eq]
    generalize hx : (C pc).2 = x at *
    generalize hw : (C pc).1 = w at *
    clear ih k1
    rcases (show w = 0 ∨ w = 1 ∨ w = 6 ∨ w = 7 ∨ w = 8 ∨ w = 9 ∨ w = 10 ∨ w = 11 ∨ w = 12 ∨ (2 ≤ w ∧ w ≤ 5) by omega) with rfl | rfl | rfl | rfl | rfl | rfl | rfl | rfl | rfl | hw5
    · rw [if_pos (by decide)] at hm ⊢
      rw [ckL64 (by omega), nm_eq, nm_eq, nm_eq, nI_clamp (by omega), zL_n (by omega), nI_1]
      have e7 : sI (uL σ 46 (vp_updL (sL σ 46) (S.length + 2) (zL x))) 707 + 1 = nI (S.length + 3) := by
        show sI σ 707 + 1 = _
        rw [h7, nI_1]
      rw [e7]
      exact hend (pc + 1) f s (zL x :: S) _ (by omega) (frS_trans (frS_L _ _) (frS_I _ _)) rfl (stk_push _ hs _) hJ (show S.length + 1 ≤ 62 by omega) hm
    · rw [if_neg (by decide), if_pos (by decide)] at hm ⊢
      have hx10 := k4 rfl
      rw [if_neg (show ¬ (10 : Int32) ≤ nI x from nI_ge (b := 10) hx10 (by decide)), rd_n hx10 (by decide), he x hx10]
      unfold F_X0_holds_215
      rw [ckL64 (by omega), nm_eq, nm_eq, nm_eq, nI_clamp (by omega), nI_1]
      have e7 : sI (uL σ 46 (vp_updL (sL σ 46) (S.length + 2) (e x))) 707 + 1 = nI (S.length + 3) := by
        show sI σ 707 + 1 = _
        rw [h7, nI_1]
      rw [e7]
      exact hend (pc + 1) f s (e x :: S) _ (by omega) (frS_trans (frS_L _ _) (frS_I _ _)) rfl (stk_push _ hs _) hJ (show S.length + 1 ≤ 62 by omega) hm
    · rw [if_neg (by decide), if_neg (by decide), if_pos (by decide)] at hm ⊢
      rcases S with _ | ⟨b, _ | ⟨a, T⟩⟩
      · exact (no_some (show (none : Option (Bool × Int64)) = some (r, s') from hm)).elim
      · exact (no_some (show (none : Option (Bool × Int64)) = some (r, s') from hm)).elim
      have hm2 : mc C e z n (pc + 1) (cmI 6 a b) s T = some (r, s') := hm
      have hl2 : T.length + 2 ≤ 62 := hl
      have e7 : nI ((b :: a :: T).length + 2) - 2 = nI (T.length + 2) := pk_sub (a := T.length + 4) (b := 2) (by omega)
      have e8 : sI (uI σ 707 (nI (T.length + 2))) 707 = nI (T.length + 2) := rfl
      have e9 : sL (uI σ 707 (nI (T.length + 2))) 46 = sL σ 46 := rfl
      have ha : sL σ 46 (T.length + 2) = a := hs.2.1
      have hb : sL σ 46 (T.length + 3) = b := hs.1
      rw [e7, nm_eq, e8, e9, nI_1, rd_n (by omega) (by decide), rd_n (by omega) (by decide), ha, hb]
      have hc : F_X0_compared 6 a b (uI σ 707 (nI (T.length + 2))) = _ := C_cmp (w := 6) (by decide) a b _
      first
        | rw [hc, bd_eq, nm_eq, nI_1]
        | rw [C_cmp (w := 6) (by decide), bd_eq, nm_eq, nI_1]
      exact hend (pc + 1) (cmI 6 a b) s T _ (by omega) (frS_I _ _) rfl hs.2.2 hJ (by omega) hm2
    · rw [if_neg (by decide), if_neg (by decide), if_pos (by decide)] at hm ⊢
      rcases S with _ | ⟨b, _ | ⟨a, T⟩⟩
      · exact (no_some (show (none : Option (Bool × Int64)) = some (r, s') from hm)).elim
      · exact (no_some (show (none : Option (Bool × Int64)) = some (r, s') from hm)).elim
      have hm2 : mc C e z n (pc + 1) (cmI 7 a b) s T = some (r, s') := hm
      have hl2 : T.length + 2 ≤ 62 := hl
      have e7 : nI ((b :: a :: T).length + 2) - 2 = nI (T.length + 2) := pk_sub (a := T.length + 4) (b := 2) (by omega)
      have e8 : sI (uI σ 707 (nI (T.length + 2))) 707 = nI (T.length + 2) := rfl
      have e9 : sL (uI σ 707 (nI (T.length + 2))) 46 = sL σ 46 := rfl
      have ha : sL σ 46 (T.length + 2) = a := hs.2.1
      have hb : sL σ 46 (T.length + 3) = b := hs.1
      rw [e7, nm_eq, e8, e9, nI_1, rd_n (by omega) (by decide), rd_n (by omega) (by decide), ha, hb]
      have hc : F_X0_compared 7 a b (uI σ 707 (nI (T.length + 2))) = _ := C_cmp (w := 7) (by decide) a b _
      first
        | rw [hc, bd_eq, nm_eq, nI_1]
        | rw [C_cmp (w := 7) (by decide), bd_eq, nm_eq, nI_1]
      exact hend (pc + 1) (cmI 7 a b) s T _ (by omega) (frS_I _ _) rfl hs.2.2 hJ (by omega) hm2
    · rw [if_neg (by decide), if_neg (by decide), if_pos (by decide)] at hm ⊢
      rcases S with _ | ⟨b, _ | ⟨a, T⟩⟩
      · exact (no_some (show (none : Option (Bool × Int64)) = some (r, s') from hm)).elim
      · exact (no_some (show (none : Option (Bool × Int64)) = some (r, s') from hm)).elim
      have hm2 : mc C e z n (pc + 1) (cmI 8 a b) s T = some (r, s') := hm
      have hl2 : T.length + 2 ≤ 62 := hl
      have e7 : nI ((b :: a :: T).length + 2) - 2 = nI (T.length + 2) := pk_sub (a := T.length + 4) (b := 2) (by omega)
      have e8 : sI (uI σ 707 (nI (T.length + 2))) 707 = nI (T.length + 2) := rfl
      have e9 : sL (uI σ 707 (nI (T.length + 2))) 46 = sL σ 46 := rfl
      have ha : sL σ 46 (T.length + 2) = a := hs.2.1
      have hb : sL σ 46 (T.length + 3) = b := hs.1
      rw [e7, nm_eq, e8, e9, nI_1, rd_n (by omega) (by decide), rd_n (by omega) (by decide), ha, hb]
      have hc : F_X0_compared 8 a b (uI σ 707 (nI (T.length + 2))) = _ := C_cmp (w := 8) (by decide) a b _
      first
        | rw [hc, bd_eq, nm_eq, nI_1]
        | rw [C_cmp (w := 8) (by decide), bd_eq, nm_eq, nI_1]
      exact hend (pc + 1) (cmI 8 a b) s T _ (by omega) (frS_I _ _) rfl hs.2.2 hJ (by omega) hm2
    · rw [if_neg (by decide), if_neg (by decide), if_neg (by decide), if_pos (by decide)] at hm ⊢
      cases f
      · rw [if_pos (by decide)]
        unfold F_X0_holds_264
        rw [nm_eq, nI_1]
        exact hend (pc + 1) true s S σ (by omega) (frS_refl σ) h7 hs hJ hl hm
      · rw [if_neg (by decide)]
        unfold F_X0_holds_264
        rw [nm_eq, nI_1]
        exact hend (pc + 1) false s S σ (by omega) (frS_refl σ) h7 hs hJ hl hm
    · rw [if_neg (by decide), if_neg (by decide), if_neg (by decide), if_neg (by decide), if_pos (by decide)] at hm ⊢
      cases f
      · rw [if_pos (by decide)]
        unfold F_X0_holds_286
        rw [nm_eq, nI_1]
        exact hend (pc + 1) false s S σ (by omega) (frS_refl σ) h7 hs hJ hl hm
      · rw [if_neg (by decide)]
        unfold F_X0_holds_286
        rw [nm_eq, mxI_n (by omega) (by omega), nI_1]
        exact hend (max pc (x - 1) + 1) true s S σ (by omega) (frS_refl σ) h7 hs hJ hl hm
    · rw [if_neg (by decide), if_neg (by decide), if_neg (by decide), if_neg (by decide), if_neg (by decide), if_pos (by decide)] at hm ⊢
      cases f
      · rw [if_pos (by decide)]
        unfold F_X0_holds_309
        rw [nm_eq, mxI_n (by omega) (by omega), nI_1]
        exact hend (max pc (x - 1) + 1) false s S σ (by omega) (frS_refl σ) h7 hs hJ hl hm
      · rw [if_neg (by decide)]
        unfold F_X0_holds_309
        rw [nm_eq, nI_1]
        exact hend (pc + 1) true s S σ (by omega) (frS_refl σ) h7 hs hJ hl hm
    · rw [if_neg (by decide), if_neg (by decide), if_neg (by decide), if_neg (by decide), if_neg (by decide), if_neg (by decide), if_pos (by decide)] at hm ⊢
      rcases S with _ | ⟨v, T⟩
      · exact (no_some (show (none : Option (Bool × Int64)) = some (r, s') from hm)).elim
      have hm2 : mc C e z n (pc + 1) f v T = some (r, s') := hm
      have hl2 : T.length + 1 ≤ 62 := hl
      have e7 : nI ((v :: T).length + 2) - 1 = nI (T.length + 2) := pk_sub (a := T.length + 3) (b := 1) (by omega)
      have e8 : sI (uI σ 707 (nI (T.length + 2))) 707 = nI (T.length + 2) := rfl
      have e9 : sL (uI σ 707 (nI (T.length + 2))) 46 = sL σ 46 := rfl
      have ha : sL σ 46 (T.length + 2) = v := hs.1
      rw [e7, nm_eq, e8, e9, rd_n (by omega) (by decide), ha, nm_eq, nm_eq, nI_1]
      exact hend (pc + 1) f v T _ (by omega) (frS_trans (frS_I _ _) (frS_J _ _)) rfl hs.2 rfl (by omega) hm2
    · have q0 : ∀ j : Nat, j < 2 ^ 31 → w ≠ j → ¬ nI w = nI j := fun j hj hn => nI_ne (by omega) hj hn
      rw [if_neg (by omega), if_neg (by omega), if_neg (by omega), if_neg (by omega), if_neg (by omega), if_neg (by omega), if_neg (by omega)] at hm
      rw [if_neg (show ¬ nI w = (0 : Int32) from q0 0 (by decide) (by omega)), if_neg (show ¬ nI w = (1 : Int32) from q0 1 (by decide) (by omega)), if_neg (show ¬ (nI w = (6 : Int32) ∨ nI w = (7 : Int32) ∨ nI w = (8 : Int32)) from fun q => by
        rcases q with q | q | q
        · exact q0 6 (by decide) (by omega) q
        · exact q0 7 (by decide) (by omega) q
        · exact q0 8 (by decide) (by omega) q), if_neg (show ¬ nI w = (9 : Int32) from q0 9 (by decide) (by omega)), if_neg (show ¬ nI w = (10 : Int32) from q0 10 (by decide) (by omega)), if_neg (show ¬ nI w = (11 : Int32) from q0 11 (by decide) (by omega)), if_neg (show ¬ nI w = (12 : Int32) from q0 12 (by decide) (by omega))]
      rcases S with _ | ⟨b, _ | ⟨a, T⟩⟩
      · exact (no_some (show (none : Option (Bool × Int64)) = some (r, s') from hm)).elim
      · exact (no_some (show (none : Option (Bool × Int64)) = some (r, s') from hm)).elim
      have hl2 : T.length + 2 ≤ 62 := hl
      obtain ⟨σ1, g1, g2, g3, g4⟩ := C_reck hw5 (a := a) (b := b) (S := T) (σ := σ) h7 (by omega) hs
      rw [g1, bd_eq]
      cases ho : arI w a b with
      | none =>
        have hm2 : some (false, s) = some (r, s') := by
          have hm3 : oel (arI w a b) (some (false, s)) (fun v => mc C e z n (pc + 1) f s (v :: T)) = some (r, s') := hm
          rw [ho] at hm3
          exact hm3
        cases hm2
        rw [if_pos (by decide), cz_0]
        exact ⟨σ1, rfl, g3.trans hJ, g2⟩
      | some v =>
        have hm2 : mc C e z n (pc + 1) f s (v :: T) = some (r, s') := by
          have hm3 : oel (arI w a b) (some (false, s)) (fun v => mc C e z n (pc + 1) f s (v :: T)) = some (r, s') := hm
          rw [ho] at hm3
          exact hm3
        obtain ⟨q1, q2⟩ := g4 v ho
        rw [if_neg (show ¬ b2 ((some v).isSome = true) = 0 from fun q => b2_0.mp q rfl), nm_eq, nI_1]
        exact hend (pc + 1) f s (v :: T) σ1 (by omega) g2 q1 q2 (g3.trans hJ) (show T.length + 1 ≤ 62 by omega) hm2
/-! ===== more fuel does no harm ===== -/
theorem mc_mono {C : Nat → Nat × Nat} {e : Nat → Int64} {z : Nat} (n : Nat) : ∀ (pc : Nat) (f : Bool) (s : Int64) (S : List Int64) (r : Bool × Int64), mc C e z n pc f s S = some r → mc C e z (n + 1) pc f s S = some r := by
  induction n with
  | zero =>
    intro pc f s S r h
    cases h
  | succ n ih =>
    intro pc f s S r h
    rw [mc] at h ⊢
    by_cases h1 : z ≤ pc
    · rw [if_pos h1] at h ⊢
      exact h
    rw [if_neg h1] at h ⊢
    by_cases h2 : 62 ≤ S.length
    · rw [if_pos h2] at h ⊢
      exact h
    rw [if_neg h2] at h ⊢
    by_cases c0 : (C pc).1 = 0
    · rw [if_pos c0] at h ⊢
      exact ih _ _ _ _ _ h
    rw [if_neg c0] at h ⊢
    by_cases c1 : (C pc).1 = 1
    · rw [if_pos c1] at h ⊢
      exact ih _ _ _ _ _ h
    rw [if_neg c1] at h ⊢
    by_cases c6 : (C pc).1 = 6 ∨ (C pc).1 = 7 ∨ (C pc).1 = 8
    · rw [if_pos c6] at h ⊢
      rcases S with _ | ⟨b, _ | ⟨a, T⟩⟩
      · exact h
      · exact h
      · exact ih _ _ _ _ _ h
    rw [if_neg c6] at h ⊢
    by_cases c9 : (C pc).1 = 9
    · rw [if_pos c9] at h ⊢
      exact ih _ _ _ _ _ h
    rw [if_neg c9] at h ⊢
    by_cases c10 : (C pc).1 = 10
    · rw [if_pos c10] at h ⊢
      exact ih _ _ _ _ _ h
    rw [if_neg c10] at h ⊢
    by_cases c11 : (C pc).1 = 11
    · rw [if_pos c11] at h ⊢
      exact ih _ _ _ _ _ h
    rw [if_neg c11] at h ⊢
    by_cases c12 : (C pc).1 = 12
    · rw [if_pos c12] at h ⊢
      rcases S with _ | ⟨v, T⟩
      · exact h
      · exact ih _ _ _ _ _ h
    rw [if_neg c12] at h ⊢
    rcases S with _ | ⟨b, _ | ⟨a, T⟩⟩
    · exact h
    · exact h
    · cases ho : arI (C pc).1 a b with
      | none =>
        have h2 : oel (arI (C pc).1 a b) (some (false, s)) (fun v => mc C e z n (pc + 1) f s (v :: T)) = some r := h
        show oel (arI (C pc).1 a b) (some (false, s)) (fun v => mc C e z (n + 1) (pc + 1) f s (v :: T)) = some r
        rw [ho] at h2 ⊢
        exact h2
      | some v =>
        have h2 : oel (arI (C pc).1 a b) (some (false, s)) (fun v => mc C e z n (pc + 1) f s (v :: T)) = some r := h
        show oel (arI (C pc).1 a b) (some (false, s)) (fun v => mc C e z (n + 1) (pc + 1) f s (v :: T)) = some r
        rw [ho] at h2 ⊢
        exact ih _ _ _ _ _ h2
