section
/-! ===== segments of the two machines ===== -/
def up1 (e : Nat → Int64) : Nat → Int64 := fun k => e (k + 1)
def mcR (C : Nat → Nat × Nat) (e : Nat → Int64) (z pc : Nat) (f : Bool) (s : Int64) (S : List Int64) (r : Option (Bool × Int64)) : Prop := ∀ n, z < n + pc → mc C e z n pc f s S = r
def mrR (C : Nat → Nat × Nat) (e : Nat → Int64) (z pc : Nat) (S : List Int64) (r : Option (Option Int64)) : Prop := ∀ n, z < n + pc → mr C e z n pc S = r
def eqOn (K K' : Nat → Nat × Nat) (u v : Nat) : Prop := ∀ i, u ≤ i → i < v → K' i = K i
theorem eqOn_refl (K : Nat → Nat × Nat) (u v : Nat) : eqOn K K u v := fun _ _ _ => rfl
theorem eqOn_trans {K K1 K2 : Nat → Nat × Nat} {u v : Nat} (h : eqOn K K1 u v) (g : eqOn K1 K2 u v) : eqOn K K2 u v := fun i h1 h2 => (g i h1 h2).trans (h i h1 h2)
theorem eqOn_mono {K K1 : Nat → Nat × Nat} {u v u1 v1 : Nat} (h : eqOn K K1 u v) (hu : u ≤ u1) (hv : v1 ≤ v) : eqOn K K1 u1 v1 := fun i h1 h2 => h i (by omega) (by omega)
def segC (K : Nat → Nat × Nat) (u v L : Nat) (s : (Nat → Int64) → Option Int64) : Prop := ∀ K', eqOn K K' u v → ∀ (e : Nat → Int64) (z : Nat) (r : Option (Bool × Int64)) (f : Bool) (sv : Int64) (S : List Int64), v ≤ z → S.length + L ≤ 61 → (∀ x, s e = some x → mcR K' (up1 e) z v f sv (x :: S) r) → (s e = none → r = some (false, sv)) → mcR K' (up1 e) z u f sv S r
def tsegC (K : Nat → Nat × Nat) (u v L : Nat) (c : (Nat → Int64) → Option Bool) : Prop := ∀ K', eqOn K K' u v → ∀ (e : Nat → Int64) (z : Nat) (r : Option (Bool × Int64)) (sv : Int64) (S : List Int64), v ≤ z → S.length + L ≤ 61 → (∀ t, c e = some t → mcR K' (up1 e) z v t sv S r) → (c e = none → r = some (false, sv)) → ∀ f, mcR K' (up1 e) z u f sv S r
def segR (R : Nat → Nat × Nat) (u v L : Nat) (s : (Nat → Int64) → Option Int64) : Prop := ∀ R', eqOn R R' u v → ∀ (e : Nat → Int64) (z : Nat) (r : Option (Option Int64)) (S : List Int64), v ≤ z → S.length + L ≤ 299 → (∀ x, s e = some x → mrR R' e z v (x :: S) r) → (s e = none → r = some none) → mrR R' e z u S r
def asL (c : (Nat → Int64) → Option Bool) : (Nat → Int64) → Option Int64 := fun e => (c e).map b2L
theorem segC_on {K K1 : Nat → Nat × Nat} {u v L : Nat} {s : (Nat → Int64) → Option Int64} (h : segC K u v L s) (g : eqOn K K1 u v) : segC K1 u v L s := fun K' hK => h K' (eqOn_trans g hK)
theorem tsegC_on {K K1 : Nat → Nat × Nat} {u v L : Nat} {s : (Nat → Int64) → Option Bool} (h : tsegC K u v L s) (g : eqOn K K1 u v) : tsegC K1 u v L s := fun K' hK => h K' (eqOn_trans g hK)
theorem segR_on {K K1 : Nat → Nat × Nat} {u v L : Nat} {s : (Nat → Int64) → Option Int64} (h : segR K u v L s) (g : eqOn K K1 u v) : segR K1 u v L s := fun K' hK => h K' (eqOn_trans g hK)
theorem pop1_c {β : Type} (v : Int64) (T : List Int64) (k : Int64 → List Int64 → Option β) : pop1 (v :: T) k = k v T := rfl
theorem pop2_c {β : Type} (b a : Int64) (T : List Int64) (k : Int64 → Int64 → List Int64 → Option β) : pop2 (b :: a :: T) k = k b a T := rfl
/-! single steps of the class's machine -/
theorem mcR_end {C : Nat → Nat × Nat} {e : Nat → Int64} {z : Nat} {f : Bool} {s : Int64} {S : List Int64} : mcR C e z z f s S (some (f, s)) := by
  intro n hn
  obtain ⟨m, rfl⟩ : ∃ q, n = q + 1 := ⟨n - 1, by omega⟩
  rw [mc, if_pos (Nat.le_refl _)]
theorem mcR_num {C : Nat → Nat × Nat} {e : Nat → Int64} {z pc x : Nat} {f : Bool} {s : Int64} {S : List Int64} {r : Option (Bool × Int64)}  (hz : pc < z) (hS : (S).length ≤ 61) (hC : C pc = (0, x)) (h : mcR C e z (pc + 1) f s (zL x :: S) r) : mcR C e z pc f s (S) r := by
  intro n hn
  obtain ⟨m, rfl⟩ : ∃ q, n = q + 1 := ⟨n - 1, by omega⟩
  rw [mc, if_neg (show ¬ z ≤ pc by omega), if_neg (show ¬ 62 ≤ (S).length by omega), hC]
  show (if (0 : Nat) = 0 then mc C e z m (pc + 1) f s (zL x :: S) else _) = r
  rw [if_pos rfl]
  exact h m (by omega)
theorem mcR_word {C : Nat → Nat × Nat} {e : Nat → Int64} {z pc x : Nat} {f : Bool} {s : Int64} {S : List Int64} {r : Option (Bool × Int64)}  (hz : pc < z) (hS : (S).length ≤ 61) (hC : C pc = (1, x)) (h : mcR C e z (pc + 1) f s (e x :: S) r) : mcR C e z pc f s (S) r := by
  intro n hn
  obtain ⟨m, rfl⟩ : ∃ q, n = q + 1 := ⟨n - 1, by omega⟩
  rw [mc, if_neg (show ¬ z ≤ pc by omega), if_neg (show ¬ 62 ≤ (S).length by omega), hC]
  show (if (1 : Nat) = 0 then _ else if (1 : Nat) = 1 then mc C e z m (pc + 1) f s (e x :: S) else _) = r
  rw [if_neg (by decide), if_pos rfl]
  exact h m (by omega)
theorem mcR_cmp {C : Nat → Nat × Nat} {e : Nat → Int64} {z pc x : Nat} {f : Bool} {s : Int64} {S : List Int64} {r : Option (Bool × Int64)} {wd : Nat} {a b : Int64} (hz : pc < z) (hS : (b :: a :: S).length ≤ 61) (hw : wd = 6 ∨ wd = 7 ∨ wd = 8) (hC : C pc = (wd, x)) (h : mcR C e z (pc + 1) (cmI wd a b) s S r) : mcR C e z pc f s (b :: a :: S) r := by
  intro n hn
  obtain ⟨m, rfl⟩ : ∃ q, n = q + 1 := ⟨n - 1, by omega⟩
  rw [mc, if_neg (show ¬ z ≤ pc by omega), if_neg (show ¬ 62 ≤ (b :: a :: S).length by omega), hC]
  show (if wd = 0 then _ else if wd = 1 then _ else if wd = 6 ∨ wd = 7 ∨ wd = 8 then mc C e z m (pc + 1) (cmI wd a b) s S else _) = r
  rw [if_neg (by omega), if_neg (by omega), if_pos hw]
  exact h m (by omega)
theorem mcR_not {C : Nat → Nat × Nat} {e : Nat → Int64} {z pc x : Nat} {f : Bool} {s : Int64} {S : List Int64} {r : Option (Bool × Int64)}  (hz : pc < z) (hS : (S).length ≤ 61) (hC : C pc = (9, x)) (h : mcR C e z (pc + 1) (!f) s S r) : mcR C e z pc f s (S) r := by
  intro n hn
  obtain ⟨m, rfl⟩ : ∃ q, n = q + 1 := ⟨n - 1, by omega⟩
  rw [mc, if_neg (show ¬ z ≤ pc by omega), if_neg (show ¬ 62 ≤ (S).length by omega), hC]
  show (if (9 : Nat) = 0 then _ else if (9 : Nat) = 1 then _ else if (9 : Nat) = 6 ∨ (9 : Nat) = 7 ∨ (9 : Nat) = 8 then _ else if (9 : Nat) = 9 then mc C e z m (pc + 1) (!f) s S else _) = r
  rw [if_neg (by decide), if_neg (by decide), if_neg (by decide), if_pos rfl]
  exact h m (by omega)
theorem mcR_tell {C : Nat → Nat × Nat} {e : Nat → Int64} {z pc x : Nat} {f : Bool} {s : Int64} {S : List Int64} {r : Option (Bool × Int64)} {v : Int64} (hz : pc < z) (hS : (v :: S).length ≤ 61) (hC : C pc = (12, x)) (h : mcR C e z (pc + 1) f v S r) : mcR C e z pc f s (v :: S) r := by
  intro n hn
  obtain ⟨m, rfl⟩ : ∃ q, n = q + 1 := ⟨n - 1, by omega⟩
  rw [mc, if_neg (show ¬ z ≤ pc by omega), if_neg (show ¬ 62 ≤ (v :: S).length by omega), hC]
  show (if (12 : Nat) = 0 then _ else if (12 : Nat) = 1 then _ else if (12 : Nat) = 6 ∨ (12 : Nat) = 7 ∨ (12 : Nat) = 8 then _ else if (12 : Nat) = 9 then _ else if (12 : Nat) = 10 then _ else if (12 : Nat) = 11 then _ else if (12 : Nat) = 12 then mc C e z m (pc + 1) f v S else _) = r
  rw [if_neg (by decide), if_neg (by decide), if_neg (by decide), if_neg (by decide), if_neg (by decide), if_neg (by decide), if_pos rfl]
  exact h m (by omega)
theorem mcR_ar {C : Nat → Nat × Nat} {e : Nat → Int64} {z pc x : Nat} {f : Bool} {s : Int64} {S : List Int64} {r : Option (Bool × Int64)} {wd : Nat} {a b : Int64} (hz : pc < z) (hS : (b :: a :: S).length ≤ 61) (hw : 2 ≤ wd) (hw5 : wd ≤ 5) (hC : C pc = (wd, x)) (h : ∀ v, arI wd a b = some v → mcR C e z (pc + 1) f s (v :: S) r) (h0 : arI wd a b = none → r = some (false, s)) : mcR C e z pc f s (b :: a :: S) r := by
  intro n hn
  obtain ⟨m, rfl⟩ : ∃ q, n = q + 1 := ⟨n - 1, by omega⟩
  rw [mc, if_neg (show ¬ z ≤ pc by omega), if_neg (show ¬ 62 ≤ (b :: a :: S).length by omega), hC]
  show (if wd = 0 then _ else if wd = 1 then _ else if wd = 6 ∨ wd = 7 ∨ wd = 8 then _ else if wd = 9 then _ else if wd = 10 then _ else if wd = 11 then _ else if wd = 12 then _ else oel (arI wd a b) (some (false, s)) fun v => mc C e z m (pc + 1) f s (v :: S)) = r
  rw [if_neg (by omega), if_neg (by omega), if_neg (by omega), if_neg (by omega), if_neg (by omega), if_neg (by omega), if_neg (by omega)]
  cases hv : arI wd a b with
  | none => exact (h0 hv).symm
  | some v => exact h v hv m (by omega)
theorem mcR_jmp {C : Nat → Nat × Nat} {e : Nat → Int64} {z pc x : Nat} {f : Bool} {s : Int64} {S : List Int64} {r : Option (Bool × Int64)} {b : Bool} {wd : Nat} (hz : pc < z) (hS : (S).length ≤ 61) (hw : (wd = 11 ∧ b = true) ∨ (wd = 10 ∧ b = false)) (hC : C pc = (wd, x)) (hx : pc < x) (h1 : f = b → mcR C e z (pc + 1) b s S r) (h2 : f = (!b) → mcR C e z x (!b) s S r) : mcR C e z pc f s (S) r := by
  intro n hn
  obtain ⟨m, rfl⟩ : ∃ q, n = q + 1 := ⟨n - 1, by omega⟩
  rw [mc, if_neg (show ¬ z ≤ pc by omega), if_neg (show ¬ 62 ≤ (S).length by omega), hC]
  have hmx : max pc (x - 1) + 1 = x := by omega
  rcases hw with ⟨rfl, rfl⟩ | ⟨rfl, rfl⟩
  · show (if (11 : Nat) = 0 then _ else if (11 : Nat) = 1 then _ else if (11 : Nat) = 6 ∨ (11 : Nat) = 7 ∨ (11 : Nat) = 8 then _ else if (11 : Nat) = 9 then _ else if (11 : Nat) = 10 then _ else if (11 : Nat) = 11 then mc C e z m (if f then pc + 1 else max pc (x - 1) + 1) f s S else _) = r
    rw [if_neg (by decide), if_neg (by decide), if_neg (by decide), if_neg (by decide), if_neg (by decide), if_pos rfl, hmx]
    cases f with
    | true => exact h1 rfl m (by omega)
    | false => exact h2 rfl m (by omega)
  · show (if (10 : Nat) = 0 then _ else if (10 : Nat) = 1 then _ else if (10 : Nat) = 6 ∨ (10 : Nat) = 7 ∨ (10 : Nat) = 8 then _ else if (10 : Nat) = 9 then _ else if (10 : Nat) = 10 then mc C e z m (if f then max pc (x - 1) + 1 else pc + 1) f s S else _) = r
    rw [if_neg (by decide), if_neg (by decide), if_neg (by decide), if_neg (by decide), if_pos rfl, hmx]
    cases f with
    | true => exact h2 rfl m (by omega)
    | false => exact h1 rfl m (by omega)
/-! single steps of the reference's machine -/
theorem mrR_end1 {C : Nat → Nat × Nat} {e : Nat → Int64} {z : Nat} {v : Int64} : mrR C e z z [v] (some (some v)) := by
  intro n hn
  obtain ⟨m, rfl⟩ : ∃ q, n = q + 1 := ⟨n - 1, by omega⟩
  rw [mr, if_pos (Nat.le_refl _)]
  rfl
theorem mrR_num {C : Nat → Nat × Nat} {e : Nat → Int64} {z pc x : Nat} {S : List Int64} {r : Option (Option Int64)}  (hz : pc < z) (hS : (S).length ≤ 299) (hC : C pc = (0, x)) (h : mrR C e z (pc + 1) (zL x :: S) r) : mrR C e z pc (S) r := by
  intro n hn
  obtain ⟨m, rfl⟩ : ∃ q, n = q + 1 := ⟨n - 1, by omega⟩
  rw [mr, if_neg (show ¬ z ≤ pc by omega), if_neg (show ¬ 300 ≤ (S).length by omega), hC]
  show (if (0 : Nat) = 0 then mr C e z m (pc + 1) (zL x :: S) else _) = r
  rw [if_pos rfl]
  exact h m (by omega)
theorem mrR_word {C : Nat → Nat × Nat} {e : Nat → Int64} {z pc x : Nat} {S : List Int64} {r : Option (Option Int64)} {wd : Nat} (hz : pc < z) (hS : (S).length ≤ 299) (h1 : 1 ≤ wd) (h2 : wd < 20) (hC : C pc = (wd, x)) (h : mrR C e z (pc + 1) (e wd :: S) r) : mrR C e z pc (S) r := by
  intro n hn
  obtain ⟨m, rfl⟩ : ∃ q, n = q + 1 := ⟨n - 1, by omega⟩
  rw [mr, if_neg (show ¬ z ≤ pc by omega), if_neg (show ¬ 300 ≤ (S).length by omega), hC]
  show (if wd = 0 then _ else if wd < 20 then mr C e z m (pc + 1) (e wd :: S) else _) = r
  rw [if_neg (by omega), if_pos h2]
  exact h m (by omega)
theorem mrR_not {C : Nat → Nat × Nat} {e : Nat → Int64} {z pc x : Nat} {S : List Int64} {r : Option (Option Int64)} {v : Int64} (hz : pc < z) (hS : (v :: S).length ≤ 299) (hC : C pc = (27, x)) (h : mrR C e z (pc + 1) ((1 - v) :: S) r) : mrR C e z pc (v :: S) r := by
  intro n hn
  obtain ⟨m, rfl⟩ : ∃ q, n = q + 1 := ⟨n - 1, by omega⟩
  rw [mr, if_neg (show ¬ z ≤ pc by omega), if_neg (show ¬ 300 ≤ (v :: S).length by omega), hC]
  show (if (27 : Nat) = 0 then _ else if (27 : Nat) < 20 then _ else if (27 : Nat) = 27 then mr C e z m (pc + 1) ((1 - v) :: S) else _) = r
  rw [if_neg (by decide), if_neg (by decide), if_pos rfl]
  exact h m (by omega)
theorem mrR_op {C : Nat → Nat × Nat} {e : Nat → Int64} {z pc x : Nat} {S : List Int64} {r : Option (Option Int64)} {wd : Nat} {a b : Int64} (hz : pc < z) (hS : (b :: a :: S).length ≤ 299) (hw : 20 ≤ wd) (hw6 : wd ≤ 26) (hC : C pc = (wd, x)) (h : ∀ v, arR wd a b = some v → mrR C e z (pc + 1) (v :: S) r) (h0 : arR wd a b = none → r = some none) : mrR C e z pc (b :: a :: S) r := by
  intro n hn
  obtain ⟨m, rfl⟩ : ∃ q, n = q + 1 := ⟨n - 1, by omega⟩
  rw [mr, if_neg (show ¬ z ≤ pc by omega), if_neg (show ¬ 300 ≤ (b :: a :: S).length by omega), hC]
  show (if wd = 0 then _ else if wd < 20 then _ else if wd = 27 then _ else if wd = 28 then _ else if wd = 29 then _ else oel (arR wd a b) (some none) fun v => mr C e z m (pc + 1) (v :: S)) = r
  rw [if_neg (by omega), if_neg (by omega), if_neg (by omega), if_neg (by omega), if_neg (by omega)]
  cases hv : arR wd a b with
  | none => exact (h0 hv).symm
  | some v => exact h v hv m (by omega)
theorem mrR_jmp {C : Nat → Nat × Nat} {e : Nat → Int64} {z pc x : Nat} {S : List Int64} {r : Option (Option Int64)} {b t : Bool} {wd : Nat} (hz : pc < z) (hS : (b2L t :: S).length ≤ 299) (hw : (wd = 28 ∧ b = true) ∨ (wd = 29 ∧ b = false)) (hC : C pc = (wd, x)) (hx : pc < x) (h1 : t = b → mrR C e z (pc + 1) S r) (h2 : t = (!b) → mrR C e z x (b2L (!b) :: S) r) : mrR C e z pc (b2L t :: S) r := by
  intro n hn
  obtain ⟨m, rfl⟩ : ∃ q, n = q + 1 := ⟨n - 1, by omega⟩
  rw [mr, if_neg (show ¬ z ≤ pc by omega), if_neg (show ¬ 300 ≤ (b2L t :: S).length by omega), hC]
  rcases hw with ⟨rfl, rfl⟩ | ⟨rfl, rfl⟩
  · show (if (28 : Nat) = 0 then _ else if (28 : Nat) < 20 then _ else if (28 : Nat) = 27 then _ else if (28 : Nat) = 28 then (if b2L t = 0 then mr C e z m x (b2L t :: S) else mr C e z m (pc + 1) S) else _) = r
    rw [if_neg (by decide), if_neg (by decide), if_neg (by decide), if_pos rfl]
    cases t with
    | true =>
      rw [if_neg (by decide)]
      exact h1 rfl m (by omega)
    | false =>
      rw [if_pos (by decide)]
      exact h2 rfl m (by omega)
  · show (if (29 : Nat) = 0 then _ else if (29 : Nat) < 20 then _ else if (29 : Nat) = 27 then _ else if (29 : Nat) = 28 then _ else if (29 : Nat) = 29 then (if b2L t = 1 then mr C e z m x (b2L t :: S) else mr C e z m (pc + 1) S) else _) = r
    rw [if_neg (by decide), if_neg (by decide), if_neg (by decide), if_neg (by decide), if_pos rfl]
    cases t with
    | true =>
      rw [if_pos (by decide)]
      exact h2 rfl m (by omega)
    | false =>
      rw [if_neg (by decide)]
      exact h1 rfl m (by omega)
/-! ===== segments ===== -/
def sNum (v : Nat) : (Nat → Int64) → Option Int64 := fun _ => some (zL v)
def sWord (x : Nat) : (Nat → Int64) → Option Int64 := fun e => some (e (x + 1))
def sAr (wd : Nat) (s1 s2 : (Nat → Int64) → Option Int64) : (Nat → Int64) → Option Int64 := fun e => (s1 e).bind fun a => (s2 e).bind fun b => arI wd a b
def sCm (wd : Nat) (s1 s2 : (Nat → Int64) → Option Int64) : (Nat → Int64) → Option Bool := fun e => (s1 e).bind fun a => (s2 e).bind fun b => some (cmI wd a b)
def sNt (c : (Nat → Int64) → Option Bool) : (Nat → Int64) → Option Bool := fun e => (c e).map (fun t => !t)
def cmb (b : Bool) (acc c : (Nat → Int64) → Option Bool) : (Nat → Int64) → Option Bool := fun e => (acc e).bind fun t => if t = b then c e else some t
theorem segC_num {K : Nat → Nat × Nat} {u v : Nat} (h : K u = (0, v)) : segC K u (u + 1) 1 (sNum v) := by
  intro K' hK e z r f sv S hz hS h1 _
  exact mcR_num (by omega) (by omega) ((hK u (Nat.le_refl _) (Nat.lt_succ_self _)).trans h) (h1 _ rfl)
theorem segC_word {K : Nat → Nat × Nat} {u x : Nat} (h : K u = (1, x)) : segC K u (u + 1) 1 (sWord x) := by
  intro K' hK e z r f sv S hz hS h1 _
  exact mcR_word (by omega) (by omega) ((hK u (Nat.le_refl _) (Nat.lt_succ_self _)).trans h) (h1 _ rfl)
theorem segC_ar {K : Nat → Nat × Nat} {u v1 v2 L1 L2 wd x : Nat} {s1 s2 : (Nat → Int64) → Option Int64} (g1 : segC K u v1 L1 s1) (g2 : segC K v1 v2 L2 s2) (hu : u ≤ v1) (hv : v1 ≤ v2) (hL1 : 1 ≤ L1) (hL2 : 1 ≤ L2) (hw : 2 ≤ wd) (hw5 : wd ≤ 5) (h : K v2 = (wd, x)) : segC K u (v2 + 1) (L1 + L2) (sAr wd s1 s2) := by
  intro K' hK e z r f sv S hz hS h1 h0
  refine g1 K' (eqOn_mono hK (Nat.le_refl _) (by omega)) e z r f sv S (by omega) (by omega) (fun a ha => ?_) (fun ha => h0 (by unfold sAr; rw [ha]; rfl))
  have hl : (a :: S).length = S.length + 1 := rfl
  refine g2 K' (eqOn_mono hK (by omega) (by omega)) e z r f sv (a :: S) (by omega) (by omega) (fun b hb => ?_) (fun hb => h0 (by unfold sAr; rw [ha, hb]; rfl))
  have hl2 : (b :: a :: S).length = S.length + 2 := rfl
  have e1 : sAr wd s1 s2 e = arI wd a b := by
    unfold sAr
    rw [ha, hb]
    rfl
  exact mcR_ar (by omega) (by omega) hw hw5 ((hK v2 (by omega) (by omega)).trans h) (fun v hv => h1 v (e1.trans hv)) (fun hv => h0 (e1.trans hv))
theorem tsegC_cm {K : Nat → Nat × Nat} {u v1 v2 L1 L2 wd x : Nat} {s1 s2 : (Nat → Int64) → Option Int64} (g1 : segC K u v1 L1 s1) (g2 : segC K v1 v2 L2 s2) (hu : u ≤ v1) (hv : v1 ≤ v2) (hL1 : 1 ≤ L1) (hL2 : 1 ≤ L2) (hw : wd = 6 ∨ wd = 7 ∨ wd = 8) (h : K v2 = (wd, x)) : tsegC K u (v2 + 1) (L1 + L2) (sCm wd s1 s2) := by
  intro K' hK e z r sv S hz hS h1 h0 f
  refine g1 K' (eqOn_mono hK (Nat.le_refl _) (by omega)) e z r f sv S (by omega) (by omega) (fun a ha => ?_) (fun ha => h0 (by unfold sCm; rw [ha]; rfl))
  have hl : (a :: S).length = S.length + 1 := rfl
  refine g2 K' (eqOn_mono hK (by omega) (by omega)) e z r f sv (a :: S) (by omega) (by omega) (fun b hb => ?_) (fun hb => h0 (by unfold sCm; rw [ha, hb]; rfl))
  have hl2 : (b :: a :: S).length = S.length + 2 := rfl
  exact mcR_cmp (by omega) (by omega) hw ((hK v2 (by omega) (by omega)).trans h) (h1 _ (by unfold sCm; rw [ha, hb]; rfl))
theorem tsegC_nt {K : Nat → Nat × Nat} {u v L x : Nat} {c : (Nat → Int64) → Option Bool} (g : tsegC K u v L c) (hu : u ≤ v) (h : K v = (9, x)) : tsegC K u (v + 1) L (sNt c) := by
  intro K' hK e z r sv S hz hS h1 h0 f
  refine g K' (eqOn_mono hK (Nat.le_refl _) (by omega)) e z r sv S (by omega) hS (fun t ht => ?_) (fun ht => h0 (by unfold sNt; rw [ht]; rfl)) f
  exact mcR_not (by omega) (by omega) ((hK v (by omega) (by omega)).trans h) (h1 _ (by unfold sNt; rw [ht]; rfl))
theorem sNt2 (c : (Nat → Int64) → Option Bool) : sNt (sNt c) = c := by
  funext e
  unfold sNt
  cases c e with
  | none => rfl
  | some t => cases t <;> rfl
theorem segR_num {R : Nat → Nat × Nat} {u v : Nat} (h : R u = (0, v)) : segR R u (u + 1) 1 (sNum v) := by
  intro K' hK e z r S hz hS h1 _
  exact mrR_num (by omega) (by omega) ((hK u (Nat.le_refl _) (Nat.lt_succ_self _)).trans h) (h1 _ rfl)
theorem segR_word {R : Nat → Nat × Nat} {u x y : Nat} (hx : x < 10) (h : R u = (x + 1, y)) : segR R u (u + 1) 1 (sWord x) := by
  intro K' hK e z r S hz hS h1 _
  exact mrR_word (by omega) (by omega) (by omega) (by omega) ((hK u (Nat.le_refl _) (Nat.lt_succ_self _)).trans h) (h1 _ rfl)
theorem segR_op {R : Nat → Nat × Nat} {u v1 v2 L1 L2 wd x : Nat} {s1 s2 s : (Nat → Int64) → Option Int64} (g1 : segR R u v1 L1 s1) (g2 : segR R v1 v2 L2 s2) (hu : u ≤ v1) (hv : v1 ≤ v2) (hL1 : 1 ≤ L1) (hL2 : 1 ≤ L2) (hw : 20 ≤ wd) (hw5 : wd ≤ 26) (hs : ∀ e, s e = (s1 e).bind fun a => (s2 e).bind fun b => arR wd a b) (h : R v2 = (wd, x)) : segR R u (v2 + 1) (L1 + L2) s := by
  intro K' hK e z r S hz hS h1 h0
  refine g1 K' (eqOn_mono hK (Nat.le_refl _) (by omega)) e z r S (by omega) (by omega) (fun a ha => ?_) (fun ha => h0 (by rw [hs, ha]; rfl))
  have hl : (a :: S).length = S.length + 1 := rfl
  refine g2 K' (eqOn_mono hK (by omega) (by omega)) e z r (a :: S) (by omega) (by omega) (fun b hb => ?_) (fun hb => h0 (by rw [hs, ha, hb]; rfl))
  have hl2 : (b :: a :: S).length = S.length + 2 := rfl
  have e1 : s e = arR wd a b := by
    rw [hs, ha, hb]
    rfl
  exact mrR_op (by omega) (by omega) hw hw5 ((hK v2 (by omega) (by omega)).trans h) (fun v hv => h1 v (e1.trans hv)) (fun hv => h0 (e1.trans hv))
theorem arR_ar {wd : Nat} (h : wd ≤ 3) (a b : Int64) : arR (20 + wd) a b = arI (2 + wd) a b := by
  rcases (show wd = 0 ∨ wd = 1 ∨ wd = 2 ∨ wd = 3 by omega) with rfl | rfl | rfl | rfl <;> rfl
theorem arR_cm {wd : Nat} (h : wd ≤ 2) (a b : Int64) : arR (24 + wd) a b = some (b2L (cmI (6 + wd) a b)) := by
  have h1 : ∀ (p : Prop) [Decidable p], (some (if p then (1 : Int64) else 0)) = some (b2L (decide p)) := by
    intro p _
    by_cases q : p
    · rw [if_pos q, decide_eq_true q]
      rfl
    · rw [if_neg q, decide_eq_false q]
      rfl
  rcases (show wd = 0 ∨ wd = 1 ∨ wd = 2 by omega) with rfl | rfl | rfl
  · exact h1 (a < b)
  · exact h1 (b < a)
  · exact h1 (a = b)
theorem segR_ar {R : Nat → Nat × Nat} {u v1 v2 L1 L2 wd x : Nat} {s1 s2 : (Nat → Int64) → Option Int64} (g1 : segR R u v1 L1 s1) (g2 : segR R v1 v2 L2 s2) (hu : u ≤ v1) (hv : v1 ≤ v2) (hL1 : 1 ≤ L1) (hL2 : 1 ≤ L2) (hw : wd ≤ 3) (h : R v2 = (20 + wd, x)) : segR R u (v2 + 1) (L1 + L2) (sAr (2 + wd) s1 s2) := by
  refine segR_op g1 g2 hu hv hL1 hL2 (by omega) (by omega) (fun e => ?_) h
  unfold sAr
  simp only [arR_ar hw]
theorem segR_cm {R : Nat → Nat × Nat} {u v1 v2 L1 L2 wd x : Nat} {s1 s2 : (Nat → Int64) → Option Int64} (g1 : segR R u v1 L1 s1) (g2 : segR R v1 v2 L2 s2) (hu : u ≤ v1) (hv : v1 ≤ v2) (hL1 : 1 ≤ L1) (hL2 : 1 ≤ L2) (hw : wd ≤ 2) (h : R v2 = (24 + wd, x)) : segR R u (v2 + 1) (L1 + L2) (asL (sCm (6 + wd) s1 s2)) := by
  refine segR_op g1 g2 hu hv hL1 hL2 (by omega) (by omega) (fun e => ?_) h
  unfold asL sCm
  simp only [arR_cm hw]
  cases s1 e with
  | none => rfl
  | some a =>
    cases s2 e with
    | none => rfl
    | some b => rfl
theorem b2L_not (t : Bool) : 1 - b2L t = b2L (!t) := by cases t <;> decide
theorem segR_nt {R : Nat → Nat × Nat} {u v L x : Nat} {c : (Nat → Int64) → Option Bool} (g : segR R u v L (asL c)) (hu : u ≤ v) (hL : 1 ≤ L) (h : R v = (27, x)) : segR R u (v + 1) L (asL (sNt c)) := by
  intro K' hK e z r S hz hS h1 h0
  refine g K' (eqOn_mono hK (Nat.le_refl _) (by omega)) e z r S (by omega) hS (fun y hy => ?_) (fun ht => h0 ?_)
  · have hl : (y :: S).length = S.length + 1 := rfl
    refine mrR_not (by omega) (by omega) ((hK v (by omega) (by omega)).trans h) ?_
    refine h1 _ ?_
    unfold asL at hy
    unfold asL sNt
    cases hc : c e with
    | none =>
      rw [hc] at hy
      cases hy
    | some t =>
      rw [hc] at hy
      cases hy
      rw [b2L_not]
      rfl
  · unfold asL at ht
    unfold asL sNt
    cases hc : c e with
    | none => rfl
    | some t =>
      rw [hc] at ht
      cases ht
/-! ===== chains of AND, of OR ===== -/
def lnd (K : Nat → Nat × Nat) (wd v : Nat) (J : List Nat) : Nat → Nat × Nat := fun i => if i ∈ J then (wd, v) else K i
theorem lnd_in {K : Nat → Nat × Nat} {wd v i : Nat} {J : List Nat} (h : i ∈ J) : lnd K wd v J i = (wd, v) := if_pos h
theorem lnd_out {K : Nat → Nat × Nat} {wd v i : Nat} {J : List Nat} (h : i ∉ J) : lnd K wd v J i = K i := if_neg h
theorem lnd_nil (K : Nat → Nat × Nat) (wd v : Nat) : lnd K wd v [] = K := by
  funext i
  exact lnd_out (fun h => by cases h)
def chC (wd : Nat) (b : Bool) (K : Nat → Nat × Nat) (u0 u L : Nat) (J : List Nat) (acc : (Nat → Int64) → Option Bool) : Prop := (∀ j, j ∈ J → u0 ≤ j ∧ j < u) ∧ ∀ v, u ≤ v → ∀ K', eqOn (lnd K wd v J) K' u0 u → ∀ (e : Nat → Int64) (z : Nat) (r : Option (Bool × Int64)) (sv : Int64) (S : List Int64), v ≤ z → S.length + L ≤ 61 → (acc e = some b → ∀ f, mcR K' (up1 e) z u f sv S r) → (acc e = some (!b) → mcR K' (up1 e) z v (!b) sv S r) → (acc e = none → r = some (false, sv)) → ∀ f, mcR K' (up1 e) z u0 f sv S r
theorem chC_nil (wd : Nat) (b : Bool) (K : Nat → Nat × Nat) (u : Nat) : chC wd b K u u 0 [] (fun _ => some b) := ⟨fun j h => (by cases h), fun v _ K' _ e z r sv S _ _ h _ _ => h rfl⟩
theorem bool_ne {t b : Bool} (h : t ≠ b) : t = !b := by
  cases t <;> cases b <;> first | rfl | exact absurd rfl h
theorem bnot_ne (b : Bool) : (!b) ≠ b := by cases b <;> decide
theorem cmb_b {b : Bool} {acc c : (Nat → Int64) → Option Bool} {e : Nat → Int64} (h : acc e = some b) : cmb b acc c e = c e := by
  unfold cmb
  rw [h]
  exact if_pos rfl
theorem cmb_nb {b : Bool} {acc c : (Nat → Int64) → Option Bool} {e : Nat → Int64} (h : acc e = some (!b)) : cmb b acc c e = some (!b) := by
  unfold cmb
  rw [h]
  exact if_neg (bnot_ne b)
theorem cmb_0 {b : Bool} {acc c : (Nat → Int64) → Option Bool} {e : Nat → Int64} (h : acc e = none) : cmb b acc c e = none := by
  unfold cmb
  rw [h]
  rfl
theorem chC_step {wd : Nat} {b : Bool} {K K1 K2 : Nat → Nat × Nat} {u0 u u1 L L1 : Nat} {J : List Nat} {acc c : (Nat → Int64) → Option Bool} (hw : (wd = 11 ∧ b = true) ∨ (wd = 10 ∧ b = false)) (h : chC wd b K u0 u L J acc) (g : tsegC K1 u u1 L1 c) (h0 : u0 ≤ u) (h1 : u ≤ u1) (hK : eqOn K K1 u0 u) (hK2 : eqOn K1 K2 u0 u1) : chC wd b K2 u0 (u1 + 1) (L + L1) (u1 :: J) (cmb b acc c) := by
  refine ⟨fun j hj => ?_, fun v hv K' hK' e z r sv S hz hS k1 k2 k3 => ?_⟩
  · rcases List.mem_cons.mp hj with rfl | hj
    · omega
    · have := h.1 j hj
      omega
  have e1 : eqOn (lnd K wd v J) K' u0 u := by
    intro i i1 i2
    rw [hK' i i1 (by omega)]
    by_cases hi : i ∈ J
    · rw [lnd_in hi, lnd_in (List.mem_cons_of_mem _ hi)]
    · rw [lnd_out hi, lnd_out (fun q => (by rcases List.mem_cons.mp q with rfl | q
                                            · omega
                                            · exact hi q)), hK2 i i1 (by omega), hK i i1 i2]
  have e2 : eqOn K1 K' u u1 := by
    intro i i1 i2
    rw [hK' i (by omega) (by omega), lnd_out (fun q => (by rcases List.mem_cons.mp q with rfl | q
                                                           · omega
                                                           · have := h.1 i q
                                                             omega)), hK2 i (by omega) i2]
  have e3 : K' u1 = (wd, v) := by rw [hK' u1 (by omega) (by omega), lnd_in List.mem_cons_self]
  refine h.2 v (by omega) K' e1 e z r sv S hz (by omega) (fun ha f => ?_) (fun ha => k2 (cmb_nb ha)) (fun ha => k3 (cmb_0 ha))
  refine g K' e2 e z r sv S (by omega) (by omega) (fun t ht => ?_) (fun ht => k3 ((cmb_b ha).trans ht)) f
  exact mcR_jmp (by omega) (by omega) hw e3 (by omega) (fun q => k1 (by rw [cmb_b ha, ht, q]) b) (fun q => k2 (by rw [cmb_b ha, ht, q]))
theorem chC_end {wd : Nat} {b : Bool} {K K1 K2 : Nat → Nat × Nat} {u0 u u1 L L1 : Nat} {J : List Nat} {acc c : (Nat → Int64) → Option Bool} (h : chC wd b K u0 u L J acc) (g : tsegC K1 u u1 L1 c) (h0 : u0 ≤ u) (h1 : u ≤ u1) (hK : eqOn K K1 u0 u) (hK2 : eqOn (lnd K1 wd u1 J) K2 u0 u1) : tsegC K2 u0 u1 (L + L1) (cmb b acc c) := by
  intro K' hK' e z r sv S hz hS k1 k0 f
  have hK3 := eqOn_trans hK2 hK'
  have e1 : eqOn (lnd K wd u1 J) K' u0 u := by
    intro i i1 i2
    rw [hK3 i i1 (by omega)]
    by_cases hi : i ∈ J
    · rw [lnd_in hi, lnd_in hi]
    · rw [lnd_out hi, lnd_out hi, hK i i1 i2]
  have e2 : eqOn K1 K' u u1 := by
    intro i i1 i2
    rw [hK3 i (by omega) i2, lnd_out (fun q => (by have := h.1 i q; omega))]
  refine h.2 u1 h1 K' e1 e z r sv S hz (by omega) (fun ha f => ?_) (fun ha => k1 _ (cmb_nb ha)) (fun ha => k0 (cmb_0 ha)) f
  exact g K' e2 e z r sv S (by omega) (by omega) (fun t ht => k1 t ((cmb_b ha).trans ht)) (fun ht => k0 ((cmb_b ha).trans ht)) f
def chR (op : Nat) (b : Bool) (R : Nat → Nat × Nat) (q0 q L : Nat) (J : List Nat) (acc : (Nat → Int64) → Option Bool) : Prop := (∀ j, j ∈ J → q0 ≤ j ∧ j < q) ∧ ∀ v, q ≤ v → ∀ R', eqOn (lnd R op v J) R' q0 q → ∀ (e : Nat → Int64) (z : Nat) (r : Option (Option Int64)) (S : List Int64), v ≤ z → S.length + L ≤ 299 → (acc e = some b → mrR R' e z q S r) → (acc e = some (!b) → mrR R' e z v (b2L (!b) :: S) r) → (acc e = none → r = some none) → mrR R' e z q0 S r
theorem chR_nil (op : Nat) (b : Bool) (R : Nat → Nat × Nat) (q : Nat) : chR op b R q q 0 [] (fun _ => some b) := ⟨fun j h => (by cases h), fun v _ R' _ e z r S _ _ h _ _ => h rfl⟩
theorem asL_some {c : (Nat → Int64) → Option Bool} {e : Nat → Int64} {x : Int64} (h : asL c e = some x) : ∃ t, c e = some t ∧ x = b2L t := by
  unfold asL at h
  cases hc : c e with
  | none =>
    rw [hc] at h
    cases h
  | some t =>
    rw [hc] at h
    cases h
    exact ⟨t, rfl, rfl⟩
theorem asL_none {c : (Nat → Int64) → Option Bool} {e : Nat → Int64} (h : asL c e = none) : c e = none := by
  unfold asL at h
  cases hc : c e with
  | none => rfl
  | some t =>
    rw [hc] at h
    cases h
theorem asL_s {c : (Nat → Int64) → Option Bool} {e : Nat → Int64} {t : Bool} (h : c e = some t) : asL c e = some (b2L t) := by
  unfold asL
  rw [h]
  rfl
theorem asL_0 {c : (Nat → Int64) → Option Bool} {e : Nat → Int64} (h : c e = none) : asL c e = none := by
  unfold asL
  rw [h]
  rfl
theorem chR_step {op : Nat} {b : Bool} {R R1 R2 : Nat → Nat × Nat} {q0 q q1 L L1 : Nat} {J : List Nat} {acc c : (Nat → Int64) → Option Bool} (hw : (op = 28 ∧ b = true) ∨ (op = 29 ∧ b = false)) (h : chR op b R q0 q L J acc) (g : segR R1 q q1 L1 (asL c)) (h0 : q0 ≤ q) (h1 : q ≤ q1) (hL : 1 ≤ L1) (hR : eqOn R R1 q0 q) (hR2 : eqOn (lnd R1 op q1 J) R2 q0 q1) : chR op b R2 q0 (q1 + 1) (L + L1) [q1] (cmb b acc c) := by
  refine ⟨fun j hj => ?_, fun v hv R' hR' e z r S hz hS k1 k2 k3 => ?_⟩
  · rcases List.mem_cons.mp hj with rfl | hj
    · omega
    · cases hj
  have en : ∀ i, i ≠ q1 → i ∉ [q1] := fun i hi q => (by rcases List.mem_cons.mp q with rfl | q
                                                        · exact hi rfl
                                                        · cases q)
  have e1 : eqOn (lnd R op q1 J) R' q0 q := by
    intro i i1 i2
    rw [hR' i i1 (by omega), lnd_out (en i (by omega)), hR2 i i1 (by omega)]
    by_cases hi : i ∈ J
    · rw [lnd_in hi, lnd_in hi]
    · rw [lnd_out hi, lnd_out hi, hR i i1 i2]
  have e2 : eqOn R1 R' q q1 := by
    intro i i1 i2
    rw [hR' i (by omega) (by omega), lnd_out (en i (by omega)), hR2 i (by omega) i2, lnd_out (fun q => (by have := h.1 i q; omega))]
  have e3 : R' q1 = (op, v) := by rw [hR' q1 (by omega) (by omega), lnd_in List.mem_cons_self]
  have hl : ∀ t : Bool, (b2L t :: S).length = S.length + 1 := fun _ => rfl
  refine h.2 q1 (by omega) R' e1 e z r S (by omega) (by omega) (fun ha => ?_) (fun ha => ?_) (fun ha => k3 (cmb_0 ha))
  · refine g R' e2 e z r S (by omega) (by omega) (fun x hx => ?_) (fun ht => k3 ((cmb_b ha).trans (asL_none ht)))
    obtain ⟨t, ht, rfl⟩ := asL_some hx
    exact mrR_jmp (by omega) (by have := hl t; omega) hw e3 (by omega) (fun q => k1 (by rw [cmb_b ha, ht, q])) (fun q => k2 (by rw [cmb_b ha, ht, q]))
  · exact mrR_jmp (by omega) (by have := hl (!b); omega) hw e3 (by omega) (fun q => absurd q (bnot_ne b)) (fun _ => k2 (cmb_nb ha))
theorem chR_end {op : Nat} {b : Bool} {R R1 R2 : Nat → Nat × Nat} {q0 q q1 L L1 : Nat} {J : List Nat} {acc c : (Nat → Int64) → Option Bool} (h : chR op b R q0 q L J acc) (g : segR R1 q q1 L1 (asL c)) (h0 : q0 ≤ q) (h1 : q ≤ q1) (hR : eqOn R R1 q0 q) (hR2 : eqOn (lnd R1 op q1 J) R2 q0 q1) : segR R2 q0 q1 (L + L1) (asL (cmb b acc c)) := by
  intro R' hR' e z r S hz hS k1 k0
  have hR3 := eqOn_trans hR2 hR'
  have e1 : eqOn (lnd R op q1 J) R' q0 q := by
    intro i i1 i2
    rw [hR3 i i1 (by omega)]
    by_cases hi : i ∈ J
    · rw [lnd_in hi, lnd_in hi]
    · rw [lnd_out hi, lnd_out hi, hR i i1 i2]
  have e2 : eqOn R1 R' q q1 := by
    intro i i1 i2
    rw [hR3 i (by omega) i2, lnd_out (fun q => (by have := h.1 i q; omega))]
  refine h.2 q1 h1 R' e1 e z r S hz (by omega) (fun ha => ?_) (fun ha => k1 _ (asL_s (cmb_nb ha))) (fun ha => k0 (asL_0 (cmb_0 ha)))
  refine g R' e2 e z r S (by omega) (by omega) (fun x hx => ?_) (fun ht => k0 (asL_0 ((cmb_b ha).trans (asL_none ht))))
  obtain ⟨t, ht, rfl⟩ := asL_some hx
  exact k1 _ (asL_s ((cmb_b ha).trans ht))
end
