section
/-! ===== two machines of a law, on lists ===== -/
def zL (z : Int) : Int64 := Int64.ofInt z
def bdI (v : Int64) : Option Int64 := if v < -1000000000 ∨ 1000000000 < v then none else some v
def arI (w : Nat) (a b : Int64) : Option Int64 := if w = 5 then (if b = 0 then none else bdI (a / b)) else bdI (if w = 2 then a + b else if w = 3 then a - b else a * b)
def cmI (w : Nat) (a b : Int64) : Bool := if w = 6 then decide (a < b) else if w = 7 then decide (b < a) else decide (a = b)
def pop1 {β : Type} (S : List Int64) (k : Int64 → List Int64 → Option β) : Option β := match S with
  | v :: T => k v T
  | [] => none
def pop2 {β : Type} (S : List Int64) (k : Int64 → Int64 → List Int64 → Option β) : Option β := pop1 S fun b S1 => pop1 S1 fun a T => k b a T
def oel {β : Type} (o : Option Int64) (A : Option β) (k : Int64 → Option β) : Option β := match o with
  | none => A
  | some v => k v
def mc (C : Nat → Nat × Nat) (e : Nat → Int64) (z : Nat) : Nat → Nat → Bool → Int64 → List Int64 → Option (Bool × Int64)
  | 0, _, _, _, _ => none
  | n + 1, pc, f, s, S =>
    if z ≤ pc then some (f, s) else if 62 ≤ S.length then some (false, s)
    else if (C pc).1 = 0 then mc C e z n (pc + 1) f s (zL (C pc).2 :: S)
    else if (C pc).1 = 1 then mc C e z n (pc + 1) f s (e (C pc).2 :: S)
    else if (C pc).1 = 6 ∨ (C pc).1 = 7 ∨ (C pc).1 = 8 then pop2 S fun b a T => mc C e z n (pc + 1) (cmI (C pc).1 a b) s T
    else if (C pc).1 = 9 then mc C e z n (pc + 1) (!f) s S
    else if (C pc).1 = 10 then mc C e z n (if f then max pc ((C pc).2 - 1) + 1 else pc + 1) f s S
    else if (C pc).1 = 11 then mc C e z n (if f then pc + 1 else max pc ((C pc).2 - 1) + 1) f s S
    else if (C pc).1 = 12 then pop1 S fun v T => mc C e z n (pc + 1) f v T
    else pop2 S fun b a T => oel (arI (C pc).1 a b) (some (false, s)) fun v => mc C e z n (pc + 1) f s (v :: T)
def arR (w : Nat) (a b : Int64) : Option Int64 :=
  if w = 20 then bdI (a + b) else if w = 21 then bdI (a - b) else if w = 22 then bdI (a * b) else if w = 23 then (if b = 0 then none else bdI (a / b))
  else if w = 24 then some (if a < b then 1 else 0) else if w = 25 then some (if b < a then 1 else 0) else some (if a = b then 1 else 0)
def fin1 (S : List Int64) : Option (Option Int64) := match S with
  | [] => some (some 0)
  | [v] => some (some v)
  | _ => none
def mr (C : Nat → Nat × Nat) (e : Nat → Int64) (z : Nat) : Nat → Nat → List Int64 → Option (Option Int64)
  | 0, _, _ => none
  | n + 1, pc, S =>
    if z ≤ pc then fin1 S else if 300 ≤ S.length then none
    else if (C pc).1 = 0 then mr C e z n (pc + 1) (zL (C pc).2 :: S)
    else if (C pc).1 < 20 then mr C e z n (pc + 1) (e (C pc).1 :: S)
    else if (C pc).1 = 27 then pop1 S fun v T => mr C e z n (pc + 1) ((1 - v) :: T)
    else if (C pc).1 = 28 then pop1 S fun v T => if v = 0 then mr C e z n (C pc).2 (v :: T) else mr C e z n (pc + 1) T
    else if (C pc).1 = 29 then pop1 S fun v T => if v = 1 then mr C e z n (C pc).2 (v :: T) else mr C e z n (pc + 1) T
    else pop2 S fun b a T => oel (arR (C pc).1 a b) (some none) fun v => mr C e z n (pc + 1) (v :: T)
/-- a clause's steps, packed -/
def okC (p : xP) (C : Nat → Nat × Nat) (z : Nat) : Prop := z ≤ p.2.2.2.1 ∧ p.2.2.2.1 ≤ 400 ∧ ∀ k, k < z → p.2.2.2.2 k = nI ((C k).1 + 16 * (C k).2) ∧ (C k).1 ≤ 12 ∧ (C k).2 < 2000 ∧ ((C k).1 = 1 → (C k).2 < 10)
/-- a law's code in the row, from place 98 on behind the law's own -/
def okR (ρ : Nat → Int32) (C : Nat → Nat × Nat) (z : Nat) : Prop := z ≤ 400 ∧ ∀ k, k < z → ρ (98 + 2 * k) = nI (C k).1 ∧ ρ (98 + 2 * k + 1) = nI (C k).2 ∧ (C k).1 ≤ 29 ∧ (C k).2 ≤ 1000 ∧ ((C k).1 < 20 → (C k).1 ≤ 10)
/-- what a clause tells: its head, its sum, its test -/
def clV (h : Nat) (s : Option Int64) (c : Option Bool) : Option Int64 := match c with
  | some true => if h < 3 then s else some 1
  | _ => none
def b2L (t : Bool) : Int64 := if t then 1 else 0
/-- the one law as an object of the class and as a text in the reference's row: m clauses, their heads; the steps' starts; the code's ranges; both machines give the same -/
def lawBy (p : xP) (ρ : Nat → Int32) (m z : Nat) (hd st a b d : Nat → Nat) (K R : Nat → Nat × Nat) (sm : Nat → (Nat → Int64) → Option Int64) (cd : Nat → (Nat → Int64) → Option Bool) : Prop :=
  m ≤ 12 ∧ p.1 = nI m ∧ p.2.1.1 = m ∧ p.2.2.1.1 = m + 1 ∧ ρ 1 = nI m ∧ okC p K p.2.2.2.1 ∧ okR ρ R z
  ∧ (∀ c, c < m → hd c < 4 ∧ p.2.1.2 c = nI (10 + hd c) ∧ ρ (2 + 8 * c) = nI (hd c))
  ∧ (∀ c, c ≤ m → p.2.2.1.2 c = nI (st c) ∧ st c ≤ p.2.2.2.1)
  ∧ (∀ c, c < m → ρ (2 + 8 * c + 3) = nI (a c) ∧ ρ (2 + 8 * c + 4) = nI (b c) ∧ ρ (2 + 8 * c + 5) = nI (b c) ∧ ρ (2 + 8 * c + 6) = nI (d c) ∧ a c ≤ b c ∧ b c ≤ d c ∧ d c ≤ z)
  ∧ (∀ c, c < m → ∀ e : Nat → Int64, (∃ s, mc K (fun k => e (k + 1)) (st (c + 1)) 2000 (st c) true 0 [] = some ((clV (hd c) (sm c e) (cd c e)).isSome, s) ∧ ∀ v, clV (hd c) (sm c e) (cd c e) = some v → hd c < 3 → s = v)
    ∧ (hd c < 3 → mr R e (b c) 2000 (a c) [] = some (sm c e))
    ∧ (b c < d c → mr R e (d c) 2000 (b c) [] = some ((cd c e).map b2L))
    ∧ (b c = d c → cd c e = some true))
end
