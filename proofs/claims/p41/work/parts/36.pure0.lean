/-! THE STATE AS A VALUE: number of recordings, whether the last is running, head, spoken, gone, the player, flags, losses, owners, sounds, carbons, the used cells in the order in which they were written -/
abbrev AT : Type := Nat × Bool × Nat × Nat × Nat × Option (Nat × Nat) × (Nat → Bool) × (Nat → Int32) × (Nat → Option Nat) × (Nat → Int32) × (Nat → Int32) × List Nat
abbrev AT.n (A : AT) : Nat := A.1
abbrev AT.run (A : AT) : Bool := A.2.1
abbrev AT.hd (A : AT) : Nat := A.2.2.1
abbrev AT.sp (A : AT) : Nat := A.2.2.2.1
abbrev AT.go (A : AT) : Nat := A.2.2.2.2.1
abbrev AT.P (A : AT) : Option (Nat × Nat) := A.2.2.2.2.2.1
abbrev AT.fl (A : AT) : Nat → Bool := A.2.2.2.2.2.2.1
abbrev AT.lo (A : AT) : Nat → Int32 := A.2.2.2.2.2.2.2.1
abbrev AT.ow (A : AT) : Nat → Option Nat := A.2.2.2.2.2.2.2.2.1
abbrev AT.sn (A : AT) : Nat → Int32 := A.2.2.2.2.2.2.2.2.2.1
abbrev AT.ca (A : AT) : Nat → Int32 := A.2.2.2.2.2.2.2.2.2.2.1
abbrev AT.od (A : AT) : List Nat := A.2.2.2.2.2.2.2.2.2.2.2
def oI (o : Option Nat) : Int32 := match o with
  | none => -1
  | some n => nI n
def bZ (b : Bool) : Int32 := if b then 1 else 0
/-- the running recording -/
def rn (A : AT) : Option Nat := if A.run then some (A.n - 1) else none
/-- what the belt's state holds -/
def RS (A : AT) (S : OB) : Prop := S.1 4 = nI A.od.length ∧ S.1 7 = nI A.n ∧ S.1 8 = bZ A.run ∧ S.1 9 = nI A.hd ∧ S.1 10 = nI A.sp ∧ S.1 11 = nI A.go ∧ S.1 12 = oI (A.P.map Prod.fst) ∧ S.1 13 = oI (A.P.map Prod.snd) ∧ (∀ k, k < 32 → S.2 0 k = oI (A.ow k)) ∧ (∀ k, k < 32 → S.2 1 k = A.sn k) ∧ (∀ k, k < 32 → S.2 2 k = A.ca k) ∧ (∀ (i : Nat) (h : i < A.od.length), S.2 3 i = nI (A.od[i])) ∧ (∀ k, k < A.n → S.2 5 k = bZ (A.fl k)) ∧ ∀ k, k < A.n → S.2 6 k = A.lo k
/-- what holds of every state -/
def INV (A : AT) : Prop := A.n ≤ 10 ∧ (A.run = true → 0 < A.n) ∧ A.hd < 32 ∧ (∀ k, k < 32 → ∀ r, A.ow k = some r → r < A.n) ∧ A.od.Nodup ∧ (∀ k, k ∈ A.od ↔ k < 32 ∧ A.ow k ≠ none) ∧ ∀ r p, A.P = some (r, p) → r < A.n ∧ p ≤ 32
