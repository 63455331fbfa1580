/-! numbers -/
theorem lit (n : Nat) : (OfNat.ofNat n : Int32) = nI (OfNat.ofNat n) := rfl
theorem nI_m1 {n : Nat} (h : n < 2 ^ 31) : ¬ nI n = -1 := fun e => nI_pos h (e ▸ (by decide))
theorem m1_lt0 : (-1 : Int32) < 0 := by decide
theorem vAt_nI {N : Nat} {f : Nat → Int32} {k : Nat} (h : k < N) (hN : N < 2 ^ 31) : vAt N f (nI k) = f k := by
  unfold vAt
  rw [if_neg (nI_pos (by omega)), if_neg (by rw [nI_leI (by omega) (by omega)]; omega), nI_clamp (by omega)]
theorem pAt_nI {N : Nat} {f : Nat → Int32} {k : Nat} {v : Int32} (h : k < N) (hN : N < 2 ^ 31) : pAt N f (nI k) v = upd f k v := by
  unfold pAt
  rw [if_neg (nI_pos (by omega)), if_neg (by rw [nI_leI (by omega) (by omega)]; omega), nI_clamp (by omega)]
theorem gd_nI {β : Type} {k n : Nat} {a : Option β} (h : k < n) (hn : n < 2 ^ 31) : gd (nI k) n a = a := by
  unfold gd
  rw [if_neg (nI_in h hn)]
theorem bd_some {α β : Type} (a : α) (k : α → Option β) : bd (some a) k = k a := rfl
theorem bd2_some {α γ β : Type} (a : α) (c : γ) (k : α → γ → Option β) : bd2 (some (a, c)) k = k a c := rfl
theorem nm_eq {α β : Type} (k : α → β) (x : α) : nm k x = k x := rfl
theorem up2_s {α : Type} (f : Nat → Nat → α) (j : Nat) (g : Nat → α) : up2 f j g j = g := if_pos rfl
theorem up2_n {α : Type} (f : Nat → Nat → α) {i j : Nat} (g : Nat → α) (h : i ≠ j) : up2 f j g i = f i := if_neg h
theorem rem_nI {a b : Nat} (ha : a < 2 ^ 31) (h0 : 0 < b) (hb : b < 2 ^ 31) : nI a - nI a / nI b * nI b = nI (a % b) := pk_rem ha h0 hb
theorem sub_nI {a b : Nat} (h : b ≤ a) : nI a - nI b = nI (a - b) := by
  have e : nI (a - b) + nI b = nI a := by rw [nI_add]; congr 1; omega
  rw [← e, Int32.add_sub_cancel]
/-! options and bits -/
theorem oI_none : oI none = -1 := rfl
theorem oI_some (n : Nat) : oI (some n) = nI n := rfl
theorem oI_m1 {o : Option Nat} (h : ∀ r, o = some r → r < 2 ^ 31) : oI o = -1 ↔ o = none := by
  cases o with
  | none => simp [oI_none]
  | some r => exact ⟨fun e => absurd e (nI_m1 (h r rfl)), fun e => by cases e⟩
theorem oI_nI {o : Option Nat} {n : Nat} (h : ∀ r, o = some r → r < 2 ^ 31) (hn : n < 2 ^ 31) : oI o = nI n ↔ o = some n := by
  cases o with
  | none => exact ⟨fun e => absurd e.symm (nI_m1 hn), fun e => by cases e⟩
  | some r => rw [oI_some, nI_eq (h r rfl) hn]; simp
theorem oI_eq {o q : Option Nat} (h : ∀ r, o = some r → r < 2 ^ 31) (hq : ∀ r, q = some r → r < 2 ^ 31) : oI o = oI q ↔ o = q := by
  cases q with
  | none => rw [oI_none, oI_m1 h]
  | some r => rw [oI_some, oI_nI h (hq r rfl)]
theorem bZ_0 (b : Bool) : bZ b = 0 ↔ b = false := by cases b <;> decide
theorem bZ_1 (b : Bool) : bZ b = 1 ↔ b = true := by cases b <;> decide
theorem zb_bZ {β : Type} (b : Bool) (a : Option β) : zb (bZ b) a = a := by cases b <;> rfl
/-! counting -/
def cp (p : Nat → Bool) : Nat → Nat → Nat
  | _, 0 => 0
  | j, d + 1 => (if p j then 1 else 0) + cp p (j + 1) d
theorem cp_le (p : Nat → Bool) : ∀ d j, cp p j d ≤ d
  | 0, _ => Nat.le_refl 0
  | d + 1, j => by
    have := cp_le p d (j + 1)
    show (if p j then 1 else 0) + cp p (j + 1) d ≤ d + 1
    split <;> omega
theorem cp_congr {p q : Nat → Bool} : ∀ d j, (∀ k, j ≤ k → k < j + d → p k = q k) → cp p j d = cp q j d
  | 0, _, _ => rfl
  | d + 1, j, h => by
    show (if p j then 1 else 0) + cp p (j + 1) d = (if q j then 1 else 0) + cp q (j + 1) d
    rw [h j (by omega) (by omega), cp_congr d (j + 1) (fun k h1 h2 => h k (by omega) (by omega))]
theorem cp_zero {p : Nat → Bool} (d j : Nat) (h : ∀ k, j ≤ k → k < j + d → p k = false) : cp p j d = 0 := by
  rw [cp_congr (q := fun _ => false) d j h]
  clear h
  induction d generalizing j with
  | zero => rfl
  | succ d ih => show 0 + cp _ (j + 1) d = 0; rw [ih]
theorem cp_pos {p : Nat → Bool} : ∀ d j, 0 < cp p j d → ∃ k, j ≤ k ∧ k < j + d ∧ p k = true
  | 0, _, h => absurd h (Nat.lt_irrefl 0)
  | d + 1, j, h => by
    cases e : p j with
    | true => exact ⟨j, by omega, by omega, e⟩
    | false =>
      have h : 0 < (if p j then 1 else 0) + cp p (j + 1) d := h
      rw [e] at h
      obtain ⟨k, h1, h2, h3⟩ := cp_pos d (j + 1) (by simpa using h)
      exact ⟨k, by omega, by omega, h3⟩
/-- one more -/
theorem cp_one {p q : Nat → Bool} {a : Nat} (hp : p a = true) (hq : q a = false) (h : ∀ k, k ≠ a → p k = q k) : ∀ d j, j ≤ a → a < j + d → cp p j d = cp q j d + 1
  | 0, j, h1, h2 => absurd h2 (by omega)
  | d + 1, j, h1, h2 => by
    show (if p j then 1 else 0) + cp p (j + 1) d = (if q j then 1 else 0) + cp q (j + 1) d + 1
    by_cases e : j = a
    · subst e
      rw [hp, hq, cp_congr (p := p) (q := q) d (j + 1) (fun k h1 h2 => h k (by omega))]
      simp; omega
    · rw [cp_one hp hq h d (j + 1) (by omega) (by omega), h j e]; omega
theorem cp_len : ∀ (l : List Nat), l.Nodup → (∀ x ∈ l, x < 32) → cp (fun k => decide (k ∈ l)) 0 32 = l.length
  | [], _, _ => cp_zero 32 0 (fun k _ _ => by simp)
  | a :: l, hn, hl => by
    have ha : a ∉ l := (List.nodup_cons.mp hn).1
    rw [cp_one (p := fun k => decide (k ∈ a :: l)) (q := fun k => decide (k ∈ l)) (a := a) (by simp) (by simp [ha]) (fun k hk => by simp [hk]) 32 0 (by omega) (by have := hl a (by simp); omega), cp_len l (List.nodup_cons.mp hn).2 (fun x hx => hl x (by simp [hx])), List.length_cons]
/-- a counting loop -/
theorem cnt2 {b : (Int32 → Int32 → Option Int32) → Int32 → Int32 → Option Int32} {p : Nat → Bool} (h0 : ∀ K c, b K (nI c) (nI 32) = some (nI c)) (h1 : ∀ K c j, j < 32 → b K (nI c) (nI j) = K (nI (c + if p j then 1 else 0)) (nI (j + 1))) : ∀ (d f j c : Nat), j + d = 32 → d < f → lpf2 b f (nI c) (nI j) = some (nI (c + cp p j d))
  | 0, f + 1, j, c, hj, _ => by
    obtain rfl : j = 32 := hj
    exact h0 _ c
  | d + 1, f + 1, j, c, hj, hf => by
    show b (lpf2 b f) (nI c) (nI j) = _
    rw [h1 _ _ _ (by omega), cnt2 h0 h1 d f (j + 1) _ (by omega) (by omega)]
    show some (nI (c + (if p j then 1 else 0) + cp p (j + 1) d)) = some (nI (c + ((if p j then 1 else 0) + cp p (j + 1) d)))
    rw [Nat.add_assoc]
theorem cnt3 {b : (Int32 → Int32 → Int32 → Option Int32) → Int32 → Int32 → Int32 → Option Int32} {p : Nat → Bool} {x : Int32} (h0 : ∀ K c, b K x (nI c) (nI 32) = some (nI c)) (h1 : ∀ K c j, j < 32 → b K x (nI c) (nI j) = K x (nI (c + if p j then 1 else 0)) (nI (j + 1))) : ∀ (d f j c : Nat), j + d = 32 → d < f → lpf3 b f x (nI c) (nI j) = some (nI (c + cp p j d))
  | 0, f + 1, j, c, hj, _ => by
    obtain rfl : j = 32 := hj
    exact h0 _ c
  | d + 1, f + 1, j, c, hj, hf => by
    show b (lpf3 b f) x (nI c) (nI j) = _
    rw [h1 _ _ _ (by omega), cnt3 h0 h1 d f (j + 1) _ (by omega) (by omega)]
    show some (nI (c + (if p j then 1 else 0) + cp p (j + 1) d)) = some (nI (c + ((if p j then 1 else 0) + cp p (j + 1) d)))
    rw [Nat.add_assoc]
