/-! what holds of every state that the law reaches -/
def JN (A : AT) : Prop := INV A ∧ (∀ k, k < 32 → A.ow k ≠ none → ∃ s, s ≤ 99 ∧ A.sn k = nI s) ∧ (∀ r, r < A.n → rn A ≠ some r → 0 < cnt A (some r)) ∧ (∀ r, r < A.n → ∃ q, q ≤ A.sp ∧ A.lo r = nI q) ∧ ∀ r p, A.P = some (r, p) → p ≤ cnt A (some r)
theorem JN_i {A : AT} (h : JN A) : INV A := h.1
/-- the old number of a recording, once r left -/
def sk (r q : Nat) : Nat := if q < r then q else q + 1
theorem sk_ne (r q : Nat) : sk r q ≠ r := by unfold sk; split <;> omega
theorem shO_iff {r q : Nat} {o : Option Nat} : shO r o = some q ↔ o = some (sk r q) := by
  cases o with
  | none => exact ⟨(fun h => by cases h), (fun h => by cases h)⟩
  | some z =>
    show (if z = r then none else if z ≤ r then some z else some (z - 1)) = some q ↔ some z = some (sk r q)
    unfold sk
    rw [Option.some.injEq]
    by_cases e : z = r
    · rw [if_pos e]
      constructor
      · intro h; cases h
      · intro h; split at h <;> omega
    · rw [if_neg e]
      by_cases e2 : z ≤ r
      · rw [if_pos e2, Option.some.injEq]; split <;> omega
      · rw [if_neg e2, Option.some.injEq]; split <;> omega
theorem shO_none {r : Nat} {o : Option Nat} : shO r o = none ↔ o = none ∨ o = some r := by
  cases o with
  | none => simp [shO]
  | some z =>
    show (if z = r then none else if z ≤ r then some z else some (z - 1)) = none ↔ _
    by_cases e : z = r
    · rw [if_pos e]; simp [e]
    · rw [if_neg e]; by_cases e2 : z ≤ r <;> simp [e, e2]
theorem shP_iff {r q p : Nat} {o : Option (Nat × Nat)} : shP r o = some (q, p) ↔ o = some (sk r q, p) := by
  cases o with
  | none => exact ⟨(fun h => by cases h), (fun h => by cases h)⟩
  | some z =>
    obtain ⟨z, y⟩ := z
    show (if z = r then none else if z ≤ r then some (z, y) else some (z - 1, y)) = some (q, p) ↔ some (z, y) = some (sk r q, p)
    unfold sk
    rw [Option.some.injEq, Prod.mk.injEq]
    by_cases e : z = r
    · rw [if_pos e]
      constructor
      · intro h; cases h
      · intro h; have := h.1; split at this <;> omega
    · rw [if_neg e]
      by_cases e2 : z ≤ r
      · rw [if_pos e2, Option.some.injEq, Prod.mk.injEq]; split <;> omega
      · rw [if_neg e2, Option.some.injEq, Prod.mk.injEq]; split <;> omega
theorem rmv_own (A : AT) (r q k : Nat) : (rmv A r).ow k = some q ↔ A.ow k = some (sk r q) := shO_iff
theorem rmv_isO (A : AT) (r q : Nat) : isO (rmv A r) q = isO A (sk r q) := by
  funext k
  exact decide_eq_decide.mpr (rmv_own A r q k)
theorem rmv_cnt (A : AT) (r q : Nat) : cnt (rmv A r) (some q) = cnt A (some (sk r q)) :=
  cp_congr 32 0 (fun k _ _ => decide_eq_decide.mpr (rmv_own A r q k))
theorem rmv_fl (A : AT) (r q : Nat) : (rmv A r).fl q = A.fl (sk r q) := by
  show (if q < r then A.fl q else A.fl (q + 1)) = A.fl (if q < r then q else q + 1)
  split <;> rfl
theorem rmv_lo (A : AT) (r q : Nat) : (rmv A r).lo q = A.lo (sk r q) := by
  show (if q < r then A.lo q else A.lo (q + 1)) = A.lo (if q < r then q else q + 1)
  split <;> rfl
theorem rmv_P (A : AT) (r q p : Nat) : (rmv A r).P = some (q, p) ↔ A.P = some (sk r q, p) := shP_iff
theorem rmv_n (A : AT) (r : Nat) : (rmv A r).n = A.n - 1 := rfl
theorem rmv_sn (A : AT) (r : Nat) : (rmv A r).sn = A.sn := rfl
theorem rmv_ca (A : AT) (r : Nat) : (rmv A r).ca = A.ca := rfl
theorem rmv_cl (A : AT) (r q : Nat) : cl (rmv A r) q = cl A (sk r q) := by
  show (A.od.filter (fun k => !isO A r k)).filter (isO (rmv A r) q) = A.od.filter (isO A (sk r q))
  rw [rmv_isO, List.filter_filter]
  refine List.filter_congr (fun k _ => ?_)
  unfold isO
  by_cases e : A.ow k = some (sk r q)
  · have : ¬ A.ow k = some r := fun e2 => sk_ne r q (by rw [e] at e2; exact Option.some.inj e2)
    simp [e, sk_ne r q]
  · simp [e]
theorem rn_none {A : AT} (h : A.run = false) : rn A = none := by unfold rn; rw [h]; rfl
theorem rmv_rn {A : AT} (hi : INV A) {r : Nat} (hr : r < A.n) (q : Nat) : rn (rmv A r) = some q ↔ rn A = some (sk r q) := by
  cases er : A.run with
  | false =>
    have : (rmv A r).run = false := by rw [rmv_run, er]; rfl
    rw [rn_none this, rn_none er]
    exact ⟨(fun h => by cases h), (fun h => by cases h)⟩
  | true =>
    have h0 := INV_r hi er
    rw [rn_run er]
    by_cases e : r = A.n - 1
    · have : (rmv A r).run = false := by rw [rmv_run, er, decide_eq_false (fun q => q e)]; rfl
      rw [rn_none this, Option.some.injEq]
      constructor
      · intro h; cases h
      · intro h; unfold sk at h; split at h <;> omega
    · have : (rmv A r).run = true := by rw [rmv_run, er, decide_eq_true e]; rfl
      rw [rn_run this, rmv_n, Option.some.injEq, Option.some.injEq]
      unfold sk
      split <;> omega
theorem sk_lt {A : AT} {r q : Nat} (hr : r < A.n) (h : q < A.n - 1) : sk r q < A.n := by unfold sk; split <;> omega
theorem J_rmv {A : AT} (h : JN A) {r : Nat} (hr : r < A.n) : JN (rmv A r) := by
  obtain ⟨h1, h2, h3, h4, h5⟩ := h
  refine ⟨INV_rmv h1 hr, fun k hk e => ?_, fun q hq e => ?_, fun q hq => ?_, fun q p e => ?_⟩
  · exact h2 k hk (fun e2 => e (shO_none.mpr (Or.inl e2)))
  · rw [rmv_cnt]
    exact h3 _ (sk_lt hr hq) (fun e2 => e ((rmv_rn h1 hr q).mpr e2))
  · rw [rmv_lo]
    exact h4 _ (sk_lt hr hq)
  · rw [rmv_cnt]
    exact h5 _ _ ((rmv_P A r q p).mp e)
/-- a recording begins -/
theorem cnt_new {A : AT} (hi : INV A) : cnt A (some A.n) = 0 := cp_zero 32 0 (fun k _ hk => decide_eq_false (fun e => Nat.lt_irrefl _ (INV_ow hi (by omega) _ e)))
theorem bgn1_rn (A : AT) : rn (bgn1 A) = some A.n := rn_run (A := bgn1 A) rfl
theorem J_bgn1 {A : AT} (h : JN A) (hn : A.n < 10) (hr : A.run = false) : JN (bgn1 A) := by
  obtain ⟨h1, h2, h3, h4, h5⟩ := h
  refine ⟨INV_bgn1 h1 hn, h2, fun q hq e => ?_, fun q hq => ?_, h5⟩
  · rw [bgn1_rn] at e
    have hq : q < A.n + 1 := hq
    have e2 : q ≠ A.n := fun q1 => e (by rw [q1])
    exact h3 q (by omega) (by rw [rn_none hr]; intro e3; cases e3)
  · have hq : q < A.n + 1 := hq
    show ∃ z, z ≤ A.sp ∧ (if q = A.n then (0 : Int32) else A.lo q) = nI z
    by_cases e : q = A.n
    · rw [if_pos e]; exact ⟨0, by omega, rfl⟩
    · rw [if_neg e]; exact h4 q (by omega)
theorem sN_rn (A : AT) : rn (sN A A.n false) = none := rn_none (A := sN A A.n false) rfl
/-- the running one stops -/
theorem stp_run (A : AT) : (stp A).run = false := by
  unfold stp
  by_cases e : cnt A (some (A.n - 1)) = 0
  · rw [if_pos e]; rfl
  · rw [if_neg e]
theorem sk_last {n q : Nat} (h : q < n - 1) : sk (n - 1) q = q := by unfold sk; rw [if_pos h]
theorem J_nr {A : AT} (h : JN A) (hr : A.run = true) (hc : 0 < cnt A (some (A.n - 1))) : JN (sN A A.n false) := by
  obtain ⟨h1, h2, h3, h4, h5⟩ := h
  refine ⟨INV_nr h1, h2, fun q hq _ => ?_, h4, h5⟩
  show 0 < cnt A (some q)
  by_cases e : q = A.n - 1
  · rw [e]; exact hc
  · exact h3 q hq (by rw [rn_run hr]; intro e2; exact e (Option.some.inj e2).symm)
theorem J_stp {A : AT} (h : JN A) (hr : A.run = true) : JN (stp A) := by
  have h0 := INV_r h.1 hr
  unfold stp
  by_cases e : cnt A (some (A.n - 1)) = 0
  · rw [if_pos e]
    obtain ⟨h1, h2, h3, h4, h5⟩ := h
    have hi := INV_rmv (INV_nr h1) (r := A.n - 1) (show A.n - 1 < A.n by omega)
    refine ⟨hi, fun k hk e1 => ?_, fun q hq _ => ?_, fun q hq => ?_, fun q p e1 => ?_⟩
    · exact h2 k hk (fun e2 => e1 (shO_none.mpr (Or.inl e2)))
    · have hq : q < A.n - 1 := hq
      rw [rmv_cnt, sk_last hq]
      exact h3 q (by omega) (by rw [rn_run hr]; intro e2; have := Option.some.inj e2; omega)
    · have hq : q < A.n - 1 := hq
      rw [rmv_lo, sk_last hq]
      exact h4 q (by omega)
    · rw [rmv_cnt]
      exact h5 _ _ ((rmv_P _ _ q p).mp e1)
  · rw [if_neg e]
    exact J_nr h hr (Nat.pos_of_ne_zero e)
theorem J_bgn {A : AT} (h : JN A) (hm : mayB A = true) : JN (bgn A) := by
  unfold bgn
  cases er : A.run with
  | false =>
    rw [if_neg (by decide)]
    have : A.n < 10 := of_decide_eq_true (show decide (A.n < 10) = true by unfold mayB at hm; rw [er] at hm; simpa using hm)
    exact J_bgn1 h this er
  | true =>
    rw [if_pos rfl]
    exact J_bgn1 (J_stp h er) (stp_n h.1 hm er) (stp_run A)
theorem J_fl {A : AT} (h : JN A) (f : Nat → Bool) : JN (sFL A f A.lo) := h
theorem J_hs {A : AT} (h : JN A) {m : Nat} (hm : m < 32) : JN (sHS A m A.sp) := ⟨INV_hs h.1 hm A.sp, h.2⟩
theorem J_pl {A : AT} (h : JN A) {r p : Nat} (hr : r < A.n) (hp : p ≤ cnt A (some r)) : JN (sP A (some (r, p))) :=
  ⟨INV_pl h.1 (fun q z e => by cases e; exact ⟨hr, Nat.le_trans hp (cnt_le A _)⟩), h.2.1, h.2.2.1, h.2.2.2.1, fun q z e => by cases e; exact hp⟩
theorem J_sc {A : AT} (h : JN A) {k v : Nat} (hv : v ≤ 99) : JN (sSC A (u1 A.sn k (nI v)) A.ca) := by
  obtain ⟨h1, h2, h3, h4, h5⟩ := h
  refine ⟨INV_sc h1 _ _, fun q hq e => ?_, h3, h4, h5⟩
  show ∃ s, s ≤ 99 ∧ (if q = k then nI v else A.sn q) = nI s
  split
  · exact ⟨v, hv, rfl⟩
  · exact h2 q hq e
