/-! the cell at a place -/
theorem od_lt {A : AT} (hi : INV A) : ∀ y ∈ A.od, y < 32 := fun y h => ((INV_od hi y).mp h).1
theorem od_free {A : AT} (hi : INV A) : cnt A none + A.od.length = 32 := by
  have e1 := cp_len A.od (INV_nd hi) (od_lt hi)
  have e2 : ∀ d j, j + d = 32 → cp (fun k => decide (A.ow k = none)) j d + cp (fun k => decide (k ∈ A.od)) j d = d := by
    intro d
    induction d with
    | zero => intro j _; rfl
    | succ d ih =>
      intro j hj
      have := ih (j + 1) (by omega)
      have h1 := INV_od hi j
      show (if decide (A.ow j = none) then 1 else 0) + cp _ (j + 1) d + ((if decide (j ∈ A.od) then 1 else 0) + cp _ (j + 1) d) = d + 1
      by_cases e : A.ow j = none
      · have : j ∉ A.od := fun q => (h1.mp q).2 e
        simp only [e, this, decide_true, decide_false, if_true, Bool.false_eq_true, if_false]
        omega
      · have : j ∈ A.od := h1.mpr ⟨by omega, e⟩
        simp only [e, this, decide_true, decide_false, if_true, Bool.false_eq_true, if_false]
        omega
  have := e2 32 0 rfl
  rw [e1] at this
  exact this
theorem od_le {A : AT} (hi : INV A) : A.od.length ≤ 32 := by have := od_free hi; omega
theorem od_get {A : AT} (hi : INV A) {i : Nat} (h : i < A.od.length) : A.od[i] < 32 := od_lt hi _ (List.getElem_mem h)
def isO (A : AT) (r : Nat) (k : Nat) : Bool := decide (A.ow k = some r)
theorem s_at0 {A : AT} {S : OB} (hi : INV A) (h : RS A S) {r p : Nat} (hr : r < A.n) (hp : p < 2 ^ 31) : ∀ (d f i c : Nat), i + d = A.od.length → d < f → c ≤ p → c ≤ i → lpf4 (b_X1_cellAt_5 S) f (nI r) (nI p) (nI c) (nI i) = some (oI (at_ (isO A r) (A.od.drop i) (p - c)))
  | 0, f + 1, i, c, hj, _, hc, _ => by
    obtain rfl : i = A.od.length := hj
    have := od_le hi
    show b_X1_cellAt_5 S _ _ _ _ _ = _
    unfold b_X1_cellAt_5
    rw [RS_us h]
    simp (disch := omega) only [nm_eq, lit, nI_leI, Nat.le_refl, if_true, List.drop_length]
    rfl
  | d + 1, f + 1, i, c, hj, hf, hc, hci => by
    have := od_le hi
    have hn := INV_n hi
    have hlt : i < A.od.length := by omega
    have hk := od_get hi hlt
    have ih := fun c (h1 : c ≤ p) (h2 : c ≤ i + 1) => s_at0 hi h hr hp d f (i + 1) c (by omega) (by omega) h1 h2
    show b_X1_cellAt_5 S (lpf4 (b_X1_cellAt_5 S) f) _ _ _ _ = _
    generalize lpf4 (b_X1_cellAt_5 S) f = K at ih ⊢
    rw [List.drop_eq_getElem_cons hlt]
    unfold b_X1_cellAt_5 at_
    rw [RS_us h]
    simp (disch := omega) only [nm_eq, lit, neg1, nI_leI, vAt_nI, RS_od h hlt, RS_ow h hk, oI_nI (owB hi hk), nI_eq, nI_add]
    rw [if_neg (by omega)]
    unfold isO at ih ⊢
    by_cases e : A.ow A.od[i] = some r
    · simp only [e, if_true, decide_true]
      by_cases e2 : c = p
      · rw [if_pos e2, if_pos (by omega)]; rfl
      · rw [if_neg e2, if_neg (by omega), ih (c + 1) (by omega) (by omega)]
        congr 3
    · simp only [e, if_false, decide_false, Bool.false_eq_true]
      exact ih c hc (by omega)
theorem s_at {A : AT} {S : OB} (hi : INV A) (h : RS A S) {r p : Nat} (hr : r < A.n) (hp : p < 2 ^ 31) : f_X1_cellAt (nI r) (nI p) S = some (oI (at_ (isO A r) A.od p)) := s_at0 hi h hr hp A.od.length FU 0 0 (by omega) (by have := od_le hi; exact Nat.lt_of_le_of_lt this (by decide)) (by omega) (by omega)
theorem s_bf0 {A : AT} {S : OB} (hi : INV A) (h : RS A S) {r x : Nat} (hr : r < A.n) (hx : x < 32) : ∀ (d f i c : Nat), i + d = A.od.length → d < f → c ≤ i → lpf4 (b_X1_cellsBefore_14 S) f (nI x) (nI r) (nI c) (nI i) = some (nI (c + bf (isO A r) x (A.od.drop i)))
  | 0, f + 1, i, c, hj, _, _ => by
    obtain rfl : i = A.od.length := hj
    have := od_le hi
    show b_X1_cellsBefore_14 S _ _ _ _ _ = _
    unfold b_X1_cellsBefore_14
    rw [RS_us h]
    simp (disch := omega) only [nm_eq, lit, nI_leI, Nat.le_refl, if_true, List.drop_length]
    rfl
  | d + 1, f + 1, i, c, hj, hf, hci => by
    have := od_le hi
    have hn := INV_n hi
    have hlt : i < A.od.length := by omega
    have hk := od_get hi hlt
    have ih := fun c (h2 : c ≤ i + 1) => s_bf0 hi h hr hx d f (i + 1) c (by omega) (by omega) h2
    show b_X1_cellsBefore_14 S (lpf4 (b_X1_cellsBefore_14 S) f) _ _ _ _ = _
    generalize lpf4 (b_X1_cellsBefore_14 S) f = K at ih ⊢
    rw [List.drop_eq_getElem_cons hlt]
    unfold b_X1_cellsBefore_14 bf
    rw [RS_us h]
    simp (disch := omega) only [nm_eq, lit, neg1, nI_leI, vAt_nI, RS_od h hlt, RS_ow h hk, oI_nI (owB hi hk), nI_eq, nI_add]
    rw [if_neg (by omega)]
    unfold isO at ih ⊢
    by_cases e2 : A.od[i] = x
    · rw [if_pos e2, if_pos e2]; rfl
    · rw [if_neg e2, if_neg e2]
      by_cases e : A.ow A.od[i] = some r
      · simp only [e, if_true, decide_true]
        rw [ih (c + 1) (by omega), Nat.add_assoc]
      · simp only [e, if_false, decide_false, Bool.false_eq_true, Nat.zero_add]
        exact ih c (by omega)
theorem s_bf {A : AT} {S : OB} (hi : INV A) (h : RS A S) {r x : Nat} (hr : A.ow x = some r) (hx : x < 32) : f_X1_cellsBefore (nI x) S = some (nI (bf (isO A r) x A.od)) := by
  have h1 := INV_ow hi hx r hr
  have := s_bf0 hi h h1 hx A.od.length FU 0 0 (by omega) (by have := od_le hi; exact Nat.lt_of_le_of_lt this (by decide)) (by omega)
  rw [Nat.zero_add] at this
  unfold f_X1_cellsBefore
  rw [nm_eq, vAt_nI hx (by decide), RS_ow h hx, hr]
  exact this
theorem bf_le (p : Nat → Bool) (x : Nat) : ∀ l, bf p x l ≤ l.length
  | [] => Nat.le_refl 0
  | y :: l => by
    have := bf_le p x l
    unfold bf
    rw [List.length_cons]
    split
    · omega
    · split <;> omega
