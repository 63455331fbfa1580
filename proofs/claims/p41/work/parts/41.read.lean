/-! what is read off the two states -/
theorem neg1 : -(nI 1) = oI none := by decide
theorem bZ0 (b : Bool) : bZ b = nI 0 ↔ b = false := bZ_0 b
theorem bZ1 (b : Bool) : bZ b = nI 1 ↔ b = true := bZ_1 b
theorem RS_us {A : AT} {S : OB} (h : RS A S) : S.1 4 = nI A.od.length := h.1
theorem RS_n {A : AT} {S : OB} (h : RS A S) : S.1 7 = nI A.n := h.2.1
theorem RS_run {A : AT} {S : OB} (h : RS A S) : S.1 8 = bZ A.run := h.2.2.1
theorem RS_hd {A : AT} {S : OB} (h : RS A S) : S.1 9 = nI A.hd := h.2.2.2.1
theorem RS_sp {A : AT} {S : OB} (h : RS A S) : S.1 10 = nI A.sp := h.2.2.2.2.1
theorem RS_go {A : AT} {S : OB} (h : RS A S) : S.1 11 = nI A.go := h.2.2.2.2.2.1
theorem RS_p1 {A : AT} {S : OB} (h : RS A S) : S.1 12 = oI (A.P.map Prod.fst) := h.2.2.2.2.2.2.1
theorem RS_p2 {A : AT} {S : OB} (h : RS A S) : S.1 13 = oI (A.P.map Prod.snd) := h.2.2.2.2.2.2.2.1
theorem RS_ow {A : AT} {S : OB} (h : RS A S) {k : Nat} (hk : k < 32) : S.2 0 k = oI (A.ow k) := h.2.2.2.2.2.2.2.2.1 k hk
theorem RS_sn {A : AT} {S : OB} (h : RS A S) {k : Nat} (hk : k < 32) : S.2 1 k = A.sn k := h.2.2.2.2.2.2.2.2.2.1 k hk
theorem RS_ca {A : AT} {S : OB} (h : RS A S) {k : Nat} (hk : k < 32) : S.2 2 k = A.ca k := h.2.2.2.2.2.2.2.2.2.2.1 k hk
theorem RS_od {A : AT} {S : OB} (h : RS A S) {i : Nat} (hk : i < A.od.length) : S.2 3 i = nI (A.od[i]) := h.2.2.2.2.2.2.2.2.2.2.2.1 i hk
theorem RS_fl {A : AT} {S : OB} (h : RS A S) {k : Nat} (hk : k < A.n) : S.2 5 k = bZ (A.fl k) := h.2.2.2.2.2.2.2.2.2.2.2.2.1 k hk
theorem RS_lo {A : AT} {S : OB} (h : RS A S) {k : Nat} (hk : k < A.n) : S.2 6 k = A.lo k := h.2.2.2.2.2.2.2.2.2.2.2.2.2 k hk
theorem INV_n {A : AT} (h : INV A) : A.n ≤ 10 := h.1
theorem INV_r {A : AT} (h : INV A) : A.run = true → 0 < A.n := h.2.1
theorem INV_hd {A : AT} (h : INV A) : A.hd < 32 := h.2.2.1
theorem INV_ow {A : AT} (h : INV A) {k : Nat} (hk : k < 32) : ∀ r, A.ow k = some r → r < A.n := h.2.2.2.1 k hk
theorem INV_nd {A : AT} (h : INV A) : A.od.Nodup := h.2.2.2.2.1
theorem INV_od {A : AT} (h : INV A) : ∀ k, k ∈ A.od ↔ k < 32 ∧ A.ow k ≠ none := h.2.2.2.2.2.1
theorem INV_P {A : AT} (h : INV A) : ∀ r p, A.P = some (r, p) → r < A.n ∧ p ≤ 32 := h.2.2.2.2.2.2
theorem owB {A : AT} (h : INV A) {k : Nat} (hk : k < 32) : ∀ r, A.ow k = some r → r < 2 ^ 31 := fun r e => by have := INV_ow h hk r e; have := INV_n h; omega
theorem rnB {A : AT} (h : INV A) : ∀ r, rn A = some r → r < A.n := fun r e => by
  unfold rn at e
  split at e
  · next hr => have := INV_r h hr; cases e; omega
  · cases e
theorem rnB' {A : AT} (h : INV A) : ∀ r, rn A = some r → r < 2 ^ 31 := fun r e => by have := rnB h r e; have := INV_n h; omega
theorem P1B {A : AT} (h : INV A) : ∀ r, A.P.map Prod.fst = some r → r < 2 ^ 31 := fun r e => by
  cases e1 : A.P with
  | none => rw [e1] at e; cases e
  | some q => obtain ⟨a, b⟩ := q; rw [e1] at e; cases e; have := INV_P h _ _ e1; have := INV_n h; omega
theorem P2B {A : AT} (h : INV A) : ∀ r, A.P.map Prod.snd = some r → r < 2 ^ 31 := fun r e => by
  cases e1 : A.P with
  | none => rw [e1] at e; cases e
  | some q => obtain ⟨a, b⟩ := q; rw [e1] at e; cases e; have := INV_P h _ _ e1; have := INV_n h; omega
theorem runB {A : AT} (h : INV A) : oI (rn A) = oI none ↔ A.run = false := by
  rw [oI_eq (rnB' h) (fun r e => by cases e)]
  unfold rn
  cases A.run <;> simp
/-- how many cells have this owner -/
def cnt (A : AT) (o : Option Nat) : Nat := cp (fun k => decide (A.ow k = o)) 0 32
/-- a cell may be written -/
def wr (A : AT) (k : Nat) : Bool := match A.ow k with
  | none => true
  | some r => if rn A = some r then false else !A.fl r
def cor (A : AT) (k : Nat) : Bool := decide (A.ow k ≠ none) && decide (A.sn k ≠ A.ca k)
theorem s_run {A : AT} {S : OB} (hi : INV A) (h : RS A S) : f_X1_runningNumber S = some (oI (rn A)) := by
  unfold f_X1_runningNumber rn
  rw [RS_run h, RS_n h]
  have := INV_r hi
  cases e : A.run with
  | false => rfl
  | true =>
    have := this e
    show some (nI A.n - nI 1) = some (nI (A.n - 1))
    rw [sub_nI (by omega)]
theorem s_cnt {A : AT} {S : OB} (hi : INV A) (h : RS A S) {o : Option Nat} (ho : ∀ r, o = some r → r < 2 ^ 31) : f_X1_cellCount (oI o) S = some (nI (cnt A o)) := by
  unfold f_X1_cellCount cnt
  have := cnt3 (b := b_X1_cellCount_4 S) (p := fun k => decide (A.ow k = o)) (x := oI o) (fun K c => by
    unfold b_X1_cellCount_4
    simp (disch := omega) only [nm_eq, lit, nI_leI, Nat.le_refl, if_true]) (fun K c j hj => by
    unfold b_X1_cellCount_4
    simp (disch := omega) only [nm_eq, lit, nI_leI, vAt_nI, RS_ow h hj, oI_eq (owB hi hj) ho, nI_add]
    rw [if_neg (by omega)]
    by_cases e : A.ow j = o <;> simp [e]) 32 FU 0 0 rfl (by decide)
  rw [Nat.zero_add] at this
  exact this
theorem s_wr {A : AT} {S : OB} (hi : INV A) (h : RS A S) {k : Nat} (hk : k < 32) : f_X1_isWritable (nI k) S = some (bZ (wr A k)) := by
  unfold f_X1_isWritable
  simp (disch := omega) only [nm_eq, lit, neg1, vAt_nI, RS_ow h hk, s_run hi h, bd_some, oI_eq (owB hi hk) (rnB' hi), oI_m1 (owB hi hk), oI_eq (owB hi hk) (fun r (e : none = some r) => by cases e)]
  unfold wr
  cases e : A.ow k with
  | none => rfl
  | some r =>
    have hr := INV_ow hi hk r e
    have := INV_n hi
    simp (disch := omega) only [oI_some, vAt_nI, RS_fl h hr, bZ0, eq_comm (b := rn A)]
    by_cases e1 : rn A = some r
    · simp [e1]; rfl
    · cases e2 : A.fl r <;> simp [e1, e2] <;> rfl
theorem s_wrc {A : AT} {S : OB} (hi : INV A) (h : RS A S) : f_X1_writableCells S = some (nI (cp (wr A) 0 32)) := by
  unfold f_X1_writableCells
  have := cnt2 (b := b_X1_writableCells_4 S) (p := wr A) (fun K c => by
    unfold b_X1_writableCells_4
    simp (disch := omega) only [nm_eq, lit, nI_leI, Nat.le_refl, if_true]) (fun K c j hj => by
    unfold b_X1_writableCells_4
    simp (disch := omega) only [nm_eq, lit, nI_leI, s_wr hi h hj, bd_some, bZ0, nI_add]
    rw [if_neg (by omega)]
    cases wr A j <;> simp) 32 FU 0 0 rfl (by decide)
  rw [Nat.zero_add] at this
  exact this
theorem s_cor {A : AT} {S : OB} (hi : INV A) (h : RS A S) : f_X1_correctedCells S = some (nI (cp (cor A) 0 32)) := by
  unfold f_X1_correctedCells
  have := cnt2 (b := b_X1_correctedCells_4 S) (p := cor A) (fun K c => by
    unfold b_X1_correctedCells_4
    simp (disch := omega) only [nm_eq, lit, nI_leI, Nat.le_refl, if_true]) (fun K c j hj => by
    unfold b_X1_correctedCells_4
    simp (disch := omega) only [nm_eq, lit, neg1, nI_leI, vAt_nI, RS_ow h hj, RS_sn h hj, RS_ca h hj, nI_add, oI_eq (owB hi hj) (fun r (e : none = some r) => by cases e)]
    rw [if_neg (by omega)]
    unfold cor
    by_cases e : A.ow j = none <;> by_cases e2 : A.sn j = A.ca j <;> simp [e, e2]) 32 FU 0 0 rfl (by decide)
  rw [Nat.zero_add] at this
  exact this
/-! the reference -/
