/-! what is read off the two states -/
theorem neg1 : -(nI 1) = oI none := by decide
theorem bZ0 (b : Bool) : bZ b = nI 0 ↔ b = false := bZ_0 b
theorem bZ1 (b : Bool) : bZ b = nI 1 ↔ b = true := bZ_1 b
theorem RS_us {A : AT} {S : OB} (h : RS A S) : S.1 4 = nI A.od.length := h.1
theorem RS_n {A : AT} {S : OB} (h : RS A S) : S.1 7 = nI A.n := h.2.1
theorem RS_run {A : AT} {S : OB} (h : RS A S) : S.1 8 = bZ A.run := h.2.2.1
theorem RS_hd {A : AT} {S : OB} (h : RS A S) : S.1 9 = nI A.hd := h.2.2.2.1
theorem RS_sp {A : AT} {S : OB} (h : RS A S) : S.1 10 = nI A.sp := h.2.2.2.2.1
theorem RS_go {A : AT} {S : OB} (h : RS A S) : S.1 11 = nI A.go := h.2.2.2.2.2.1
theorem RS_p1 {A : AT} {S : OB} (h : RS A S) : S.1 12 = oI (A.P.map Prod.fst) := h.2.2.2.2.2.2.1
theorem RS_p2 {A : AT} {S : OB} (h : RS A S) : S.1 13 = oI (A.P.map Prod.snd) := h.2.2.2.2.2.2.2.1
theorem RS_ow {A : AT} {S : OB} (h : RS A S) {k : Nat} (hk : k < 32) : S.2 0 k = oI (A.ow k) := h.2.2.2.2.2.2.2.2.1 k hk
theorem RS_sn {A : AT} {S : OB} (h : RS A S) {k : Nat} (hk : k < 32) : S.2 1 k = A.sn k := h.2.2.2.2.2.2.2.2.2.1 k hk
theorem RS_ca {A : AT} {S : OB} (h : RS A S) {k : Nat} (hk : k < 32) : S.2 2 k = A.ca k := h.2.2.2.2.2.2.2.2.2.2.1 k hk
theorem RS_od {A : AT} {S : OB} (h : RS A S) {i : Nat} (hk : i < A.od.length) : S.2 3 i = nI (A.od[i]) := h.2.2.2.2.2.2.2.2.2.2.2.1 i hk
theorem RS_fl {A : AT} {S : OB} (h : RS A S) {k : Nat} (hk : k < A.n) : S.2 5 k = bZ (A.fl k) := h.2.2.2.2.2.2.2.2.2.2.2.2.1 k hk
theorem RS_lo {A : AT} {S : OB} (h : RS A S) {k : Nat} (hk : k < A.n) : S.2 6 k = A.lo k := h.2.2.2.2.2.2.2.2.2.2.2.2.2 k hk
theorem RM_n {A : AT} {g : Nat → Int32} (h : RM A g) : g 0 = nI A.n := h.1
theorem RM_run {A : AT} {g : Nat → Int32} (h : RM A g) : g 1 = oI (rn A) := h.2.1
theorem RM_hd {A : AT} {g : Nat → Int32} (h : RM A g) : g 2 = nI A.hd := h.2.2.1
theorem RM_sp {A : AT} {g : Nat → Int32} (h : RM A g) : g 3 = nI A.sp := h.2.2.2.1
theorem RM_go {A : AT} {g : Nat → Int32} (h : RM A g) : g 4 = nI A.go := h.2.2.2.2.1
theorem RM_p1 {A : AT} {g : Nat → Int32} (h : RM A g) : g 5 = oI (A.P.map Prod.fst) := h.2.2.2.2.2.1
theorem RM_p2 {A : AT} {g : Nat → Int32} (h : RM A g) : g 6 = oI (A.P.map Prod.snd) := h.2.2.2.2.2.2.1
theorem RM_fl {A : AT} {g : Nat → Int32} (h : RM A g) {k : Nat} (hk : k < A.n) : g (7 + k) = bZ (A.fl k) := h.2.2.2.2.2.2.2.1 k hk
theorem RM_lo {A : AT} {g : Nat → Int32} (h : RM A g) {k : Nat} (hk : k < A.n) : g (17 + k) = A.lo k := h.2.2.2.2.2.2.2.2.1 k hk
theorem RM_ow {A : AT} {g : Nat → Int32} (h : RM A g) {k : Nat} (hk : k < 32) : g (27 + k) = oI (A.ow k) := h.2.2.2.2.2.2.2.2.2.1 k hk
theorem RM_sn {A : AT} {g : Nat → Int32} (h : RM A g) {k : Nat} (hk : k < 32) : g (59 + k) = A.sn k := h.2.2.2.2.2.2.2.2.2.2.1 k hk
theorem RM_ca {A : AT} {g : Nat → Int32} (h : RM A g) {k : Nat} (hk : k < 32) : g (91 + k) = A.ca k := h.2.2.2.2.2.2.2.2.2.2.2.1 k hk
theorem INV_n {A : AT} (h : INV A) : A.n ≤ 10 := h.1
theorem INV_r {A : AT} (h : INV A) : A.run = true → 0 < A.n := h.2.1
theorem INV_hd {A : AT} (h : INV A) : A.hd < 32 := h.2.2.1
theorem INV_ow {A : AT} (h : INV A) {k : Nat} (hk : k < 32) : ∀ r, A.ow k = some r → r < A.n := h.2.2.2.1 k hk
theorem INV_nd {A : AT} (h : INV A) : A.od.Nodup := h.2.2.2.2.1
theorem INV_od {A : AT} (h : INV A) : ∀ k, k ∈ A.od ↔ k < 32 ∧ A.ow k ≠ none := h.2.2.2.2.2.1
theorem INV_P {A : AT} (h : INV A) : ∀ r p, A.P = some (r, p) → r < A.n ∧ p ≤ 32 := h.2.2.2.2.2.2
theorem owB {A : AT} (h : INV A) {k : Nat} (hk : k < 32) : ∀ r, A.ow k = some r → r < 2 ^ 31 := fun r e => by have := INV_ow h hk r e; have := INV_n h; omega
theorem rnB {A : AT} (h : INV A) : ∀ r, rn A = some r → r < A.n := fun r e => by
  unfold rn at e
  split at e
  · next hr => have := INV_r h hr; cases e; omega
  · cases e
theorem rnB' {A : AT} (h : INV A) : ∀ r, rn A = some r → r < 2 ^ 31 := fun r e => by have := rnB h r e; have := INV_n h; omega
theorem P1B {A : AT} (h : INV A) : ∀ r, A.P.map Prod.fst = some r → r < 2 ^ 31 := fun r e => by
  cases e1 : A.P with
  | none => rw [e1] at e; cases e
  | some q => obtain ⟨a, b⟩ := q; rw [e1] at e; cases e; have := INV_P h _ _ e1; have := INV_n h; omega
theorem P2B {A : AT} (h : INV A) : ∀ r, A.P.map Prod.snd = some r → r < 2 ^ 31 := fun r e => by
  cases e1 : A.P with
  | none => rw [e1] at e; cases e
  | some q => obtain ⟨a, b⟩ := q; rw [e1] at e; cases e; have := INV_P h _ _ e1; have := INV_n h; omega
theorem runB {A : AT} (h : INV A) : oI (rn A) = oI none ↔ A.run = false := by
  rw [oI_eq (rnB' h) (fun r e => by cases e)]
  unfold rn
  cases A.run <;> simp
/-- how many cells have this owner -/
def cnt (A : AT) (o : Option Nat) : Nat := cp (fun k => decide (A.ow k = o)) 0 32
/-- a cell may be written -/
def wr (A : AT) (k : Nat) : Bool := match A.ow k with
  | none => true
  | some r => if rn A = some r then false else !A.fl r
def cor (A : AT) (k : Nat) : Bool := decide (A.ow k ≠ none) && decide (A.sn k ≠ A.ca k)
theorem s_run {A : AT} {S : OB} (hi : INV A) (h : RS A S) : f_X1_runningNumber S = some (oI (rn A)) := by
  unfold f_X1_runningNumber rn
  rw [RS_run h, RS_n h]
  have := INV_r hi
  cases e : A.run with
  | false => rfl
  | true =>
    have := this e
    show some (nI A.n - nI 1) = some (nI (A.n - 1))
    rw [sub_nI (by omega)]
theorem s_cnt {A : AT} {S : OB} (hi : INV A) (h : RS A S) {o : Option Nat} (ho : ∀ r, o = some r → r < 2 ^ 31) : f_X1_cellCount (oI o) S = some (nI (cnt A o)) := by
  unfold f_X1_cellCount cnt
  have := cnt3 (b := b_X1_cellCount_4 S) (p := fun k => decide (A.ow k = o)) (x := oI o) (fun K c => by
    unfold b_X1_cellCount_4
    simp (disch := omega) only [nm_eq, lit, nI_leI, Nat.le_refl, if_true]) (fun K c j hj => by
    unfold b_X1_cellCount_4
    simp (disch := omega) only [nm_eq, lit, nI_leI, vAt_nI, RS_ow h hj, oI_eq (owB hi hj) ho, nI_add]
    rw [if_neg (by omega)]
    by_cases e : A.ow j = o <;> simp [e]) 32 FU 0 0 rfl (by decide)
  rw [Nat.zero_add] at this
  exact this
theorem s_wr {A : AT} {S : OB} (hi : INV A) (h : RS A S) {k : Nat} (hk : k < 32) : f_X1_isWritable (nI k) S = some (bZ (wr A k)) := by
  unfold f_X1_isWritable
  simp (disch := omega) only [nm_eq, lit, neg1, vAt_nI, RS_ow h hk, s_run hi h, bd_some, oI_eq (owB hi hk) (rnB' hi), oI_m1 (owB hi hk), oI_eq (owB hi hk) (fun r (e : none = some r) => by cases e)]
  unfold wr
  cases e : A.ow k with
  | none => rfl
  | some r =>
    have hr := INV_ow hi hk r e
    have := INV_n hi
    simp (disch := omega) only [oI_some, vAt_nI, RS_fl h hr, bZ0, eq_comm (b := rn A)]
    by_cases e1 : rn A = some r
    · simp [e1]; rfl
    · cases e2 : A.fl r <;> simp [e1, e2] <;> rfl
theorem s_wrc {A : AT} {S : OB} (hi : INV A) (h : RS A S) : f_X1_writableCells S = some (nI (cp (wr A) 0 32)) := by
  unfold f_X1_writableCells
  have := cnt2 (b := b_X1_writableCells_4 S) (p := wr A) (fun K c => by
    unfold b_X1_writableCells_4
    simp (disch := omega) only [nm_eq, lit, nI_leI, Nat.le_refl, if_true]) (fun K c j hj => by
    unfold b_X1_writableCells_4
    simp (disch := omega) only [nm_eq, lit, nI_leI, s_wr hi h hj, bd_some, bZ0, nI_add]
    rw [if_neg (by omega)]
    cases wr A j <;> simp) 32 FU 0 0 rfl (by decide)
  rw [Nat.zero_add] at this
  exact this
theorem s_cor {A : AT} {S : OB} (hi : INV A) (h : RS A S) : f_X1_correctedCells S = some (nI (cp (cor A) 0 32)) := by
  unfold f_X1_correctedCells
  have := cnt2 (b := b_X1_correctedCells_4 S) (p := cor A) (fun K c => by
    unfold b_X1_correctedCells_4
    simp (disch := omega) only [nm_eq, lit, nI_leI, Nat.le_refl, if_true]) (fun K c j hj => by
    unfold b_X1_correctedCells_4
    simp (disch := omega) only [nm_eq, lit, neg1, nI_leI, vAt_nI, RS_ow h hj, RS_sn h hj, RS_ca h hj, nI_add, oI_eq (owB hi hj) (fun r (e : none = some r) => by cases e)]
    rw [if_neg (by omega)]
    unfold cor
    by_cases e : A.ow j = none <;> by_cases e2 : A.sn j = A.ca j <;> simp [e, e2]) 32 FU 0 0 rfl (by decide)
  rw [Nat.zero_add] at this
  exact this
/-! the reference -/
theorem m_cnt {A : AT} {M : MO} (hi : INV A) (h : RM A (M.2.1 1)) {o : Option Nat} (ho : ∀ r, o = some r → r < 2 ^ 31) : f_X3_cells (oI o) M = some (nI (cnt A o)) := by
  unfold f_X3_cells cnt
  have := cnt3 (b := b_X3_cells_4 M) (p := fun k => decide (A.ow k = o)) (x := oI o) (fun K c => by
    unfold b_X3_cells_4
    simp (disch := omega) only [nm_eq, lit, nI_leI, Nat.le_refl, if_true]) (fun K c j hj => by
    unfold b_X3_cells_4
    simp (disch := omega) only [nm_eq, lit, nI_leI, nI_add, gd_nI, nI_clamp, RM_ow h hj, oI_eq (owB hi hj) ho]
    rw [if_neg (by omega)]
    by_cases e : A.ow j = o <;> simp [e]) 32 FU 0 0 rfl (by decide)
  rw [Nat.zero_add] at this
  exact this
theorem m_wr {A : AT} {M : MO} (hi : INV A) (h : RM A (M.2.1 1)) {k : Nat} (hk : k < 32) : f_X3_isWritable (nI k) M = some (bZ (wr A k)) := by
  unfold f_X3_isWritable
  simp (disch := omega) only [nm_eq, lit, neg1, nI_add, gd_nI, nI_clamp, RM_ow h hk, RM_run h, bd_some, oI_eq (owB hi hk) (rnB' hi), oI_eq (owB hi hk) (fun r (e : none = some r) => by cases e)]
  unfold wr
  cases e : A.ow k with
  | none => rfl
  | some r =>
    have hr := INV_ow hi hk r e
    have := INV_n hi
    simp (disch := omega) only [oI_some, nI_add, gd_nI, nI_clamp, RM_fl h hr, bZ0, eq_comm (b := rn A)]
    by_cases e1 : rn A = some r
    · simp [e1]; rfl
    · cases e2 : A.fl r <;> simp [e1, e2] <;> rfl
theorem m_wrc {A : AT} {M : MO} (hi : INV A) (h : RM A (M.2.1 1)) : f_X3_writable M = some (nI (cp (wr A) 0 32)) := by
  unfold f_X3_writable
  have := cnt2 (b := b_X3_writable_4 M) (p := wr A) (fun K c => by
    unfold b_X3_writable_4
    simp (disch := omega) only [nm_eq, lit, nI_leI, Nat.le_refl, if_true]) (fun K c j hj => by
    unfold b_X3_writable_4
    simp (disch := omega) only [nm_eq, lit, nI_leI, m_wr hi h hj, bd_some, bZ0, nI_add]
    rw [if_neg (by omega)]
    cases wr A j <;> simp) 32 FU 0 0 rfl (by decide)
  rw [Nat.zero_add] at this
  exact this
theorem m_cor {A : AT} {M : MO} (hi : INV A) (h : RM A (M.2.1 1)) : f_X3_correctedCells M = some (nI (cp (cor A) 0 32)) := by
  unfold f_X3_correctedCells
  have := cnt2 (b := b_X3_correctedCells_4 M) (p := cor A) (fun K c => by
    unfold b_X3_correctedCells_4
    simp (disch := omega) only [nm_eq, lit, nI_leI, Nat.le_refl, if_true]) (fun K c j hj => by
    unfold b_X3_correctedCells_4
    simp (disch := omega) only [nm_eq, lit, neg1, nI_leI, nI_add, gd_nI, nI_clamp, RM_ow h hj, RM_sn h hj, RM_ca h hj, oI_eq (owB hi hj) (fun r (e : none = some r) => by cases e)]
    rw [if_neg (by omega)]
    unfold cor
    by_cases e : A.ow j = none <;> by_cases e2 : A.sn j = A.ca j <;> simp [e, e2]) 32 FU 0 0 rfl (by decide)
  rw [Nat.zero_add] at this
  exact this
/-- is this a recording -/
theorem sm_rec {A : AT} {S : OB} {M : MO} (hi : INV A) (h : RS A S) (hm : RM A (M.2.1 1)) (p0 : Int32) : (f_X1_isRecording p0 S = some 0 ∧ f_X3_isRecording p0 M = some 0) ∨ ∃ r, r < A.n ∧ p0 = nI r ∧ f_X1_isRecording p0 S = some 1 ∧ f_X3_isRecording p0 M = some 1 := by
  have hn := INV_n hi
  unfold f_X1_isRecording f_X3_isRecording f_X3_in
  rw [RS_n h]
  by_cases h0 : p0 < 0
  · left
    rw [if_pos h0, if_pos h0]
    exact ⟨rfl, by simp (disch := omega) only [lit, gd_nI]; rfl⟩
  · obtain ⟨j, hj, rfl⟩ := nI_of h0
    rw [if_neg h0, if_neg h0]
    simp (disch := omega) only [lit, gd_nI, nI_clamp, RM_n hm, nI_leI]
    by_cases h1 : A.n ≤ j
    · left
      rw [if_pos h1, if_pos]
      · exact ⟨rfl, rfl⟩
      · cases e : A.n with
        | zero => exact Int32.lt_of_lt_of_le (by decide : nI 0 - nI 1 < 0) (nI_pos' hj)
        | succ m => rw [show nI (m + 1) - nI 1 = nI m from nI_pred m, nI_ltI (by omega) hj]; omega
    · right
      refine ⟨j, by omega, rfl, ?_⟩
      rw [if_neg h1, if_neg]
      · exact ⟨rfl, rfl⟩
      · obtain ⟨m, e⟩ : ∃ m, A.n = m + 1 := ⟨A.n - 1, by omega⟩
        rw [e, show nI (m + 1) - nI 1 = nI m from nI_pred m, nI_ltI (by omega) hj]; omega
