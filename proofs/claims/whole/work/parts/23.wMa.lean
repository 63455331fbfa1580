def f_X3_thrown (S : MO) : Option Int32 :=
  some (S.1 0)
abbrev rm_X3_thrown : Room := { frames := 0, cells := 0, slots := 0, locals := 0 }
theorem np_X3_thrown : yX3_thrown.cls ≠ "java/lang/invoke/MethodHandle" ∧ yX3_thrown.cls ≠ "java/lang/invoke/VarHandle" ∧ (parseMethodDescriptor yX3_thrown.desc).map (fun d => d.parameters.length) = some 0 := by decide +kernel
set_option maxHeartbeats 4000000 in
set_option maxRecDepth 100000 in
theorem k_X3_thrown (l : Launch) (D : va_G) (cs : CS) (a : Nat → Nat) (S : MO) {r9 : Int32} (h : f_X3_thrown S = some r9) : MI l D cs yX3_thrown cX3_thrown 1 .int rm_X3_thrown [.ref (a 0)] (wM cs.1 a S) r9 (wM cs.1 a S) := by
  refine MI_of (by decide) (Nat.le_of_ble_eq_true rfl) ?_
  rintro Γ rfl rfl rfl B ret
  show X Γ 1 0 0 0 [(0, .ref (a 0))] [] (wM Γ.cs.1 a S)
  unfold f_X3_thrown at h
  refine x_aload_n B (pc' := 1) 0 dX3_thrown_0 rfl rfl rfl ?_
  refine m_get0 B (pc' := 4) wf_RX3_16 dX3_thrown_1 rfl ?_
  have h1 := Option.some.inj h
  subst h1
  exact ret rfl (by exact Nat.le_of_ble_eq_true rfl) (by exact Nat.le_of_ble_eq_true rfl) dX3_thrown_4
def f_X3_in (p0 : Int32) (p1 : Int32) (p2 : Int32) : Option Int32 :=
  if p0 < p1 then (some (0 : Int32)) else (if p2 < p0 then (some (0 : Int32)) else (some (1 : Int32)))
abbrev rm_X3_in : Room := { frames := 0, cells := 0, slots := 0, locals := 0 }
theorem np_X3_in : yX3_in.cls ≠ "java/lang/invoke/MethodHandle" ∧ yX3_in.cls ≠ "java/lang/invoke/VarHandle" ∧ (parseMethodDescriptor yX3_in.desc).map (fun d => d.parameters.length) = some 3 := by decide +kernel
set_option maxHeartbeats 4000000 in
set_option maxRecDepth 100000 in
theorem k_X3_in (l : Launch) (D : va_G) (cs : CS)  (p0 : Int32) (p1 : Int32) (p2 : Int32) {r9 : Int32} (h : f_X3_in p0 p1 p2 = some r9) : MI l D cs yX3_in cX3_in 3 .boolean rm_X3_in [.int p0, .int p1, .int p2] ([]) r9 ([]) := by
  refine MI_of (by decide) (Nat.le_of_ble_eq_true rfl) ?_
  rintro Γ rfl rfl rfl B ret
  show X Γ 3 0 0 0 [(0, .int p0), (1, .int p1), (2, .int p2)] [] ([])
  unfold f_X3_in at h
  refine x_iload_n B (pc' := 1) 0 dX3_in_0 rfl rfl rfl ?_
  refine x_iload_n B (pc' := 2) 1 dX3_in_1 rfl rfl rfl ?_
  refine x_icmp_lt B 14 5 dX3_in_2 (by decide) rfl (fun hc1 => ?_) (fun hc1 => ?_)
  · replace h := ite_t hc1 h
    refine x_iconst B (pc' := 15) 0 dX3_in_14 (by decide) rfl ?_
    have h1 := Option.some.inj h
    subst h1
    exact ret rfl (by exact Nat.le_of_ble_eq_true rfl) (by exact Nat.le_of_ble_eq_true rfl) dX3_in_15
  · replace h := ite_f hc1 h
    refine x_iload_n B (pc' := 6) 0 dX3_in_5 rfl rfl rfl ?_
    refine x_iload_n B (pc' := 7) 2 dX3_in_6 rfl rfl rfl ?_
    refine x_icmp_gt B 14 10 dX3_in_7 (by decide) rfl (fun hc2 => ?_) (fun hc2 => ?_)
    · replace h := ite_t hc2 h
      refine x_iconst B (pc' := 15) 0 dX3_in_14 (by decide) rfl ?_
      have h1 := Option.some.inj h
      subst h1
      exact ret rfl (by exact Nat.le_of_ble_eq_true rfl) (by exact Nat.le_of_ble_eq_true rfl) dX3_in_15
    · replace h := ite_f hc2 h
      refine x_iconst B (pc' := 11) 1 dX3_in_10 (by decide) rfl ?_
      refine x_goto B (pc' := 15) dX3_in_11 (by decide) ?_
      have h1 := Option.some.inj h
      subst h1
      exact ret rfl (by exact Nat.le_of_ble_eq_true rfl) (by exact Nat.le_of_ble_eq_true rfl) dX3_in_15
def f_X3_holds (p0 : Int32) (S : MO) : Option (Int32 × MO) :=
  nm (fun (S1 : MO) => if p0 = 0 then (some ((1 : Int32), S1)) else (some ((0 : Int32), S1))) (upd S.1 0 p0, S.2)
abbrev rm_X3_holds : Room := { frames := 0, cells := 0, slots := 0, locals := 0 }
theorem np_X3_holds : yX3_holds.cls ≠ "java/lang/invoke/MethodHandle" ∧ yX3_holds.cls ≠ "java/lang/invoke/VarHandle" ∧ (parseMethodDescriptor yX3_holds.desc).map (fun d => d.parameters.length) = some 1 := by decide +kernel
set_option maxHeartbeats 4000000 in
set_option maxRecDepth 100000 in
theorem k_X3_holds (l : Launch) (D : va_G) (cs : CS) (a : Nat → Nat) (p0 : Int32) (S : MO) {r9 : Int32} {S9 : MO} (h : f_X3_holds p0 S = some (r9, S9)) : MI l D cs yX3_holds cX3_holds 2 .boolean rm_X3_holds [.ref (a 0), .int p0] (wM cs.1 a S) r9 (wM cs.1 a S9) := by
  refine MI_of (by decide) (Nat.le_of_ble_eq_true rfl) ?_
  rintro Γ rfl rfl rfl B ret
  show X Γ 2 0 0 0 [(0, .ref (a 0)), (1, .int p0)] [] (wM Γ.cs.1 a S)
  unfold f_X3_holds at h
  refine x_aload_n B (pc' := 1) 0 dX3_holds_0 rfl rfl rfl ?_
  refine x_iload_n B (pc' := 2) 1 dX3_holds_1 rfl rfl rfl ?_
  obtain ⟨S1, eS1, h⟩ := nm_elim h
  refine m_put0 B (pc' := 5) wf_RX3_16 dX3_holds_2 rfl ?_
  refine m_wd eS1 ?_
  refine x_iload_n B (pc' := 6) 1 dX3_holds_5 rfl rfl rfl ?_
  refine x_if_ne B 13 9 dX3_holds_6 (by decide) rfl (fun hc2 => ?_) (fun hc2 => ?_)
  · replace h := ite_f hc2 h
    refine x_iconst B (pc' := 14) 0 dX3_holds_13 (by decide) rfl ?_
    obtain ⟨h1, h2⟩ := some2 h
    subst h1
    subst h2
    exact ret rfl (by exact Nat.le_of_ble_eq_true rfl) (by exact Nat.le_of_ble_eq_true rfl) dX3_holds_14
  · replace h := ite_t hc2 h
    refine x_iconst B (pc' := 10) 1 dX3_holds_9 (by decide) rfl ?_
    refine x_goto B (pc' := 14) dX3_holds_10 (by decide) ?_
    obtain ⟨h1, h2⟩ := some2 h
    subst h1
    subst h2
    exact ret rfl (by exact Nat.le_of_ble_eq_true rfl) (by exact Nat.le_of_ble_eq_true rfl) dX3_holds_14
def f_X3_told (p0 : Int32) (S : MO) : Option (Int32 × MO) :=
  nm (fun (S1 : MO) => some (p0, S1)) (upd S.1 0 (0 : Int32), S.2)
abbrev rm_X3_told : Room := { frames := 0, cells := 0, slots := 0, locals := 0 }
theorem np_X3_told : yX3_told.cls ≠ "java/lang/invoke/MethodHandle" ∧ yX3_told.cls ≠ "java/lang/invoke/VarHandle" ∧ (parseMethodDescriptor yX3_told.desc).map (fun d => d.parameters.length) = some 1 := by decide +kernel
set_option maxHeartbeats 4000000 in
set_option maxRecDepth 100000 in
theorem k_X3_told (l : Launch) (D : va_G) (cs : CS) (a : Nat → Nat) (p0 : Int32) (S : MO) {r9 : Int32} {S9 : MO} (h : f_X3_told p0 S = some (r9, S9)) : MI l D cs yX3_told cX3_told 2 .int rm_X3_told [.ref (a 0), .int p0] (wM cs.1 a S) r9 (wM cs.1 a S9) := by
  refine MI_of (by decide) (Nat.le_of_ble_eq_true rfl) ?_
  rintro Γ rfl rfl rfl B ret
  show X Γ 2 0 0 0 [(0, .ref (a 0)), (1, .int p0)] [] (wM Γ.cs.1 a S)
  unfold f_X3_told at h
  refine x_aload_n B (pc' := 1) 0 dX3_told_0 rfl rfl rfl ?_
  refine x_iconst B (pc' := 2) 0 dX3_told_1 (by decide) rfl ?_
  obtain ⟨S1, eS1, h⟩ := nm_elim h
  refine m_put0 B (pc' := 5) wf_RX3_16 dX3_told_2 rfl ?_
  refine m_wd eS1 ?_
  refine x_iload_n B (pc' := 6) 1 dX3_told_5 rfl rfl rfl ?_
  obtain ⟨h1, h2⟩ := some2 h
  subst h1
  subst h2
  exact ret rfl (by exact Nat.le_of_ble_eq_true rfl) (by exact Nat.le_of_ble_eq_true rfl) dX3_told_6
def f_X3_isRecording (p0 : Int32) (S : MO) : Option Int32 :=
  gd (0 : Int32) 1085 (bd (f_X3_in p0 (0 : Int32) (((S.2.1 1) (Int32.toNatClampNeg (0 : Int32))) - (1 : Int32))) (fun (r2 : Int32) => zb r2 (some r2)))
abbrev rm_X3_isRecording : Room := { frames := 1, cells := 0, slots := 0, locals := 22 }
theorem np_X3_isRecording : yX3_isRecording.cls ≠ "java/lang/invoke/MethodHandle" ∧ yX3_isRecording.cls ≠ "java/lang/invoke/VarHandle" ∧ (parseMethodDescriptor yX3_isRecording.desc).map (fun d => d.parameters.length) = some 1 := by decide +kernel
set_option maxHeartbeats 4000000 in
set_option maxRecDepth 100000 in
theorem k_X3_isRecording (l : Launch) (D : va_G) (cs : CS) (a : Nat → Nat) (p0 : Int32) (S : MO) {r9 : Int32} (h : f_X3_isRecording p0 S = some r9) : MI l D cs yX3_isRecording cX3_isRecording 2 .boolean rm_X3_isRecording [.ref (a 0), .int p0] (wM cs.1 a S) r9 (wM cs.1 a S) := by
  refine MI_of (by decide) (Nat.le_of_ble_eq_true rfl) ?_
  rintro Γ rfl rfl rfl B ret
  show X Γ 2 0 0 0 [(0, .ref (a 0)), (1, .int p0)] [] (wM Γ.cs.1 a S)
  unfold f_X3_isRecording at h
  refine x_iload_n B (pc' := 1) 1 dX3_isRecording_0 rfl rfl rfl ?_
  refine x_iconst B (pc' := 2) 0 dX3_isRecording_1 (by decide) rfl ?_
  refine x_aload_n B (pc' := 3) 0 dX3_isRecording_2 rfl rfl rfl ?_
  refine m_ref1 B (pc' := 6) wf_RX3_7 dX3_isRecording_3 rfl ?_
  refine x_iconst B (pc' := 7) 0 dX3_isRecording_6 (by decide) rfl ?_
  obtain ⟨hi1, h⟩ := gd_elim h
  refine m_ald1 B (pc' := 8) hi1 dX3_isRecording_7 rfl ?_
  refine x_iconst B (pc' := 9) 1 dX3_isRecording_8 (by decide) rfl ?_
  refine x_isub B (pc' := 10) dX3_isRecording_9 rfl ?_
  obtain ⟨r2, er2, h⟩ := bd_elim h
  refine x_pureSi B (pc' := 13) [.int p0, .int (0 : Int32), .int (((S.2.1 1) (Int32.toNatClampNeg (0 : Int32))) - (1 : Int32))] (k_X3_in _ _ _ p0 (0 : Int32) (((S.2.1 1) (Int32.toNatClampNeg (0 : Int32))) - (1 : Int32)) er2) gv_RX3_20 np_X3_in ⟨Nat.le_of_ble_eq_true rfl, Nat.le_of_ble_eq_true rfl⟩ ⟨by exact Nat.le_of_ble_eq_true rfl, by exact Nat.le_of_ble_eq_true rfl⟩ rfl (Nat.le_of_ble_eq_true rfl) dX3_isRecording_10 rfl ?_
  obtain ⟨hz3, h⟩ := zb_elim h
  have h1 := Option.some.inj h
  subst h1
  exact ret (zb_nar hz3) (by exact Nat.le_of_ble_eq_true rfl) (by exact Nat.le_of_ble_eq_true rfl) dX3_isRecording_13
def f_X3_isCell (p0 : Int32) : Option Int32 :=
  bd (f_X3_in p0 (0 : Int32) (31 : Int32)) (fun (r1 : Int32) => zb r1 (some r1))
abbrev rm_X3_isCell : Room := { frames := 1, cells := 0, slots := 0, locals := 22 }
theorem np_X3_isCell : yX3_isCell.cls ≠ "java/lang/invoke/MethodHandle" ∧ yX3_isCell.cls ≠ "java/lang/invoke/VarHandle" ∧ (parseMethodDescriptor yX3_isCell.desc).map (fun d => d.parameters.length) = some 1 := by decide +kernel
set_option maxHeartbeats 4000000 in
set_option maxRecDepth 100000 in
theorem k_X3_isCell (l : Launch) (D : va_G) (cs : CS)  (p0 : Int32) {r9 : Int32} (h : f_X3_isCell p0 = some r9) : MI l D cs yX3_isCell cX3_isCell 1 .boolean rm_X3_isCell [.int p0] ([]) r9 ([]) := by
  refine MI_of (by decide) (Nat.le_of_ble_eq_true rfl) ?_
  rintro Γ rfl rfl rfl B ret
  show X Γ 1 0 0 0 [(0, .int p0)] [] ([])
  unfold f_X3_isCell at h
  refine x_iload_n B (pc' := 1) 0 dX3_isCell_0 rfl rfl rfl ?_
  refine x_iconst B (pc' := 2) 0 dX3_isCell_1 (by decide) rfl ?_
  refine x_bipush B (pc' := 4) 31 dX3_isCell_2 (by decide) rfl ?_
  obtain ⟨r1, er1, h⟩ := bd_elim h
  refine x_pureSi B (pc' := 7) [.int p0, .int (0 : Int32), .int (31 : Int32)] (k_X3_in _ _ _ p0 (0 : Int32) (31 : Int32) er1) gv_RX3_20 np_X3_in ⟨Nat.le_of_ble_eq_true rfl, Nat.le_of_ble_eq_true rfl⟩ ⟨by exact Nat.le_of_ble_eq_true rfl, by exact Nat.le_of_ble_eq_true rfl⟩ rfl (Nat.le_of_ble_eq_true rfl) dX3_isCell_4 rfl ?_
  obtain ⟨hz2, h⟩ := zb_elim h
  have h1 := Option.some.inj h
  subst h1
  exact ret (zb_nar hz2) (by exact Nat.le_of_ble_eq_true rfl) (by exact Nat.le_of_ble_eq_true rfl) dX3_isCell_7
def b_X3_cells_4 (S : MO) (K4 : Int32 → Int32 → Int32 → Option Int32) (x1 : Int32) (x2 : Int32) (x3 : Int32) : Option Int32 :=
  if (32 : Int32) ≤ x3 then (some x2) else (gd ((27 : Int32) + x3) 1085 (if ((S.2.1 1) (Int32.toNatClampNeg ((27 : Int32) + x3))) = x1 then (nm (fun (v6 : Int32) => nm (fun (v7 : Int32) => K4 x1 v6 v7) (x3 + 1)) (x2 + (1 : Int32))) else (nm (fun (v4 : Int32) => nm (fun (v5 : Int32) => K4 x1 v4 v5) (x3 + 1)) (x2 + (0 : Int32)))))
def f_X3_cells (p0 : Int32) (S : MO) : Option Int32 :=
  lpf3 (b_X3_cells_4 S) FU p0 (0 : Int32) (0 : Int32)
abbrev rm_X3_cells : Room := { frames := 0, cells := 0, slots := 0, locals := 0 }
theorem np_X3_cells : yX3_cells.cls ≠ "java/lang/invoke/MethodHandle" ∧ yX3_cells.cls ≠ "java/lang/invoke/VarHandle" ∧ (parseMethodDescriptor yX3_cells.desc).map (fun d => d.parameters.length) = some 1 := by decide +kernel
set_option maxHeartbeats 4000000 in
set_option maxRecDepth 100000 in
theorem k_X3_cells (l : Launch) (D : va_G) (cs : CS) (a : Nat → Nat) (p0 : Int32) (S : MO) {r9 : Int32} (h : f_X3_cells p0 S = some r9) : MI l D cs yX3_cells cX3_cells 4 .int rm_X3_cells [.ref (a 0), .int p0] (wM cs.1 a S) r9 (wM cs.1 a S) := by
  refine MI_of (by decide) (Nat.le_of_ble_eq_true rfl) ?_
  rintro Γ rfl rfl rfl B ret
  show X Γ 4 0 0 0 [(0, .ref (a 0)), (1, .int p0)] [] (wM Γ.cs.1 a S)
  have h4 : ∀ (n9 : Nat) (x1 : Int32) (x2 : Int32) (x3 : Int32), lpf3 (b_X3_cells_4 S) n9 x1 x2 x3 = some r9 → X Γ 4 0 0 4 [(0, .ref (a 0)), (1, .int x1), (2, .int x2), (3, .int x3)] [] (wM Γ.cs.1 a S) := by
    refine lpf3_ind (fun K4 hK4 x1 x2 x3 h => ?_)
    unfold b_X3_cells_4 at h
    refine x_iload_n B (pc' := 5) 3 dX3_cells_4 rfl rfl rfl ?_
    refine x_bipush B (pc' := 7) 32 dX3_cells_5 (by decide) rfl ?_
    refine x_icmp_ge B 37 10 dX3_cells_7 (by decide) rfl (fun hc1 => ?_) (fun hc1 => ?_)
    · replace h := ite_t hc1 h
      refine x_iload_n B (pc' := 38) 2 dX3_cells_37 rfl rfl rfl ?_
      have h1 := Option.some.inj h
      subst h1
      exact ret rfl (by exact Nat.le_of_ble_eq_true rfl) (by exact Nat.le_of_ble_eq_true rfl) dX3_cells_38
    · replace h := ite_f hc1 h
      refine x_iload_n B (pc' := 11) 2 dX3_cells_10 rfl rfl rfl ?_
      refine x_aload_n B (pc' := 12) 0 dX3_cells_11 rfl rfl rfl ?_
      refine m_ref1 B (pc' := 15) wf_RX3_7 dX3_cells_12 rfl ?_
      refine x_bipush B (pc' := 17) 27 dX3_cells_15 (by decide) rfl ?_
      refine x_iload_n B (pc' := 18) 3 dX3_cells_17 rfl rfl rfl ?_
      refine x_iadd B (pc' := 19) dX3_cells_18 rfl ?_
      obtain ⟨hi2, h⟩ := gd_elim h
      refine m_ald1 B (pc' := 20) hi2 dX3_cells_19 rfl ?_
      refine x_iload_n B (pc' := 21) 1 dX3_cells_20 rfl rfl rfl ?_
      refine x_icmp_ne B 28 24 dX3_cells_21 (by decide) rfl (fun hc3 => ?_) (fun hc3 => ?_)
      · replace h := ite_f hc3 h
        refine x_iconst B (pc' := 29) 0 dX3_cells_28 (by decide) rfl ?_
        refine x_iadd B (pc' := 30) dX3_cells_29 rfl ?_
        obtain ⟨v4, ev4, h⟩ := nm_elim h
        refine x_topi ev4 ?_
        refine x_istore_n B (pc' := 31) [1, 2, 0, 3] [(0, .ref (a 0)), (1, .int x1), (2, .int v4), (3, .int x3)] dX3_cells_30 rfl (by decide) rfl rfl ?_
        obtain ⟨v5, ev5, h⟩ := nm_elim h
        refine x_iinc B (pc' := 34) v5 3 [1, 2, 3, 0] [(0, .ref (a 0)), (1, .int x1), (2, .int v4), (3, .int v5)] dX3_cells_31 rfl (by rw [ev5]; rfl) (by decide) rfl rfl ?_
        refine x_goto B (pc' := 4) dX3_cells_34 (by decide) ?_
        exact hK4 _ _ _ h
      · replace h := ite_t hc3 h
        refine x_iconst B (pc' := 25) 1 dX3_cells_24 (by decide) rfl ?_
        refine x_goto B (pc' := 29) dX3_cells_25 (by decide) ?_
        refine x_iadd B (pc' := 30) dX3_cells_29 rfl ?_
        obtain ⟨v6, ev6, h⟩ := nm_elim h
        refine x_topi ev6 ?_
        refine x_istore_n B (pc' := 31) [1, 2, 0, 3] [(0, .ref (a 0)), (1, .int x1), (2, .int v6), (3, .int x3)] dX3_cells_30 rfl (by decide) rfl rfl ?_
        obtain ⟨v7, ev7, h⟩ := nm_elim h
        refine x_iinc B (pc' := 34) v7 3 [1, 2, 3, 0] [(0, .ref (a 0)), (1, .int x1), (2, .int v6), (3, .int v7)] dX3_cells_31 rfl (by rw [ev7]; rfl) (by decide) rfl rfl ?_
        refine x_goto B (pc' := 4) dX3_cells_34 (by decide) ?_
        exact hK4 _ _ _ h
  unfold f_X3_cells at h
  refine x_iconst B (pc' := 1) 0 dX3_cells_0 (by decide) rfl ?_
  refine x_istore_n B (pc' := 2) [1, 2, 0] [(0, .ref (a 0)), (1, .int p0), (2, .int (0 : Int32))] dX3_cells_1 rfl (by decide) rfl rfl ?_
  refine x_iconst B (pc' := 3) 0 dX3_cells_2 (by decide) rfl ?_
  refine x_istore_n B (pc' := 4) [1, 2, 3, 0] [(0, .ref (a 0)), (1, .int p0), (2, .int (0 : Int32)), (3, .int (0 : Int32))] dX3_cells_3 rfl (by decide) rfl rfl ?_
  exact h4  _ _ _ _ h
def b_X3_placeOf_4 (S : MO) (K4 : Int32 → Int32 → Int32 → Option Int32) (x1 : Int32) (x2 : Int32) (x3 : Int32) : Option Int32 :=
  if (32 : Int32) ≤ x3 then (some x2) else (gd ((27 : Int32) + x3) 1085 (gd ((27 : Int32) + x1) 1085 (if ((S.2.1 1) (Int32.toNatClampNeg ((27 : Int32) + x3))) = ((S.2.1 1) (Int32.toNatClampNeg ((27 : Int32) + x1))) then (gd ((123 : Int32) + x3) 1085 (gd ((123 : Int32) + x1) 1085 (if ((S.2.1 1) (Int32.toNatClampNeg ((123 : Int32) + x1))) ≤ ((S.2.1 1) (Int32.toNatClampNeg ((123 : Int32) + x3))) then (nm (fun (v10 : Int32) => nm (fun (v11 : Int32) => K4 x1 v10 v11) (x3 + 1)) (x2 + (0 : Int32))) else (nm (fun (v12 : Int32) => nm (fun (v13 : Int32) => K4 x1 v12 v13) (x3 + 1)) (x2 + (1 : Int32)))))) else (nm (fun (v5 : Int32) => nm (fun (v6 : Int32) => K4 x1 v5 v6) (x3 + 1)) (x2 + (0 : Int32))))))
def f_X3_placeOf (p0 : Int32) (S : MO) : Option Int32 :=
  lpf3 (b_X3_placeOf_4 S) FU p0 (0 : Int32) (0 : Int32)
abbrev rm_X3_placeOf : Room := { frames := 0, cells := 0, slots := 0, locals := 0 }
theorem np_X3_placeOf : yX3_placeOf.cls ≠ "java/lang/invoke/MethodHandle" ∧ yX3_placeOf.cls ≠ "java/lang/invoke/VarHandle" ∧ (parseMethodDescriptor yX3_placeOf.desc).map (fun d => d.parameters.length) = some 1 := by decide +kernel
set_option maxHeartbeats 4000000 in
set_option maxRecDepth 100000 in
theorem k_X3_placeOf (l : Launch) (D : va_G) (cs : CS) (a : Nat → Nat) (p0 : Int32) (S : MO) {r9 : Int32} (h : f_X3_placeOf p0 S = some r9) : MI l D cs yX3_placeOf cX3_placeOf 4 .int rm_X3_placeOf [.ref (a 0), .int p0] (wM cs.1 a S) r9 (wM cs.1 a S) := by
  refine MI_of (by decide) (Nat.le_of_ble_eq_true rfl) ?_
  rintro Γ rfl rfl rfl B ret
  show X Γ 4 0 0 0 [(0, .ref (a 0)), (1, .int p0)] [] (wM Γ.cs.1 a S)
  have h4 : ∀ (n9 : Nat) (x1 : Int32) (x2 : Int32) (x3 : Int32), lpf3 (b_X3_placeOf_4 S) n9 x1 x2 x3 = some r9 → X Γ 4 0 0 4 [(0, .ref (a 0)), (1, .int x1), (2, .int x2), (3, .int x3)] [] (wM Γ.cs.1 a S) := by
    refine lpf3_ind (fun K4 hK4 x1 x2 x3 h => ?_)
    unfold b_X3_placeOf_4 at h
    refine x_iload_n B (pc' := 5) 3 dX3_placeOf_4 rfl rfl rfl ?_
    refine x_bipush B (pc' := 7) 32 dX3_placeOf_5 (by decide) rfl ?_
    refine x_icmp_ge B 66 10 dX3_placeOf_7 (by decide) rfl (fun hc1 => ?_) (fun hc1 => ?_)
    · replace h := ite_t hc1 h
      refine x_iload_n B (pc' := 67) 2 dX3_placeOf_66 rfl rfl rfl ?_
      have h1 := Option.some.inj h
      subst h1
      exact ret rfl (by exact Nat.le_of_ble_eq_true rfl) (by exact Nat.le_of_ble_eq_true rfl) dX3_placeOf_67
    · replace h := ite_f hc1 h
      refine x_iload_n B (pc' := 11) 2 dX3_placeOf_10 rfl rfl rfl ?_
      refine x_aload_n B (pc' := 12) 0 dX3_placeOf_11 rfl rfl rfl ?_
      refine m_ref1 B (pc' := 15) wf_RX3_7 dX3_placeOf_12 rfl ?_
      refine x_bipush B (pc' := 17) 27 dX3_placeOf_15 (by decide) rfl ?_
      refine x_iload_n B (pc' := 18) 3 dX3_placeOf_17 rfl rfl rfl ?_
      refine x_iadd B (pc' := 19) dX3_placeOf_18 rfl ?_
      obtain ⟨hi2, h⟩ := gd_elim h
      refine m_ald1 B (pc' := 20) hi2 dX3_placeOf_19 rfl ?_
      refine x_aload_n B (pc' := 21) 0 dX3_placeOf_20 rfl rfl rfl ?_
      refine m_ref1 B (pc' := 24) wf_RX3_7 dX3_placeOf_21 rfl ?_
      refine x_bipush B (pc' := 26) 27 dX3_placeOf_24 (by decide) rfl ?_
      refine x_iload_n B (pc' := 27) 1 dX3_placeOf_26 rfl rfl rfl ?_
      refine x_iadd B (pc' := 28) dX3_placeOf_27 rfl ?_
      obtain ⟨hi3, h⟩ := gd_elim h
      refine m_ald1 B (pc' := 29) hi3 dX3_placeOf_28 rfl ?_
      refine x_icmp_ne B 57 32 dX3_placeOf_29 (by decide) rfl (fun hc4 => ?_) (fun hc4 => ?_)
      · replace h := ite_f hc4 h
        refine x_iconst B (pc' := 58) 0 dX3_placeOf_57 (by decide) rfl ?_
        refine x_iadd B (pc' := 59) dX3_placeOf_58 rfl ?_
        obtain ⟨v5, ev5, h⟩ := nm_elim h
        refine x_topi ev5 ?_
        refine x_istore_n B (pc' := 60) [1, 2, 0, 3] [(0, .ref (a 0)), (1, .int x1), (2, .int v5), (3, .int x3)] dX3_placeOf_59 rfl (by decide) rfl rfl ?_
        obtain ⟨v6, ev6, h⟩ := nm_elim h
        refine x_iinc B (pc' := 63) v6 3 [1, 2, 3, 0] [(0, .ref (a 0)), (1, .int x1), (2, .int v5), (3, .int v6)] dX3_placeOf_60 rfl (by rw [ev6]; rfl) (by decide) rfl rfl ?_
        refine x_goto B (pc' := 4) dX3_placeOf_63 (by decide) ?_
        exact hK4 _ _ _ h
      · replace h := ite_t hc4 h
        refine x_aload_n B (pc' := 33) 0 dX3_placeOf_32 rfl rfl rfl ?_
        refine m_ref1 B (pc' := 36) wf_RX3_7 dX3_placeOf_33 rfl ?_
        refine x_bipush B (pc' := 38) 123 dX3_placeOf_36 (by decide) rfl ?_
        refine x_iload_n B (pc' := 39) 3 dX3_placeOf_38 rfl rfl rfl ?_
        refine x_iadd B (pc' := 40) dX3_placeOf_39 rfl ?_
        obtain ⟨hi7, h⟩ := gd_elim h
        refine m_ald1 B (pc' := 41) hi7 dX3_placeOf_40 rfl ?_
        refine x_aload_n B (pc' := 42) 0 dX3_placeOf_41 rfl rfl rfl ?_
        refine m_ref1 B (pc' := 45) wf_RX3_7 dX3_placeOf_42 rfl ?_
        refine x_bipush B (pc' := 47) 123 dX3_placeOf_45 (by decide) rfl ?_
        refine x_iload_n B (pc' := 48) 1 dX3_placeOf_47 rfl rfl rfl ?_
        refine x_iadd B (pc' := 49) dX3_placeOf_48 rfl ?_
        obtain ⟨hi8, h⟩ := gd_elim h
        refine m_ald1 B (pc' := 50) hi8 dX3_placeOf_49 rfl ?_
        refine x_icmp_ge B 57 53 dX3_placeOf_50 (by decide) rfl (fun hc9 => ?_) (fun hc9 => ?_)
        · replace h := ite_t hc9 h
          refine x_iconst B (pc' := 58) 0 dX3_placeOf_57 (by decide) rfl ?_
          refine x_iadd B (pc' := 59) dX3_placeOf_58 rfl ?_
          obtain ⟨v10, ev10, h⟩ := nm_elim h
          refine x_topi ev10 ?_
          refine x_istore_n B (pc' := 60) [1, 2, 0, 3] [(0, .ref (a 0)), (1, .int x1), (2, .int v10), (3, .int x3)] dX3_placeOf_59 rfl (by decide) rfl rfl ?_
          obtain ⟨v11, ev11, h⟩ := nm_elim h
          refine x_iinc B (pc' := 63) v11 3 [1, 2, 3, 0] [(0, .ref (a 0)), (1, .int x1), (2, .int v10), (3, .int v11)] dX3_placeOf_60 rfl (by rw [ev11]; rfl) (by decide) rfl rfl ?_
          refine x_goto B (pc' := 4) dX3_placeOf_63 (by decide) ?_
          exact hK4 _ _ _ h
        · replace h := ite_f hc9 h
          refine x_iconst B (pc' := 54) 1 dX3_placeOf_53 (by decide) rfl ?_
          refine x_goto B (pc' := 58) dX3_placeOf_54 (by decide) ?_
          refine x_iadd B (pc' := 59) dX3_placeOf_58 rfl ?_
          obtain ⟨v12, ev12, h⟩ := nm_elim h
          refine x_topi ev12 ?_
          refine x_istore_n B (pc' := 60) [1, 2, 0, 3] [(0, .ref (a 0)), (1, .int x1), (2, .int v12), (3, .int x3)] dX3_placeOf_59 rfl (by decide) rfl rfl ?_
          obtain ⟨v13, ev13, h⟩ := nm_elim h
          refine x_iinc B (pc' := 63) v13 3 [1, 2, 3, 0] [(0, .ref (a 0)), (1, .int x1), (2, .int v12), (3, .int v13)] dX3_placeOf_60 rfl (by rw [ev13]; rfl) (by decide) rfl rfl ?_
          refine x_goto B (pc' := 4) dX3_placeOf_63 (by decide) ?_
          exact hK4 _ _ _ h
  unfold f_X3_placeOf at h
  refine x_iconst B (pc' := 1) 0 dX3_placeOf_0 (by decide) rfl ?_
  refine x_istore_n B (pc' := 2) [1, 2, 0] [(0, .ref (a 0)), (1, .int p0), (2, .int (0 : Int32))] dX3_placeOf_1 rfl (by decide) rfl rfl ?_
  refine x_iconst B (pc' := 3) 0 dX3_placeOf_2 (by decide) rfl ?_
  refine x_istore_n B (pc' := 4) [1, 2, 3, 0] [(0, .ref (a 0)), (1, .int p0), (2, .int (0 : Int32)), (3, .int (0 : Int32))] dX3_placeOf_3 rfl (by decide) rfl rfl ?_
  exact h4  _ _ _ _ h
def b_X3_cellAt_2 (S : MO) (K2 : Int32 → Int32 → Int32 → Option Int32) (x1 : Int32) (x2 : Int32) (x3 : Int32) : Option Int32 :=
  if (32 : Int32) ≤ x3 then (some ((-1) : Int32)) else (gd ((27 : Int32) + x3) 1085 (if ((S.2.1 1) (Int32.toNatClampNeg ((27 : Int32) + x3))) = x1 then (bd (f_X3_placeOf x3 S) (fun (r5 : Int32) => if r5 = x2 then (some x3) else (nm (fun (v7 : Int32) => K2 x1 x2 v7) (x3 + 1)))) else (nm (fun (v4 : Int32) => K2 x1 x2 v4) (x3 + 1))))
def f_X3_cellAt (p0 : Int32) (p1 : Int32) (S : MO) : Option Int32 :=
  lpf3 (b_X3_cellAt_2 S) FU p0 p1 (0 : Int32)
abbrev rm_X3_cellAt : Room := { frames := 1, cells := 0, slots := 0, locals := 23 }
theorem np_X3_cellAt : yX3_cellAt.cls ≠ "java/lang/invoke/MethodHandle" ∧ yX3_cellAt.cls ≠ "java/lang/invoke/VarHandle" ∧ (parseMethodDescriptor yX3_cellAt.desc).map (fun d => d.parameters.length) = some 2 := by decide +kernel
set_option maxHeartbeats 4000000 in
set_option maxRecDepth 100000 in
theorem k_X3_cellAt (l : Launch) (D : va_G) (cs : CS) (a : Nat → Nat) (p0 : Int32) (p1 : Int32) (S : MO) {r9 : Int32} (h : f_X3_cellAt p0 p1 S = some r9) : MI l D cs yX3_cellAt cX3_cellAt 4 .int rm_X3_cellAt [.ref (a 0), .int p0, .int p1] (wM cs.1 a S) r9 (wM cs.1 a S) := by
  refine MI_of (by decide) (Nat.le_of_ble_eq_true rfl) ?_
  rintro Γ rfl rfl rfl B ret
  show X Γ 4 0 0 0 [(0, .ref (a 0)), (1, .int p0), (2, .int p1)] [] (wM Γ.cs.1 a S)
  have h2 : ∀ (n9 : Nat) (x1 : Int32) (x2 : Int32) (x3 : Int32), lpf3 (b_X3_cellAt_2 S) n9 x1 x2 x3 = some r9 → X Γ 4 0 0 2 [(0, .ref (a 0)), (1, .int x1), (2, .int x2), (3, .int x3)] [] (wM Γ.cs.1 a S) := by
    refine lpf3_ind (fun K2 hK2 x1 x2 x3 h => ?_)
    unfold b_X3_cellAt_2 at h
    refine x_iload_n B (pc' := 3) 3 dX3_cellAt_2 rfl rfl rfl ?_
    refine x_bipush B (pc' := 5) 32 dX3_cellAt_3 (by decide) rfl ?_
    refine x_icmp_ge B 38 8 dX3_cellAt_5 (by decide) rfl (fun hc1 => ?_) (fun hc1 => ?_)
    · replace h := ite_t hc1 h
      refine x_iconst B (pc' := 39) (-1) dX3_cellAt_38 (by decide) rfl ?_
      have h1 := Option.some.inj h
      subst h1
      exact ret rfl (by exact Nat.le_of_ble_eq_true rfl) (by exact Nat.le_of_ble_eq_true rfl) dX3_cellAt_39
    · replace h := ite_f hc1 h
      refine x_aload_n B (pc' := 9) 0 dX3_cellAt_8 rfl rfl rfl ?_
      refine m_ref1 B (pc' := 12) wf_RX3_7 dX3_cellAt_9 rfl ?_
      refine x_bipush B (pc' := 14) 27 dX3_cellAt_12 (by decide) rfl ?_
      refine x_iload_n B (pc' := 15) 3 dX3_cellAt_14 rfl rfl rfl ?_
      refine x_iadd B (pc' := 16) dX3_cellAt_15 rfl ?_
      obtain ⟨hi2, h⟩ := gd_elim h
      refine m_ald1 B (pc' := 17) hi2 dX3_cellAt_16 rfl ?_
      refine x_iload_n B (pc' := 18) 1 dX3_cellAt_17 rfl rfl rfl ?_
      refine x_icmp_ne B 32 21 dX3_cellAt_18 (by decide) rfl (fun hc3 => ?_) (fun hc3 => ?_)
      · replace h := ite_f hc3 h
        obtain ⟨v4, ev4, h⟩ := nm_elim h
        refine x_iinc B (pc' := 35) v4 3 [1, 2, 3, 0] [(0, .ref (a 0)), (1, .int x1), (2, .int x2), (3, .int v4)] dX3_cellAt_32 rfl (by rw [ev4]; rfl) (by decide) rfl rfl ?_
        refine x_goto B (pc' := 2) dX3_cellAt_35 (by decide) ?_
        exact hK2 _ _ _ h
      · replace h := ite_t hc3 h
        refine x_aload_n B (pc' := 22) 0 dX3_cellAt_21 rfl rfl rfl ?_
        refine x_iload_n B (pc' := 23) 3 dX3_cellAt_22 rfl rfl rfl ?_
        obtain ⟨r5, er5, h⟩ := bd_elim h
        refine x_selfVi B (pc' := 26) [.int x3] (k_X3_placeOf _ _ _ a x3 S er5) rfl rfl gv_RX3_24 rfl np_X3_placeOf ⟨Nat.le_of_ble_eq_true rfl, Nat.le_of_ble_eq_true rfl⟩ ⟨by exact Nat.le_of_ble_eq_true rfl, by exact Nat.le_of_ble_eq_true rfl⟩ rfl (Nat.le_of_ble_eq_true rfl) dX3_cellAt_23 rfl ?_
        refine x_iload_n B (pc' := 27) 2 dX3_cellAt_26 rfl rfl rfl ?_
        refine x_icmp_ne B 32 30 dX3_cellAt_27 (by decide) rfl (fun hc6 => ?_) (fun hc6 => ?_)
        · replace h := ite_f hc6 h
          obtain ⟨v7, ev7, h⟩ := nm_elim h
          refine x_iinc B (pc' := 35) v7 3 [1, 2, 3, 0] [(0, .ref (a 0)), (1, .int x1), (2, .int x2), (3, .int v7)] dX3_cellAt_32 rfl (by rw [ev7]; rfl) (by decide) rfl rfl ?_
          refine x_goto B (pc' := 2) dX3_cellAt_35 (by decide) ?_
          exact hK2 _ _ _ h
        · replace h := ite_t hc6 h
          refine x_iload_n B (pc' := 31) 3 dX3_cellAt_30 rfl rfl rfl ?_
          have h1 := Option.some.inj h
          subst h1
          exact ret rfl (by exact Nat.le_of_ble_eq_true rfl) (by exact Nat.le_of_ble_eq_true rfl) dX3_cellAt_31
  unfold f_X3_cellAt at h
  refine x_iconst B (pc' := 1) 0 dX3_cellAt_0 (by decide) rfl ?_
  refine x_istore_n B (pc' := 2) [1, 2, 3, 0] [(0, .ref (a 0)), (1, .int p0), (2, .int p1), (3, .int (0 : Int32))] dX3_cellAt_1 rfl (by decide) rfl rfl ?_
  exact h2  _ _ _ _ h
def f_X3_isWritable (p0 : Int32) (S : MO) : Option Int32 :=
  gd ((27 : Int32) + p0) 1085 (nm (fun (v2 : Int32) => if v2 = ((-1) : Int32) then (some (1 : Int32)) else (gd (1 : Int32) 1085 (if v2 = ((S.2.1 1) (Int32.toNatClampNeg (1 : Int32))) then (some (0 : Int32)) else (gd ((7 : Int32) + v2) 1085 (if ((S.2.1 1) (Int32.toNatClampNeg ((7 : Int32) + v2))) = 0 then (some (1 : Int32)) else (some (0 : Int32))))))) ((S.2.1 1) (Int32.toNatClampNeg ((27 : Int32) + p0))))
abbrev rm_X3_isWritable : Room := { frames := 0, cells := 0, slots := 0, locals := 0 }
theorem np_X3_isWritable : yX3_isWritable.cls ≠ "java/lang/invoke/MethodHandle" ∧ yX3_isWritable.cls ≠ "java/lang/invoke/VarHandle" ∧ (parseMethodDescriptor yX3_isWritable.desc).map (fun d => d.parameters.length) = some 1 := by decide +kernel
set_option maxHeartbeats 4000000 in
set_option maxRecDepth 100000 in
theorem k_X3_isWritable (l : Launch) (D : va_G) (cs : CS) (a : Nat → Nat) (p0 : Int32) (S : MO) {r9 : Int32} (h : f_X3_isWritable p0 S = some r9) : MI l D cs yX3_isWritable cX3_isWritable 3 .boolean rm_X3_isWritable [.ref (a 0), .int p0] (wM cs.1 a S) r9 (wM cs.1 a S) := by
  refine MI_of (by decide) (Nat.le_of_ble_eq_true rfl) ?_
  rintro Γ rfl rfl rfl B ret
  show X Γ 3 0 0 0 [(0, .ref (a 0)), (1, .int p0)] [] (wM Γ.cs.1 a S)
  unfold f_X3_isWritable at h
  refine x_aload_n B (pc' := 1) 0 dX3_isWritable_0 rfl rfl rfl ?_
  refine m_ref1 B (pc' := 4) wf_RX3_7 dX3_isWritable_1 rfl ?_
  refine x_bipush B (pc' := 6) 27 dX3_isWritable_4 (by decide) rfl ?_
  refine x_iload_n B (pc' := 7) 1 dX3_isWritable_6 rfl rfl rfl ?_
  refine x_iadd B (pc' := 8) dX3_isWritable_7 rfl ?_
  obtain ⟨hi1, h⟩ := gd_elim h
  refine m_ald1 B (pc' := 9) hi1 dX3_isWritable_8 rfl ?_
  obtain ⟨v2, ev2, h⟩ := nm_elim h
  refine x_topi ev2 ?_
  refine x_istore_n B (pc' := 10) [1, 2, 0] [(0, .ref (a 0)), (1, .int p0), (2, .int v2)] dX3_isWritable_9 rfl (by decide) rfl rfl ?_
  refine x_iload_n B (pc' := 11) 2 dX3_isWritable_10 rfl rfl rfl ?_
  refine x_iconst B (pc' := 12) (-1) dX3_isWritable_11 (by decide) rfl ?_
  refine x_icmp_eq B 37 15 dX3_isWritable_12 (by decide) rfl (fun hc3 => ?_) (fun hc3 => ?_)
  · replace h := ite_t hc3 h
    refine x_iconst B (pc' := 38) 1 dX3_isWritable_37 (by decide) rfl ?_
    refine x_goto B (pc' := 42) dX3_isWritable_38 (by decide) ?_
    have h1 := Option.some.inj h
    subst h1
    exact ret rfl (by exact Nat.le_of_ble_eq_true rfl) (by exact Nat.le_of_ble_eq_true rfl) dX3_isWritable_42
  · replace h := ite_f hc3 h
    refine x_iload_n B (pc' := 16) 2 dX3_isWritable_15 rfl rfl rfl ?_
    refine x_aload_n B (pc' := 17) 0 dX3_isWritable_16 rfl rfl rfl ?_
    refine m_ref1 B (pc' := 20) wf_RX3_7 dX3_isWritable_17 rfl ?_
    refine x_iconst B (pc' := 21) 1 dX3_isWritable_20 (by decide) rfl ?_
    obtain ⟨hi4, h⟩ := gd_elim h
    refine m_ald1 B (pc' := 22) hi4 dX3_isWritable_21 rfl ?_
    refine x_icmp_eq B 41 25 dX3_isWritable_22 (by decide) rfl (fun hc5 => ?_) (fun hc5 => ?_)
    · replace h := ite_t hc5 h
      refine x_iconst B (pc' := 42) 0 dX3_isWritable_41 (by decide) rfl ?_
      have h1 := Option.some.inj h
      subst h1
      exact ret rfl (by exact Nat.le_of_ble_eq_true rfl) (by exact Nat.le_of_ble_eq_true rfl) dX3_isWritable_42
    · replace h := ite_f hc5 h
      refine x_aload_n B (pc' := 26) 0 dX3_isWritable_25 rfl rfl rfl ?_
      refine m_ref1 B (pc' := 29) wf_RX3_7 dX3_isWritable_26 rfl ?_
      refine x_bipush B (pc' := 31) 7 dX3_isWritable_29 (by decide) rfl ?_
      refine x_iload_n B (pc' := 32) 2 dX3_isWritable_31 rfl rfl rfl ?_
      refine x_iadd B (pc' := 33) dX3_isWritable_32 rfl ?_
      obtain ⟨hi6, h⟩ := gd_elim h
      refine m_ald1 B (pc' := 34) hi6 dX3_isWritable_33 rfl ?_
      refine x_if_ne B 41 37 dX3_isWritable_34 (by decide) rfl (fun hc7 => ?_) (fun hc7 => ?_)
      · replace h := ite_f hc7 h
        refine x_iconst B (pc' := 42) 0 dX3_isWritable_41 (by decide) rfl ?_
        have h1 := Option.some.inj h
        subst h1
        exact ret rfl (by exact Nat.le_of_ble_eq_true rfl) (by exact Nat.le_of_ble_eq_true rfl) dX3_isWritable_42
      · replace h := ite_t hc7 h
        refine x_iconst B (pc' := 38) 1 dX3_isWritable_37 (by decide) rfl ?_
        refine x_goto B (pc' := 42) dX3_isWritable_38 (by decide) ?_
        have h1 := Option.some.inj h
        subst h1
        exact ret rfl (by exact Nat.le_of_ble_eq_true rfl) (by exact Nat.le_of_ble_eq_true rfl) dX3_isWritable_42
def b_X3_writable_4 (S : MO) (K4 : Int32 → Int32 → Option Int32) (x1 : Int32) (x2 : Int32) : Option Int32 :=
  if (32 : Int32) ≤ x2 then (some x1) else (bd (f_X3_isWritable x2 S) (fun (r2 : Int32) => if r2 = 0 then (nm (fun (v4 : Int32) => nm (fun (v5 : Int32) => K4 v4 v5) (x2 + 1)) (x1 + (0 : Int32))) else (nm (fun (v6 : Int32) => nm (fun (v7 : Int32) => K4 v6 v7) (x2 + 1)) (x1 + (1 : Int32)))))
def f_X3_writable (S : MO) : Option Int32 :=
  lpf2 (b_X3_writable_4 S) FU (0 : Int32) (0 : Int32)
abbrev rm_X3_writable : Room := { frames := 1, cells := 0, slots := 0, locals := 22 }
theorem np_X3_writable : yX3_writable.cls ≠ "java/lang/invoke/MethodHandle" ∧ yX3_writable.cls ≠ "java/lang/invoke/VarHandle" ∧ (parseMethodDescriptor yX3_writable.desc).map (fun d => d.parameters.length) = some 0 := by decide +kernel
set_option maxHeartbeats 4000000 in
set_option maxRecDepth 100000 in
theorem k_X3_writable (l : Launch) (D : va_G) (cs : CS) (a : Nat → Nat) (S : MO) {r9 : Int32} (h : f_X3_writable S = some r9) : MI l D cs yX3_writable cX3_writable 3 .int rm_X3_writable [.ref (a 0)] (wM cs.1 a S) r9 (wM cs.1 a S) := by
  refine MI_of (by decide) (Nat.le_of_ble_eq_true rfl) ?_
  rintro Γ rfl rfl rfl B ret
  show X Γ 3 0 0 0 [(0, .ref (a 0))] [] (wM Γ.cs.1 a S)
  have h4 : ∀ (n9 : Nat) (x1 : Int32) (x2 : Int32), lpf2 (b_X3_writable_4 S) n9 x1 x2 = some r9 → X Γ 3 0 0 4 [(0, .ref (a 0)), (1, .int x1), (2, .int x2)] [] (wM Γ.cs.1 a S) := by
    refine lpf2_ind (fun K4 hK4 x1 x2 h => ?_)
    unfold b_X3_writable_4 at h
    refine x_iload_n B (pc' := 5) 2 dX3_writable_4 rfl rfl rfl ?_
    refine x_bipush B (pc' := 7) 32 dX3_writable_5 (by decide) rfl ?_
    refine x_icmp_ge B 32 10 dX3_writable_7 (by decide) rfl (fun hc1 => ?_) (fun hc1 => ?_)
    · replace h := ite_t hc1 h
      refine x_iload_n B (pc' := 33) 1 dX3_writable_32 rfl rfl rfl ?_
      have h1 := Option.some.inj h
      subst h1
      exact ret rfl (by exact Nat.le_of_ble_eq_true rfl) (by exact Nat.le_of_ble_eq_true rfl) dX3_writable_33
    · replace h := ite_f hc1 h
      refine x_iload_n B (pc' := 11) 1 dX3_writable_10 rfl rfl rfl ?_
      refine x_aload_n B (pc' := 12) 0 dX3_writable_11 rfl rfl rfl ?_
      refine x_iload_n B (pc' := 13) 2 dX3_writable_12 rfl rfl rfl ?_
      obtain ⟨r2, er2, h⟩ := bd_elim h
      refine x_selfVi B (pc' := 16) [.int x2] (k_X3_isWritable _ _ _ a x2 S er2) rfl rfl gv_RX3_28 rfl np_X3_isWritable ⟨Nat.le_of_ble_eq_true rfl, Nat.le_of_ble_eq_true rfl⟩ ⟨by exact Nat.le_of_ble_eq_true rfl, by exact Nat.le_of_ble_eq_true rfl⟩ rfl (Nat.le_of_ble_eq_true rfl) dX3_writable_13 rfl ?_
      refine x_if_eq B 23 19 dX3_writable_16 (by decide) rfl (fun hc3 => ?_) (fun hc3 => ?_)
      · replace h := ite_t hc3 h
        refine x_iconst B (pc' := 24) 0 dX3_writable_23 (by decide) rfl ?_
        refine x_iadd B (pc' := 25) dX3_writable_24 rfl ?_
        obtain ⟨v4, ev4, h⟩ := nm_elim h
        refine x_topi ev4 ?_
        refine x_istore_n B (pc' := 26) [1, 0, 2] [(0, .ref (a 0)), (1, .int v4), (2, .int x2)] dX3_writable_25 rfl (by decide) rfl rfl ?_
        obtain ⟨v5, ev5, h⟩ := nm_elim h
        refine x_iinc B (pc' := 29) v5 2 [1, 2, 0] [(0, .ref (a 0)), (1, .int v4), (2, .int v5)] dX3_writable_26 rfl (by rw [ev5]; rfl) (by decide) rfl rfl ?_
        refine x_goto B (pc' := 4) dX3_writable_29 (by decide) ?_
        exact hK4 _ _ h
      · replace h := ite_f hc3 h
        refine x_iconst B (pc' := 20) 1 dX3_writable_19 (by decide) rfl ?_
        refine x_goto B (pc' := 24) dX3_writable_20 (by decide) ?_
        refine x_iadd B (pc' := 25) dX3_writable_24 rfl ?_
        obtain ⟨v6, ev6, h⟩ := nm_elim h
        refine x_topi ev6 ?_
        refine x_istore_n B (pc' := 26) [1, 0, 2] [(0, .ref (a 0)), (1, .int v6), (2, .int x2)] dX3_writable_25 rfl (by decide) rfl rfl ?_
        obtain ⟨v7, ev7, h⟩ := nm_elim h
        refine x_iinc B (pc' := 29) v7 2 [1, 2, 0] [(0, .ref (a 0)), (1, .int v6), (2, .int v7)] dX3_writable_26 rfl (by rw [ev7]; rfl) (by decide) rfl rfl ?_
        refine x_goto B (pc' := 4) dX3_writable_29 (by decide) ?_
        exact hK4 _ _ h
  unfold f_X3_writable at h
  refine x_iconst B (pc' := 1) 0 dX3_writable_0 (by decide) rfl ?_
  refine x_istore_n B (pc' := 2) [1, 0] [(0, .ref (a 0)), (1, .int (0 : Int32))] dX3_writable_1 rfl (by decide) rfl rfl ?_
  refine x_iconst B (pc' := 3) 0 dX3_writable_2 (by decide) rfl ?_
  refine x_istore_n B (pc' := 4) [1, 2, 0] [(0, .ref (a 0)), (1, .int (0 : Int32)), (2, .int (0 : Int32))] dX3_writable_3 rfl (by decide) rfl rfl ?_
  exact h4  _ _ _ h
def c_X3_leaves_243 (t0 : Int32) (t1 : Int32) (S : MO) : Option MO :=
  gd t1 1085 (nm (fun (S41 : MO) => some S41) (S.1, up2 S.2.1 1 (upd (S.2.1 1) (Int32.toNatClampNeg t1) t0), S.2.2))
def c_X3_leaves_196 (x1 : Int32) (t0 : Int32) (t1 : Int32) (S : MO) : Option MO :=
  gd t1 1085 (nm (fun (S33 : MO) => gd (5 : Int32) 1085 (if ((S33.2.1 1) (Int32.toNatClampNeg (5 : Int32))) = x1 then (c_X3_leaves_243 ((-1) : Int32) (5 : Int32) S33) else (gd (5 : Int32) 1085 (if ((S33.2.1 1) (Int32.toNatClampNeg (5 : Int32))) ≤ x1 then (gd (5 : Int32) 1085 (c_X3_leaves_243 ((S33.2.1 1) (Int32.toNatClampNeg (5 : Int32))) (5 : Int32) S33)) else (gd (5 : Int32) 1085 (c_X3_leaves_243 (((S33.2.1 1) (Int32.toNatClampNeg (5 : Int32))) - (1 : Int32)) (5 : Int32) S33)))))) (S.1, up2 S.2.1 1 (upd (S.2.1 1) (Int32.toNatClampNeg t1) t0), S.2.2))
def c_X3_leaves_168 (x1 : Int32) (t0 : Int32) (t1 : Int32) (S : MO) : Option MO :=
  gd t1 1085 (nm (fun (S28 : MO) => gd (5 : Int32) 1085 (if ((S28.2.1 1) (Int32.toNatClampNeg (5 : Int32))) = x1 then (c_X3_leaves_196 x1 ((-1) : Int32) (6 : Int32) S28) else (gd (6 : Int32) 1085 (c_X3_leaves_196 x1 ((S28.2.1 1) (Int32.toNatClampNeg (6 : Int32))) (6 : Int32) S28)))) (S.1, up2 S.2.1 1 (upd (S.2.1 1) (Int32.toNatClampNeg t1) t0), S.2.2))
def b_X3_leaves_66 (K66 : Int32 → Int32 → MO → Option MO) (x1 : Int32) (x2 : Int32) (S : MO) : Option MO :=
  gd (0 : Int32) 1085 (if ((S.2.1 1) (Int32.toNatClampNeg (0 : Int32))) ≤ x2 then (gd (1 : Int32) 1085 (if ((S.2.1 1) (Int32.toNatClampNeg (1 : Int32))) = x1 then (c_X3_leaves_168 x1 ((-1) : Int32) (1 : Int32) S) else (gd (1 : Int32) 1085 (if ((S.2.1 1) (Int32.toNatClampNeg (1 : Int32))) ≤ x1 then (gd (1 : Int32) 1085 (c_X3_leaves_168 x1 ((S.2.1 1) (Int32.toNatClampNeg (1 : Int32))) (1 : Int32) S)) else (gd (1 : Int32) 1085 (c_X3_leaves_168 x1 (((S.2.1 1) (Int32.toNatClampNeg (1 : Int32))) - (1 : Int32)) (1 : Int32) S)))))) else (gd (((7 : Int32) + x2) + (1 : Int32)) 1085 (gd ((7 : Int32) + x2) 1085 (nm (fun (S19 : MO) => gd (((17 : Int32) + x2) + (1 : Int32)) 1085 (gd ((17 : Int32) + x2) 1085 (nm (fun (S22 : MO) => nm (fun (v23 : Int32) => K66 x1 v23 S22) (x2 + 1)) (S19.1, up2 S19.2.1 1 (upd (S19.2.1 1) (Int32.toNatClampNeg ((17 : Int32) + x2)) ((S19.2.1 1) (Int32.toNatClampNeg (((17 : Int32) + x2) + (1 : Int32))))), S19.2.2)))) (S.1, up2 S.2.1 1 (upd (S.2.1 1) (Int32.toNatClampNeg ((7 : Int32) + x2)) ((S.2.1 1) (Int32.toNatClampNeg (((7 : Int32) + x2) + (1 : Int32))))), S.2.2)))))
def c_X3_leaves_47 (K2 : Int32 → Int32 → MO → Option MO) (x1 : Int32) (x2 : Int32) (t0 : Int32) (t1 : Int32) (S : MO) : Option MO :=
  gd t1 1085 (nm (fun (S25 : MO) => nm (fun (v26 : Int32) => K2 x1 v26 S25) (x2 + 1)) (S.1, up2 S.2.1 1 (upd (S.2.1 1) (Int32.toNatClampNeg t1) t0), S.2.2))
def b_X3_leaves_2 (K2 : Int32 → Int32 → MO → Option MO) (x1 : Int32) (x2 : Int32) (S : MO) : Option MO :=
  if (32 : Int32) ≤ x2 then (gd (0 : Int32) 1085 (gd (0 : Int32) 1085 (nm (fun (S4 : MO) => lpf3 (b_X3_leaves_66) FU x1 x1 S4) (S.1, up2 S.2.1 1 (upd (S.2.1 1) (Int32.toNatClampNeg (0 : Int32)) (((S.2.1 1) (Int32.toNatClampNeg (0 : Int32))) - (1 : Int32))), S.2.2)))) else (gd ((27 : Int32) + x2) 1085 (nm (fun (v6 : Int32) => if v6 = x1 then (c_X3_leaves_47 K2 x1 x2 ((-1) : Int32) ((27 : Int32) + x2) S) else (if v6 ≤ x1 then (c_X3_leaves_47 K2 x1 x2 v6 ((27 : Int32) + x2) S) else (c_X3_leaves_47 K2 x1 x2 (v6 - (1 : Int32)) ((27 : Int32) + x2) S))) ((S.2.1 1) (Int32.toNatClampNeg ((27 : Int32) + x2)))))
def f_X3_leaves (p0 : Int32) (S : MO) : Option MO :=
  lpf3 (b_X3_leaves_2) FU p0 (0 : Int32) S
abbrev rm_X3_leaves : Room := { frames := 0, cells := 0, slots := 0, locals := 0 }
theorem np_X3_leaves : yX3_leaves.cls ≠ "java/lang/invoke/MethodHandle" ∧ yX3_leaves.cls ≠ "java/lang/invoke/VarHandle" ∧ (parseMethodDescriptor yX3_leaves.desc).map (fun d => d.parameters.length) = some 1 := by decide +kernel
set_option maxHeartbeats 4000000 in
set_option maxRecDepth 100000 in
theorem k_X3_leaves (l : Launch) (D : va_G) (cs : CS) (a : Nat → Nat) (p0 : Int32) (S : MO) {S9 : MO} (h : f_X3_leaves p0 S = some S9) : MV l D cs yX3_leaves cX3_leaves 4 rm_X3_leaves [.ref (a 0), .int p0] (wM cs.1 a S) (wM cs.1 a S9) := by
  refine MV_of (by decide) (Nat.le_of_ble_eq_true rfl) ?_
  rintro Γ rfl rfl rfl B ret
  show X Γ 4 0 0 0 [(0, .ref (a 0)), (1, .int p0)] [] (wM Γ.cs.1 a S)
  have h243 : ∀ (t0 : Int32) (t1 : Int32) (S : MO), c_X3_leaves_243  t0 t1 S = some S9 → X Γ 4 0 0 243 [] [.int t0, .int t1, .ref (a 1)] (wM Γ.cs.1 a S) := by
    intro  t0 t1 S h
    unfold c_X3_leaves_243 at h
    obtain ⟨hi40, h⟩ := gd_elim h
    obtain ⟨S41, eS41, h⟩ := nm_elim h
    refine m_ast1 B (pc' := 244) hi40 dX3_leaves_243 rfl ?_
    refine m_wd eS41 ?_
    cases h
    exact ret (by exact Nat.le_of_ble_eq_true rfl) (by exact Nat.le_of_ble_eq_true rfl) dX3_leaves_244
  have h196 : ∀ (x1 : Int32) (t0 : Int32) (t1 : Int32) (S : MO), c_X3_leaves_196  x1 t0 t1 S = some S9 → X Γ 4 0 0 196 [(0, .ref (a 0)), (1, .int x1)] [.int t0, .int t1, .ref (a 1)] (wM Γ.cs.1 a S) := by
    intro  x1 t0 t1 S h
    unfold c_X3_leaves_196 at h
    obtain ⟨hi32, h⟩ := gd_elim h
    obtain ⟨S33, eS33, h⟩ := nm_elim h
    refine m_ast1 B (pc' := 197) hi32 dX3_leaves_196 rfl ?_
    refine m_wd eS33 ?_
    refine x_aload_n B (pc' := 198) 0 dX3_leaves_197 rfl rfl rfl ?_
    refine m_ref1 B (pc' := 201) wf_RX3_7 dX3_leaves_198 rfl ?_
    refine x_iconst B (pc' := 202) 5 dX3_leaves_201 (by decide) rfl ?_
    refine x_aload_n B (pc' := 203) 0 dX3_leaves_202 rfl rfl rfl ?_
    refine m_ref1 B (pc' := 206) wf_RX3_7 dX3_leaves_203 rfl ?_
    refine x_iconst B (pc' := 207) 5 dX3_leaves_206 (by decide) rfl ?_
    obtain ⟨hi34, h⟩ := gd_elim h
    refine m_ald1 B (pc' := 208) hi34 dX3_leaves_207 rfl ?_
    refine x_iload_n B (pc' := 209) 1 dX3_leaves_208 rfl rfl rfl ?_
    refine x_icmp_ne B 216 212 dX3_leaves_209 (by decide) rfl (fun hc35 => ?_) (fun hc35 => ?_)
    · replace h := ite_f hc35 h
      refine x_aload_n B (pc' := 217) 0 dX3_leaves_216 rfl rfl rfl ?_
      refine m_ref1 B (pc' := 220) wf_RX3_7 dX3_leaves_217 rfl ?_
      refine x_iconst B (pc' := 221) 5 dX3_leaves_220 (by decide) rfl ?_
      obtain ⟨hi36, h⟩ := gd_elim h
      refine m_ald1 B (pc' := 222) hi36 dX3_leaves_221 rfl ?_
      refine x_iload_n B (pc' := 223) 1 dX3_leaves_222 rfl rfl rfl ?_
      refine x_icmp_le B 237 226 dX3_leaves_223 (by decide) rfl (fun hc37 => ?_) (fun hc37 => ?_)
      · replace h := ite_t hc37 h
        refine x_aload_n B (pc' := 238) 0 dX3_leaves_237 rfl rfl rfl ?_
        refine m_ref1 B (pc' := 241) wf_RX3_7 dX3_leaves_238 rfl ?_
        refine x_iconst B (pc' := 242) 5 dX3_leaves_241 (by decide) rfl ?_
        obtain ⟨hi38, h⟩ := gd_elim h
        refine m_ald1 B (pc' := 243) hi38 dX3_leaves_242 rfl ?_
        refine x_lv [] (lv' := []) rfl ?_
        exact h243  _ _ _ h
      · replace h := ite_f hc37 h
        refine x_aload_n B (pc' := 227) 0 dX3_leaves_226 rfl rfl rfl ?_
        refine m_ref1 B (pc' := 230) wf_RX3_7 dX3_leaves_227 rfl ?_
        refine x_iconst B (pc' := 231) 5 dX3_leaves_230 (by decide) rfl ?_
        obtain ⟨hi39, h⟩ := gd_elim h
        refine m_ald1 B (pc' := 232) hi39 dX3_leaves_231 rfl ?_
        refine x_iconst B (pc' := 233) 1 dX3_leaves_232 (by decide) rfl ?_
        refine x_isub B (pc' := 234) dX3_leaves_233 rfl ?_
        refine x_goto B (pc' := 243) dX3_leaves_234 (by decide) ?_
        refine x_lv [] (lv' := []) rfl ?_
        exact h243  _ _ _ h
    · replace h := ite_t hc35 h
      refine x_iconst B (pc' := 213) (-1) dX3_leaves_212 (by decide) rfl ?_
      refine x_goto B (pc' := 243) dX3_leaves_213 (by decide) ?_
      refine x_lv [] (lv' := []) rfl ?_
      exact h243  _ _ _ h
  have h168 : ∀ (x1 : Int32) (t0 : Int32) (t1 : Int32) (S : MO), c_X3_leaves_168  x1 t0 t1 S = some S9 → X Γ 4 0 0 168 [(0, .ref (a 0)), (1, .int x1)] [.int t0, .int t1, .ref (a 1)] (wM Γ.cs.1 a S) := by
    intro  x1 t0 t1 S h
    unfold c_X3_leaves_168 at h
    obtain ⟨hi27, h⟩ := gd_elim h
    obtain ⟨S28, eS28, h⟩ := nm_elim h
    refine m_ast1 B (pc' := 169) hi27 dX3_leaves_168 rfl ?_
    refine m_wd eS28 ?_
    refine x_aload_n B (pc' := 170) 0 dX3_leaves_169 rfl rfl rfl ?_
    refine m_ref1 B (pc' := 173) wf_RX3_7 dX3_leaves_170 rfl ?_
    refine x_bipush B (pc' := 175) 6 dX3_leaves_173 (by decide) rfl ?_
    refine x_aload_n B (pc' := 176) 0 dX3_leaves_175 rfl rfl rfl ?_
    refine m_ref1 B (pc' := 179) wf_RX3_7 dX3_leaves_176 rfl ?_
    refine x_iconst B (pc' := 180) 5 dX3_leaves_179 (by decide) rfl ?_
    obtain ⟨hi29, h⟩ := gd_elim h
    refine m_ald1 B (pc' := 181) hi29 dX3_leaves_180 rfl ?_
    refine x_iload_n B (pc' := 182) 1 dX3_leaves_181 rfl rfl rfl ?_
    refine x_icmp_ne B 189 185 dX3_leaves_182 (by decide) rfl (fun hc30 => ?_) (fun hc30 => ?_)
    · replace h := ite_f hc30 h
      refine x_aload_n B (pc' := 190) 0 dX3_leaves_189 rfl rfl rfl ?_
      refine m_ref1 B (pc' := 193) wf_RX3_7 dX3_leaves_190 rfl ?_
      refine x_bipush B (pc' := 195) 6 dX3_leaves_193 (by decide) rfl ?_
      obtain ⟨hi31, h⟩ := gd_elim h
      refine m_ald1 B (pc' := 196) hi31 dX3_leaves_195 rfl ?_
      exact h196  _ _ _ _ h
    · replace h := ite_t hc30 h
      refine x_iconst B (pc' := 186) (-1) dX3_leaves_185 (by decide) rfl ?_
      refine x_goto B (pc' := 196) dX3_leaves_186 (by decide) ?_
      exact h196  _ _ _ _ h
  have h66 : ∀ (n9 : Nat) (x1 : Int32) (x2 : Int32) (S : MO), lpf3 (b_X3_leaves_66) n9 x1 x2 S = some S9 → X Γ 4 0 0 66 [(0, .ref (a 0)), (1, .int x1), (2, .int x2)] [] (wM Γ.cs.1 a S) := by
    refine lpf3_ind (fun K66 hK66 x1 x2 S h => ?_)
    unfold b_X3_leaves_66 at h
    refine x_iload_n B (pc' := 67) 2 dX3_leaves_66 rfl rfl rfl ?_
    refine x_aload_n B (pc' := 68) 0 dX3_leaves_67 rfl rfl rfl ?_
    refine m_ref1 B (pc' := 71) wf_RX3_7 dX3_leaves_68 rfl ?_
    refine x_iconst B (pc' := 72) 0 dX3_leaves_71 (by decide) rfl ?_
    obtain ⟨hi9, h⟩ := gd_elim h
    refine m_ald1 B (pc' := 73) hi9 dX3_leaves_72 rfl ?_
    refine x_icmp_ge B 122 76 dX3_leaves_73 (by decide) rfl (fun hc10 => ?_) (fun hc10 => ?_)
    · replace h := ite_t hc10 h
      refine x_aload_n B (pc' := 123) 0 dX3_leaves_122 rfl rfl rfl ?_
      refine m_ref1 B (pc' := 126) wf_RX3_7 dX3_leaves_123 rfl ?_
      refine x_iconst B (pc' := 127) 1 dX3_leaves_126 (by decide) rfl ?_
      refine x_aload_n B (pc' := 128) 0 dX3_leaves_127 rfl rfl rfl ?_
      refine m_ref1 B (pc' := 131) wf_RX3_7 dX3_leaves_128 rfl ?_
      refine x_iconst B (pc' := 132) 1 dX3_leaves_131 (by decide) rfl ?_
      obtain ⟨hi11, h⟩ := gd_elim h
      refine m_ald1 B (pc' := 133) hi11 dX3_leaves_132 rfl ?_
      refine x_iload_n B (pc' := 134) 1 dX3_leaves_133 rfl rfl rfl ?_
      refine x_icmp_ne B 141 137 dX3_leaves_134 (by decide) rfl (fun hc12 => ?_) (fun hc12 => ?_)
      · replace h := ite_f hc12 h
        refine x_aload_n B (pc' := 142) 0 dX3_leaves_141 rfl rfl rfl ?_
        refine m_ref1 B (pc' := 145) wf_RX3_7 dX3_leaves_142 rfl ?_
        refine x_iconst B (pc' := 146) 1 dX3_leaves_145 (by decide) rfl ?_
        obtain ⟨hi13, h⟩ := gd_elim h
        refine m_ald1 B (pc' := 147) hi13 dX3_leaves_146 rfl ?_
        refine x_iload_n B (pc' := 148) 1 dX3_leaves_147 rfl rfl rfl ?_
        refine x_icmp_le B 162 151 dX3_leaves_148 (by decide) rfl (fun hc14 => ?_) (fun hc14 => ?_)
        · replace h := ite_t hc14 h
          refine x_aload_n B (pc' := 163) 0 dX3_leaves_162 rfl rfl rfl ?_
          refine m_ref1 B (pc' := 166) wf_RX3_7 dX3_leaves_163 rfl ?_
          refine x_iconst B (pc' := 167) 1 dX3_leaves_166 (by decide) rfl ?_
          obtain ⟨hi15, h⟩ := gd_elim h
          refine m_ald1 B (pc' := 168) hi15 dX3_leaves_167 rfl ?_
          refine x_lv [0, 1] (lv' := [(0, .ref (a 0)), (1, .int x1)]) rfl ?_
          exact h168  _ _ _ _ h
        · replace h := ite_f hc14 h
          refine x_aload_n B (pc' := 152) 0 dX3_leaves_151 rfl rfl rfl ?_
          refine m_ref1 B (pc' := 155) wf_RX3_7 dX3_leaves_152 rfl ?_
          refine x_iconst B (pc' := 156) 1 dX3_leaves_155 (by decide) rfl ?_
          obtain ⟨hi16, h⟩ := gd_elim h
          refine m_ald1 B (pc' := 157) hi16 dX3_leaves_156 rfl ?_
          refine x_iconst B (pc' := 158) 1 dX3_leaves_157 (by decide) rfl ?_
          refine x_isub B (pc' := 159) dX3_leaves_158 rfl ?_
          refine x_goto B (pc' := 168) dX3_leaves_159 (by decide) ?_
          refine x_lv [0, 1] (lv' := [(0, .ref (a 0)), (1, .int x1)]) rfl ?_
          exact h168  _ _ _ _ h
      · replace h := ite_t hc12 h
        refine x_iconst B (pc' := 138) (-1) dX3_leaves_137 (by decide) rfl ?_
        refine x_goto B (pc' := 168) dX3_leaves_138 (by decide) ?_
        refine x_lv [0, 1] (lv' := [(0, .ref (a 0)), (1, .int x1)]) rfl ?_
        exact h168  _ _ _ _ h
    · replace h := ite_f hc10 h
      refine x_aload_n B (pc' := 77) 0 dX3_leaves_76 rfl rfl rfl ?_
      refine m_ref1 B (pc' := 80) wf_RX3_7 dX3_leaves_77 rfl ?_
      refine x_bipush B (pc' := 82) 7 dX3_leaves_80 (by decide) rfl ?_
      refine x_iload_n B (pc' := 83) 2 dX3_leaves_82 rfl rfl rfl ?_
      refine x_iadd B (pc' := 84) dX3_leaves_83 rfl ?_
      refine x_aload_n B (pc' := 85) 0 dX3_leaves_84 rfl rfl rfl ?_
      refine m_ref1 B (pc' := 88) wf_RX3_7 dX3_leaves_85 rfl ?_
      refine x_bipush B (pc' := 90) 7 dX3_leaves_88 (by decide) rfl ?_
      refine x_iload_n B (pc' := 91) 2 dX3_leaves_90 rfl rfl rfl ?_
      refine x_iadd B (pc' := 92) dX3_leaves_91 rfl ?_
      refine x_iconst B (pc' := 93) 1 dX3_leaves_92 (by decide) rfl ?_
      refine x_iadd B (pc' := 94) dX3_leaves_93 rfl ?_
      obtain ⟨hi17, h⟩ := gd_elim h
      refine m_ald1 B (pc' := 95) hi17 dX3_leaves_94 rfl ?_
      obtain ⟨hi18, h⟩ := gd_elim h
      obtain ⟨S19, eS19, h⟩ := nm_elim h
      refine m_ast1 B (pc' := 96) hi18 dX3_leaves_95 rfl ?_
      refine m_wd eS19 ?_
      refine x_aload_n B (pc' := 97) 0 dX3_leaves_96 rfl rfl rfl ?_
      refine m_ref1 B (pc' := 100) wf_RX3_7 dX3_leaves_97 rfl ?_
      refine x_bipush B (pc' := 102) 17 dX3_leaves_100 (by decide) rfl ?_
      refine x_iload_n B (pc' := 103) 2 dX3_leaves_102 rfl rfl rfl ?_
      refine x_iadd B (pc' := 104) dX3_leaves_103 rfl ?_
      refine x_aload_n B (pc' := 105) 0 dX3_leaves_104 rfl rfl rfl ?_
      refine m_ref1 B (pc' := 108) wf_RX3_7 dX3_leaves_105 rfl ?_
      refine x_bipush B (pc' := 110) 17 dX3_leaves_108 (by decide) rfl ?_
      refine x_iload_n B (pc' := 111) 2 dX3_leaves_110 rfl rfl rfl ?_
      refine x_iadd B (pc' := 112) dX3_leaves_111 rfl ?_
      refine x_iconst B (pc' := 113) 1 dX3_leaves_112 (by decide) rfl ?_
      refine x_iadd B (pc' := 114) dX3_leaves_113 rfl ?_
      obtain ⟨hi20, h⟩ := gd_elim h
      refine m_ald1 B (pc' := 115) hi20 dX3_leaves_114 rfl ?_
      obtain ⟨hi21, h⟩ := gd_elim h
      obtain ⟨S22, eS22, h⟩ := nm_elim h
      refine m_ast1 B (pc' := 116) hi21 dX3_leaves_115 rfl ?_
      refine m_wd eS22 ?_
      obtain ⟨v23, ev23, h⟩ := nm_elim h
      refine x_iinc B (pc' := 119) v23 2 [1, 2, 0] [(0, .ref (a 0)), (1, .int x1), (2, .int v23)] dX3_leaves_116 rfl (by rw [ev23]; rfl) (by decide) rfl rfl ?_
      refine x_goto B (pc' := 66) dX3_leaves_119 (by decide) ?_
      exact hK66 _ _ _ h
  have h47 : ∀ (K2 : Int32 → Int32 → MO → Option MO) (_ : ∀ x1 x2 S, K2 x1 x2 S = some S9 → X Γ 4 0 0 2 [(0, .ref (a 0)), (1, .int x1), (2, .int x2)] [] (wM Γ.cs.1 a S)) (x1 : Int32) (x2 : Int32) (t0 : Int32) (t1 : Int32) (S : MO), c_X3_leaves_47 K2 x1 x2 t0 t1 S = some S9 → X Γ 4 0 0 47 [(0, .ref (a 0)), (1, .int x1), (2, .int x2)] [.int t0, .int t1, .ref (a 1)] (wM Γ.cs.1 a S) := by
    intro K2 hK2 x1 x2 t0 t1 S h
    unfold c_X3_leaves_47 at h
    obtain ⟨hi24, h⟩ := gd_elim h
    obtain ⟨S25, eS25, h⟩ := nm_elim h
    refine m_ast1 B (pc' := 48) hi24 dX3_leaves_47 rfl ?_
    refine m_wd eS25 ?_
    obtain ⟨v26, ev26, h⟩ := nm_elim h
    refine x_iinc B (pc' := 51) v26 2 [1, 2, 0] [(0, .ref (a 0)), (1, .int x1), (2, .int v26)] dX3_leaves_48 rfl (by rw [ev26]; rfl) (by decide) rfl rfl ?_
    refine x_goto B (pc' := 2) dX3_leaves_51 (by decide) ?_
    exact hK2 _ _ _ h
  have h2 : ∀ (n9 : Nat) (x1 : Int32) (x2 : Int32) (S : MO), lpf3 (b_X3_leaves_2) n9 x1 x2 S = some S9 → X Γ 4 0 0 2 [(0, .ref (a 0)), (1, .int x1), (2, .int x2)] [] (wM Γ.cs.1 a S) := by
    refine lpf3_ind (fun K2 hK2 x1 x2 S h => ?_)
    unfold b_X3_leaves_2 at h
    refine x_iload_n B (pc' := 3) 2 dX3_leaves_2 rfl rfl rfl ?_
    refine x_bipush B (pc' := 5) 32 dX3_leaves_3 (by decide) rfl ?_
    refine x_icmp_ge B 54 8 dX3_leaves_5 (by decide) rfl (fun hc1 => ?_) (fun hc1 => ?_)
    · replace h := ite_t hc1 h
      refine x_aload_n B (pc' := 55) 0 dX3_leaves_54 rfl rfl rfl ?_
      refine m_ref1 B (pc' := 58) wf_RX3_7 dX3_leaves_55 rfl ?_
      refine x_iconst B (pc' := 59) 0 dX3_leaves_58 (by decide) rfl ?_
      refine x_dup2 B (pc' := 60) dX3_leaves_59 rfl rfl rfl ?_
      obtain ⟨hi2, h⟩ := gd_elim h
      refine m_ald1 B (pc' := 61) hi2 dX3_leaves_60 rfl ?_
      refine x_iconst B (pc' := 62) 1 dX3_leaves_61 (by decide) rfl ?_
      refine x_isub B (pc' := 63) dX3_leaves_62 rfl ?_
      obtain ⟨hi3, h⟩ := gd_elim h
      obtain ⟨S4, eS4, h⟩ := nm_elim h
      refine m_ast1 B (pc' := 64) hi3 dX3_leaves_63 rfl ?_
      refine m_wd eS4 ?_
      refine x_iload_n B (pc' := 65) 1 dX3_leaves_64 rfl rfl rfl ?_
      refine x_istore_n B (pc' := 66) [1, 2, 0] [(0, .ref (a 0)), (1, .int x1), (2, .int x1)] dX3_leaves_65 rfl (by decide) rfl rfl ?_
      exact h66  _ _ _ _ h
    · replace h := ite_f hc1 h
      refine x_aload_n B (pc' := 9) 0 dX3_leaves_8 rfl rfl rfl ?_
      refine m_ref1 B (pc' := 12) wf_RX3_7 dX3_leaves_9 rfl ?_
      refine x_bipush B (pc' := 14) 27 dX3_leaves_12 (by decide) rfl ?_
      refine x_iload_n B (pc' := 15) 2 dX3_leaves_14 rfl rfl rfl ?_
      refine x_iadd B (pc' := 16) dX3_leaves_15 rfl ?_
      obtain ⟨hi5, h⟩ := gd_elim h
      refine m_ald1 B (pc' := 17) hi5 dX3_leaves_16 rfl ?_
      obtain ⟨v6, ev6, h⟩ := nm_elim h
      refine x_topi ev6 ?_
      refine x_istore_n B (pc' := 18) [1, 2, 3, 0] [(0, .ref (a 0)), (1, .int x1), (2, .int x2), (3, .int v6)] dX3_leaves_17 rfl (by decide) rfl rfl ?_
      refine x_aload_n B (pc' := 19) 0 dX3_leaves_18 rfl rfl rfl ?_
      refine m_ref1 B (pc' := 22) wf_RX3_7 dX3_leaves_19 rfl ?_
      refine x_bipush B (pc' := 24) 27 dX3_leaves_22 (by decide) rfl ?_
      refine x_iload_n B (pc' := 25) 2 dX3_leaves_24 rfl rfl rfl ?_
      refine x_iadd B (pc' := 26) dX3_leaves_25 rfl ?_
      refine x_iload_n B (pc' := 27) 3 dX3_leaves_26 rfl rfl rfl ?_
      refine x_iload_n B (pc' := 28) 1 dX3_leaves_27 rfl rfl rfl ?_
      refine x_icmp_ne B 35 31 dX3_leaves_28 (by decide) rfl (fun hc7 => ?_) (fun hc7 => ?_)
      · replace h := ite_f hc7 h
        refine x_iload_n B (pc' := 36) 3 dX3_leaves_35 rfl rfl rfl ?_
        refine x_iload_n B (pc' := 37) 1 dX3_leaves_36 rfl rfl rfl ?_
        refine x_icmp_le B 46 40 dX3_leaves_37 (by decide) rfl (fun hc8 => ?_) (fun hc8 => ?_)
        · replace h := ite_t hc8 h
          refine x_iload_n B (pc' := 47) 3 dX3_leaves_46 rfl rfl rfl ?_
          refine x_lv [0, 1, 2] (lv' := [(0, .ref (a 0)), (1, .int x1), (2, .int x2)]) rfl ?_
          exact h47 K2 hK2 _ _ _ _ _ h
        · replace h := ite_f hc8 h
          refine x_iload_n B (pc' := 41) 3 dX3_leaves_40 rfl rfl rfl ?_
          refine x_iconst B (pc' := 42) 1 dX3_leaves_41 (by decide) rfl ?_
          refine x_isub B (pc' := 43) dX3_leaves_42 rfl ?_
          refine x_goto B (pc' := 47) dX3_leaves_43 (by decide) ?_
          refine x_lv [0, 1, 2] (lv' := [(0, .ref (a 0)), (1, .int x1), (2, .int x2)]) rfl ?_
          exact h47 K2 hK2 _ _ _ _ _ h
      · replace h := ite_t hc7 h
        refine x_iconst B (pc' := 32) (-1) dX3_leaves_31 (by decide) rfl ?_
        refine x_goto B (pc' := 47) dX3_leaves_32 (by decide) ?_
        refine x_lv [0, 1, 2] (lv' := [(0, .ref (a 0)), (1, .int x1), (2, .int x2)]) rfl ?_
        exact h47 K2 hK2 _ _ _ _ _ h
  unfold f_X3_leaves at h
  refine x_iconst B (pc' := 1) 0 dX3_leaves_0 (by decide) rfl ?_
  refine x_istore_n B (pc' := 2) [1, 2, 0] [(0, .ref (a 0)), (1, .int p0), (2, .int (0 : Int32))] dX3_leaves_1 rfl (by decide) rfl rfl ?_
  exact h2  _ _ _ _ h
def c_X3_loses_48 (x1 : Int32) (x2 : Int32) (t0 : Int32) (t1 : Int32) (t2 : Int32) (S : MO) : Option MO :=
  gd t2 1085 (nm (fun (S10 : MO) => gd ((27 : Int32) + x1) 1085 (nm (fun (S12 : MO) => gd ((17 : Int32) + x2) 1085 (gd ((17 : Int32) + x2) 1085 (nm (fun (S15 : MO) => bd (f_X3_cells x2 S15) (fun (r16 : Int32) => if r16 = 0 then (bd (f_X3_leaves x2 S15) (fun (S18 : MO) => gd (4 : Int32) 1085 (gd (4 : Int32) 1085 (nm (fun (S21 : MO) => some S21) (S18.1, up2 S18.2.1 1 (upd (S18.2.1 1) (Int32.toNatClampNeg (4 : Int32)) (((S18.2.1 1) (Int32.toNatClampNeg (4 : Int32))) + (1 : Int32))), S18.2.2))))) else (some S15))) (S12.1, up2 S12.2.1 1 (upd (S12.2.1 1) (Int32.toNatClampNeg ((17 : Int32) + x2)) (((S12.2.1 1) (Int32.toNatClampNeg ((17 : Int32) + x2))) + (1 : Int32))), S12.2.2)))) (S10.1, up2 S10.2.1 1 (upd (S10.2.1 1) (Int32.toNatClampNeg ((27 : Int32) + x1)) ((-1) : Int32)), S10.2.2))) (S.1, up2 S.2.1 1 (upd (S.2.1 1) (Int32.toNatClampNeg t2) (t1 - t0)), S.2.2))
def c_X3_loses_47 (x1 : Int32) (x2 : Int32) (t0 : Int32) (t1 : Int32) (S : MO) : Option MO :=
  c_X3_loses_48 x1 x2 (0 : Int32) t0 t1 S
def f_X3_loses (p0 : Int32) (S : MO) : Option MO :=
  gd ((27 : Int32) + p0) 1085 (nm (fun (v2 : Int32) => gd (6 : Int32) 1085 (gd (5 : Int32) 1085 (if ((S.2.1 1) (Int32.toNatClampNeg (5 : Int32))) = v2 then (bd (f_X3_placeOf p0 S) (fun (r6 : Int32) => gd (6 : Int32) 1085 (if ((S.2.1 1) (Int32.toNatClampNeg (6 : Int32))) ≤ r6 then (c_X3_loses_47 p0 v2 ((S.2.1 1) (Int32.toNatClampNeg (6 : Int32))) (6 : Int32) S) else (c_X3_loses_48 p0 v2 (1 : Int32) ((S.2.1 1) (Int32.toNatClampNeg (6 : Int32))) (6 : Int32) S)))) else (c_X3_loses_47 p0 v2 ((S.2.1 1) (Int32.toNatClampNeg (6 : Int32))) (6 : Int32) S)))) ((S.2.1 1) (Int32.toNatClampNeg ((27 : Int32) + p0))))
abbrev rm_X3_loses : Room := { frames := 1, cells := 0, slots := 0, locals := 23 }
theorem np_X3_loses : yX3_loses.cls ≠ "java/lang/invoke/MethodHandle" ∧ yX3_loses.cls ≠ "java/lang/invoke/VarHandle" ∧ (parseMethodDescriptor yX3_loses.desc).map (fun d => d.parameters.length) = some 1 := by decide +kernel
set_option maxHeartbeats 4000000 in
set_option maxRecDepth 100000 in
theorem k_X3_loses (l : Launch) (D : va_G) (cs : CS) (a : Nat → Nat) (p0 : Int32) (S : MO) {S9 : MO} (h : f_X3_loses p0 S = some S9) : MV l D cs yX3_loses cX3_loses 3 rm_X3_loses [.ref (a 0), .int p0] (wM cs.1 a S) (wM cs.1 a S9) := by
  refine MV_of (by decide) (Nat.le_of_ble_eq_true rfl) ?_
  rintro Γ rfl rfl rfl B ret
  show X Γ 3 0 0 0 [(0, .ref (a 0)), (1, .int p0)] [] (wM Γ.cs.1 a S)
  have h48 : ∀ (x1 : Int32) (x2 : Int32) (t0 : Int32) (t1 : Int32) (t2 : Int32) (S : MO), c_X3_loses_48  x1 x2 t0 t1 t2 S = some S9 → X Γ 3 0 0 48 [(0, .ref (a 0)), (1, .int x1), (2, .int x2)] [.int t0, .int t1, .int t2, .ref (a 1)] (wM Γ.cs.1 a S) := by
    intro  x1 x2 t0 t1 t2 S h
    unfold c_X3_loses_48 at h
    refine x_isub B (pc' := 49) dX3_loses_48 rfl ?_
    obtain ⟨hi9, h⟩ := gd_elim h
    obtain ⟨S10, eS10, h⟩ := nm_elim h
    refine m_ast1 B (pc' := 50) hi9 dX3_loses_49 rfl ?_
    refine m_wd eS10 ?_
    refine x_aload_n B (pc' := 51) 0 dX3_loses_50 rfl rfl rfl ?_
    refine m_ref1 B (pc' := 54) wf_RX3_7 dX3_loses_51 rfl ?_
    refine x_bipush B (pc' := 56) 27 dX3_loses_54 (by decide) rfl ?_
    refine x_iload_n B (pc' := 57) 1 dX3_loses_56 rfl rfl rfl ?_
    refine x_iadd B (pc' := 58) dX3_loses_57 rfl ?_
    refine x_iconst B (pc' := 59) (-1) dX3_loses_58 (by decide) rfl ?_
    obtain ⟨hi11, h⟩ := gd_elim h
    obtain ⟨S12, eS12, h⟩ := nm_elim h
    refine m_ast1 B (pc' := 60) hi11 dX3_loses_59 rfl ?_
    refine m_wd eS12 ?_
    refine x_aload_n B (pc' := 61) 0 dX3_loses_60 rfl rfl rfl ?_
    refine m_ref1 B (pc' := 64) wf_RX3_7 dX3_loses_61 rfl ?_
    refine x_bipush B (pc' := 66) 17 dX3_loses_64 (by decide) rfl ?_
    refine x_iload_n B (pc' := 67) 2 dX3_loses_66 rfl rfl rfl ?_
    refine x_iadd B (pc' := 68) dX3_loses_67 rfl ?_
    refine x_dup2 B (pc' := 69) dX3_loses_68 rfl rfl rfl ?_
    obtain ⟨hi13, h⟩ := gd_elim h
    refine m_ald1 B (pc' := 70) hi13 dX3_loses_69 rfl ?_
    refine x_iconst B (pc' := 71) 1 dX3_loses_70 (by decide) rfl ?_
    refine x_iadd B (pc' := 72) dX3_loses_71 rfl ?_
    obtain ⟨hi14, h⟩ := gd_elim h
    obtain ⟨S15, eS15, h⟩ := nm_elim h
    refine m_ast1 B (pc' := 73) hi14 dX3_loses_72 rfl ?_
    refine m_wd eS15 ?_
    refine x_aload_n B (pc' := 74) 0 dX3_loses_73 rfl rfl rfl ?_
    refine x_iload_n B (pc' := 75) 2 dX3_loses_74 rfl rfl rfl ?_
    obtain ⟨r16, er16, h⟩ := bd_elim h
    refine x_selfVi B (pc' := 78) [.int x2] (k_X3_cells _ _ _ a x2 S15 er16) rfl rfl gv_RX3_32 rfl np_X3_cells ⟨Nat.le_of_ble_eq_true rfl, Nat.le_of_ble_eq_true rfl⟩ ⟨by exact Nat.le_of_ble_eq_true rfl, by exact Nat.le_of_ble_eq_true rfl⟩ rfl (Nat.le_of_ble_eq_true rfl) dX3_loses_75 rfl ?_
    refine x_if_ne B 96 81 dX3_loses_78 (by decide) rfl (fun hc17 => ?_) (fun hc17 => ?_)
    · replace h := ite_f hc17 h
      cases h
      exact ret (by exact Nat.le_of_ble_eq_true rfl) (by exact Nat.le_of_ble_eq_true rfl) dX3_loses_96
    · replace h := ite_t hc17 h
      refine x_aload_n B (pc' := 82) 0 dX3_loses_81 rfl rfl rfl ?_
      refine x_iload_n B (pc' := 83) 2 dX3_loses_82 rfl rfl rfl ?_
      obtain ⟨S18, eS18, h⟩ := bd_elim h
      refine x_selfVv B (pc' := 86) [.int x2] (k_X3_leaves _ _ _ a x2 S15 eS18) rfl rfl gv_RX3_35 rfl np_X3_leaves ⟨Nat.le_of_ble_eq_true rfl, Nat.le_of_ble_eq_true rfl⟩ ⟨by exact Nat.le_of_ble_eq_true rfl, by exact Nat.le_of_ble_eq_true rfl⟩ rfl (Nat.le_of_ble_eq_true rfl) dX3_loses_83 rfl ?_
      refine x_aload_n B (pc' := 87) 0 dX3_loses_86 rfl rfl rfl ?_
      refine m_ref1 B (pc' := 90) wf_RX3_7 dX3_loses_87 rfl ?_
      refine x_iconst B (pc' := 91) 4 dX3_loses_90 (by decide) rfl ?_
      refine x_dup2 B (pc' := 92) dX3_loses_91 rfl rfl rfl ?_
      obtain ⟨hi19, h⟩ := gd_elim h
      refine m_ald1 B (pc' := 93) hi19 dX3_loses_92 rfl ?_
      refine x_iconst B (pc' := 94) 1 dX3_loses_93 (by decide) rfl ?_
      refine x_iadd B (pc' := 95) dX3_loses_94 rfl ?_
      obtain ⟨hi20, h⟩ := gd_elim h
      obtain ⟨S21, eS21, h⟩ := nm_elim h
      refine m_ast1 B (pc' := 96) hi20 dX3_loses_95 rfl ?_
      refine m_wd eS21 ?_
      cases h
      exact ret (by exact Nat.le_of_ble_eq_true rfl) (by exact Nat.le_of_ble_eq_true rfl) dX3_loses_96
  have h47 : ∀ (x1 : Int32) (x2 : Int32) (t0 : Int32) (t1 : Int32) (S : MO), c_X3_loses_47  x1 x2 t0 t1 S = some S9 → X Γ 3 0 0 47 [(0, .ref (a 0)), (1, .int x1), (2, .int x2)] [.int t0, .int t1, .ref (a 1)] (wM Γ.cs.1 a S) := by
    intro  x1 x2 t0 t1 S h
    unfold c_X3_loses_47 at h
    refine x_iconst B (pc' := 48) 0 dX3_loses_47 (by decide) rfl ?_
    exact h48  _ _ _ _ _ _ h
  unfold f_X3_loses at h
  refine x_aload_n B (pc' := 1) 0 dX3_loses_0 rfl rfl rfl ?_
  refine m_ref1 B (pc' := 4) wf_RX3_7 dX3_loses_1 rfl ?_
  refine x_bipush B (pc' := 6) 27 dX3_loses_4 (by decide) rfl ?_
  refine x_iload_n B (pc' := 7) 1 dX3_loses_6 rfl rfl rfl ?_
  refine x_iadd B (pc' := 8) dX3_loses_7 rfl ?_
  obtain ⟨hi1, h⟩ := gd_elim h
  refine m_ald1 B (pc' := 9) hi1 dX3_loses_8 rfl ?_
  obtain ⟨v2, ev2, h⟩ := nm_elim h
  refine x_topi ev2 ?_
  refine x_istore_n B (pc' := 10) [1, 2, 0] [(0, .ref (a 0)), (1, .int p0), (2, .int v2)] dX3_loses_9 rfl (by decide) rfl rfl ?_
  refine x_aload_n B (pc' := 11) 0 dX3_loses_10 rfl rfl rfl ?_
  refine m_ref1 B (pc' := 14) wf_RX3_7 dX3_loses_11 rfl ?_
  refine x_bipush B (pc' := 16) 6 dX3_loses_14 (by decide) rfl ?_
  refine x_dup2 B (pc' := 17) dX3_loses_16 rfl rfl rfl ?_
  obtain ⟨hi3, h⟩ := gd_elim h
  refine m_ald1 B (pc' := 18) hi3 dX3_loses_17 rfl ?_
  refine x_aload_n B (pc' := 19) 0 dX3_loses_18 rfl rfl rfl ?_
  refine m_ref1 B (pc' := 22) wf_RX3_7 dX3_loses_19 rfl ?_
  refine x_iconst B (pc' := 23) 5 dX3_loses_22 (by decide) rfl ?_
  obtain ⟨hi4, h⟩ := gd_elim h
  refine m_ald1 B (pc' := 24) hi4 dX3_loses_23 rfl ?_
  refine x_iload_n B (pc' := 25) 2 dX3_loses_24 rfl rfl rfl ?_
  refine x_icmp_ne B 47 28 dX3_loses_25 (by decide) rfl (fun hc5 => ?_) (fun hc5 => ?_)
  · replace h := ite_f hc5 h
    exact h47  _ _ _ _ _ h
  · replace h := ite_t hc5 h
    refine x_aload_n B (pc' := 29) 0 dX3_loses_28 rfl rfl rfl ?_
    refine x_iload_n B (pc' := 30) 1 dX3_loses_29 rfl rfl rfl ?_
    obtain ⟨r6, er6, h⟩ := bd_elim h
    refine x_selfVi B (pc' := 33) [.int p0] (k_X3_placeOf _ _ _ a p0 S er6) rfl rfl gv_RX3_24 rfl np_X3_placeOf ⟨Nat.le_of_ble_eq_true rfl, Nat.le_of_ble_eq_true rfl⟩ ⟨by exact Nat.le_of_ble_eq_true rfl, by exact Nat.le_of_ble_eq_true rfl⟩ rfl (Nat.le_of_ble_eq_true rfl) dX3_loses_30 rfl ?_
    refine x_aload_n B (pc' := 34) 0 dX3_loses_33 rfl rfl rfl ?_
    refine m_ref1 B (pc' := 37) wf_RX3_7 dX3_loses_34 rfl ?_
    refine x_bipush B (pc' := 39) 6 dX3_loses_37 (by decide) rfl ?_
    obtain ⟨hi7, h⟩ := gd_elim h
    refine m_ald1 B (pc' := 40) hi7 dX3_loses_39 rfl ?_
    refine x_icmp_ge B 47 43 dX3_loses_40 (by decide) rfl (fun hc8 => ?_) (fun hc8 => ?_)
    · replace h := ite_t hc8 h
      exact h47  _ _ _ _ _ h
    · replace h := ite_f hc8 h
      refine x_iconst B (pc' := 44) 1 dX3_loses_43 (by decide) rfl ?_
      refine x_goto B (pc' := 48) dX3_loses_44 (by decide) ?_
      exact h48  _ _ _ _ _ _ h
def c_X3_speaks_43 (x1 : Int32) (x2 : Int32) (S : MO) : Option (Int32 × MO) :=
  gd (1 : Int32) 1085 (gd ((27 : Int32) + x2) 1085 (nm (fun (S11 : MO) => gd ((59 : Int32) + x2) 1085 (nm (fun (S13 : MO) => gd ((91 : Int32) + x2) 1085 (nm (fun (S15 : MO) => gd (3 : Int32) 1085 (gd ((123 : Int32) + x2) 1085 (nm (fun (S18 : MO) => gd (3 : Int32) 1085 (gd (3 : Int32) 1085 (nm (fun (S21 : MO) => gd (2 : Int32) 1085 (nm (fun (S23 : MO) => some (x2, S23)) (S21.1, up2 S21.2.1 1 (upd (S21.2.1 1) (Int32.toNatClampNeg (2 : Int32)) ((x2 + (1 : Int32)) - (x2 + (1 : Int32)) / (32 : Int32) * (32 : Int32))), S21.2.2))) (S18.1, up2 S18.2.1 1 (upd (S18.2.1 1) (Int32.toNatClampNeg (3 : Int32)) (((S18.2.1 1) (Int32.toNatClampNeg (3 : Int32))) + (1 : Int32))), S18.2.2)))) (S15.1, up2 S15.2.1 1 (upd (S15.2.1 1) (Int32.toNatClampNeg ((123 : Int32) + x2)) ((S15.2.1 1) (Int32.toNatClampNeg (3 : Int32)))), S15.2.2)))) (S13.1, up2 S13.2.1 1 (upd (S13.2.1 1) (Int32.toNatClampNeg ((91 : Int32) + x2)) x1), S13.2.2))) (S11.1, up2 S11.2.1 1 (upd (S11.2.1 1) (Int32.toNatClampNeg ((59 : Int32) + x2)) x1), S11.2.2))) (S.1, up2 S.2.1 1 (upd (S.2.1 1) (Int32.toNatClampNeg ((27 : Int32) + x2)) ((S.2.1 1) (Int32.toNatClampNeg (1 : Int32)))), S.2.2)))
def b_X3_speaks_7 (K7 : Int32 → Int32 → MO → Option (Int32 × MO)) (x1 : Int32) (x2 : Int32) (S : MO) : Option (Int32 × MO) :=
  bd (f_X3_isWritable x2 S) (fun (r3 : Int32) => if r3 = 0 then (nm (fun (v8 : Int32) => K7 x1 v8 S) ((x2 + (1 : Int32)) - (x2 + (1 : Int32)) / (32 : Int32) * (32 : Int32))) else (gd ((27 : Int32) + x2) 1085 (if ((S.2.1 1) (Int32.toNatClampNeg ((27 : Int32) + x2))) = ((-1) : Int32) then (c_X3_speaks_43 x1 x2 S) else (bd (f_X3_loses x2 S) (fun (S7 : MO) => c_X3_speaks_43 x1 x2 S7)))))
def f_X3_speaks (p0 : Int32) (S : MO) : Option (Int32 × MO) :=
  gd (2 : Int32) 1085 (nm (fun (v2 : Int32) => lpf3 (b_X3_speaks_7) FU p0 v2 S) ((S.2.1 1) (Int32.toNatClampNeg (2 : Int32))))
abbrev rm_X3_speaks : Room := { frames := 2, cells := 0, slots := 0, locals := 45 }
theorem np_X3_speaks : yX3_speaks.cls ≠ "java/lang/invoke/MethodHandle" ∧ yX3_speaks.cls ≠ "java/lang/invoke/VarHandle" ∧ (parseMethodDescriptor yX3_speaks.desc).map (fun d => d.parameters.length) = some 1 := by decide +kernel
set_option maxHeartbeats 4000000 in
set_option maxRecDepth 100000 in
theorem k_X3_speaks (l : Launch) (D : va_G) (cs : CS) (a : Nat → Nat) (p0 : Int32) (S : MO) {r9 : Int32} {S9 : MO} (h : f_X3_speaks p0 S = some (r9, S9)) : MI l D cs yX3_speaks cX3_speaks 3 .int rm_X3_speaks [.ref (a 0), .int p0] (wM cs.1 a S) r9 (wM cs.1 a S9) := by
  refine MI_of (by decide) (Nat.le_of_ble_eq_true rfl) ?_
  rintro Γ rfl rfl rfl B ret
  show X Γ 3 0 0 0 [(0, .ref (a 0)), (1, .int p0)] [] (wM Γ.cs.1 a S)
  have h43 : ∀ (x1 : Int32) (x2 : Int32) (S : MO), c_X3_speaks_43  x1 x2 S = some (r9, S9) → X Γ 3 0 0 43 [(0, .ref (a 0)), (1, .int x1), (2, .int x2)] [] (wM Γ.cs.1 a S) := by
    intro  x1 x2 S h
    unfold c_X3_speaks_43 at h
    refine x_aload_n B (pc' := 44) 0 dX3_speaks_43 rfl rfl rfl ?_
    refine m_ref1 B (pc' := 47) wf_RX3_7 dX3_speaks_44 rfl ?_
    refine x_bipush B (pc' := 49) 27 dX3_speaks_47 (by decide) rfl ?_
    refine x_iload_n B (pc' := 50) 2 dX3_speaks_49 rfl rfl rfl ?_
    refine x_iadd B (pc' := 51) dX3_speaks_50 rfl ?_
    refine x_aload_n B (pc' := 52) 0 dX3_speaks_51 rfl rfl rfl ?_
    refine m_ref1 B (pc' := 55) wf_RX3_7 dX3_speaks_52 rfl ?_
    refine x_iconst B (pc' := 56) 1 dX3_speaks_55 (by decide) rfl ?_
    obtain ⟨hi9, h⟩ := gd_elim h
    refine m_ald1 B (pc' := 57) hi9 dX3_speaks_56 rfl ?_
    obtain ⟨hi10, h⟩ := gd_elim h
    obtain ⟨S11, eS11, h⟩ := nm_elim h
    refine m_ast1 B (pc' := 58) hi10 dX3_speaks_57 rfl ?_
    refine m_wd eS11 ?_
    refine x_aload_n B (pc' := 59) 0 dX3_speaks_58 rfl rfl rfl ?_
    refine m_ref1 B (pc' := 62) wf_RX3_7 dX3_speaks_59 rfl ?_
    refine x_bipush B (pc' := 64) 59 dX3_speaks_62 (by decide) rfl ?_
    refine x_iload_n B (pc' := 65) 2 dX3_speaks_64 rfl rfl rfl ?_
    refine x_iadd B (pc' := 66) dX3_speaks_65 rfl ?_
    refine x_iload_n B (pc' := 67) 1 dX3_speaks_66 rfl rfl rfl ?_
    obtain ⟨hi12, h⟩ := gd_elim h
    obtain ⟨S13, eS13, h⟩ := nm_elim h
    refine m_ast1 B (pc' := 68) hi12 dX3_speaks_67 rfl ?_
    refine m_wd eS13 ?_
    refine x_aload_n B (pc' := 69) 0 dX3_speaks_68 rfl rfl rfl ?_
    refine m_ref1 B (pc' := 72) wf_RX3_7 dX3_speaks_69 rfl ?_
    refine x_bipush B (pc' := 74) 91 dX3_speaks_72 (by decide) rfl ?_
    refine x_iload_n B (pc' := 75) 2 dX3_speaks_74 rfl rfl rfl ?_
    refine x_iadd B (pc' := 76) dX3_speaks_75 rfl ?_
    refine x_iload_n B (pc' := 77) 1 dX3_speaks_76 rfl rfl rfl ?_
    obtain ⟨hi14, h⟩ := gd_elim h
    obtain ⟨S15, eS15, h⟩ := nm_elim h
    refine m_ast1 B (pc' := 78) hi14 dX3_speaks_77 rfl ?_
    refine m_wd eS15 ?_
    refine x_aload_n B (pc' := 79) 0 dX3_speaks_78 rfl rfl rfl ?_
    refine m_ref1 B (pc' := 82) wf_RX3_7 dX3_speaks_79 rfl ?_
    refine x_bipush B (pc' := 84) 123 dX3_speaks_82 (by decide) rfl ?_
    refine x_iload_n B (pc' := 85) 2 dX3_speaks_84 rfl rfl rfl ?_
    refine x_iadd B (pc' := 86) dX3_speaks_85 rfl ?_
    refine x_aload_n B (pc' := 87) 0 dX3_speaks_86 rfl rfl rfl ?_
    refine m_ref1 B (pc' := 90) wf_RX3_7 dX3_speaks_87 rfl ?_
    refine x_iconst B (pc' := 91) 3 dX3_speaks_90 (by decide) rfl ?_
    obtain ⟨hi16, h⟩ := gd_elim h
    refine m_ald1 B (pc' := 92) hi16 dX3_speaks_91 rfl ?_
    obtain ⟨hi17, h⟩ := gd_elim h
    obtain ⟨S18, eS18, h⟩ := nm_elim h
    refine m_ast1 B (pc' := 93) hi17 dX3_speaks_92 rfl ?_
    refine m_wd eS18 ?_
    refine x_aload_n B (pc' := 94) 0 dX3_speaks_93 rfl rfl rfl ?_
    refine m_ref1 B (pc' := 97) wf_RX3_7 dX3_speaks_94 rfl ?_
    refine x_iconst B (pc' := 98) 3 dX3_speaks_97 (by decide) rfl ?_
    refine x_dup2 B (pc' := 99) dX3_speaks_98 rfl rfl rfl ?_
    obtain ⟨hi19, h⟩ := gd_elim h
    refine m_ald1 B (pc' := 100) hi19 dX3_speaks_99 rfl ?_
    refine x_iconst B (pc' := 101) 1 dX3_speaks_100 (by decide) rfl ?_
    refine x_iadd B (pc' := 102) dX3_speaks_101 rfl ?_
    obtain ⟨hi20, h⟩ := gd_elim h
    obtain ⟨S21, eS21, h⟩ := nm_elim h
    refine m_ast1 B (pc' := 103) hi20 dX3_speaks_102 rfl ?_
    refine m_wd eS21 ?_
    refine x_aload_n B (pc' := 104) 0 dX3_speaks_103 rfl rfl rfl ?_
    refine m_ref1 B (pc' := 107) wf_RX3_7 dX3_speaks_104 rfl ?_
    refine x_iconst B (pc' := 108) 2 dX3_speaks_107 (by decide) rfl ?_
    refine x_iload_n B (pc' := 109) 2 dX3_speaks_108 rfl rfl rfl ?_
    refine x_iconst B (pc' := 110) 1 dX3_speaks_109 (by decide) rfl ?_
    refine x_iadd B (pc' := 111) dX3_speaks_110 rfl ?_
    refine x_bipush B (pc' := 113) 32 dX3_speaks_111 (by decide) rfl ?_
    refine x_irem B (pc' := 114) dX3_speaks_113 (by decide) rfl ?_
    obtain ⟨hi22, h⟩ := gd_elim h
    obtain ⟨S23, eS23, h⟩ := nm_elim h
    refine m_ast1 B (pc' := 115) hi22 dX3_speaks_114 rfl ?_
    refine m_wd eS23 ?_
    refine x_iload_n B (pc' := 116) 2 dX3_speaks_115 rfl rfl rfl ?_
    obtain ⟨h1, h2⟩ := some2 h
    subst h1
    subst h2
    exact ret rfl (by exact Nat.le_of_ble_eq_true rfl) (by exact Nat.le_of_ble_eq_true rfl) dX3_speaks_116
  have h7 : ∀ (n9 : Nat) (x1 : Int32) (x2 : Int32) (S : MO), lpf3 (b_X3_speaks_7) n9 x1 x2 S = some (r9, S9) → X Γ 3 0 0 7 [(0, .ref (a 0)), (1, .int x1), (2, .int x2)] [] (wM Γ.cs.1 a S) := by
    refine lpf3_ind (fun K7 hK7 x1 x2 S h => ?_)
    unfold b_X3_speaks_7 at h
    refine x_aload_n B (pc' := 8) 0 dX3_speaks_7 rfl rfl rfl ?_
    refine x_iload_n B (pc' := 9) 2 dX3_speaks_8 rfl rfl rfl ?_
    obtain ⟨r3, er3, h⟩ := bd_elim h
    refine x_selfVi B (pc' := 12) [.int x2] (k_X3_isWritable _ _ _ a x2 S er3) rfl rfl gv_RX3_28 rfl np_X3_isWritable ⟨Nat.le_of_ble_eq_true rfl, Nat.le_of_ble_eq_true rfl⟩ ⟨by exact Nat.le_of_ble_eq_true rfl, by exact Nat.le_of_ble_eq_true rfl⟩ rfl (Nat.le_of_ble_eq_true rfl) dX3_speaks_9 rfl ?_
    refine x_if_ne B 25 15 dX3_speaks_12 (by decide) rfl (fun hc4 => ?_) (fun hc4 => ?_)
    · replace h := ite_f hc4 h
      refine x_aload_n B (pc' := 26) 0 dX3_speaks_25 rfl rfl rfl ?_
      refine m_ref1 B (pc' := 29) wf_RX3_7 dX3_speaks_26 rfl ?_
      refine x_bipush B (pc' := 31) 27 dX3_speaks_29 (by decide) rfl ?_
      refine x_iload_n B (pc' := 32) 2 dX3_speaks_31 rfl rfl rfl ?_
      refine x_iadd B (pc' := 33) dX3_speaks_32 rfl ?_
      obtain ⟨hi5, h⟩ := gd_elim h
      refine m_ald1 B (pc' := 34) hi5 dX3_speaks_33 rfl ?_
      refine x_iconst B (pc' := 35) (-1) dX3_speaks_34 (by decide) rfl ?_
      refine x_icmp_eq B 43 38 dX3_speaks_35 (by decide) rfl (fun hc6 => ?_) (fun hc6 => ?_)
      · replace h := ite_t hc6 h
        exact h43  _ _ _ h
      · replace h := ite_f hc6 h
        refine x_aload_n B (pc' := 39) 0 dX3_speaks_38 rfl rfl rfl ?_
        refine x_iload_n B (pc' := 40) 2 dX3_speaks_39 rfl rfl rfl ?_
        obtain ⟨S7, eS7, h⟩ := bd_elim h
        refine x_selfVv B (pc' := 43) [.int x2] (k_X3_loses _ _ _ a x2 S eS7) rfl rfl gv_RX3_39 rfl np_X3_loses ⟨Nat.le_of_ble_eq_true rfl, Nat.le_of_ble_eq_true rfl⟩ ⟨by exact Nat.le_of_ble_eq_true rfl, by exact Nat.le_of_ble_eq_true rfl⟩ rfl (Nat.le_of_ble_eq_true rfl) dX3_speaks_40 rfl ?_
        exact h43  _ _ _ h
    · replace h := ite_t hc4 h
      refine x_iload_n B (pc' := 16) 2 dX3_speaks_15 rfl rfl rfl ?_
      refine x_iconst B (pc' := 17) 1 dX3_speaks_16 (by decide) rfl ?_
      refine x_iadd B (pc' := 18) dX3_speaks_17 rfl ?_
      refine x_bipush B (pc' := 20) 32 dX3_speaks_18 (by decide) rfl ?_
      refine x_irem B (pc' := 21) dX3_speaks_20 (by decide) rfl ?_
      obtain ⟨v8, ev8, h⟩ := nm_elim h
      refine x_topi ev8 ?_
      refine x_istore_n B (pc' := 22) [1, 2, 0] [(0, .ref (a 0)), (1, .int x1), (2, .int v8)] dX3_speaks_21 rfl (by decide) rfl rfl ?_
      refine x_goto B (pc' := 7) dX3_speaks_22 (by decide) ?_
      exact hK7 _ _ _ h
  unfold f_X3_speaks at h
  refine x_aload_n B (pc' := 1) 0 dX3_speaks_0 rfl rfl rfl ?_
  refine m_ref1 B (pc' := 4) wf_RX3_7 dX3_speaks_1 rfl ?_
  refine x_iconst B (pc' := 5) 2 dX3_speaks_4 (by decide) rfl ?_
  obtain ⟨hi1, h⟩ := gd_elim h
  refine m_ald1 B (pc' := 6) hi1 dX3_speaks_5 rfl ?_
  obtain ⟨v2, ev2, h⟩ := nm_elim h
  refine x_topi ev2 ?_
  refine x_istore_n B (pc' := 7) [1, 2, 0] [(0, .ref (a 0)), (1, .int p0), (2, .int v2)] dX3_speaks_6 rfl (by decide) rfl rfl ?_
  exact h7  _ _ _ _ h
def c_X3_halts_22 (x2 : Int32) (S : MO) : Option (Int32 × MO) :=
  gd (1 : Int32) 1085 (nm (fun (S7 : MO) => some (x2, S7)) (S.1, up2 S.2.1 1 (upd (S.2.1 1) (Int32.toNatClampNeg (1 : Int32)) ((-1) : Int32)), S.2.2))
def f_X3_halts (S : MO) : Option (Int32 × MO) :=
  gd (1 : Int32) 1085 (nm (fun (v2 : Int32) => bd (f_X3_cells v2 S) (fun (r3 : Int32) => if r3 = 0 then (bd (f_X3_leaves v2 S) (fun (S5 : MO) => c_X3_halts_22 r3 S5)) else (c_X3_halts_22 r3 S))) ((S.2.1 1) (Int32.toNatClampNeg (1 : Int32))))
abbrev rm_X3_halts : Room := { frames := 1, cells := 0, slots := 0, locals := 23 }
theorem np_X3_halts : yX3_halts.cls ≠ "java/lang/invoke/MethodHandle" ∧ yX3_halts.cls ≠ "java/lang/invoke/VarHandle" ∧ (parseMethodDescriptor yX3_halts.desc).map (fun d => d.parameters.length) = some 0 := by decide +kernel
set_option maxHeartbeats 4000000 in
set_option maxRecDepth 100000 in
theorem k_X3_halts (l : Launch) (D : va_G) (cs : CS) (a : Nat → Nat) (S : MO) {r9 : Int32} {S9 : MO} (h : f_X3_halts S = some (r9, S9)) : MI l D cs yX3_halts cX3_halts 3 .int rm_X3_halts [.ref (a 0)] (wM cs.1 a S) r9 (wM cs.1 a S9) := by
  refine MI_of (by decide) (Nat.le_of_ble_eq_true rfl) ?_
  rintro Γ rfl rfl rfl B ret
  show X Γ 3 0 0 0 [(0, .ref (a 0))] [] (wM Γ.cs.1 a S)
  have h22 : ∀ (x2 : Int32) (S : MO), c_X3_halts_22  x2 S = some (r9, S9) → X Γ 3 0 0 22 [(0, .ref (a 0)), (2, .int x2)] [] (wM Γ.cs.1 a S) := by
    intro  x2 S h
    unfold c_X3_halts_22 at h
    refine x_aload_n B (pc' := 23) 0 dX3_halts_22 rfl rfl rfl ?_
    refine m_ref1 B (pc' := 26) wf_RX3_7 dX3_halts_23 rfl ?_
    refine x_iconst B (pc' := 27) 1 dX3_halts_26 (by decide) rfl ?_
    refine x_iconst B (pc' := 28) (-1) dX3_halts_27 (by decide) rfl ?_
    obtain ⟨hi6, h⟩ := gd_elim h
    obtain ⟨S7, eS7, h⟩ := nm_elim h
    refine m_ast1 B (pc' := 29) hi6 dX3_halts_28 rfl ?_
    refine m_wd eS7 ?_
    refine x_iload_n B (pc' := 30) 1 dX3_halts_29 rfl rfl rfl ?_
    obtain ⟨h1, h2⟩ := some2 h
    subst h1
    subst h2
    exact ret rfl (by exact Nat.le_of_ble_eq_true rfl) (by exact Nat.le_of_ble_eq_true rfl) dX3_halts_30
  unfold f_X3_halts at h
  refine x_aload_n B (pc' := 1) 0 dX3_halts_0 rfl rfl rfl ?_
  refine m_ref1 B (pc' := 4) wf_RX3_7 dX3_halts_1 rfl ?_
  refine x_iconst B (pc' := 5) 1 dX3_halts_4 (by decide) rfl ?_
  obtain ⟨hi1, h⟩ := gd_elim h
  refine m_ald1 B (pc' := 6) hi1 dX3_halts_5 rfl ?_
  obtain ⟨v2, ev2, h⟩ := nm_elim h
  refine x_topi ev2 ?_
  refine x_istore_n B (pc' := 7) [1, 0] [(0, .ref (a 0)), (1, .int v2)] dX3_halts_6 rfl (by decide) rfl rfl ?_
  refine x_aload_n B (pc' := 8) 0 dX3_halts_7 rfl rfl rfl ?_
  refine x_iload_n B (pc' := 9) 1 dX3_halts_8 rfl rfl rfl ?_
  obtain ⟨r3, er3, h⟩ := bd_elim h
  refine x_selfVi B (pc' := 12) [.int v2] (k_X3_cells _ _ _ a v2 S er3) rfl rfl gv_RX3_32 rfl np_X3_cells ⟨Nat.le_of_ble_eq_true rfl, Nat.le_of_ble_eq_true rfl⟩ ⟨by exact Nat.le_of_ble_eq_true rfl, by exact Nat.le_of_ble_eq_true rfl⟩ rfl (Nat.le_of_ble_eq_true rfl) dX3_halts_9 rfl ?_
  refine x_istore_n B (pc' := 13) [1, 2, 0] [(0, .ref (a 0)), (1, .int v2), (2, .int r3)] dX3_halts_12 rfl (by decide) rfl rfl ?_
  refine x_iload_n B (pc' := 14) 2 dX3_halts_13 rfl rfl rfl ?_
  refine x_if_ne B 22 17 dX3_halts_14 (by decide) rfl (fun hc4 => ?_) (fun hc4 => ?_)
  · replace h := ite_f hc4 h
    refine x_lv [0, 2] (lv' := [(0, .ref (a 0)), (2, .int r3)]) rfl ?_
    exact h22  _ _ h
  · replace h := ite_t hc4 h
    refine x_aload_n B (pc' := 18) 0 dX3_halts_17 rfl rfl rfl ?_
    refine x_iload_n B (pc' := 19) 1 dX3_halts_18 rfl rfl rfl ?_
    obtain ⟨S5, eS5, h⟩ := bd_elim h
    refine x_selfVv B (pc' := 22) [.int v2] (k_X3_leaves _ _ _ a v2 S eS5) rfl rfl gv_RX3_35 rfl np_X3_leaves ⟨Nat.le_of_ble_eq_true rfl, Nat.le_of_ble_eq_true rfl⟩ ⟨by exact Nat.le_of_ble_eq_true rfl, by exact Nat.le_of_ble_eq_true rfl⟩ rfl (Nat.le_of_ble_eq_true rfl) dX3_halts_19 rfl ?_
    refine x_lv [0, 2] (lv' := [(0, .ref (a 0)), (2, .int r3)]) rfl ?_
    exact h22  _ _ h
def c_X3_begins_15 (S : MO) : Option (Int32 × MO) :=
  gd (0 : Int32) 1085 (gd ((7 : Int32) + ((S.2.1 1) (Int32.toNatClampNeg (0 : Int32)))) 1085 (nm (fun (S7 : MO) => gd (0 : Int32) 1085 (gd ((17 : Int32) + ((S7.2.1 1) (Int32.toNatClampNeg (0 : Int32)))) 1085 (nm (fun (S10 : MO) => gd (0 : Int32) 1085 (gd (1 : Int32) 1085 (nm (fun (S13 : MO) => gd (0 : Int32) 1085 (gd (0 : Int32) 1085 (nm (fun (S16 : MO) => gd (1 : Int32) 1085 (some (((S16.2.1 1) (Int32.toNatClampNeg (1 : Int32))), S16))) (S13.1, up2 S13.2.1 1 (upd (S13.2.1 1) (Int32.toNatClampNeg (0 : Int32)) (((S13.2.1 1) (Int32.toNatClampNeg (0 : Int32))) + (1 : Int32))), S13.2.2)))) (S10.1, up2 S10.2.1 1 (upd (S10.2.1 1) (Int32.toNatClampNeg (1 : Int32)) ((S10.2.1 1) (Int32.toNatClampNeg (0 : Int32)))), S10.2.2)))) (S7.1, up2 S7.2.1 1 (upd (S7.2.1 1) (Int32.toNatClampNeg ((17 : Int32) + ((S7.2.1 1) (Int32.toNatClampNeg (0 : Int32))))) (0 : Int32)), S7.2.2)))) (S.1, up2 S.2.1 1 (upd (S.2.1 1) (Int32.toNatClampNeg ((7 : Int32) + ((S.2.1 1) (Int32.toNatClampNeg (0 : Int32))))) (0 : Int32)), S.2.2)))
def f_X3_begins (S : MO) : Option (Int32 × MO) :=
  gd (1 : Int32) 1085 (if ((S.2.1 1) (Int32.toNatClampNeg (1 : Int32))) = ((-1) : Int32) then (c_X3_begins_15 S) else (bd2 (f_X3_halts S) (fun (r3 : Int32) (S4 : MO) => c_X3_begins_15 S4)))
abbrev rm_X3_begins : Room := { frames := 2, cells := 0, slots := 0, locals := 45 }
theorem np_X3_begins : yX3_begins.cls ≠ "java/lang/invoke/MethodHandle" ∧ yX3_begins.cls ≠ "java/lang/invoke/VarHandle" ∧ (parseMethodDescriptor yX3_begins.desc).map (fun d => d.parameters.length) = some 0 := by decide +kernel
set_option maxHeartbeats 4000000 in
set_option maxRecDepth 100000 in
theorem k_X3_begins (l : Launch) (D : va_G) (cs : CS) (a : Nat → Nat) (S : MO) {r9 : Int32} {S9 : MO} (h : f_X3_begins S = some (r9, S9)) : MI l D cs yX3_begins cX3_begins 1 .int rm_X3_begins [.ref (a 0)] (wM cs.1 a S) r9 (wM cs.1 a S9) := by
  refine MI_of (by decide) (Nat.le_of_ble_eq_true rfl) ?_
  rintro Γ rfl rfl rfl B ret
  show X Γ 1 0 0 0 [(0, .ref (a 0))] [] (wM Γ.cs.1 a S)
  have h15 : ∀ (S : MO), c_X3_begins_15  S = some (r9, S9) → X Γ 1 0 0 15 [(0, .ref (a 0))] [] (wM Γ.cs.1 a S) := by
    intro  S h
    unfold c_X3_begins_15 at h
    refine x_aload_n B (pc' := 16) 0 dX3_begins_15 rfl rfl rfl ?_
    refine m_ref1 B (pc' := 19) wf_RX3_7 dX3_begins_16 rfl ?_
    refine x_bipush B (pc' := 21) 7 dX3_begins_19 (by decide) rfl ?_
    refine x_aload_n B (pc' := 22) 0 dX3_begins_21 rfl rfl rfl ?_
    refine m_ref1 B (pc' := 25) wf_RX3_7 dX3_begins_22 rfl ?_
    refine x_iconst B (pc' := 26) 0 dX3_begins_25 (by decide) rfl ?_
    obtain ⟨hi5, h⟩ := gd_elim h
    refine m_ald1 B (pc' := 27) hi5 dX3_begins_26 rfl ?_
    refine x_iadd B (pc' := 28) dX3_begins_27 rfl ?_
    refine x_iconst B (pc' := 29) 0 dX3_begins_28 (by decide) rfl ?_
    obtain ⟨hi6, h⟩ := gd_elim h
    obtain ⟨S7, eS7, h⟩ := nm_elim h
    refine m_ast1 B (pc' := 30) hi6 dX3_begins_29 rfl ?_
    refine m_wd eS7 ?_
    refine x_aload_n B (pc' := 31) 0 dX3_begins_30 rfl rfl rfl ?_
    refine m_ref1 B (pc' := 34) wf_RX3_7 dX3_begins_31 rfl ?_
    refine x_bipush B (pc' := 36) 17 dX3_begins_34 (by decide) rfl ?_
    refine x_aload_n B (pc' := 37) 0 dX3_begins_36 rfl rfl rfl ?_
    refine m_ref1 B (pc' := 40) wf_RX3_7 dX3_begins_37 rfl ?_
    refine x_iconst B (pc' := 41) 0 dX3_begins_40 (by decide) rfl ?_
    obtain ⟨hi8, h⟩ := gd_elim h
    refine m_ald1 B (pc' := 42) hi8 dX3_begins_41 rfl ?_
    refine x_iadd B (pc' := 43) dX3_begins_42 rfl ?_
    refine x_iconst B (pc' := 44) 0 dX3_begins_43 (by decide) rfl ?_
    obtain ⟨hi9, h⟩ := gd_elim h
    obtain ⟨S10, eS10, h⟩ := nm_elim h
    refine m_ast1 B (pc' := 45) hi9 dX3_begins_44 rfl ?_
    refine m_wd eS10 ?_
    refine x_aload_n B (pc' := 46) 0 dX3_begins_45 rfl rfl rfl ?_
    refine m_ref1 B (pc' := 49) wf_RX3_7 dX3_begins_46 rfl ?_
    refine x_iconst B (pc' := 50) 1 dX3_begins_49 (by decide) rfl ?_
    refine x_aload_n B (pc' := 51) 0 dX3_begins_50 rfl rfl rfl ?_
    refine m_ref1 B (pc' := 54) wf_RX3_7 dX3_begins_51 rfl ?_
    refine x_iconst B (pc' := 55) 0 dX3_begins_54 (by decide) rfl ?_
    obtain ⟨hi11, h⟩ := gd_elim h
    refine m_ald1 B (pc' := 56) hi11 dX3_begins_55 rfl ?_
    obtain ⟨hi12, h⟩ := gd_elim h
    obtain ⟨S13, eS13, h⟩ := nm_elim h
    refine m_ast1 B (pc' := 57) hi12 dX3_begins_56 rfl ?_
    refine m_wd eS13 ?_
    refine x_aload_n B (pc' := 58) 0 dX3_begins_57 rfl rfl rfl ?_
    refine m_ref1 B (pc' := 61) wf_RX3_7 dX3_begins_58 rfl ?_
    refine x_iconst B (pc' := 62) 0 dX3_begins_61 (by decide) rfl ?_
    refine x_dup2 B (pc' := 63) dX3_begins_62 rfl rfl rfl ?_
    obtain ⟨hi14, h⟩ := gd_elim h
    refine m_ald1 B (pc' := 64) hi14 dX3_begins_63 rfl ?_
    refine x_iconst B (pc' := 65) 1 dX3_begins_64 (by decide) rfl ?_
    refine x_iadd B (pc' := 66) dX3_begins_65 rfl ?_
    obtain ⟨hi15, h⟩ := gd_elim h
    obtain ⟨S16, eS16, h⟩ := nm_elim h
    refine m_ast1 B (pc' := 67) hi15 dX3_begins_66 rfl ?_
    refine m_wd eS16 ?_
    refine x_aload_n B (pc' := 68) 0 dX3_begins_67 rfl rfl rfl ?_
    refine m_ref1 B (pc' := 71) wf_RX3_7 dX3_begins_68 rfl ?_
    refine x_iconst B (pc' := 72) 1 dX3_begins_71 (by decide) rfl ?_
    obtain ⟨hi17, h⟩ := gd_elim h
    refine m_ald1 B (pc' := 73) hi17 dX3_begins_72 rfl ?_
    obtain ⟨h1, h2⟩ := some2 h
    subst h1
    subst h2
    exact ret rfl (by exact Nat.le_of_ble_eq_true rfl) (by exact Nat.le_of_ble_eq_true rfl) dX3_begins_73
  unfold f_X3_begins at h
  refine x_aload_n B (pc' := 1) 0 dX3_begins_0 rfl rfl rfl ?_
  refine m_ref1 B (pc' := 4) wf_RX3_7 dX3_begins_1 rfl ?_
  refine x_iconst B (pc' := 5) 1 dX3_begins_4 (by decide) rfl ?_
  obtain ⟨hi1, h⟩ := gd_elim h
  refine m_ald1 B (pc' := 6) hi1 dX3_begins_5 rfl ?_
  refine x_iconst B (pc' := 7) (-1) dX3_begins_6 (by decide) rfl ?_
  refine x_icmp_eq B 15 10 dX3_begins_7 (by decide) rfl (fun hc2 => ?_) (fun hc2 => ?_)
  · replace h := ite_t hc2 h
    exact h15  _ h
  · replace h := ite_f hc2 h
    refine x_aload_n B (pc' := 11) 0 dX3_begins_10 rfl rfl rfl ?_
    obtain ⟨r3, S4, er3, h⟩ := bd2_elim h
    refine x_selfVi B (pc' := 14) [] (k_X3_halts _ _ _ a S er3) rfl rfl gv_RX3_42 rfl np_X3_halts ⟨Nat.le_of_ble_eq_true rfl, Nat.le_of_ble_eq_true rfl⟩ ⟨by exact Nat.le_of_ble_eq_true rfl, by exact Nat.le_of_ble_eq_true rfl⟩ rfl (Nat.le_of_ble_eq_true rfl) dX3_begins_11 rfl ?_
    refine x_pop B (pc' := 15) dX3_begins_14 rfl rfl ?_
    exact h15  _ h
def f_X3_canBegin (S : MO) : Option Int32 :=
  gd (0 : Int32) 1085 (if ((S.2.1 1) (Int32.toNatClampNeg (0 : Int32))) < (10 : Int32) then (some (1 : Int32)) else (gd (1 : Int32) 1085 (if ((S.2.1 1) (Int32.toNatClampNeg (1 : Int32))) = ((-1) : Int32) then (some (0 : Int32)) else (gd (1 : Int32) 1085 (bd (f_X3_cells ((S.2.1 1) (Int32.toNatClampNeg (1 : Int32))) S) (fun (r6 : Int32) => if r6 = 0 then (some (1 : Int32)) else (some (0 : Int32))))))))
abbrev rm_X3_canBegin : Room := { frames := 1, cells := 0, slots := 0, locals := 23 }
theorem np_X3_canBegin : yX3_canBegin.cls ≠ "java/lang/invoke/MethodHandle" ∧ yX3_canBegin.cls ≠ "java/lang/invoke/VarHandle" ∧ (parseMethodDescriptor yX3_canBegin.desc).map (fun d => d.parameters.length) = some 0 := by decide +kernel
set_option maxHeartbeats 4000000 in
set_option maxRecDepth 100000 in
theorem k_X3_canBegin (l : Launch) (D : va_G) (cs : CS) (a : Nat → Nat) (S : MO) {r9 : Int32} (h : f_X3_canBegin S = some r9) : MI l D cs yX3_canBegin cX3_canBegin 1 .boolean rm_X3_canBegin [.ref (a 0)] (wM cs.1 a S) r9 (wM cs.1 a S) := by
  refine MI_of (by decide) (Nat.le_of_ble_eq_true rfl) ?_
  rintro Γ rfl rfl rfl B ret
  show X Γ 1 0 0 0 [(0, .ref (a 0))] [] (wM Γ.cs.1 a S)
  unfold f_X3_canBegin at h
  refine x_aload_n B (pc' := 1) 0 dX3_canBegin_0 rfl rfl rfl ?_
  refine m_ref1 B (pc' := 4) wf_RX3_7 dX3_canBegin_1 rfl ?_
  refine x_iconst B (pc' := 5) 0 dX3_canBegin_4 (by decide) rfl ?_
  obtain ⟨hi1, h⟩ := gd_elim h
  refine m_ald1 B (pc' := 6) hi1 dX3_canBegin_5 rfl ?_
  refine x_bipush B (pc' := 8) 10 dX3_canBegin_6 (by decide) rfl ?_
  refine x_icmp_lt B 34 11 dX3_canBegin_8 (by decide) rfl (fun hc2 => ?_) (fun hc2 => ?_)
  · replace h := ite_t hc2 h
    refine x_iconst B (pc' := 35) 1 dX3_canBegin_34 (by decide) rfl ?_
    refine x_goto B (pc' := 39) dX3_canBegin_35 (by decide) ?_
    have h1 := Option.some.inj h
    subst h1
    exact ret rfl (by exact Nat.le_of_ble_eq_true rfl) (by exact Nat.le_of_ble_eq_true rfl) dX3_canBegin_39
  · replace h := ite_f hc2 h
    refine x_aload_n B (pc' := 12) 0 dX3_canBegin_11 rfl rfl rfl ?_
    refine m_ref1 B (pc' := 15) wf_RX3_7 dX3_canBegin_12 rfl ?_
    refine x_iconst B (pc' := 16) 1 dX3_canBegin_15 (by decide) rfl ?_
    obtain ⟨hi3, h⟩ := gd_elim h
    refine m_ald1 B (pc' := 17) hi3 dX3_canBegin_16 rfl ?_
    refine x_iconst B (pc' := 18) (-1) dX3_canBegin_17 (by decide) rfl ?_
    refine x_icmp_eq B 38 21 dX3_canBegin_18 (by decide) rfl (fun hc4 => ?_) (fun hc4 => ?_)
    · replace h := ite_t hc4 h
      refine x_iconst B (pc' := 39) 0 dX3_canBegin_38 (by decide) rfl ?_
      have h1 := Option.some.inj h
      subst h1
      exact ret rfl (by exact Nat.le_of_ble_eq_true rfl) (by exact Nat.le_of_ble_eq_true rfl) dX3_canBegin_39
    · replace h := ite_f hc4 h
      refine x_aload_n B (pc' := 22) 0 dX3_canBegin_21 rfl rfl rfl ?_
      refine x_aload_n B (pc' := 23) 0 dX3_canBegin_22 rfl rfl rfl ?_
      refine m_ref1 B (pc' := 26) wf_RX3_7 dX3_canBegin_23 rfl ?_
      refine x_iconst B (pc' := 27) 1 dX3_canBegin_26 (by decide) rfl ?_
      obtain ⟨hi5, h⟩ := gd_elim h
      refine m_ald1 B (pc' := 28) hi5 dX3_canBegin_27 rfl ?_
      obtain ⟨r6, er6, h⟩ := bd_elim h
      refine x_selfVi B (pc' := 31) [.int ((S.2.1 1) (Int32.toNatClampNeg (1 : Int32)))] (k_X3_cells _ _ _ a ((S.2.1 1) (Int32.toNatClampNeg (1 : Int32))) S er6) rfl rfl gv_RX3_32 rfl np_X3_cells ⟨Nat.le_of_ble_eq_true rfl, Nat.le_of_ble_eq_true rfl⟩ ⟨by exact Nat.le_of_ble_eq_true rfl, by exact Nat.le_of_ble_eq_true rfl⟩ rfl (Nat.le_of_ble_eq_true rfl) dX3_canBegin_28 rfl ?_
      refine x_if_ne B 38 34 dX3_canBegin_31 (by decide) rfl (fun hc7 => ?_) (fun hc7 => ?_)
      · replace h := ite_f hc7 h
        refine x_iconst B (pc' := 39) 0 dX3_canBegin_38 (by decide) rfl ?_
        have h1 := Option.some.inj h
        subst h1
        exact ret rfl (by exact Nat.le_of_ble_eq_true rfl) (by exact Nat.le_of_ble_eq_true rfl) dX3_canBegin_39
      · replace h := ite_t hc7 h
        refine x_iconst B (pc' := 35) 1 dX3_canBegin_34 (by decide) rfl ?_
        refine x_goto B (pc' := 39) dX3_canBegin_35 (by decide) ?_
        have h1 := Option.some.inj h
        subst h1
        exact ret rfl (by exact Nat.le_of_ble_eq_true rfl) (by exact Nat.le_of_ble_eq_true rfl) dX3_canBegin_39
def f_X3_canSpeak (p0 : Int32) (S : MO) : Option Int32 :=
  gd (1 : Int32) 1085 (if ((S.2.1 1) (Int32.toNatClampNeg (1 : Int32))) = ((-1) : Int32) then (some (0 : Int32)) else (bd (f_X3_writable S) (fun (r3 : Int32) => if r3 < p0 then (some (0 : Int32)) else (some (1 : Int32)))))
abbrev rm_X3_canSpeak : Room := { frames := 2, cells := 0, slots := 0, locals := 44 }
theorem np_X3_canSpeak : yX3_canSpeak.cls ≠ "java/lang/invoke/MethodHandle" ∧ yX3_canSpeak.cls ≠ "java/lang/invoke/VarHandle" ∧ (parseMethodDescriptor yX3_canSpeak.desc).map (fun d => d.parameters.length) = some 1 := by decide +kernel
set_option maxHeartbeats 4000000 in
set_option maxRecDepth 100000 in
theorem k_X3_canSpeak (l : Launch) (D : va_G) (cs : CS) (a : Nat → Nat) (p0 : Int32) (S : MO) {r9 : Int32} (h : f_X3_canSpeak p0 S = some r9) : MI l D cs yX3_canSpeak cX3_canSpeak 2 .boolean rm_X3_canSpeak [.ref (a 0), .int p0] (wM cs.1 a S) r9 (wM cs.1 a S) := by
  refine MI_of (by decide) (Nat.le_of_ble_eq_true rfl) ?_
  rintro Γ rfl rfl rfl B ret
  show X Γ 2 0 0 0 [(0, .ref (a 0)), (1, .int p0)] [] (wM Γ.cs.1 a S)
  unfold f_X3_canSpeak at h
  refine x_aload_n B (pc' := 1) 0 dX3_canSpeak_0 rfl rfl rfl ?_
  refine m_ref1 B (pc' := 4) wf_RX3_7 dX3_canSpeak_1 rfl ?_
  refine x_iconst B (pc' := 5) 1 dX3_canSpeak_4 (by decide) rfl ?_
  obtain ⟨hi1, h⟩ := gd_elim h
  refine m_ald1 B (pc' := 6) hi1 dX3_canSpeak_5 rfl ?_
  refine x_iconst B (pc' := 7) (-1) dX3_canSpeak_6 (by decide) rfl ?_
  refine x_icmp_eq B 22 10 dX3_canSpeak_7 (by decide) rfl (fun hc2 => ?_) (fun hc2 => ?_)
  · replace h := ite_t hc2 h
    refine x_iconst B (pc' := 23) 0 dX3_canSpeak_22 (by decide) rfl ?_
    have h1 := Option.some.inj h
    subst h1
    exact ret rfl (by exact Nat.le_of_ble_eq_true rfl) (by exact Nat.le_of_ble_eq_true rfl) dX3_canSpeak_23
  · replace h := ite_f hc2 h
    refine x_aload_n B (pc' := 11) 0 dX3_canSpeak_10 rfl rfl rfl ?_
    obtain ⟨r3, er3, h⟩ := bd_elim h
    refine x_selfVi B (pc' := 14) [] (k_X3_writable _ _ _ a S er3) rfl rfl gv_RX3_46 rfl np_X3_writable ⟨Nat.le_of_ble_eq_true rfl, Nat.le_of_ble_eq_true rfl⟩ ⟨by exact Nat.le_of_ble_eq_true rfl, by exact Nat.le_of_ble_eq_true rfl⟩ rfl (Nat.le_of_ble_eq_true rfl) dX3_canSpeak_11 rfl ?_
    refine x_iload_n B (pc' := 15) 1 dX3_canSpeak_14 rfl rfl rfl ?_
    refine x_icmp_lt B 22 18 dX3_canSpeak_15 (by decide) rfl (fun hc4 => ?_) (fun hc4 => ?_)
    · replace h := ite_t hc4 h
      refine x_iconst B (pc' := 23) 0 dX3_canSpeak_22 (by decide) rfl ?_
      have h1 := Option.some.inj h
      subst h1
      exact ret rfl (by exact Nat.le_of_ble_eq_true rfl) (by exact Nat.le_of_ble_eq_true rfl) dX3_canSpeak_23
    · replace h := ite_f hc4 h
      refine x_iconst B (pc' := 19) 1 dX3_canSpeak_18 (by decide) rfl ?_
      refine x_goto B (pc' := 23) dX3_canSpeak_19 (by decide) ?_
      have h1 := Option.some.inj h
      subst h1
      exact ret rfl (by exact Nat.le_of_ble_eq_true rfl) (by exact Nat.le_of_ble_eq_true rfl) dX3_canSpeak_23
def f_X3_goes (p0 : Int32) (S : MO) : Option (Int32 × MO) :=
  gd (5 : Int32) 1085 (nm (fun (S2 : MO) => gd (6 : Int32) 1085 (nm (fun (S4 : MO) => bd (f_X3_cells p0 S4) (fun (r5 : Int32) => some (r5, S4))) (S2.1, up2 S2.2.1 1 (upd (S2.2.1 1) (Int32.toNatClampNeg (6 : Int32)) (0 : Int32)), S2.2.2))) (S.1, up2 S.2.1 1 (upd (S.2.1 1) (Int32.toNatClampNeg (5 : Int32)) p0), S.2.2))
abbrev rm_X3_goes : Room := { frames := 1, cells := 0, slots := 0, locals := 23 }
theorem np_X3_goes : yX3_goes.cls ≠ "java/lang/invoke/MethodHandle" ∧ yX3_goes.cls ≠ "java/lang/invoke/VarHandle" ∧ (parseMethodDescriptor yX3_goes.desc).map (fun d => d.parameters.length) = some 1 := by decide +kernel
set_option maxHeartbeats 4000000 in
set_option maxRecDepth 100000 in
theorem k_X3_goes (l : Launch) (D : va_G) (cs : CS) (a : Nat → Nat) (p0 : Int32) (S : MO) {r9 : Int32} {S9 : MO} (h : f_X3_goes p0 S = some (r9, S9)) : MI l D cs yX3_goes cX3_goes 2 .int rm_X3_goes [.ref (a 0), .int p0] (wM cs.1 a S) r9 (wM cs.1 a S9) := by
  refine MI_of (by decide) (Nat.le_of_ble_eq_true rfl) ?_
  rintro Γ rfl rfl rfl B ret
  show X Γ 2 0 0 0 [(0, .ref (a 0)), (1, .int p0)] [] (wM Γ.cs.1 a S)
  unfold f_X3_goes at h
  refine x_aload_n B (pc' := 1) 0 dX3_goes_0 rfl rfl rfl ?_
  refine m_ref1 B (pc' := 4) wf_RX3_7 dX3_goes_1 rfl ?_
  refine x_iconst B (pc' := 5) 5 dX3_goes_4 (by decide) rfl ?_
  refine x_iload_n B (pc' := 6) 1 dX3_goes_5 rfl rfl rfl ?_
  obtain ⟨hi1, h⟩ := gd_elim h
  obtain ⟨S2, eS2, h⟩ := nm_elim h
  refine m_ast1 B (pc' := 7) hi1 dX3_goes_6 rfl ?_
  refine m_wd eS2 ?_
  refine x_aload_n B (pc' := 8) 0 dX3_goes_7 rfl rfl rfl ?_
  refine m_ref1 B (pc' := 11) wf_RX3_7 dX3_goes_8 rfl ?_
  refine x_bipush B (pc' := 13) 6 dX3_goes_11 (by decide) rfl ?_
  refine x_iconst B (pc' := 14) 0 dX3_goes_13 (by decide) rfl ?_
  obtain ⟨hi3, h⟩ := gd_elim h
  obtain ⟨S4, eS4, h⟩ := nm_elim h
  refine m_ast1 B (pc' := 15) hi3 dX3_goes_14 rfl ?_
  refine m_wd eS4 ?_
  refine x_aload_n B (pc' := 16) 0 dX3_goes_15 rfl rfl rfl ?_
  refine x_iload_n B (pc' := 17) 1 dX3_goes_16 rfl rfl rfl ?_
  obtain ⟨r5, er5, h⟩ := bd_elim h
  refine x_selfVi B (pc' := 20) [.int p0] (k_X3_cells _ _ _ a p0 S4 er5) rfl rfl gv_RX3_32 rfl np_X3_cells ⟨Nat.le_of_ble_eq_true rfl, Nat.le_of_ble_eq_true rfl⟩ ⟨by exact Nat.le_of_ble_eq_true rfl, by exact Nat.le_of_ble_eq_true rfl⟩ rfl (Nat.le_of_ble_eq_true rfl) dX3_goes_17 rfl ?_
  obtain ⟨h1, h2⟩ := some2 h
  subst h1
  subst h2
  exact ret rfl (by exact Nat.le_of_ble_eq_true rfl) (by exact Nat.le_of_ble_eq_true rfl) dX3_goes_20
def c_X3_plays_36 (x1 : Int32) (t0 : Int32) (t1 : Int32) (t2 : Int32) (S : MO) : Option (Int32 × MO) :=
  gd t2 1085 (nm (fun (S7 : MO) => if x1 = ((-1) : Int32) then (some (((-1) : Int32), S7)) else (gd ((59 : Int32) + x1) 1085 (some (((S7.2.1 1) (Int32.toNatClampNeg ((59 : Int32) + x1))), S7)))) (S.1, up2 S.2.1 1 (upd (S.2.1 1) (Int32.toNatClampNeg t2) (t1 + t0)), S.2.2))
def f_X3_plays (S : MO) : Option (Int32 × MO) :=
  gd (5 : Int32) 1085 (gd (6 : Int32) 1085 (bd (f_X3_cellAt ((S.2.1 1) (Int32.toNatClampNeg (5 : Int32))) ((S.2.1 1) (Int32.toNatClampNeg (6 : Int32))) S) (fun (r3 : Int32) => gd (6 : Int32) 1085 (if r3 = ((-1) : Int32) then (c_X3_plays_36 r3 (0 : Int32) ((S.2.1 1) (Int32.toNatClampNeg (6 : Int32))) (6 : Int32) S) else (c_X3_plays_36 r3 (1 : Int32) ((S.2.1 1) (Int32.toNatClampNeg (6 : Int32))) (6 : Int32) S)))))
abbrev rm_X3_plays : Room := { frames := 2, cells := 0, slots := 0, locals := 46 }
theorem np_X3_plays : yX3_plays.cls ≠ "java/lang/invoke/MethodHandle" ∧ yX3_plays.cls ≠ "java/lang/invoke/VarHandle" ∧ (parseMethodDescriptor yX3_plays.desc).map (fun d => d.parameters.length) = some 0 := by decide +kernel
set_option maxHeartbeats 4000000 in
set_option maxRecDepth 100000 in
theorem k_X3_plays (l : Launch) (D : va_G) (cs : CS) (a : Nat → Nat) (S : MO) {r9 : Int32} {S9 : MO} (h : f_X3_plays S = some (r9, S9)) : MI l D cs yX3_plays cX3_plays 2 .int rm_X3_plays [.ref (a 0)] (wM cs.1 a S) r9 (wM cs.1 a S9) := by
  refine MI_of (by decide) (Nat.le_of_ble_eq_true rfl) ?_
  rintro Γ rfl rfl rfl B ret
  show X Γ 2 0 0 0 [(0, .ref (a 0))] [] (wM Γ.cs.1 a S)
  have h36 : ∀ (x1 : Int32) (t0 : Int32) (t1 : Int32) (t2 : Int32) (S : MO), c_X3_plays_36  x1 t0 t1 t2 S = some (r9, S9) → X Γ 2 0 0 36 [(0, .ref (a 0)), (1, .int x1)] [.int t0, .int t1, .int t2, .ref (a 1)] (wM Γ.cs.1 a S) := by
    intro  x1 t0 t1 t2 S h
    unfold c_X3_plays_36 at h
    refine x_iadd B (pc' := 37) dX3_plays_36 rfl ?_
    obtain ⟨hi6, h⟩ := gd_elim h
    obtain ⟨S7, eS7, h⟩ := nm_elim h
    refine m_ast1 B (pc' := 38) hi6 dX3_plays_37 rfl ?_
    refine m_wd eS7 ?_
    refine x_iload_n B (pc' := 39) 1 dX3_plays_38 rfl rfl rfl ?_
    refine x_iconst B (pc' := 40) (-1) dX3_plays_39 (by decide) rfl ?_
    refine x_icmp_ne B 47 43 dX3_plays_40 (by decide) rfl (fun hc8 => ?_) (fun hc8 => ?_)
    · replace h := ite_f hc8 h
      refine x_aload_n B (pc' := 48) 0 dX3_plays_47 rfl rfl rfl ?_
      refine m_ref1 B (pc' := 51) wf_RX3_7 dX3_plays_48 rfl ?_
      refine x_bipush B (pc' := 53) 59 dX3_plays_51 (by decide) rfl ?_
      refine x_iload_n B (pc' := 54) 1 dX3_plays_53 rfl rfl rfl ?_
      refine x_iadd B (pc' := 55) dX3_plays_54 rfl ?_
      obtain ⟨hi9, h⟩ := gd_elim h
      refine m_ald1 B (pc' := 56) hi9 dX3_plays_55 rfl ?_
      obtain ⟨h1, h2⟩ := some2 h
      subst h1
      subst h2
      exact ret rfl (by exact Nat.le_of_ble_eq_true rfl) (by exact Nat.le_of_ble_eq_true rfl) dX3_plays_56
    · replace h := ite_t hc8 h
      refine x_iconst B (pc' := 44) (-1) dX3_plays_43 (by decide) rfl ?_
      refine x_goto B (pc' := 56) dX3_plays_44 (by decide) ?_
      obtain ⟨h1, h2⟩ := some2 h
      subst h1
      subst h2
      exact ret rfl (by exact Nat.le_of_ble_eq_true rfl) (by exact Nat.le_of_ble_eq_true rfl) dX3_plays_56
  unfold f_X3_plays at h
  refine x_aload_n B (pc' := 1) 0 dX3_plays_0 rfl rfl rfl ?_
  refine x_aload_n B (pc' := 2) 0 dX3_plays_1 rfl rfl rfl ?_
  refine m_ref1 B (pc' := 5) wf_RX3_7 dX3_plays_2 rfl ?_
  refine x_iconst B (pc' := 6) 5 dX3_plays_5 (by decide) rfl ?_
  obtain ⟨hi1, h⟩ := gd_elim h
  refine m_ald1 B (pc' := 7) hi1 dX3_plays_6 rfl ?_
  refine x_aload_n B (pc' := 8) 0 dX3_plays_7 rfl rfl rfl ?_
  refine m_ref1 B (pc' := 11) wf_RX3_7 dX3_plays_8 rfl ?_
  refine x_bipush B (pc' := 13) 6 dX3_plays_11 (by decide) rfl ?_
  obtain ⟨hi2, h⟩ := gd_elim h
  refine m_ald1 B (pc' := 14) hi2 dX3_plays_13 rfl ?_
  obtain ⟨r3, er3, h⟩ := bd_elim h
  refine x_selfVi B (pc' := 17) [.int ((S.2.1 1) (Int32.toNatClampNeg (5 : Int32))), .int ((S.2.1 1) (Int32.toNatClampNeg (6 : Int32)))] (k_X3_cellAt _ _ _ a ((S.2.1 1) (Int32.toNatClampNeg (5 : Int32))) ((S.2.1 1) (Int32.toNatClampNeg (6 : Int32))) S er3) rfl rfl gv_RX3_49 rfl np_X3_cellAt ⟨Nat.le_of_ble_eq_true rfl, Nat.le_of_ble_eq_true rfl⟩ ⟨by exact Nat.le_of_ble_eq_true rfl, by exact Nat.le_of_ble_eq_true rfl⟩ rfl (Nat.le_of_ble_eq_true rfl) dX3_plays_14 rfl ?_
  refine x_istore_n B (pc' := 18) [1, 0] [(0, .ref (a 0)), (1, .int r3)] dX3_plays_17 rfl (by decide) rfl rfl ?_
  refine x_aload_n B (pc' := 19) 0 dX3_plays_18 rfl rfl rfl ?_
  refine m_ref1 B (pc' := 22) wf_RX3_7 dX3_plays_19 rfl ?_
  refine x_bipush B (pc' := 24) 6 dX3_plays_22 (by decide) rfl ?_
  refine x_dup2 B (pc' := 25) dX3_plays_24 rfl rfl rfl ?_
  obtain ⟨hi4, h⟩ := gd_elim h
  refine m_ald1 B (pc' := 26) hi4 dX3_plays_25 rfl ?_
  refine x_iload_n B (pc' := 27) 1 dX3_plays_26 rfl rfl rfl ?_
  refine x_iconst B (pc' := 28) (-1) dX3_plays_27 (by decide) rfl ?_
  refine x_icmp_ne B 35 31 dX3_plays_28 (by decide) rfl (fun hc5 => ?_) (fun hc5 => ?_)
  · replace h := ite_f hc5 h
    refine x_iconst B (pc' := 36) 1 dX3_plays_35 (by decide) rfl ?_
    exact h36  _ _ _ _ _ h
  · replace h := ite_t hc5 h
    refine x_iconst B (pc' := 32) 0 dX3_plays_31 (by decide) rfl ?_
    refine x_goto B (pc' := 36) dX3_plays_32 (by decide) ?_
    exact h36  _ _ _ _ _ h
def c_X3_goesBack_30 (t0 : Int32) (t1 : Int32) (S : MO) : Option (Int32 × MO) :=
  gd t1 1085 (nm (fun (S5 : MO) => gd (6 : Int32) 1085 (some (((S5.2.1 1) (Int32.toNatClampNeg (6 : Int32))), S5))) (S.1, up2 S.2.1 1 (upd (S.2.1 1) (Int32.toNatClampNeg t1) t0), S.2.2))
def f_X3_goesBack (p0 : Int32) (S : MO) : Option (Int32 × MO) :=
  gd (6 : Int32) 1085 (if p0 ≤ ((S.2.1 1) (Int32.toNatClampNeg (6 : Int32))) then (gd (6 : Int32) 1085 (c_X3_goesBack_30 (((S.2.1 1) (Int32.toNatClampNeg (6 : Int32))) - p0) (6 : Int32) S)) else (c_X3_goesBack_30 (0 : Int32) (6 : Int32) S))
abbrev rm_X3_goesBack : Room := { frames := 0, cells := 0, slots := 0, locals := 0 }
theorem np_X3_goesBack : yX3_goesBack.cls ≠ "java/lang/invoke/MethodHandle" ∧ yX3_goesBack.cls ≠ "java/lang/invoke/VarHandle" ∧ (parseMethodDescriptor yX3_goesBack.desc).map (fun d => d.parameters.length) = some 1 := by decide +kernel
set_option maxHeartbeats 4000000 in
set_option maxRecDepth 100000 in
theorem k_X3_goesBack (l : Launch) (D : va_G) (cs : CS) (a : Nat → Nat) (p0 : Int32) (S : MO) {r9 : Int32} {S9 : MO} (h : f_X3_goesBack p0 S = some (r9, S9)) : MI l D cs yX3_goesBack cX3_goesBack 2 .int rm_X3_goesBack [.ref (a 0), .int p0] (wM cs.1 a S) r9 (wM cs.1 a S9) := by
  refine MI_of (by decide) (Nat.le_of_ble_eq_true rfl) ?_
  rintro Γ rfl rfl rfl B ret
  show X Γ 2 0 0 0 [(0, .ref (a 0)), (1, .int p0)] [] (wM Γ.cs.1 a S)
  have h30 : ∀ (t0 : Int32) (t1 : Int32) (S : MO), c_X3_goesBack_30  t0 t1 S = some (r9, S9) → X Γ 2 0 0 30 [(0, .ref (a 0))] [.int t0, .int t1, .ref (a 1)] (wM Γ.cs.1 a S) := by
    intro  t0 t1 S h
    unfold c_X3_goesBack_30 at h
    obtain ⟨hi4, h⟩ := gd_elim h
    obtain ⟨S5, eS5, h⟩ := nm_elim h
    refine m_ast1 B (pc' := 31) hi4 dX3_goesBack_30 rfl ?_
    refine m_wd eS5 ?_
    refine x_aload_n B (pc' := 32) 0 dX3_goesBack_31 rfl rfl rfl ?_
    refine m_ref1 B (pc' := 35) wf_RX3_7 dX3_goesBack_32 rfl ?_
    refine x_bipush B (pc' := 37) 6 dX3_goesBack_35 (by decide) rfl ?_
    obtain ⟨hi6, h⟩ := gd_elim h
    refine m_ald1 B (pc' := 38) hi6 dX3_goesBack_37 rfl ?_
    obtain ⟨h1, h2⟩ := some2 h
    subst h1
    subst h2
    exact ret rfl (by exact Nat.le_of_ble_eq_true rfl) (by exact Nat.le_of_ble_eq_true rfl) dX3_goesBack_38
  unfold f_X3_goesBack at h
  refine x_aload_n B (pc' := 1) 0 dX3_goesBack_0 rfl rfl rfl ?_
  refine m_ref1 B (pc' := 4) wf_RX3_7 dX3_goesBack_1 rfl ?_
  refine x_bipush B (pc' := 6) 6 dX3_goesBack_4 (by decide) rfl ?_
  refine x_aload_n B (pc' := 7) 0 dX3_goesBack_6 rfl rfl rfl ?_
  refine m_ref1 B (pc' := 10) wf_RX3_7 dX3_goesBack_7 rfl ?_
  refine x_bipush B (pc' := 12) 6 dX3_goesBack_10 (by decide) rfl ?_
  obtain ⟨hi1, h⟩ := gd_elim h
  refine m_ald1 B (pc' := 13) hi1 dX3_goesBack_12 rfl ?_
  refine x_iload_n B (pc' := 14) 1 dX3_goesBack_13 rfl rfl rfl ?_
  refine x_icmp_ge B 21 17 dX3_goesBack_14 (by decide) rfl (fun hc2 => ?_) (fun hc2 => ?_)
  · replace h := ite_t hc2 h
    refine x_aload_n B (pc' := 22) 0 dX3_goesBack_21 rfl rfl rfl ?_
    refine m_ref1 B (pc' := 25) wf_RX3_7 dX3_goesBack_22 rfl ?_
    refine x_bipush B (pc' := 27) 6 dX3_goesBack_25 (by decide) rfl ?_
    obtain ⟨hi3, h⟩ := gd_elim h
    refine m_ald1 B (pc' := 28) hi3 dX3_goesBack_27 rfl ?_
    refine x_iload_n B (pc' := 29) 1 dX3_goesBack_28 rfl rfl rfl ?_
    refine x_isub B (pc' := 30) dX3_goesBack_29 rfl ?_
    refine x_lv [0] (lv' := [(0, .ref (a 0))]) rfl ?_
    exact h30  _ _ _ h
  · replace h := ite_f hc2 h
    refine x_iconst B (pc' := 18) 0 dX3_goesBack_17 (by decide) rfl ?_
    refine x_goto B (pc' := 30) dX3_goesBack_18 (by decide) ?_
    refine x_lv [0] (lv' := [(0, .ref (a 0))]) rfl ?_
    exact h30  _ _ _ h
def b_X3_copies_2 (K2 : Int32 → Int32 → Int32 → MO → Option MO) (x1 : Int32) (x2 : Int32) (x3 : Int32) (S : MO) : Option MO :=
  if (155 : Int32) ≤ x3 then (some S) else (gd (((155 : Int32) * x1) + x3) 1085 (gd (((155 : Int32) * x2) + x3) 1085 (nm (fun (S4 : MO) => nm (fun (v5 : Int32) => K2 x1 x2 v5 S4) (x3 + 1)) (S.1, up2 S.2.1 1 (upd (S.2.1 1) (Int32.toNatClampNeg (((155 : Int32) * x2) + x3)) ((S.2.1 1) (Int32.toNatClampNeg (((155 : Int32) * x1) + x3)))), S.2.2))))
def f_X3_copies (p0 : Int32) (p1 : Int32) (S : MO) : Option MO :=
  lpf4 (b_X3_copies_2) FU p0 p1 (0 : Int32) S
abbrev rm_X3_copies : Room := { frames := 0, cells := 0, slots := 0, locals := 0 }
theorem np_X3_copies : yX3_copies.cls ≠ "java/lang/invoke/MethodHandle" ∧ yX3_copies.cls ≠ "java/lang/invoke/VarHandle" ∧ (parseMethodDescriptor yX3_copies.desc).map (fun d => d.parameters.length) = some 2 := by decide +kernel
set_option maxHeartbeats 4000000 in
set_option maxRecDepth 100000 in
theorem k_X3_copies (l : Launch) (D : va_G) (cs : CS) (a : Nat → Nat) (p0 : Int32) (p1 : Int32) (S : MO) {S9 : MO} (h : f_X3_copies p0 p1 S = some S9) : MV l D cs yX3_copies cX3_copies 4 rm_X3_copies [.ref (a 0), .int p0, .int p1] (wM cs.1 a S) (wM cs.1 a S9) := by
  refine MV_of (by decide) (Nat.le_of_ble_eq_true rfl) ?_
  rintro Γ rfl rfl rfl B ret
  show X Γ 4 0 0 0 [(0, .ref (a 0)), (1, .int p0), (2, .int p1)] [] (wM Γ.cs.1 a S)
  have h2 : ∀ (n9 : Nat) (x1 : Int32) (x2 : Int32) (x3 : Int32) (S : MO), lpf4 (b_X3_copies_2) n9 x1 x2 x3 S = some S9 → X Γ 4 0 0 2 [(0, .ref (a 0)), (1, .int x1), (2, .int x2), (3, .int x3)] [] (wM Γ.cs.1 a S) := by
    refine lpf4_ind (fun K2 hK2 x1 x2 x3 S h => ?_)
    unfold b_X3_copies_2 at h
    refine x_iload_n B (pc' := 3) 3 dX3_copies_2 rfl rfl rfl ?_
    refine x_sipush B (pc' := 6) 155 dX3_copies_3 (by decide) rfl ?_
    refine x_icmp_ge B 39 9 dX3_copies_6 (by decide) rfl (fun hc1 => ?_) (fun hc1 => ?_)
    · replace h := ite_t hc1 h
      cases h
      exact ret (by exact Nat.le_of_ble_eq_true rfl) (by exact Nat.le_of_ble_eq_true rfl) dX3_copies_39
    · replace h := ite_f hc1 h
      refine x_aload_n B (pc' := 10) 0 dX3_copies_9 rfl rfl rfl ?_
      refine m_ref1 B (pc' := 13) wf_RX3_7 dX3_copies_10 rfl ?_
      refine x_sipush B (pc' := 16) 155 dX3_copies_13 (by decide) rfl ?_
      refine x_iload_n B (pc' := 17) 2 dX3_copies_16 rfl rfl rfl ?_
      refine x_imul B (pc' := 18) dX3_copies_17 rfl ?_
      refine x_iload_n B (pc' := 19) 3 dX3_copies_18 rfl rfl rfl ?_
      refine x_iadd B (pc' := 20) dX3_copies_19 rfl ?_
      refine x_aload_n B (pc' := 21) 0 dX3_copies_20 rfl rfl rfl ?_
      refine m_ref1 B (pc' := 24) wf_RX3_7 dX3_copies_21 rfl ?_
      refine x_sipush B (pc' := 27) 155 dX3_copies_24 (by decide) rfl ?_
      refine x_iload_n B (pc' := 28) 1 dX3_copies_27 rfl rfl rfl ?_
      refine x_imul B (pc' := 29) dX3_copies_28 rfl ?_
      refine x_iload_n B (pc' := 30) 3 dX3_copies_29 rfl rfl rfl ?_
      refine x_iadd B (pc' := 31) dX3_copies_30 rfl ?_
      obtain ⟨hi2, h⟩ := gd_elim h
      refine m_ald1 B (pc' := 32) hi2 dX3_copies_31 rfl ?_
      obtain ⟨hi3, h⟩ := gd_elim h
      obtain ⟨S4, eS4, h⟩ := nm_elim h
      refine m_ast1 B (pc' := 33) hi3 dX3_copies_32 rfl ?_
      refine m_wd eS4 ?_
      obtain ⟨v5, ev5, h⟩ := nm_elim h
      refine x_iinc B (pc' := 36) v5 3 [1, 2, 3, 0] [(0, .ref (a 0)), (1, .int x1), (2, .int x2), (3, .int v5)] dX3_copies_33 rfl (by rw [ev5]; rfl) (by decide) rfl rfl ?_
      refine x_goto B (pc' := 2) dX3_copies_36 (by decide) ?_
      exact hK2 _ _ _ _ h
  unfold f_X3_copies at h
  refine x_iconst B (pc' := 1) 0 dX3_copies_0 (by decide) rfl ?_
  refine x_istore_n B (pc' := 2) [1, 2, 3, 0] [(0, .ref (a 0)), (1, .int p0), (2, .int p1), (3, .int (0 : Int32))] dX3_copies_1 rfl (by decide) rfl rfl ?_
  exact h2  _ _ _ _ _ h
def c_X3_save_50 (t0 : Int32) (t1 : Int32) (S : MO) : Option MO :=
  nm (fun (S6 : MO) => bd (f_X3_copies (0 : Int32) (S6.1 2) S6) (fun (S7 : MO) => some S7)) (upd S.1 2 (t1 + t0), S.2)
def c_X3_save_31 (S : MO) : Option MO :=
  if (6 : Int32) ≤ (S.1 2) then (c_X3_save_50 (0 : Int32) (S.1 2) S) else (c_X3_save_50 (1 : Int32) (S.1 2) S)
def b_X3_save_2 (K2 : Int32 → MO → Option MO) (x1 : Int32) (S : MO) : Option MO :=
  if (6 : Int32) ≤ x1 then (c_X3_save_31 S) else (if (S.1 2) = (6 : Int32) then (bd (f_X3_copies (x1 + (1 : Int32)) x1 S) (fun (S3 : MO) => nm (fun (v4 : Int32) => K2 v4 S3) (x1 + 1))) else (c_X3_save_31 S))
def f_X3_save (S : MO) : Option MO :=
  lpf2 (b_X3_save_2) FU (1 : Int32) S
abbrev rm_X3_save : Room := { frames := 1, cells := 0, slots := 0, locals := 23 }
theorem np_X3_save : yX3_save.cls ≠ "java/lang/invoke/MethodHandle" ∧ yX3_save.cls ≠ "java/lang/invoke/VarHandle" ∧ (parseMethodDescriptor yX3_save.desc).map (fun d => d.parameters.length) = some 0 := by decide +kernel
set_option maxHeartbeats 4000000 in
set_option maxRecDepth 100000 in
theorem k_X3_save (l : Launch) (D : va_G) (cs : CS) (a : Nat → Nat) (S : MO) {S9 : MO} (h : f_X3_save S = some S9) : MV l D cs yX3_save cX3_save 2 rm_X3_save [.ref (a 0)] (wM cs.1 a S) (wM cs.1 a S9) := by
  refine MV_of (by decide) (Nat.le_of_ble_eq_true rfl) ?_
  rintro Γ rfl rfl rfl B ret
  show X Γ 2 0 0 0 [(0, .ref (a 0))] [] (wM Γ.cs.1 a S)
  have h50 : ∀ (t0 : Int32) (t1 : Int32) (S : MO), c_X3_save_50  t0 t1 S = some S9 → X Γ 2 0 0 50 [(0, .ref (a 0))] [.int t0, .int t1, .ref (a 0)] (wM Γ.cs.1 a S) := by
    intro  t0 t1 S h
    unfold c_X3_save_50 at h
    refine x_iadd B (pc' := 51) dX3_save_50 rfl ?_
    obtain ⟨S6, eS6, h⟩ := nm_elim h
    refine m_put2 B (pc' := 54) wf_RX3_53 dX3_save_51 rfl ?_
    refine m_wd eS6 ?_
    refine x_aload_n B (pc' := 55) 0 dX3_save_54 rfl rfl rfl ?_
    refine x_iconst B (pc' := 56) 0 dX3_save_55 (by decide) rfl ?_
    refine x_aload_n B (pc' := 57) 0 dX3_save_56 rfl rfl rfl ?_
    refine m_get2 B (pc' := 60) wf_RX3_53 dX3_save_57 rfl ?_
    obtain ⟨S7, eS7, h⟩ := bd_elim h
    refine x_selfVv B (pc' := 63) [.int (0 : Int32), .int (S6.1 2)] (k_X3_copies _ _ _ a (0 : Int32) (S6.1 2) S6 eS7) rfl rfl gv_RX3_56 rfl np_X3_copies ⟨Nat.le_of_ble_eq_true rfl, Nat.le_of_ble_eq_true rfl⟩ ⟨by exact Nat.le_of_ble_eq_true rfl, by exact Nat.le_of_ble_eq_true rfl⟩ rfl (Nat.le_of_ble_eq_true rfl) dX3_save_60 rfl ?_
    cases h
    exact ret (by exact Nat.le_of_ble_eq_true rfl) (by exact Nat.le_of_ble_eq_true rfl) dX3_save_63
  have h31 : ∀ (S : MO), c_X3_save_31  S = some S9 → X Γ 2 0 0 31 [(0, .ref (a 0))] [] (wM Γ.cs.1 a S) := by
    intro  S h
    unfold c_X3_save_31 at h
    refine x_aload_n B (pc' := 32) 0 dX3_save_31 rfl rfl rfl ?_
    refine x_dup B (pc' := 33) dX3_save_32 rfl rfl ?_
    refine m_get2 B (pc' := 36) wf_RX3_53 dX3_save_33 rfl ?_
    refine x_aload_n B (pc' := 37) 0 dX3_save_36 rfl rfl rfl ?_
    refine m_get2 B (pc' := 40) wf_RX3_53 dX3_save_37 rfl ?_
    refine x_bipush B (pc' := 42) 6 dX3_save_40 (by decide) rfl ?_
    refine x_icmp_ge B 49 45 dX3_save_42 (by decide) rfl (fun hc5 => ?_) (fun hc5 => ?_)
    · replace h := ite_t hc5 h
      refine x_iconst B (pc' := 50) 0 dX3_save_49 (by decide) rfl ?_
      exact h50  _ _ _ h
    · replace h := ite_f hc5 h
      refine x_iconst B (pc' := 46) 1 dX3_save_45 (by decide) rfl ?_
      refine x_goto B (pc' := 50) dX3_save_46 (by decide) ?_
      exact h50  _ _ _ h
  have h2 : ∀ (n9 : Nat) (x1 : Int32) (S : MO), lpf2 (b_X3_save_2) n9 x1 S = some S9 → X Γ 2 0 0 2 [(0, .ref (a 0)), (1, .int x1)] [] (wM Γ.cs.1 a S) := by
    refine lpf2_ind (fun K2 hK2 x1 S h => ?_)
    unfold b_X3_save_2 at h
    refine x_iload_n B (pc' := 3) 1 dX3_save_2 rfl rfl rfl ?_
    refine x_bipush B (pc' := 5) 6 dX3_save_3 (by decide) rfl ?_
    refine x_icmp_ge B 31 8 dX3_save_5 (by decide) rfl (fun hc1 => ?_) (fun hc1 => ?_)
    · replace h := ite_t hc1 h
      refine x_lv [0] (lv' := [(0, .ref (a 0))]) rfl ?_
      exact h31  _ h
    · replace h := ite_f hc1 h
      refine x_aload_n B (pc' := 9) 0 dX3_save_8 rfl rfl rfl ?_
      refine m_get2 B (pc' := 12) wf_RX3_53 dX3_save_9 rfl ?_
      refine x_bipush B (pc' := 14) 6 dX3_save_12 (by decide) rfl ?_
      refine x_icmp_ne B 31 17 dX3_save_14 (by decide) rfl (fun hc2 => ?_) (fun hc2 => ?_)
      · replace h := ite_f hc2 h
        refine x_lv [0] (lv' := [(0, .ref (a 0))]) rfl ?_
        exact h31  _ h
      · replace h := ite_t hc2 h
        refine x_aload_n B (pc' := 18) 0 dX3_save_17 rfl rfl rfl ?_
        refine x_iload_n B (pc' := 19) 1 dX3_save_18 rfl rfl rfl ?_
        refine x_iconst B (pc' := 20) 1 dX3_save_19 (by decide) rfl ?_
        refine x_iadd B (pc' := 21) dX3_save_20 rfl ?_
        refine x_iload_n B (pc' := 22) 1 dX3_save_21 rfl rfl rfl ?_
        obtain ⟨S3, eS3, h⟩ := bd_elim h
        refine x_selfVv B (pc' := 25) [.int (x1 + (1 : Int32)), .int x1] (k_X3_copies _ _ _ a (x1 + (1 : Int32)) x1 S eS3) rfl rfl gv_RX3_56 rfl np_X3_copies ⟨Nat.le_of_ble_eq_true rfl, Nat.le_of_ble_eq_true rfl⟩ ⟨by exact Nat.le_of_ble_eq_true rfl, by exact Nat.le_of_ble_eq_true rfl⟩ rfl (Nat.le_of_ble_eq_true rfl) dX3_save_22 rfl ?_
        obtain ⟨v4, ev4, h⟩ := nm_elim h
        refine x_iinc B (pc' := 28) v4 1 [1, 0] [(0, .ref (a 0)), (1, .int v4)] dX3_save_25 rfl (by rw [ev4]; rfl) (by decide) rfl rfl ?_
        refine x_goto B (pc' := 2) dX3_save_28 (by decide) ?_
        exact hK2 _ _ h
  unfold f_X3_save at h
  refine x_iconst B (pc' := 1) 1 dX3_save_0 (by decide) rfl ?_
  refine x_istore_n B (pc' := 2) [1, 0] [(0, .ref (a 0)), (1, .int (1 : Int32))] dX3_save_1 rfl (by decide) rfl rfl ?_
  exact h2  _ _ _ h
def c_X3_begin_13 (t0 : Int32) (S : MO) : Option (Int32 × MO) :=
  bd2 (f_X3_holds t0 S) (fun (r3 : Int32) (S4 : MO) => if r3 = 0 then (some ((0 : Int32), S4)) else (bd (f_X3_save S4) (fun (S6 : MO) => bd2 (f_X3_begins S6) (fun (r7 : Int32) (S8 : MO) => some (r7, S8)))))
def f_X3_begin (S : MO) : Option (Int32 × MO) :=
  bd (f_X3_canBegin S) (fun (r1 : Int32) => if r1 = 0 then (c_X3_begin_13 (1 : Int32) S) else (c_X3_begin_13 (0 : Int32) S))
abbrev rm_X3_begin : Room := { frames := 3, cells := 0, slots := 0, locals := 65 }
theorem np_X3_begin : yX3_begin.cls ≠ "java/lang/invoke/MethodHandle" ∧ yX3_begin.cls ≠ "java/lang/invoke/VarHandle" ∧ (parseMethodDescriptor yX3_begin.desc).map (fun d => d.parameters.length) = some 0 := by decide +kernel
set_option maxHeartbeats 4000000 in
set_option maxRecDepth 100000 in
theorem k_X3_begin (l : Launch) (D : va_G) (cs : CS) (a : Nat → Nat) (S : MO) {r9 : Int32} {S9 : MO} (h : f_X3_begin S = some (r9, S9)) : MI l D cs yX3_begin cX3_begin 1 .int rm_X3_begin [.ref (a 0)] (wM cs.1 a S) r9 (wM cs.1 a S9) := by
  refine MI_of (by decide) (Nat.le_of_ble_eq_true rfl) ?_
  rintro Γ rfl rfl rfl B ret
  show X Γ 1 0 0 0 [(0, .ref (a 0))] [] (wM Γ.cs.1 a S)
  have h13 : ∀ (t0 : Int32) (S : MO), c_X3_begin_13  t0 S = some (r9, S9) → X Γ 1 0 0 13 [(0, .ref (a 0))] [.int t0, .ref (a 0)] (wM Γ.cs.1 a S) := by
    intro  t0 S h
    unfold c_X3_begin_13 at h
    obtain ⟨r3, S4, er3, h⟩ := bd2_elim h
    refine x_selfVi B (pc' := 16) [.int t0] (k_X3_holds _ _ _ a t0 S er3) rfl rfl gv_RX3_64 rfl np_X3_holds ⟨Nat.le_of_ble_eq_true rfl, Nat.le_of_ble_eq_true rfl⟩ ⟨by exact Nat.le_of_ble_eq_true rfl, by exact Nat.le_of_ble_eq_true rfl⟩ rfl (Nat.le_of_ble_eq_true rfl) dX3_begin_13 rfl ?_
    refine x_if_ne B 21 19 dX3_begin_16 (by decide) rfl (fun hc5 => ?_) (fun hc5 => ?_)
    · replace h := ite_f hc5 h
      refine x_aload_n B (pc' := 22) 0 dX3_begin_21 rfl rfl rfl ?_
      obtain ⟨S6, eS6, h⟩ := bd_elim h
      refine x_selfVv B (pc' := 25) [] (k_X3_save _ _ _ a S4 eS6) rfl rfl gv_RX3_67 rfl np_X3_save ⟨Nat.le_of_ble_eq_true rfl, Nat.le_of_ble_eq_true rfl⟩ ⟨by exact Nat.le_of_ble_eq_true rfl, by exact Nat.le_of_ble_eq_true rfl⟩ rfl (Nat.le_of_ble_eq_true rfl) dX3_begin_22 rfl ?_
      refine x_aload_n B (pc' := 26) 0 dX3_begin_25 rfl rfl rfl ?_
      obtain ⟨r7, S8, er7, h⟩ := bd2_elim h
      refine x_selfVi B (pc' := 29) [] (k_X3_begins _ _ _ a S6 er7) rfl rfl gv_RX3_70 rfl np_X3_begins ⟨Nat.le_of_ble_eq_true rfl, Nat.le_of_ble_eq_true rfl⟩ ⟨by exact Nat.le_of_ble_eq_true rfl, by exact Nat.le_of_ble_eq_true rfl⟩ rfl (Nat.le_of_ble_eq_true rfl) dX3_begin_26 rfl ?_
      obtain ⟨h1, h2⟩ := some2 h
      subst h1
      subst h2
      exact ret rfl (by exact Nat.le_of_ble_eq_true rfl) (by exact Nat.le_of_ble_eq_true rfl) dX3_begin_29
    · replace h := ite_t hc5 h
      refine x_iconst B (pc' := 20) 0 dX3_begin_19 (by decide) rfl ?_
      obtain ⟨h1, h2⟩ := some2 h
      subst h1
      subst h2
      exact ret rfl (by exact Nat.le_of_ble_eq_true rfl) (by exact Nat.le_of_ble_eq_true rfl) dX3_begin_20
  unfold f_X3_begin at h
  refine x_aload_n B (pc' := 1) 0 dX3_begin_0 rfl rfl rfl ?_
  refine x_aload_n B (pc' := 2) 0 dX3_begin_1 rfl rfl rfl ?_
  obtain ⟨r1, er1, h⟩ := bd_elim h
  refine x_selfVi B (pc' := 5) [] (k_X3_canBegin _ _ _ a S er1) rfl rfl gv_RX3_60 rfl np_X3_canBegin ⟨Nat.le_of_ble_eq_true rfl, Nat.le_of_ble_eq_true rfl⟩ ⟨by exact Nat.le_of_ble_eq_true rfl, by exact Nat.le_of_ble_eq_true rfl⟩ rfl (Nat.le_of_ble_eq_true rfl) dX3_begin_2 rfl ?_
  refine x_if_eq B 12 8 dX3_begin_5 (by decide) rfl (fun hc2 => ?_) (fun hc2 => ?_)
  · replace h := ite_t hc2 h
    refine x_iconst B (pc' := 13) 1 dX3_begin_12 (by decide) rfl ?_
    exact h13  _ _ h
  · replace h := ite_f hc2 h
    refine x_iconst B (pc' := 9) 0 dX3_begin_8 (by decide) rfl ?_
    refine x_goto B (pc' := 13) dX3_begin_9 (by decide) ?_
    exact h13  _ _ h
def c_X3_halt_16 (t0 : Int32) (S : MO) : Option (Int32 × MO) :=
  bd2 (f_X3_holds t0 S) (fun (r3 : Int32) (S4 : MO) => if r3 = 0 then (some ((0 : Int32), S4)) else (bd (f_X3_save S4) (fun (S6 : MO) => bd2 (f_X3_halts S6) (fun (r7 : Int32) (S8 : MO) => some (r7, S8)))))
def f_X3_halt (S : MO) : Option (Int32 × MO) :=
  gd (1 : Int32) 1085 (if ((S.2.1 1) (Int32.toNatClampNeg (1 : Int32))) = ((-1) : Int32) then (c_X3_halt_16 (1 : Int32) S) else (c_X3_halt_16 (0 : Int32) S))
abbrev rm_X3_halt : Room := { frames := 2, cells := 0, slots := 0, locals := 45 }
theorem np_X3_halt : yX3_halt.cls ≠ "java/lang/invoke/MethodHandle" ∧ yX3_halt.cls ≠ "java/lang/invoke/VarHandle" ∧ (parseMethodDescriptor yX3_halt.desc).map (fun d => d.parameters.length) = some 0 := by decide +kernel
set_option maxHeartbeats 4000000 in
set_option maxRecDepth 100000 in
theorem k_X3_halt (l : Launch) (D : va_G) (cs : CS) (a : Nat → Nat) (S : MO) {r9 : Int32} {S9 : MO} (h : f_X3_halt S = some (r9, S9)) : MI l D cs yX3_halt cX3_halt 1 .int rm_X3_halt [.ref (a 0)] (wM cs.1 a S) r9 (wM cs.1 a S9) := by
  refine MI_of (by decide) (Nat.le_of_ble_eq_true rfl) ?_
  rintro Γ rfl rfl rfl B ret
  show X Γ 1 0 0 0 [(0, .ref (a 0))] [] (wM Γ.cs.1 a S)
  have h16 : ∀ (t0 : Int32) (S : MO), c_X3_halt_16  t0 S = some (r9, S9) → X Γ 1 0 0 16 [(0, .ref (a 0))] [.int t0, .ref (a 0)] (wM Γ.cs.1 a S) := by
    intro  t0 S h
    unfold c_X3_halt_16 at h
    obtain ⟨r3, S4, er3, h⟩ := bd2_elim h
    refine x_selfVi B (pc' := 19) [.int t0] (k_X3_holds _ _ _ a t0 S er3) rfl rfl gv_RX3_64 rfl np_X3_holds ⟨Nat.le_of_ble_eq_true rfl, Nat.le_of_ble_eq_true rfl⟩ ⟨by exact Nat.le_of_ble_eq_true rfl, by exact Nat.le_of_ble_eq_true rfl⟩ rfl (Nat.le_of_ble_eq_true rfl) dX3_halt_16 rfl ?_
    refine x_if_ne B 24 22 dX3_halt_19 (by decide) rfl (fun hc5 => ?_) (fun hc5 => ?_)
    · replace h := ite_f hc5 h
      refine x_aload_n B (pc' := 25) 0 dX3_halt_24 rfl rfl rfl ?_
      obtain ⟨S6, eS6, h⟩ := bd_elim h
      refine x_selfVv B (pc' := 28) [] (k_X3_save _ _ _ a S4 eS6) rfl rfl gv_RX3_67 rfl np_X3_save ⟨Nat.le_of_ble_eq_true rfl, Nat.le_of_ble_eq_true rfl⟩ ⟨by exact Nat.le_of_ble_eq_true rfl, by exact Nat.le_of_ble_eq_true rfl⟩ rfl (Nat.le_of_ble_eq_true rfl) dX3_halt_25 rfl ?_
      refine x_aload_n B (pc' := 29) 0 dX3_halt_28 rfl rfl rfl ?_
      obtain ⟨r7, S8, er7, h⟩ := bd2_elim h
      refine x_selfVi B (pc' := 32) [] (k_X3_halts _ _ _ a S6 er7) rfl rfl gv_RX3_42 rfl np_X3_halts ⟨Nat.le_of_ble_eq_true rfl, Nat.le_of_ble_eq_true rfl⟩ ⟨by exact Nat.le_of_ble_eq_true rfl, by exact Nat.le_of_ble_eq_true rfl⟩ rfl (Nat.le_of_ble_eq_true rfl) dX3_halt_29 rfl ?_
      obtain ⟨h1, h2⟩ := some2 h
      subst h1
      subst h2
      exact ret rfl (by exact Nat.le_of_ble_eq_true rfl) (by exact Nat.le_of_ble_eq_true rfl) dX3_halt_32
    · replace h := ite_t hc5 h
      refine x_iconst B (pc' := 23) 0 dX3_halt_22 (by decide) rfl ?_
      obtain ⟨h1, h2⟩ := some2 h
      subst h1
      subst h2
      exact ret rfl (by exact Nat.le_of_ble_eq_true rfl) (by exact Nat.le_of_ble_eq_true rfl) dX3_halt_23
  unfold f_X3_halt at h
  refine x_aload_n B (pc' := 1) 0 dX3_halt_0 rfl rfl rfl ?_
  refine x_aload_n B (pc' := 2) 0 dX3_halt_1 rfl rfl rfl ?_
  refine m_ref1 B (pc' := 5) wf_RX3_7 dX3_halt_2 rfl ?_
  refine x_iconst B (pc' := 6) 1 dX3_halt_5 (by decide) rfl ?_
  obtain ⟨hi1, h⟩ := gd_elim h
  refine m_ald1 B (pc' := 7) hi1 dX3_halt_6 rfl ?_
  refine x_iconst B (pc' := 8) (-1) dX3_halt_7 (by decide) rfl ?_
  refine x_icmp_ne B 15 11 dX3_halt_8 (by decide) rfl (fun hc2 => ?_) (fun hc2 => ?_)
  · replace h := ite_f hc2 h
    refine x_iconst B (pc' := 16) 0 dX3_halt_15 (by decide) rfl ?_
    exact h16  _ _ h
  · replace h := ite_t hc2 h
    refine x_iconst B (pc' := 12) 1 dX3_halt_11 (by decide) rfl ?_
    refine x_goto B (pc' := 16) dX3_halt_12 (by decide) ?_
    exact h16  _ _ h
def f_X3_isSound (p0 : Int32) : Option Int32 :=
  bd (f_X3_in p0 (0 : Int32) (99 : Int32)) (fun (r1 : Int32) => zb r1 (some r1))
abbrev rm_X3_isSound : Room := { frames := 1, cells := 0, slots := 0, locals := 22 }
theorem np_X3_isSound : yX3_isSound.cls ≠ "java/lang/invoke/MethodHandle" ∧ yX3_isSound.cls ≠ "java/lang/invoke/VarHandle" ∧ (parseMethodDescriptor yX3_isSound.desc).map (fun d => d.parameters.length) = some 1 := by decide +kernel
set_option maxHeartbeats 4000000 in
set_option maxRecDepth 100000 in
theorem k_X3_isSound (l : Launch) (D : va_G) (cs : CS)  (p0 : Int32) {r9 : Int32} (h : f_X3_isSound p0 = some r9) : MI l D cs yX3_isSound cX3_isSound 1 .boolean rm_X3_isSound [.int p0] ([]) r9 ([]) := by
  refine MI_of (by decide) (Nat.le_of_ble_eq_true rfl) ?_
  rintro Γ rfl rfl rfl B ret
  show X Γ 1 0 0 0 [(0, .int p0)] [] ([])
  unfold f_X3_isSound at h
  refine x_iload_n B (pc' := 1) 0 dX3_isSound_0 rfl rfl rfl ?_
  refine x_iconst B (pc' := 2) 0 dX3_isSound_1 (by decide) rfl ?_
  refine x_bipush B (pc' := 4) 99 dX3_isSound_2 (by decide) rfl ?_
  obtain ⟨r1, er1, h⟩ := bd_elim h
  refine x_pureSi B (pc' := 7) [.int p0, .int (0 : Int32), .int (99 : Int32)] (k_X3_in _ _ _ p0 (0 : Int32) (99 : Int32) er1) gv_RX3_20 np_X3_in ⟨Nat.le_of_ble_eq_true rfl, Nat.le_of_ble_eq_true rfl⟩ ⟨by exact Nat.le_of_ble_eq_true rfl, by exact Nat.le_of_ble_eq_true rfl⟩ rfl (Nat.le_of_ble_eq_true rfl) dX3_isSound_4 rfl ?_
  obtain ⟨hz2, h⟩ := zb_elim h
  have h1 := Option.some.inj h
  subst h1
  exact ret (zb_nar hz2) (by exact Nat.le_of_ble_eq_true rfl) (by exact Nat.le_of_ble_eq_true rfl) dX3_isSound_7
def c_X3_speak_25 (x1 : Int32) (t0 : Int32) (S : MO) : Option (Int32 × MO) :=
  bd2 (f_X3_holds t0 S) (fun (r5 : Int32) (S6 : MO) => if r5 = 0 then (some ((0 : Int32), S6)) else (bd (f_X3_save S6) (fun (S8 : MO) => bd2 (f_X3_speaks x1 S8) (fun (r9 : Int32) (S10 : MO) => some (r9, S10)))))
def f_X3_speak (p0 : Int32) (S : MO) : Option (Int32 × MO) :=
  bd (f_X3_isSound p0) (fun (r1 : Int32) => if r1 = 0 then (c_X3_speak_25 p0 (1 : Int32) S) else (bd (f_X3_canSpeak (1 : Int32) S) (fun (r3 : Int32) => if r3 = 0 then (c_X3_speak_25 p0 (2 : Int32) S) else (c_X3_speak_25 p0 (0 : Int32) S))))
abbrev rm_X3_speak : Room := { frames := 3, cells := 0, slots := 0, locals := 67 }
theorem np_X3_speak : yX3_speak.cls ≠ "java/lang/invoke/MethodHandle" ∧ yX3_speak.cls ≠ "java/lang/invoke/VarHandle" ∧ (parseMethodDescriptor yX3_speak.desc).map (fun d => d.parameters.length) = some 1 := by decide +kernel
set_option maxHeartbeats 4000000 in
set_option maxRecDepth 100000 in
theorem k_X3_speak (l : Launch) (D : va_G) (cs : CS) (a : Nat → Nat) (p0 : Int32) (S : MO) {r9 : Int32} {S9 : MO} (h : f_X3_speak p0 S = some (r9, S9)) : MI l D cs yX3_speak cX3_speak 2 .int rm_X3_speak [.ref (a 0), .int p0] (wM cs.1 a S) r9 (wM cs.1 a S9) := by
  refine MI_of (by decide) (Nat.le_of_ble_eq_true rfl) ?_
  rintro Γ rfl rfl rfl B ret
  show X Γ 2 0 0 0 [(0, .ref (a 0)), (1, .int p0)] [] (wM Γ.cs.1 a S)
  have h25 : ∀ (x1 : Int32) (t0 : Int32) (S : MO), c_X3_speak_25  x1 t0 S = some (r9, S9) → X Γ 2 0 0 25 [(0, .ref (a 0)), (1, .int x1)] [.int t0, .ref (a 0)] (wM Γ.cs.1 a S) := by
    intro  x1 t0 S h
    unfold c_X3_speak_25 at h
    obtain ⟨r5, S6, er5, h⟩ := bd2_elim h
    refine x_selfVi B (pc' := 28) [.int t0] (k_X3_holds _ _ _ a t0 S er5) rfl rfl gv_RX3_64 rfl np_X3_holds ⟨Nat.le_of_ble_eq_true rfl, Nat.le_of_ble_eq_true rfl⟩ ⟨by exact Nat.le_of_ble_eq_true rfl, by exact Nat.le_of_ble_eq_true rfl⟩ rfl (Nat.le_of_ble_eq_true rfl) dX3_speak_25 rfl ?_
    refine x_if_ne B 33 31 dX3_speak_28 (by decide) rfl (fun hc7 => ?_) (fun hc7 => ?_)
    · replace h := ite_f hc7 h
      refine x_aload_n B (pc' := 34) 0 dX3_speak_33 rfl rfl rfl ?_
      obtain ⟨S8, eS8, h⟩ := bd_elim h
      refine x_selfVv B (pc' := 37) [] (k_X3_save _ _ _ a S6 eS8) rfl rfl gv_RX3_67 rfl np_X3_save ⟨Nat.le_of_ble_eq_true rfl, Nat.le_of_ble_eq_true rfl⟩ ⟨by exact Nat.le_of_ble_eq_true rfl, by exact Nat.le_of_ble_eq_true rfl⟩ rfl (Nat.le_of_ble_eq_true rfl) dX3_speak_34 rfl ?_
      refine x_aload_n B (pc' := 38) 0 dX3_speak_37 rfl rfl rfl ?_
      refine x_iload_n B (pc' := 39) 1 dX3_speak_38 rfl rfl rfl ?_
      obtain ⟨r9, S10, er9, h⟩ := bd2_elim h
      refine x_selfVi B (pc' := 42) [.int x1] (k_X3_speaks _ _ _ a x1 S8 er9) rfl rfl gv_RX3_79 rfl np_X3_speaks ⟨Nat.le_of_ble_eq_true rfl, Nat.le_of_ble_eq_true rfl⟩ ⟨by exact Nat.le_of_ble_eq_true rfl, by exact Nat.le_of_ble_eq_true rfl⟩ rfl (Nat.le_of_ble_eq_true rfl) dX3_speak_39 rfl ?_
      obtain ⟨h1, h2⟩ := some2 h
      subst h1
      subst h2
      exact ret rfl (by exact Nat.le_of_ble_eq_true rfl) (by exact Nat.le_of_ble_eq_true rfl) dX3_speak_42
    · replace h := ite_t hc7 h
      refine x_iconst B (pc' := 32) 0 dX3_speak_31 (by decide) rfl ?_
      obtain ⟨h1, h2⟩ := some2 h
      subst h1
      subst h2
      exact ret rfl (by exact Nat.le_of_ble_eq_true rfl) (by exact Nat.le_of_ble_eq_true rfl) dX3_speak_32
  unfold f_X3_speak at h
  refine x_aload_n B (pc' := 1) 0 dX3_speak_0 rfl rfl rfl ?_
  refine x_iload_n B (pc' := 2) 1 dX3_speak_1 rfl rfl rfl ?_
  obtain ⟨r1, er1, h⟩ := bd_elim h
  refine x_pureSi B (pc' := 5) [.int p0] (k_X3_isSound _ _ _ p0 er1) gv_RX3_73 np_X3_isSound ⟨Nat.le_of_ble_eq_true rfl, Nat.le_of_ble_eq_true rfl⟩ ⟨by exact Nat.le_of_ble_eq_true rfl, by exact Nat.le_of_ble_eq_true rfl⟩ rfl (Nat.le_of_ble_eq_true rfl) dX3_speak_2 rfl ?_
  refine x_if_ne B 12 8 dX3_speak_5 (by decide) rfl (fun hc2 => ?_) (fun hc2 => ?_)
  · replace h := ite_f hc2 h
    refine x_aload_n B (pc' := 13) 0 dX3_speak_12 rfl rfl rfl ?_
    refine x_iconst B (pc' := 14) 1 dX3_speak_13 (by decide) rfl ?_
    obtain ⟨r3, er3, h⟩ := bd_elim h
    refine x_selfVi B (pc' := 17) [.int (1 : Int32)] (k_X3_canSpeak _ _ _ a (1 : Int32) S er3) rfl rfl gv_RX3_76 rfl np_X3_canSpeak ⟨Nat.le_of_ble_eq_true rfl, Nat.le_of_ble_eq_true rfl⟩ ⟨by exact Nat.le_of_ble_eq_true rfl, by exact Nat.le_of_ble_eq_true rfl⟩ rfl (Nat.le_of_ble_eq_true rfl) dX3_speak_14 rfl ?_
    refine x_if_ne B 24 20 dX3_speak_17 (by decide) rfl (fun hc4 => ?_) (fun hc4 => ?_)
    · replace h := ite_f hc4 h
      refine x_iconst B (pc' := 25) 0 dX3_speak_24 (by decide) rfl ?_
      exact h25  _ _ _ h
    · replace h := ite_t hc4 h
      refine x_iconst B (pc' := 21) 2 dX3_speak_20 (by decide) rfl ?_
      refine x_goto B (pc' := 25) dX3_speak_21 (by decide) ?_
      exact h25  _ _ _ h
  · replace h := ite_t hc2 h
    refine x_iconst B (pc' := 9) 1 dX3_speak_8 (by decide) rfl ?_
    refine x_goto B (pc' := 25) dX3_speak_9 (by decide) ?_
    exact h25  _ _ _ h
def c_X3_setFlag_62 (x3 : Int32) (t0 : Int32) (t1 : Int32) (S : MO) : Option (Int32 × MO) :=
  gd t1 1085 (nm (fun (S11 : MO) => zb x3 (some (x3, S11))) (S.1, up2 S.2.1 1 (upd (S.2.1 1) (Int32.toNatClampNeg t1) t0), S.2.2))
def c_X3_setFlag_44 (x1 : Int32) (x2 : Int32) (t0 : Int32) (S : MO) : Option (Int32 × MO) :=
  if x2 = 0 then (c_X3_setFlag_62 t0 (0 : Int32) ((7 : Int32) + x1) S) else (c_X3_setFlag_62 t0 (1 : Int32) ((7 : Int32) + x1) S)
def c_X3_setFlag_14 (x1 : Int32) (x2 : Int32) (t0 : Int32) (S : MO) : Option (Int32 × MO) :=
  bd2 (f_X3_holds t0 S) (fun (r3 : Int32) (S4 : MO) => if r3 = 0 then (some ((0 : Int32), S4)) else (bd (f_X3_save S4) (fun (S6 : MO) => gd ((7 : Int32) + x1) 1085 (if ((S6.2.1 1) (Int32.toNatClampNeg ((7 : Int32) + x1))) = (1 : Int32) then (c_X3_setFlag_44 x1 x2 (1 : Int32) S6) else (c_X3_setFlag_44 x1 x2 (0 : Int32) S6)))))
def f_X3_setFlag (p0 : Int32) (p1 : Int32) (S : MO) : Option (Int32 × MO) :=
  bd (f_X3_isRecording p0 S) (fun (r1 : Int32) => if r1 = 0 then (c_X3_setFlag_14 p0 p1 (1 : Int32) S) else (c_X3_setFlag_14 p0 p1 (0 : Int32) S))
abbrev rm_X3_setFlag : Room := { frames := 2, cells := 0, slots := 0, locals := 44 }
theorem np_X3_setFlag : yX3_setFlag.cls ≠ "java/lang/invoke/MethodHandle" ∧ yX3_setFlag.cls ≠ "java/lang/invoke/VarHandle" ∧ (parseMethodDescriptor yX3_setFlag.desc).map (fun d => d.parameters.length) = some 2 := by decide +kernel
set_option maxHeartbeats 4000000 in
set_option maxRecDepth 100000 in
theorem k_X3_setFlag (l : Launch) (D : va_G) (cs : CS) (a : Nat → Nat) (p0 : Int32) (p1 : Int32) (S : MO) {r9 : Int32} {S9 : MO} (h : f_X3_setFlag p0 p1 S = some (r9, S9)) : MI l D cs yX3_setFlag cX3_setFlag 4 .boolean rm_X3_setFlag [.ref (a 0), .int p0, .int p1] (wM cs.1 a S) r9 (wM cs.1 a S9) := by
  refine MI_of (by decide) (Nat.le_of_ble_eq_true rfl) ?_
  rintro Γ rfl rfl rfl B ret
  show X Γ 4 0 0 0 [(0, .ref (a 0)), (1, .int p0), (2, .int p1)] [] (wM Γ.cs.1 a S)
  have h62 : ∀ (x3 : Int32) (t0 : Int32) (t1 : Int32) (S : MO), c_X3_setFlag_62  x3 t0 t1 S = some (r9, S9) → X Γ 4 0 0 62 [(3, .int x3)] [.int t0, .int t1, .ref (a 1)] (wM Γ.cs.1 a S) := by
    intro  x3 t0 t1 S h
    unfold c_X3_setFlag_62 at h
    obtain ⟨hi10, h⟩ := gd_elim h
    obtain ⟨S11, eS11, h⟩ := nm_elim h
    refine m_ast1 B (pc' := 63) hi10 dX3_setFlag_62 rfl ?_
    refine m_wd eS11 ?_
    refine x_iload_n B (pc' := 64) 0 dX3_setFlag_63 rfl rfl rfl ?_
    obtain ⟨hz12, h⟩ := zb_elim h
    obtain ⟨h1, h2⟩ := some2 h
    subst h1
    subst h2
    exact ret (zb_nar hz12) (by exact Nat.le_of_ble_eq_true rfl) (by exact Nat.le_of_ble_eq_true rfl) dX3_setFlag_64
  have h44 : ∀ (x1 : Int32) (x2 : Int32) (t0 : Int32) (S : MO), c_X3_setFlag_44  x1 x2 t0 S = some (r9, S9) → X Γ 4 0 0 44 [(0, .ref (a 0)), (1, .int x1), (2, .int x2)] [.int t0] (wM Γ.cs.1 a S) := by
    intro  x1 x2 t0 S h
    unfold c_X3_setFlag_44 at h
    refine x_istore_n B (pc' := 45) [1, 2, 3, 0] [(0, .ref (a 0)), (1, .int x1), (2, .int x2), (3, .int t0)] dX3_setFlag_44 rfl (by decide) rfl rfl ?_
    refine x_aload_n B (pc' := 46) 0 dX3_setFlag_45 rfl rfl rfl ?_
    refine m_ref1 B (pc' := 49) wf_RX3_7 dX3_setFlag_46 rfl ?_
    refine x_bipush B (pc' := 51) 7 dX3_setFlag_49 (by decide) rfl ?_
    refine x_iload_n B (pc' := 52) 1 dX3_setFlag_51 rfl rfl rfl ?_
    refine x_iadd B (pc' := 53) dX3_setFlag_52 rfl ?_
    refine x_iload_n B (pc' := 54) 2 dX3_setFlag_53 rfl rfl rfl ?_
    refine x_if_eq B 61 57 dX3_setFlag_54 (by decide) rfl (fun hc9 => ?_) (fun hc9 => ?_)
    · replace h := ite_t hc9 h
      refine x_iconst B (pc' := 62) 0 dX3_setFlag_61 (by decide) rfl ?_
      refine x_lv [3] (lv' := [(3, .int t0)]) rfl ?_
      exact h62  _ _ _ _ h
    · replace h := ite_f hc9 h
      refine x_iconst B (pc' := 58) 1 dX3_setFlag_57 (by decide) rfl ?_
      refine x_goto B (pc' := 62) dX3_setFlag_58 (by decide) ?_
      refine x_lv [3] (lv' := [(3, .int t0)]) rfl ?_
      exact h62  _ _ _ _ h
  have h14 : ∀ (x1 : Int32) (x2 : Int32) (t0 : Int32) (S : MO), c_X3_setFlag_14  x1 x2 t0 S = some (r9, S9) → X Γ 4 0 0 14 [(0, .ref (a 0)), (1, .int x1), (2, .int x2)] [.int t0, .ref (a 0)] (wM Γ.cs.1 a S) := by
    intro  x1 x2 t0 S h
    unfold c_X3_setFlag_14 at h
    obtain ⟨r3, S4, er3, h⟩ := bd2_elim h
    refine x_selfVi B (pc' := 17) [.int t0] (k_X3_holds _ _ _ a t0 S er3) rfl rfl gv_RX3_64 rfl np_X3_holds ⟨Nat.le_of_ble_eq_true rfl, Nat.le_of_ble_eq_true rfl⟩ ⟨by exact Nat.le_of_ble_eq_true rfl, by exact Nat.le_of_ble_eq_true rfl⟩ rfl (Nat.le_of_ble_eq_true rfl) dX3_setFlag_14 rfl ?_
    refine x_if_ne B 22 20 dX3_setFlag_17 (by decide) rfl (fun hc5 => ?_) (fun hc5 => ?_)
    · replace h := ite_f hc5 h
      refine x_aload_n B (pc' := 23) 0 dX3_setFlag_22 rfl rfl rfl ?_
      obtain ⟨S6, eS6, h⟩ := bd_elim h
      refine x_selfVv B (pc' := 26) [] (k_X3_save _ _ _ a S4 eS6) rfl rfl gv_RX3_67 rfl np_X3_save ⟨Nat.le_of_ble_eq_true rfl, Nat.le_of_ble_eq_true rfl⟩ ⟨by exact Nat.le_of_ble_eq_true rfl, by exact Nat.le_of_ble_eq_true rfl⟩ rfl (Nat.le_of_ble_eq_true rfl) dX3_setFlag_23 rfl ?_
      refine x_aload_n B (pc' := 27) 0 dX3_setFlag_26 rfl rfl rfl ?_
      refine m_ref1 B (pc' := 30) wf_RX3_7 dX3_setFlag_27 rfl ?_
      refine x_bipush B (pc' := 32) 7 dX3_setFlag_30 (by decide) rfl ?_
      refine x_iload_n B (pc' := 33) 1 dX3_setFlag_32 rfl rfl rfl ?_
      refine x_iadd B (pc' := 34) dX3_setFlag_33 rfl ?_
      obtain ⟨hi7, h⟩ := gd_elim h
      refine m_ald1 B (pc' := 35) hi7 dX3_setFlag_34 rfl ?_
      refine x_iconst B (pc' := 36) 1 dX3_setFlag_35 (by decide) rfl ?_
      refine x_icmp_ne B 43 39 dX3_setFlag_36 (by decide) rfl (fun hc8 => ?_) (fun hc8 => ?_)
      · replace h := ite_f hc8 h
        refine x_iconst B (pc' := 44) 0 dX3_setFlag_43 (by decide) rfl ?_
        exact h44  _ _ _ _ h
      · replace h := ite_t hc8 h
        refine x_iconst B (pc' := 40) 1 dX3_setFlag_39 (by decide) rfl ?_
        refine x_goto B (pc' := 44) dX3_setFlag_40 (by decide) ?_
        exact h44  _ _ _ _ h
    · replace h := ite_t hc5 h
      refine x_iconst B (pc' := 21) 0 dX3_setFlag_20 (by decide) rfl ?_
      obtain ⟨h1, h2⟩ := some2 h
      subst h1
      subst h2
      exact ret rfl (by exact Nat.le_of_ble_eq_true rfl) (by exact Nat.le_of_ble_eq_true rfl) dX3_setFlag_21
  unfold f_X3_setFlag at h
  refine x_aload_n B (pc' := 1) 0 dX3_setFlag_0 rfl rfl rfl ?_
  refine x_aload_n B (pc' := 2) 0 dX3_setFlag_1 rfl rfl rfl ?_
  refine x_iload_n B (pc' := 3) 1 dX3_setFlag_2 rfl rfl rfl ?_
  obtain ⟨r1, er1, h⟩ := bd_elim h
  refine x_selfVi B (pc' := 6) [.int p0] (k_X3_isRecording _ _ _ a p0 S er1) rfl rfl gv_RX3_82 rfl np_X3_isRecording ⟨Nat.le_of_ble_eq_true rfl, Nat.le_of_ble_eq_true rfl⟩ ⟨by exact Nat.le_of_ble_eq_true rfl, by exact Nat.le_of_ble_eq_true rfl⟩ rfl (Nat.le_of_ble_eq_true rfl) dX3_setFlag_3 rfl ?_
  refine x_if_eq B 13 9 dX3_setFlag_6 (by decide) rfl (fun hc2 => ?_) (fun hc2 => ?_)
  · replace h := ite_t hc2 h
    refine x_iconst B (pc' := 14) 1 dX3_setFlag_13 (by decide) rfl ?_
    exact h14  _ _ _ _ h
  · replace h := ite_f hc2 h
    refine x_iconst B (pc' := 10) 0 dX3_setFlag_9 (by decide) rfl ?_
    refine x_goto B (pc' := 14) dX3_setFlag_10 (by decide) ?_
    exact h14  _ _ _ _ h
def c_X3_erase_33 (x1 : Int32) (t0 : Int32) (S : MO) : Option (Int32 × MO) :=
  bd2 (f_X3_holds t0 S) (fun (r5 : Int32) (S6 : MO) => if r5 = 0 then (some ((0 : Int32), S6)) else (bd (f_X3_save S6) (fun (S8 : MO) => bd (f_X3_cells x1 S8) (fun (r9 : Int32) => bd (f_X3_leaves x1 S8) (fun (S10 : MO) => some (r9, S10))))))
def f_X3_erase (p0 : Int32) (S : MO) : Option (Int32 × MO) :=
  bd (f_X3_isRecording p0 S) (fun (r1 : Int32) => if r1 = 0 then (c_X3_erase_33 p0 (1 : Int32) S) else (gd ((7 : Int32) + p0) 1085 (if ((S.2.1 1) (Int32.toNatClampNeg ((7 : Int32) + p0))) = (1 : Int32) then (c_X3_erase_33 p0 (2 : Int32) S) else (c_X3_erase_33 p0 (0 : Int32) S))))
abbrev rm_X3_erase : Room := { frames := 2, cells := 0, slots := 0, locals := 44 }
theorem np_X3_erase : yX3_erase.cls ≠ "java/lang/invoke/MethodHandle" ∧ yX3_erase.cls ≠ "java/lang/invoke/VarHandle" ∧ (parseMethodDescriptor yX3_erase.desc).map (fun d => d.parameters.length) = some 1 := by decide +kernel
set_option maxHeartbeats 4000000 in
set_option maxRecDepth 100000 in
theorem k_X3_erase (l : Launch) (D : va_G) (cs : CS) (a : Nat → Nat) (p0 : Int32) (S : MO) {r9 : Int32} {S9 : MO} (h : f_X3_erase p0 S = some (r9, S9)) : MI l D cs yX3_erase cX3_erase 4 .int rm_X3_erase [.ref (a 0), .int p0] (wM cs.1 a S) r9 (wM cs.1 a S9) := by
  refine MI_of (by decide) (Nat.le_of_ble_eq_true rfl) ?_
  rintro Γ rfl rfl rfl B ret
  show X Γ 4 0 0 0 [(0, .ref (a 0)), (1, .int p0)] [] (wM Γ.cs.1 a S)
  have h33 : ∀ (x1 : Int32) (t0 : Int32) (S : MO), c_X3_erase_33  x1 t0 S = some (r9, S9) → X Γ 4 0 0 33 [(0, .ref (a 0)), (1, .int x1)] [.int t0, .ref (a 0)] (wM Γ.cs.1 a S) := by
    intro  x1 t0 S h
    unfold c_X3_erase_33 at h
    obtain ⟨r5, S6, er5, h⟩ := bd2_elim h
    refine x_selfVi B (pc' := 36) [.int t0] (k_X3_holds _ _ _ a t0 S er5) rfl rfl gv_RX3_64 rfl np_X3_holds ⟨Nat.le_of_ble_eq_true rfl, Nat.le_of_ble_eq_true rfl⟩ ⟨by exact Nat.le_of_ble_eq_true rfl, by exact Nat.le_of_ble_eq_true rfl⟩ rfl (Nat.le_of_ble_eq_true rfl) dX3_erase_33 rfl ?_
    refine x_if_ne B 41 39 dX3_erase_36 (by decide) rfl (fun hc7 => ?_) (fun hc7 => ?_)
    · replace h := ite_f hc7 h
      refine x_aload_n B (pc' := 42) 0 dX3_erase_41 rfl rfl rfl ?_
      obtain ⟨S8, eS8, h⟩ := bd_elim h
      refine x_selfVv B (pc' := 45) [] (k_X3_save _ _ _ a S6 eS8) rfl rfl gv_RX3_67 rfl np_X3_save ⟨Nat.le_of_ble_eq_true rfl, Nat.le_of_ble_eq_true rfl⟩ ⟨by exact Nat.le_of_ble_eq_true rfl, by exact Nat.le_of_ble_eq_true rfl⟩ rfl (Nat.le_of_ble_eq_true rfl) dX3_erase_42 rfl ?_
      refine x_aload_n B (pc' := 46) 0 dX3_erase_45 rfl rfl rfl ?_
      refine x_iload_n B (pc' := 47) 1 dX3_erase_46 rfl rfl rfl ?_
      obtain ⟨r9, er9, h⟩ := bd_elim h
      refine x_selfVi B (pc' := 50) [.int x1] (k_X3_cells _ _ _ a x1 S8 er9) rfl rfl gv_RX3_32 rfl np_X3_cells ⟨Nat.le_of_ble_eq_true rfl, Nat.le_of_ble_eq_true rfl⟩ ⟨by exact Nat.le_of_ble_eq_true rfl, by exact Nat.le_of_ble_eq_true rfl⟩ rfl (Nat.le_of_ble_eq_true rfl) dX3_erase_47 rfl ?_
      refine x_istore_n B (pc' := 51) [1, 2, 0] [(0, .ref (a 0)), (1, .int x1), (3, .int r9)] dX3_erase_50 rfl (by decide) rfl rfl ?_
      refine x_aload_n B (pc' := 52) 0 dX3_erase_51 rfl rfl rfl ?_
      refine x_iload_n B (pc' := 53) 1 dX3_erase_52 rfl rfl rfl ?_
      obtain ⟨S10, eS10, h⟩ := bd_elim h
      refine x_selfVv B (pc' := 56) [.int x1] (k_X3_leaves _ _ _ a x1 S8 eS10) rfl rfl gv_RX3_35 rfl np_X3_leaves ⟨Nat.le_of_ble_eq_true rfl, Nat.le_of_ble_eq_true rfl⟩ ⟨by exact Nat.le_of_ble_eq_true rfl, by exact Nat.le_of_ble_eq_true rfl⟩ rfl (Nat.le_of_ble_eq_true rfl) dX3_erase_53 rfl ?_
      refine x_iload_n B (pc' := 57) 2 dX3_erase_56 rfl rfl rfl ?_
      obtain ⟨h1, h2⟩ := some2 h
      subst h1
      subst h2
      exact ret rfl (by exact Nat.le_of_ble_eq_true rfl) (by exact Nat.le_of_ble_eq_true rfl) dX3_erase_57
    · replace h := ite_t hc7 h
      refine x_iconst B (pc' := 40) 0 dX3_erase_39 (by decide) rfl ?_
      obtain ⟨h1, h2⟩ := some2 h
      subst h1
      subst h2
      exact ret rfl (by exact Nat.le_of_ble_eq_true rfl) (by exact Nat.le_of_ble_eq_true rfl) dX3_erase_40
  unfold f_X3_erase at h
  refine x_aload_n B (pc' := 1) 0 dX3_erase_0 rfl rfl rfl ?_
  refine x_iload_n B (pc' := 2) 1 dX3_erase_1 rfl rfl rfl ?_
  obtain ⟨r1, er1, h⟩ := bd_elim h
  refine x_selfVi B (pc' := 5) [.int p0] (k_X3_isRecording _ _ _ a p0 S er1) rfl rfl gv_RX3_82 rfl np_X3_isRecording ⟨Nat.le_of_ble_eq_true rfl, Nat.le_of_ble_eq_true rfl⟩ ⟨by exact Nat.le_of_ble_eq_true rfl, by exact Nat.le_of_ble_eq_true rfl⟩ rfl (Nat.le_of_ble_eq_true rfl) dX3_erase_2 rfl ?_
  refine x_istore_n B (pc' := 6) [1, 2, 0] [(0, .ref (a 0)), (1, .int p0), (2, .int r1)] dX3_erase_5 rfl (by decide) rfl rfl ?_
  refine x_aload_n B (pc' := 7) 0 dX3_erase_6 rfl rfl rfl ?_
  refine x_iload_n B (pc' := 8) 2 dX3_erase_7 rfl rfl rfl ?_
  refine x_if_ne B 15 11 dX3_erase_8 (by decide) rfl (fun hc2 => ?_) (fun hc2 => ?_)
  · replace h := ite_f hc2 h
    refine x_aload_n B (pc' := 16) 0 dX3_erase_15 rfl rfl rfl ?_
    refine m_ref1 B (pc' := 19) wf_RX3_7 dX3_erase_16 rfl ?_
    refine x_bipush B (pc' := 21) 7 dX3_erase_19 (by decide) rfl ?_
    refine x_iload_n B (pc' := 22) 1 dX3_erase_21 rfl rfl rfl ?_
    refine x_iadd B (pc' := 23) dX3_erase_22 rfl ?_
    obtain ⟨hi3, h⟩ := gd_elim h
    refine m_ald1 B (pc' := 24) hi3 dX3_erase_23 rfl ?_
    refine x_iconst B (pc' := 25) 1 dX3_erase_24 (by decide) rfl ?_
    refine x_icmp_ne B 32 28 dX3_erase_25 (by decide) rfl (fun hc4 => ?_) (fun hc4 => ?_)
    · replace h := ite_f hc4 h
      refine x_iconst B (pc' := 33) 0 dX3_erase_32 (by decide) rfl ?_
      refine x_lv [0, 1] (lv' := [(0, .ref (a 0)), (1, .int p0)]) rfl ?_
      exact h33  _ _ _ h
    · replace h := ite_t hc4 h
      refine x_iconst B (pc' := 29) 2 dX3_erase_28 (by decide) rfl ?_
      refine x_goto B (pc' := 33) dX3_erase_29 (by decide) ?_
      refine x_lv [0, 1] (lv' := [(0, .ref (a 0)), (1, .int p0)]) rfl ?_
      exact h33  _ _ _ h
  · replace h := ite_t hc2 h
    refine x_iconst B (pc' := 12) 1 dX3_erase_11 (by decide) rfl ?_
    refine x_goto B (pc' := 33) dX3_erase_12 (by decide) ?_
    refine x_lv [0, 1] (lv' := [(0, .ref (a 0)), (1, .int p0)]) rfl ?_
    exact h33  _ _ _ h
def c_X3_moveHead_27 (x1 : Int32) (t0 : Int32) (S : MO) : Option (Int32 × MO) :=
  bd2 (f_X3_holds t0 S) (fun (r5 : Int32) (S6 : MO) => if r5 = 0 then (some ((0 : Int32), S6)) else (bd (f_X3_save S6) (fun (S8 : MO) => gd (2 : Int32) 1085 (nm (fun (v10 : Int32) => gd (2 : Int32) 1085 (nm (fun (S12 : MO) => some (v10, S12)) (S8.1, up2 S8.2.1 1 (upd (S8.2.1 1) (Int32.toNatClampNeg (2 : Int32)) x1), S8.2.2))) ((S8.2.1 1) (Int32.toNatClampNeg (2 : Int32)))))))
def f_X3_moveHead (p0 : Int32) (S : MO) : Option (Int32 × MO) :=
  bd (f_X3_isCell p0) (fun (r1 : Int32) => if r1 = 0 then (c_X3_moveHead_27 p0 (1 : Int32) S) else (gd (1 : Int32) 1085 (if ((S.2.1 1) (Int32.toNatClampNeg (1 : Int32))) = ((-1) : Int32) then (c_X3_moveHead_27 p0 (0 : Int32) S) else (c_X3_moveHead_27 p0 (2 : Int32) S))))
abbrev rm_X3_moveHead : Room := { frames := 2, cells := 0, slots := 0, locals := 44 }
theorem np_X3_moveHead : yX3_moveHead.cls ≠ "java/lang/invoke/MethodHandle" ∧ yX3_moveHead.cls ≠ "java/lang/invoke/VarHandle" ∧ (parseMethodDescriptor yX3_moveHead.desc).map (fun d => d.parameters.length) = some 1 := by decide +kernel
set_option maxHeartbeats 4000000 in
set_option maxRecDepth 100000 in
theorem k_X3_moveHead (l : Launch) (D : va_G) (cs : CS) (a : Nat → Nat) (p0 : Int32) (S : MO) {r9 : Int32} {S9 : MO} (h : f_X3_moveHead p0 S = some (r9, S9)) : MI l D cs yX3_moveHead cX3_moveHead 3 .int rm_X3_moveHead [.ref (a 0), .int p0] (wM cs.1 a S) r9 (wM cs.1 a S9) := by
  refine MI_of (by decide) (Nat.le_of_ble_eq_true rfl) ?_
  rintro Γ rfl rfl rfl B ret
  show X Γ 3 0 0 0 [(0, .ref (a 0)), (1, .int p0)] [] (wM Γ.cs.1 a S)
  have h27 : ∀ (x1 : Int32) (t0 : Int32) (S : MO), c_X3_moveHead_27  x1 t0 S = some (r9, S9) → X Γ 3 0 0 27 [(0, .ref (a 0)), (1, .int x1)] [.int t0, .ref (a 0)] (wM Γ.cs.1 a S) := by
    intro  x1 t0 S h
    unfold c_X3_moveHead_27 at h
    obtain ⟨r5, S6, er5, h⟩ := bd2_elim h
    refine x_selfVi B (pc' := 30) [.int t0] (k_X3_holds _ _ _ a t0 S er5) rfl rfl gv_RX3_64 rfl np_X3_holds ⟨Nat.le_of_ble_eq_true rfl, Nat.le_of_ble_eq_true rfl⟩ ⟨by exact Nat.le_of_ble_eq_true rfl, by exact Nat.le_of_ble_eq_true rfl⟩ rfl (Nat.le_of_ble_eq_true rfl) dX3_moveHead_27 rfl ?_
    refine x_if_ne B 35 33 dX3_moveHead_30 (by decide) rfl (fun hc7 => ?_) (fun hc7 => ?_)
    · replace h := ite_f hc7 h
      refine x_aload_n B (pc' := 36) 0 dX3_moveHead_35 rfl rfl rfl ?_
      obtain ⟨S8, eS8, h⟩ := bd_elim h
      refine x_selfVv B (pc' := 39) [] (k_X3_save _ _ _ a S6 eS8) rfl rfl gv_RX3_67 rfl np_X3_save ⟨Nat.le_of_ble_eq_true rfl, Nat.le_of_ble_eq_true rfl⟩ ⟨by exact Nat.le_of_ble_eq_true rfl, by exact Nat.le_of_ble_eq_true rfl⟩ rfl (Nat.le_of_ble_eq_true rfl) dX3_moveHead_36 rfl ?_
      refine x_aload_n B (pc' := 40) 0 dX3_moveHead_39 rfl rfl rfl ?_
      refine m_ref1 B (pc' := 43) wf_RX3_7 dX3_moveHead_40 rfl ?_
      refine x_iconst B (pc' := 44) 2 dX3_moveHead_43 (by decide) rfl ?_
      obtain ⟨hi9, h⟩ := gd_elim h
      refine m_ald1 B (pc' := 45) hi9 dX3_moveHead_44 rfl ?_
      obtain ⟨v10, ev10, h⟩ := nm_elim h
      refine x_topi ev10 ?_
      refine x_istore_n B (pc' := 46) [1, 2, 0] [(0, .ref (a 0)), (1, .int x1), (2, .int v10)] dX3_moveHead_45 rfl (by decide) rfl rfl ?_
      refine x_aload_n B (pc' := 47) 0 dX3_moveHead_46 rfl rfl rfl ?_
      refine m_ref1 B (pc' := 50) wf_RX3_7 dX3_moveHead_47 rfl ?_
      refine x_iconst B (pc' := 51) 2 dX3_moveHead_50 (by decide) rfl ?_
      refine x_iload_n B (pc' := 52) 1 dX3_moveHead_51 rfl rfl rfl ?_
      obtain ⟨hi11, h⟩ := gd_elim h
      obtain ⟨S12, eS12, h⟩ := nm_elim h
      refine m_ast1 B (pc' := 53) hi11 dX3_moveHead_52 rfl ?_
      refine m_wd eS12 ?_
      refine x_iload_n B (pc' := 54) 2 dX3_moveHead_53 rfl rfl rfl ?_
      obtain ⟨h1, h2⟩ := some2 h
      subst h1
      subst h2
      exact ret rfl (by exact Nat.le_of_ble_eq_true rfl) (by exact Nat.le_of_ble_eq_true rfl) dX3_moveHead_54
    · replace h := ite_t hc7 h
      refine x_iconst B (pc' := 34) 0 dX3_moveHead_33 (by decide) rfl ?_
      obtain ⟨h1, h2⟩ := some2 h
      subst h1
      subst h2
      exact ret rfl (by exact Nat.le_of_ble_eq_true rfl) (by exact Nat.le_of_ble_eq_true rfl) dX3_moveHead_34
  unfold f_X3_moveHead at h
  refine x_aload_n B (pc' := 1) 0 dX3_moveHead_0 rfl rfl rfl ?_
  refine x_iload_n B (pc' := 2) 1 dX3_moveHead_1 rfl rfl rfl ?_
  obtain ⟨r1, er1, h⟩ := bd_elim h
  refine x_pureSi B (pc' := 5) [.int p0] (k_X3_isCell _ _ _ p0 er1) gv_RX3_85 np_X3_isCell ⟨Nat.le_of_ble_eq_true rfl, Nat.le_of_ble_eq_true rfl⟩ ⟨by exact Nat.le_of_ble_eq_true rfl, by exact Nat.le_of_ble_eq_true rfl⟩ rfl (Nat.le_of_ble_eq_true rfl) dX3_moveHead_2 rfl ?_
  refine x_if_ne B 12 8 dX3_moveHead_5 (by decide) rfl (fun hc2 => ?_) (fun hc2 => ?_)
  · replace h := ite_f hc2 h
    refine x_aload_n B (pc' := 13) 0 dX3_moveHead_12 rfl rfl rfl ?_
    refine m_ref1 B (pc' := 16) wf_RX3_7 dX3_moveHead_13 rfl ?_
    refine x_iconst B (pc' := 17) 1 dX3_moveHead_16 (by decide) rfl ?_
    obtain ⟨hi3, h⟩ := gd_elim h
    refine m_ald1 B (pc' := 18) hi3 dX3_moveHead_17 rfl ?_
    refine x_iconst B (pc' := 19) (-1) dX3_moveHead_18 (by decide) rfl ?_
    refine x_icmp_eq B 26 22 dX3_moveHead_19 (by decide) rfl (fun hc4 => ?_) (fun hc4 => ?_)
    · replace h := ite_t hc4 h
      refine x_iconst B (pc' := 27) 0 dX3_moveHead_26 (by decide) rfl ?_
      exact h27  _ _ _ h
    · replace h := ite_f hc4 h
      refine x_iconst B (pc' := 23) 2 dX3_moveHead_22 (by decide) rfl ?_
      refine x_goto B (pc' := 27) dX3_moveHead_23 (by decide) ?_
      exact h27  _ _ _ h
  · replace h := ite_t hc2 h
    refine x_iconst B (pc' := 9) 1 dX3_moveHead_8 (by decide) rfl ?_
    refine x_goto B (pc' := 27) dX3_moveHead_9 (by decide) ?_
    exact h27  _ _ _ h
def f_X3_recordings (S : MO) : Option (Int32 × MO) :=
  gd (0 : Int32) 1085 (bd2 (f_X3_told ((S.2.1 1) (Int32.toNatClampNeg (0 : Int32))) S) (fun (r2 : Int32) (S3 : MO) => some (r2, S3)))
abbrev rm_X3_recordings : Room := { frames := 1, cells := 0, slots := 0, locals := 21 }
theorem np_X3_recordings : yX3_recordings.cls ≠ "java/lang/invoke/MethodHandle" ∧ yX3_recordings.cls ≠ "java/lang/invoke/VarHandle" ∧ (parseMethodDescriptor yX3_recordings.desc).map (fun d => d.parameters.length) = some 0 := by decide +kernel
set_option maxHeartbeats 4000000 in
set_option maxRecDepth 100000 in
theorem k_X3_recordings (l : Launch) (D : va_G) (cs : CS) (a : Nat → Nat) (S : MO) {r9 : Int32} {S9 : MO} (h : f_X3_recordings S = some (r9, S9)) : MI l D cs yX3_recordings cX3_recordings 1 .int rm_X3_recordings [.ref (a 0)] (wM cs.1 a S) r9 (wM cs.1 a S9) := by
  refine MI_of (by decide) (Nat.le_of_ble_eq_true rfl) ?_
  rintro Γ rfl rfl rfl B ret
  show X Γ 1 0 0 0 [(0, .ref (a 0))] [] (wM Γ.cs.1 a S)
  unfold f_X3_recordings at h
  refine x_aload_n B (pc' := 1) 0 dX3_recordings_0 rfl rfl rfl ?_
  refine x_aload_n B (pc' := 2) 0 dX3_recordings_1 rfl rfl rfl ?_
  refine m_ref1 B (pc' := 5) wf_RX3_7 dX3_recordings_2 rfl ?_
  refine x_iconst B (pc' := 6) 0 dX3_recordings_5 (by decide) rfl ?_
  obtain ⟨hi1, h⟩ := gd_elim h
  refine m_ald1 B (pc' := 7) hi1 dX3_recordings_6 rfl ?_
  obtain ⟨r2, S3, er2, h⟩ := bd2_elim h
  refine x_selfVi B (pc' := 10) [.int ((S.2.1 1) (Int32.toNatClampNeg (0 : Int32)))] (k_X3_told _ _ _ a ((S.2.1 1) (Int32.toNatClampNeg (0 : Int32))) S er2) rfl rfl gv_RX3_88 rfl np_X3_told ⟨Nat.le_of_ble_eq_true rfl, Nat.le_of_ble_eq_true rfl⟩ ⟨by exact Nat.le_of_ble_eq_true rfl, by exact Nat.le_of_ble_eq_true rfl⟩ rfl (Nat.le_of_ble_eq_true rfl) dX3_recordings_7 rfl ?_
  obtain ⟨h1, h2⟩ := some2 h
  subst h1
  subst h2
  exact ret rfl (by exact Nat.le_of_ble_eq_true rfl) (by exact Nat.le_of_ble_eq_true rfl) dX3_recordings_10
def f_X3_running (S : MO) : Option (Int32 × MO) :=
  gd (1 : Int32) 1085 (bd2 (f_X3_told ((S.2.1 1) (Int32.toNatClampNeg (1 : Int32))) S) (fun (r2 : Int32) (S3 : MO) => some (r2, S3)))
abbrev rm_X3_running : Room := { frames := 1, cells := 0, slots := 0, locals := 21 }
theorem np_X3_running : yX3_running.cls ≠ "java/lang/invoke/MethodHandle" ∧ yX3_running.cls ≠ "java/lang/invoke/VarHandle" ∧ (parseMethodDescriptor yX3_running.desc).map (fun d => d.parameters.length) = some 0 := by decide +kernel
set_option maxHeartbeats 4000000 in
set_option maxRecDepth 100000 in
theorem k_X3_running (l : Launch) (D : va_G) (cs : CS) (a : Nat → Nat) (S : MO) {r9 : Int32} {S9 : MO} (h : f_X3_running S = some (r9, S9)) : MI l D cs yX3_running cX3_running 1 .int rm_X3_running [.ref (a 0)] (wM cs.1 a S) r9 (wM cs.1 a S9) := by
  refine MI_of (by decide) (Nat.le_of_ble_eq_true rfl) ?_
  rintro Γ rfl rfl rfl B ret
  show X Γ 1 0 0 0 [(0, .ref (a 0))] [] (wM Γ.cs.1 a S)
  unfold f_X3_running at h
  refine x_aload_n B (pc' := 1) 0 dX3_running_0 rfl rfl rfl ?_
  refine x_aload_n B (pc' := 2) 0 dX3_running_1 rfl rfl rfl ?_
  refine m_ref1 B (pc' := 5) wf_RX3_7 dX3_running_2 rfl ?_
  refine x_iconst B (pc' := 6) 1 dX3_running_5 (by decide) rfl ?_
  obtain ⟨hi1, h⟩ := gd_elim h
  refine m_ald1 B (pc' := 7) hi1 dX3_running_6 rfl ?_
  obtain ⟨r2, S3, er2, h⟩ := bd2_elim h
  refine x_selfVi B (pc' := 10) [.int ((S.2.1 1) (Int32.toNatClampNeg (1 : Int32)))] (k_X3_told _ _ _ a ((S.2.1 1) (Int32.toNatClampNeg (1 : Int32))) S er2) rfl rfl gv_RX3_88 rfl np_X3_told ⟨Nat.le_of_ble_eq_true rfl, Nat.le_of_ble_eq_true rfl⟩ ⟨by exact Nat.le_of_ble_eq_true rfl, by exact Nat.le_of_ble_eq_true rfl⟩ rfl (Nat.le_of_ble_eq_true rfl) dX3_running_7 rfl ?_
  obtain ⟨h1, h2⟩ := some2 h
  subst h1
  subst h2
  exact ret rfl (by exact Nat.le_of_ble_eq_true rfl) (by exact Nat.le_of_ble_eq_true rfl) dX3_running_10
def f_X3_head (S : MO) : Option (Int32 × MO) :=
  gd (2 : Int32) 1085 (bd2 (f_X3_told ((S.2.1 1) (Int32.toNatClampNeg (2 : Int32))) S) (fun (r2 : Int32) (S3 : MO) => some (r2, S3)))
abbrev rm_X3_head : Room := { frames := 1, cells := 0, slots := 0, locals := 21 }
theorem np_X3_head : yX3_head.cls ≠ "java/lang/invoke/MethodHandle" ∧ yX3_head.cls ≠ "java/lang/invoke/VarHandle" ∧ (parseMethodDescriptor yX3_head.desc).map (fun d => d.parameters.length) = some 0 := by decide +kernel
set_option maxHeartbeats 4000000 in
set_option maxRecDepth 100000 in
theorem k_X3_head (l : Launch) (D : va_G) (cs : CS) (a : Nat → Nat) (S : MO) {r9 : Int32} {S9 : MO} (h : f_X3_head S = some (r9, S9)) : MI l D cs yX3_head cX3_head 1 .int rm_X3_head [.ref (a 0)] (wM cs.1 a S) r9 (wM cs.1 a S9) := by
  refine MI_of (by decide) (Nat.le_of_ble_eq_true rfl) ?_
  rintro Γ rfl rfl rfl B ret
  show X Γ 1 0 0 0 [(0, .ref (a 0))] [] (wM Γ.cs.1 a S)
  unfold f_X3_head at h
  refine x_aload_n B (pc' := 1) 0 dX3_head_0 rfl rfl rfl ?_
  refine x_aload_n B (pc' := 2) 0 dX3_head_1 rfl rfl rfl ?_
  refine m_ref1 B (pc' := 5) wf_RX3_7 dX3_head_2 rfl ?_
  refine x_iconst B (pc' := 6) 2 dX3_head_5 (by decide) rfl ?_
  obtain ⟨hi1, h⟩ := gd_elim h
  refine m_ald1 B (pc' := 7) hi1 dX3_head_6 rfl ?_
  obtain ⟨r2, S3, er2, h⟩ := bd2_elim h
  refine x_selfVi B (pc' := 10) [.int ((S.2.1 1) (Int32.toNatClampNeg (2 : Int32)))] (k_X3_told _ _ _ a ((S.2.1 1) (Int32.toNatClampNeg (2 : Int32))) S er2) rfl rfl gv_RX3_88 rfl np_X3_told ⟨Nat.le_of_ble_eq_true rfl, Nat.le_of_ble_eq_true rfl⟩ ⟨by exact Nat.le_of_ble_eq_true rfl, by exact Nat.le_of_ble_eq_true rfl⟩ rfl (Nat.le_of_ble_eq_true rfl) dX3_head_7 rfl ?_
  obtain ⟨h1, h2⟩ := some2 h
  subst h1
  subst h2
  exact ret rfl (by exact Nat.le_of_ble_eq_true rfl) (by exact Nat.le_of_ble_eq_true rfl) dX3_head_10
def c_X3_length_14 (x1 : Int32) (t0 : Int32) (S : MO) : Option (Int32 × MO) :=
  bd2 (f_X3_holds t0 S) (fun (r3 : Int32) (S4 : MO) => if r3 = 0 then (some ((0 : Int32), S4)) else (bd (f_X3_cells x1 S4) (fun (r6 : Int32) => some (r6, S4))))
def f_X3_length (p0 : Int32) (S : MO) : Option (Int32 × MO) :=
  bd (f_X3_isRecording p0 S) (fun (r1 : Int32) => if r1 = 0 then (c_X3_length_14 p0 (1 : Int32) S) else (c_X3_length_14 p0 (0 : Int32) S))
abbrev rm_X3_length : Room := { frames := 2, cells := 0, slots := 0, locals := 43 }
theorem np_X3_length : yX3_length.cls ≠ "java/lang/invoke/MethodHandle" ∧ yX3_length.cls ≠ "java/lang/invoke/VarHandle" ∧ (parseMethodDescriptor yX3_length.desc).map (fun d => d.parameters.length) = some 1 := by decide +kernel
set_option maxHeartbeats 4000000 in
set_option maxRecDepth 100000 in
theorem k_X3_length (l : Launch) (D : va_G) (cs : CS) (a : Nat → Nat) (p0 : Int32) (S : MO) {r9 : Int32} {S9 : MO} (h : f_X3_length p0 S = some (r9, S9)) : MI l D cs yX3_length cX3_length 2 .int rm_X3_length [.ref (a 0), .int p0] (wM cs.1 a S) r9 (wM cs.1 a S9) := by
  refine MI_of (by decide) (Nat.le_of_ble_eq_true rfl) ?_
  rintro Γ rfl rfl rfl B ret
  show X Γ 2 0 0 0 [(0, .ref (a 0)), (1, .int p0)] [] (wM Γ.cs.1 a S)
  have h14 : ∀ (x1 : Int32) (t0 : Int32) (S : MO), c_X3_length_14  x1 t0 S = some (r9, S9) → X Γ 2 0 0 14 [(0, .ref (a 0)), (1, .int x1)] [.int t0, .ref (a 0)] (wM Γ.cs.1 a S) := by
    intro  x1 t0 S h
    unfold c_X3_length_14 at h
    obtain ⟨r3, S4, er3, h⟩ := bd2_elim h
    refine x_selfVi B (pc' := 17) [.int t0] (k_X3_holds _ _ _ a t0 S er3) rfl rfl gv_RX3_64 rfl np_X3_holds ⟨Nat.le_of_ble_eq_true rfl, Nat.le_of_ble_eq_true rfl⟩ ⟨by exact Nat.le_of_ble_eq_true rfl, by exact Nat.le_of_ble_eq_true rfl⟩ rfl (Nat.le_of_ble_eq_true rfl) dX3_length_14 rfl ?_
    refine x_if_eq B 28 20 dX3_length_17 (by decide) rfl (fun hc5 => ?_) (fun hc5 => ?_)
    · replace h := ite_t hc5 h
      refine x_iconst B (pc' := 29) 0 dX3_length_28 (by decide) rfl ?_
      obtain ⟨h1, h2⟩ := some2 h
      subst h1
      subst h2
      exact ret rfl (by exact Nat.le_of_ble_eq_true rfl) (by exact Nat.le_of_ble_eq_true rfl) dX3_length_29
    · replace h := ite_f hc5 h
      refine x_aload_n B (pc' := 21) 0 dX3_length_20 rfl rfl rfl ?_
      refine x_iload_n B (pc' := 22) 1 dX3_length_21 rfl rfl rfl ?_
      obtain ⟨r6, er6, h⟩ := bd_elim h
      refine x_selfVi B (pc' := 25) [.int x1] (k_X3_cells _ _ _ a x1 S4 er6) rfl rfl gv_RX3_32 rfl np_X3_cells ⟨Nat.le_of_ble_eq_true rfl, Nat.le_of_ble_eq_true rfl⟩ ⟨by exact Nat.le_of_ble_eq_true rfl, by exact Nat.le_of_ble_eq_true rfl⟩ rfl (Nat.le_of_ble_eq_true rfl) dX3_length_22 rfl ?_
      refine x_goto B (pc' := 29) dX3_length_25 (by decide) ?_
      obtain ⟨h1, h2⟩ := some2 h
      subst h1
      subst h2
      exact ret rfl (by exact Nat.le_of_ble_eq_true rfl) (by exact Nat.le_of_ble_eq_true rfl) dX3_length_29
  unfold f_X3_length at h
  refine x_aload_n B (pc' := 1) 0 dX3_length_0 rfl rfl rfl ?_
  refine x_aload_n B (pc' := 2) 0 dX3_length_1 rfl rfl rfl ?_
  refine x_iload_n B (pc' := 3) 1 dX3_length_2 rfl rfl rfl ?_
  obtain ⟨r1, er1, h⟩ := bd_elim h
  refine x_selfVi B (pc' := 6) [.int p0] (k_X3_isRecording _ _ _ a p0 S er1) rfl rfl gv_RX3_82 rfl np_X3_isRecording ⟨Nat.le_of_ble_eq_true rfl, Nat.le_of_ble_eq_true rfl⟩ ⟨by exact Nat.le_of_ble_eq_true rfl, by exact Nat.le_of_ble_eq_true rfl⟩ rfl (Nat.le_of_ble_eq_true rfl) dX3_length_3 rfl ?_
  refine x_if_eq B 13 9 dX3_length_6 (by decide) rfl (fun hc2 => ?_) (fun hc2 => ?_)
  · replace h := ite_t hc2 h
    refine x_iconst B (pc' := 14) 1 dX3_length_13 (by decide) rfl ?_
    exact h14  _ _ _ h
  · replace h := ite_f hc2 h
    refine x_iconst B (pc' := 10) 0 dX3_length_9 (by decide) rfl ?_
    refine x_goto B (pc' := 14) dX3_length_10 (by decide) ?_
    exact h14  _ _ _ h
def c_X3_ofPlace_18 (x1 : Int32) (x2 : Int32) (x3 : Int32) (t0 : Int32) (S : MO) : Option (Int32 × MO) :=
  bd2 (f_X3_holds t0 S) (fun (r4 : Int32) (S5 : MO) => if r4 = 0 then (some ((0 : Int32), S5)) else (bd (f_X3_cellAt x1 x2 S5) (fun (r7 : Int32) => if r7 = ((-1) : Int32) then (some (r7, S5)) else (if x3 = 0 then (some (r7, S5)) else (gd (x3 + r7) 1085 (some (((S5.2.1 1) (Int32.toNatClampNeg (x3 + r7))), S5)))))))
def c_X3_ofPlace_17 (x1 : Int32) (x2 : Int32) (x3 : Int32) (S : MO) : Option (Int32 × MO) :=
  c_X3_ofPlace_18 x1 x2 x3 (1 : Int32) S
def f_X3_ofPlace (p0 : Int32) (p1 : Int32) (p2 : Int32) (S : MO) : Option (Int32 × MO) :=
  bd (f_X3_isRecording p0 S) (fun (r1 : Int32) => if r1 = 0 then (c_X3_ofPlace_17 p0 p1 p2 S) else (if p1 < 0 then (c_X3_ofPlace_17 p0 p1 p2 S) else (c_X3_ofPlace_18 p0 p1 p2 (0 : Int32) S)))
abbrev rm_X3_ofPlace : Room := { frames := 2, cells := 0, slots := 0, locals := 46 }
theorem np_X3_ofPlace : yX3_ofPlace.cls ≠ "java/lang/invoke/MethodHandle" ∧ yX3_ofPlace.cls ≠ "java/lang/invoke/VarHandle" ∧ (parseMethodDescriptor yX3_ofPlace.desc).map (fun d => d.parameters.length) = some 3 := by decide +kernel
set_option maxHeartbeats 4000000 in
set_option maxRecDepth 100000 in
theorem k_X3_ofPlace (l : Launch) (D : va_G) (cs : CS) (a : Nat → Nat) (p0 : Int32) (p1 : Int32) (p2 : Int32) (S : MO) {r9 : Int32} {S9 : MO} (h : f_X3_ofPlace p0 p1 p2 S = some (r9, S9)) : MI l D cs yX3_ofPlace cX3_ofPlace 5 .int rm_X3_ofPlace [.ref (a 0), .int p0, .int p1, .int p2] (wM cs.1 a S) r9 (wM cs.1 a S9) := by
  refine MI_of (by decide) (Nat.le_of_ble_eq_true rfl) ?_
  rintro Γ rfl rfl rfl B ret
  show X Γ 5 0 0 0 [(0, .ref (a 0)), (1, .int p0), (2, .int p1), (3, .int p2)] [] (wM Γ.cs.1 a S)
  have h18 : ∀ (x1 : Int32) (x2 : Int32) (x3 : Int32) (t0 : Int32) (S : MO), c_X3_ofPlace_18  x1 x2 x3 t0 S = some (r9, S9) → X Γ 5 0 0 18 [(0, .ref (a 0)), (1, .int x1), (2, .int x2), (3, .int x3)] [.int t0, .ref (a 0)] (wM Γ.cs.1 a S) := by
    intro  x1 x2 x3 t0 S h
    unfold c_X3_ofPlace_18 at h
    obtain ⟨r4, S5, er4, h⟩ := bd2_elim h
    refine x_selfVi B (pc' := 21) [.int t0] (k_X3_holds _ _ _ a t0 S er4) rfl rfl gv_RX3_64 rfl np_X3_holds ⟨Nat.le_of_ble_eq_true rfl, Nat.le_of_ble_eq_true rfl⟩ ⟨by exact Nat.le_of_ble_eq_true rfl, by exact Nat.le_of_ble_eq_true rfl⟩ rfl (Nat.le_of_ble_eq_true rfl) dX3_ofPlace_18 rfl ?_
    refine x_if_ne B 26 24 dX3_ofPlace_21 (by decide) rfl (fun hc6 => ?_) (fun hc6 => ?_)
    · replace h := ite_f hc6 h
      refine x_aload_n B (pc' := 27) 0 dX3_ofPlace_26 rfl rfl rfl ?_
      refine x_iload_n B (pc' := 28) 1 dX3_ofPlace_27 rfl rfl rfl ?_
      refine x_iload_n B (pc' := 29) 2 dX3_ofPlace_28 rfl rfl rfl ?_
      obtain ⟨r7, er7, h⟩ := bd_elim h
      refine x_selfVi B (pc' := 32) [.int x1, .int x2] (k_X3_cellAt _ _ _ a x1 x2 S5 er7) rfl rfl gv_RX3_49 rfl np_X3_cellAt ⟨Nat.le_of_ble_eq_true rfl, Nat.le_of_ble_eq_true rfl⟩ ⟨by exact Nat.le_of_ble_eq_true rfl, by exact Nat.le_of_ble_eq_true rfl⟩ rfl (Nat.le_of_ble_eq_true rfl) dX3_ofPlace_29 rfl ?_
      refine x_istore B (pc' := 34) [1, 2, 3, 4, 0] [(0, .ref (a 0)), (1, .int x1), (2, .int x2), (3, .int x3), (4, .int r7)] dX3_ofPlace_32 (by decide) rfl rfl ?_
      refine x_iload B (pc' := 36) 4 dX3_ofPlace_34 rfl rfl ?_
      refine x_iconst B (pc' := 37) (-1) dX3_ofPlace_36 (by decide) rfl ?_
      refine x_icmp_eq B 44 40 dX3_ofPlace_37 (by decide) rfl (fun hc8 => ?_) (fun hc8 => ?_)
      · replace h := ite_t hc8 h
        refine x_iload B (pc' := 46) 4 dX3_ofPlace_44 rfl rfl ?_
        refine x_goto B (pc' := 58) dX3_ofPlace_46 (by decide) ?_
        obtain ⟨h1, h2⟩ := some2 h
        subst h1
        subst h2
        exact ret rfl (by exact Nat.le_of_ble_eq_true rfl) (by exact Nat.le_of_ble_eq_true rfl) dX3_ofPlace_58
      · replace h := ite_f hc8 h
        refine x_iload_n B (pc' := 41) 3 dX3_ofPlace_40 rfl rfl rfl ?_
        refine x_if_ne B 49 44 dX3_ofPlace_41 (by decide) rfl (fun hc9 => ?_) (fun hc9 => ?_)
        · replace h := ite_f hc9 h
          refine x_aload_n B (pc' := 50) 0 dX3_ofPlace_49 rfl rfl rfl ?_
          refine m_ref1 B (pc' := 53) wf_RX3_7 dX3_ofPlace_50 rfl ?_
          refine x_iload_n B (pc' := 54) 3 dX3_ofPlace_53 rfl rfl rfl ?_
          refine x_iload B (pc' := 56) 4 dX3_ofPlace_54 rfl rfl ?_
          refine x_iadd B (pc' := 57) dX3_ofPlace_56 rfl ?_
          obtain ⟨hi10, h⟩ := gd_elim h
          refine m_ald1 B (pc' := 58) hi10 dX3_ofPlace_57 rfl ?_
          obtain ⟨h1, h2⟩ := some2 h
          subst h1
          subst h2
          exact ret rfl (by exact Nat.le_of_ble_eq_true rfl) (by exact Nat.le_of_ble_eq_true rfl) dX3_ofPlace_58
        · replace h := ite_t hc9 h
          refine x_iload B (pc' := 46) 4 dX3_ofPlace_44 rfl rfl ?_
          refine x_goto B (pc' := 58) dX3_ofPlace_46 (by decide) ?_
          obtain ⟨h1, h2⟩ := some2 h
          subst h1
          subst h2
          exact ret rfl (by exact Nat.le_of_ble_eq_true rfl) (by exact Nat.le_of_ble_eq_true rfl) dX3_ofPlace_58
    · replace h := ite_t hc6 h
      refine x_iconst B (pc' := 25) 0 dX3_ofPlace_24 (by decide) rfl ?_
      obtain ⟨h1, h2⟩ := some2 h
      subst h1
      subst h2
      exact ret rfl (by exact Nat.le_of_ble_eq_true rfl) (by exact Nat.le_of_ble_eq_true rfl) dX3_ofPlace_25
  have h17 : ∀ (x1 : Int32) (x2 : Int32) (x3 : Int32) (S : MO), c_X3_ofPlace_17  x1 x2 x3 S = some (r9, S9) → X Γ 5 0 0 17 [(0, .ref (a 0)), (1, .int x1), (2, .int x2), (3, .int x3)] [.ref (a 0)] (wM Γ.cs.1 a S) := by
    intro  x1 x2 x3 S h
    unfold c_X3_ofPlace_17 at h
    refine x_iconst B (pc' := 18) 1 dX3_ofPlace_17 (by decide) rfl ?_
    exact h18  _ _ _ _ _ h
  unfold f_X3_ofPlace at h
  refine x_aload_n B (pc' := 1) 0 dX3_ofPlace_0 rfl rfl rfl ?_
  refine x_aload_n B (pc' := 2) 0 dX3_ofPlace_1 rfl rfl rfl ?_
  refine x_iload_n B (pc' := 3) 1 dX3_ofPlace_2 rfl rfl rfl ?_
  obtain ⟨r1, er1, h⟩ := bd_elim h
  refine x_selfVi B (pc' := 6) [.int p0] (k_X3_isRecording _ _ _ a p0 S er1) rfl rfl gv_RX3_82 rfl np_X3_isRecording ⟨Nat.le_of_ble_eq_true rfl, Nat.le_of_ble_eq_true rfl⟩ ⟨by exact Nat.le_of_ble_eq_true rfl, by exact Nat.le_of_ble_eq_true rfl⟩ rfl (Nat.le_of_ble_eq_true rfl) dX3_ofPlace_3 rfl ?_
  refine x_if_eq B 17 9 dX3_ofPlace_6 (by decide) rfl (fun hc2 => ?_) (fun hc2 => ?_)
  · replace h := ite_t hc2 h
    exact h17  _ _ _ _ h
  · replace h := ite_f hc2 h
    refine x_iload_n B (pc' := 10) 2 dX3_ofPlace_9 rfl rfl rfl ?_
    refine x_if_lt B 17 13 dX3_ofPlace_10 (by decide) rfl (fun hc3 => ?_) (fun hc3 => ?_)
    · replace h := ite_t hc3 h
      exact h17  _ _ _ _ h
    · replace h := ite_f hc3 h
      refine x_iconst B (pc' := 14) 0 dX3_ofPlace_13 (by decide) rfl ?_
      refine x_goto B (pc' := 18) dX3_ofPlace_14 (by decide) ?_
      exact h18  _ _ _ _ _ h
def f_X3_sound (p0 : Int32) (p1 : Int32) (S : MO) : Option (Int32 × MO) :=
  bd2 (f_X3_ofPlace p0 p1 (59 : Int32) S) (fun (r1 : Int32) (S2 : MO) => some (r1, S2))
abbrev rm_X3_sound : Room := { frames := 3, cells := 0, slots := 0, locals := 70 }
theorem np_X3_sound : yX3_sound.cls ≠ "java/lang/invoke/MethodHandle" ∧ yX3_sound.cls ≠ "java/lang/invoke/VarHandle" ∧ (parseMethodDescriptor yX3_sound.desc).map (fun d => d.parameters.length) = some 2 := by decide +kernel
set_option maxHeartbeats 4000000 in
set_option maxRecDepth 100000 in
theorem k_X3_sound (l : Launch) (D : va_G) (cs : CS) (a : Nat → Nat) (p0 : Int32) (p1 : Int32) (S : MO) {r9 : Int32} {S9 : MO} (h : f_X3_sound p0 p1 S = some (r9, S9)) : MI l D cs yX3_sound cX3_sound 3 .int rm_X3_sound [.ref (a 0), .int p0, .int p1] (wM cs.1 a S) r9 (wM cs.1 a S9) := by
  refine MI_of (by decide) (Nat.le_of_ble_eq_true rfl) ?_
  rintro Γ rfl rfl rfl B ret
  show X Γ 3 0 0 0 [(0, .ref (a 0)), (1, .int p0), (2, .int p1)] [] (wM Γ.cs.1 a S)
  unfold f_X3_sound at h
  refine x_aload_n B (pc' := 1) 0 dX3_sound_0 rfl rfl rfl ?_
  refine x_iload_n B (pc' := 2) 1 dX3_sound_1 rfl rfl rfl ?_
  refine x_iload_n B (pc' := 3) 2 dX3_sound_2 rfl rfl rfl ?_
  refine x_bipush B (pc' := 5) 59 dX3_sound_3 (by decide) rfl ?_
  obtain ⟨r1, S2, er1, h⟩ := bd2_elim h
  refine x_selfVi B (pc' := 8) [.int p0, .int p1, .int (59 : Int32)] (k_X3_ofPlace _ _ _ a p0 p1 (59 : Int32) S er1) rfl rfl gv_RX3_91 rfl np_X3_ofPlace ⟨Nat.le_of_ble_eq_true rfl, Nat.le_of_ble_eq_true rfl⟩ ⟨by exact Nat.le_of_ble_eq_true rfl, by exact Nat.le_of_ble_eq_true rfl⟩ rfl (Nat.le_of_ble_eq_true rfl) dX3_sound_5 rfl ?_
  obtain ⟨h1, h2⟩ := some2 h
  subst h1
  subst h2
  exact ret rfl (by exact Nat.le_of_ble_eq_true rfl) (by exact Nat.le_of_ble_eq_true rfl) dX3_sound_8
