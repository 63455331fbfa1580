def f_X1_isRecording (p0 : Int32) (S : OB) : Option Int32 :=
  if p0 < 0 then (some (0 : Int32)) else (if (S.1 7) ≤ p0 then (some (0 : Int32)) else (some (1 : Int32)))
abbrev rm_X1_isRecording : Room := { frames := 0, cells := 0, slots := 0, locals := 0 }
theorem np_X1_isRecording : yX1_isRecording.cls ≠ "java/lang/invoke/MethodHandle" ∧ yX1_isRecording.cls ≠ "java/lang/invoke/VarHandle" ∧ (parseMethodDescriptor yX1_isRecording.desc).map (fun d => d.parameters.length) = some 1 := by decide +kernel
set_option maxHeartbeats 4000000 in
set_option maxRecDepth 100000 in
theorem k_X1_isRecording (l : Launch) (D : va_G) (cs : CS) (a : Nat → Nat) (p0 : Int32) (S : OB) {r9 : Int32} (h : f_X1_isRecording p0 S = some r9) : MI l D cs yX1_isRecording cX1_isRecording 2 .boolean rm_X1_isRecording [.ref (a 0), .int p0] (wS cs.1 a S) r9 (wS cs.1 a S) := by
  refine MI_of (by decide) (Nat.le_of_ble_eq_true rfl) ?_
  rintro Γ rfl rfl rfl B ret
  show X Γ 2 0 0 0 [(0, .ref (a 0)), (1, .int p0)] [] (wS Γ.cs.1 a S)
  unfold f_X1_isRecording at h
  refine x_iload_n B (pc' := 1) 1 dX1_isRecording_0 rfl rfl rfl ?_
  refine x_if_lt B 16 4 dX1_isRecording_1 (by decide) rfl (fun hc1 => ?_) (fun hc1 => ?_)
  · replace h := ite_t hc1 h
    refine x_iconst B (pc' := 17) 0 dX1_isRecording_16 (by decide) rfl ?_
    have h1 := (Option.some.inj h)
    subst h1
    exact ret rfl (by exact Nat.le_of_ble_eq_true rfl) (by exact Nat.le_of_ble_eq_true rfl) dX1_isRecording_17
  · replace h := ite_f hc1 h
    refine x_iload_n B (pc' := 5) 1 dX1_isRecording_4 rfl rfl rfl ?_
    refine x_aload_n B (pc' := 6) 0 dX1_isRecording_5 rfl rfl rfl ?_
    refine s_get7 B (pc' := 9) wf_RX1_34 dX1_isRecording_6 rfl ?_
    refine x_icmp_ge B 16 12 dX1_isRecording_9 (by decide) rfl (fun hc2 => ?_) (fun hc2 => ?_)
    · replace h := ite_t hc2 h
      refine x_iconst B (pc' := 17) 0 dX1_isRecording_16 (by decide) rfl ?_
      have h1 := (Option.some.inj h)
      subst h1
      exact ret rfl (by exact Nat.le_of_ble_eq_true rfl) (by exact Nat.le_of_ble_eq_true rfl) dX1_isRecording_17
    · replace h := ite_f hc2 h
      refine x_iconst B (pc' := 13) 1 dX1_isRecording_12 (by decide) rfl ?_
      refine x_goto B (pc' := 17) dX1_isRecording_13 (by decide) ?_
      have h1 := (Option.some.inj h)
      subst h1
      exact ret rfl (by exact Nat.le_of_ble_eq_true rfl) (by exact Nat.le_of_ble_eq_true rfl) dX1_isRecording_17
def f_X1_runningNumber (S : OB) : Option Int32 :=
  if (S.1 8) = 0 then (some ((-1) : Int32)) else (some ((S.1 7) - (1 : Int32)))
abbrev rm_X1_runningNumber : Room := { frames := 0, cells := 0, slots := 0, locals := 0 }
theorem np_X1_runningNumber : yX1_runningNumber.cls ≠ "java/lang/invoke/MethodHandle" ∧ yX1_runningNumber.cls ≠ "java/lang/invoke/VarHandle" ∧ (parseMethodDescriptor yX1_runningNumber.desc).map (fun d => d.parameters.length) = some 0 := by decide +kernel
set_option maxHeartbeats 4000000 in
set_option maxRecDepth 100000 in
theorem k_X1_runningNumber (l : Launch) (D : va_G) (cs : CS) (a : Nat → Nat) (S : OB) {r9 : Int32} (h : f_X1_runningNumber S = some r9) : MI l D cs yX1_runningNumber cX1_runningNumber 1 .int rm_X1_runningNumber [.ref (a 0)] (wS cs.1 a S) r9 (wS cs.1 a S) := by
  refine MI_of (by decide) (Nat.le_of_ble_eq_true rfl) ?_
  rintro Γ rfl rfl rfl B ret
  show X Γ 1 0 0 0 [(0, .ref (a 0))] [] (wS Γ.cs.1 a S)
  unfold f_X1_runningNumber at h
  refine x_aload_n B (pc' := 1) 0 dX1_runningNumber_0 rfl rfl rfl ?_
  refine s_get8 B (pc' := 4) wf_RX1_37 dX1_runningNumber_1 rfl ?_
  refine x_if_eq B 16 7 dX1_runningNumber_4 (by decide) rfl (fun hc1 => ?_) (fun hc1 => ?_)
  · replace h := ite_t hc1 h
    refine x_iconst B (pc' := 17) (-1) dX1_runningNumber_16 (by decide) rfl ?_
    have h1 := (Option.some.inj h)
    subst h1
    exact ret rfl (by exact Nat.le_of_ble_eq_true rfl) (by exact Nat.le_of_ble_eq_true rfl) dX1_runningNumber_17
  · replace h := ite_f hc1 h
    refine x_aload_n B (pc' := 8) 0 dX1_runningNumber_7 rfl rfl rfl ?_
    refine s_get7 B (pc' := 11) wf_RX1_34 dX1_runningNumber_8 rfl ?_
    refine x_iconst B (pc' := 12) 1 dX1_runningNumber_11 (by decide) rfl ?_
    refine x_isub B (pc' := 13) dX1_runningNumber_12 rfl ?_
    refine x_goto B (pc' := 17) dX1_runningNumber_13 (by decide) ?_
    have h1 := (Option.some.inj h)
    subst h1
    exact ret rfl (by exact Nat.le_of_ble_eq_true rfl) (by exact Nat.le_of_ble_eq_true rfl) dX1_runningNumber_17
def f_X1_isFlagged (p0 : Int32) (S : OB) : Option Int32 :=
  if (vAt 10 (S.2 5) p0) = (1 : Int32) then (some (1 : Int32)) else (some (0 : Int32))
abbrev rm_X1_isFlagged : Room := { frames := 1, cells := 0, slots := 0, locals := 22 }
theorem np_X1_isFlagged : yX1_isFlagged.cls ≠ "java/lang/invoke/MethodHandle" ∧ yX1_isFlagged.cls ≠ "java/lang/invoke/VarHandle" ∧ (parseMethodDescriptor yX1_isFlagged.desc).map (fun d => d.parameters.length) = some 1 := by decide +kernel
set_option maxHeartbeats 4000000 in
set_option maxRecDepth 100000 in
theorem k_X1_isFlagged (l : Launch) (D : va_G) (cs : CS) (a : Nat → Nat) (p0 : Int32) (S : OB) {r9 : Int32} (h : f_X1_isFlagged p0 S = some r9) : MI l D cs yX1_isFlagged cX1_isFlagged 2 .boolean rm_X1_isFlagged [.ref (a 0), .int p0] (wS cs.1 a S) r9 (wS cs.1 a S) := by
  refine MI_of (by decide) (Nat.le_of_ble_eq_true rfl) ?_
  rintro Γ rfl rfl rfl B ret
  show X Γ 2 0 0 0 [(0, .ref (a 0)), (1, .int p0)] [] (wS Γ.cs.1 a S)
  unfold f_X1_isFlagged at h
  refine x_aload_n B (pc' := 1) 0 dX1_isFlagged_0 rfl rfl rfl ?_
  refine s_ref5 B (pc' := 4) wf_RX1_28 dX1_isFlagged_1 rfl ?_
  refine x_iload_n B (pc' := 5) 1 dX1_isFlagged_4 rfl rfl rfl ?_
  refine s_vAt5 B (pc' := 8) ⟨Nat.le_of_ble_eq_true rfl, Nat.le_of_ble_eq_true rfl⟩ ⟨Nat.le_of_ble_eq_true rfl, Nat.le_of_ble_eq_true rfl⟩ (Nat.le_of_ble_eq_true rfl) nw_RX1_62 dX1_isFlagged_5 rfl ?_
  refine x_iconst B (pc' := 9) 1 dX1_isFlagged_8 (by decide) rfl ?_
  refine x_icmp_ne B 16 12 dX1_isFlagged_9 (by decide) rfl (fun hc1 => ?_) (fun hc1 => ?_)
  · replace h := ite_f hc1 h
    refine x_iconst B (pc' := 17) 0 dX1_isFlagged_16 (by decide) rfl ?_
    have h1 := (Option.some.inj h)
    subst h1
    exact ret rfl (by exact Nat.le_of_ble_eq_true rfl) (by exact Nat.le_of_ble_eq_true rfl) dX1_isFlagged_17
  · replace h := ite_t hc1 h
    refine x_iconst B (pc' := 13) 1 dX1_isFlagged_12 (by decide) rfl ?_
    refine x_goto B (pc' := 17) dX1_isFlagged_13 (by decide) ?_
    have h1 := (Option.some.inj h)
    subst h1
    exact ret rfl (by exact Nat.le_of_ble_eq_true rfl) (by exact Nat.le_of_ble_eq_true rfl) dX1_isFlagged_17
def c_X1_putFlag_14 (t0 : Int32) (t1 : Int32) (S : OB) : Option OB :=
  nm (fun (S2 : OB) => some S2) (S.1, up2 S.2 5 (pAt 10 (S.2 5) t1 t0))
def f_X1_putFlag (p0 : Int32) (p1 : Int32) (S : OB) : Option OB :=
  if p1 = 0 then (c_X1_putFlag_14 (0 : Int32) p0 S) else (c_X1_putFlag_14 (1 : Int32) p0 S)
abbrev rm_X1_putFlag : Room := { frames := 1, cells := 0, slots := 0, locals := 22 }
theorem np_X1_putFlag : yX1_putFlag.cls ≠ "java/lang/invoke/MethodHandle" ∧ yX1_putFlag.cls ≠ "java/lang/invoke/VarHandle" ∧ (parseMethodDescriptor yX1_putFlag.desc).map (fun d => d.parameters.length) = some 2 := by decide +kernel
set_option maxHeartbeats 4000000 in
set_option maxRecDepth 100000 in
theorem k_X1_putFlag (l : Launch) (D : va_G) (cs : CS) (a : Nat → Nat) (p0 : Int32) (p1 : Int32) (S : OB) {S9 : OB} (h : f_X1_putFlag p0 p1 S = some S9) : MV l D cs yX1_putFlag cX1_putFlag 3 rm_X1_putFlag [.ref (a 0), .int p0, .int p1] (wS cs.1 a S) (wS cs.1 a S9) := by
  refine MV_of (by decide) (Nat.le_of_ble_eq_true rfl) ?_
  rintro Γ rfl rfl rfl B ret
  show X Γ 3 0 0 0 [(0, .ref (a 0)), (1, .int p0), (2, .int p1)] [] (wS Γ.cs.1 a S)
  have h14 : ∀ (t0 : Int32) (t1 : Int32) (S : OB), c_X1_putFlag_14  t0 t1 S = some S9 → X Γ 3 0 0 14 [] [.int t0, .int t1, .ref (a 5)] (wS Γ.cs.1 a S) := by
    intro  t0 t1 S h
    unfold c_X1_putFlag_14 at h
    obtain ⟨S2, eS2, h⟩ := nm_elim h
    refine s_pAt5 B (pc' := 17) ⟨Nat.le_of_ble_eq_true rfl, Nat.le_of_ble_eq_true rfl⟩ ⟨Nat.le_of_ble_eq_true rfl, Nat.le_of_ble_eq_true rfl⟩ (Nat.le_of_ble_eq_true rfl) nw_RX1_66 dX1_putFlag_14 rfl ?_
    refine s_wd eS2 ?_
    cases h
    exact ret (by exact Nat.le_of_ble_eq_true rfl) (by exact Nat.le_of_ble_eq_true rfl) dX1_putFlag_17
  unfold f_X1_putFlag at h
  refine x_aload_n B (pc' := 1) 0 dX1_putFlag_0 rfl rfl rfl ?_
  refine s_ref5 B (pc' := 4) wf_RX1_28 dX1_putFlag_1 rfl ?_
  refine x_iload_n B (pc' := 5) 1 dX1_putFlag_4 rfl rfl rfl ?_
  refine x_iload_n B (pc' := 6) 2 dX1_putFlag_5 rfl rfl rfl ?_
  refine x_if_eq B 13 9 dX1_putFlag_6 (by decide) rfl (fun hc1 => ?_) (fun hc1 => ?_)
  · replace h := ite_t hc1 h
    refine x_iconst B (pc' := 14) 0 dX1_putFlag_13 (by decide) rfl ?_
    refine x_lv [] (lv' := []) rfl ?_
    exact h14  _ _ _ h
  · replace h := ite_f hc1 h
    refine x_iconst B (pc' := 10) 1 dX1_putFlag_9 (by decide) rfl ?_
    refine x_goto B (pc' := 14) dX1_putFlag_10 (by decide) ?_
    refine x_lv [] (lv' := []) rfl ?_
    exact h14  _ _ _ h
def b_X1_cellCount_4 (S : OB) (K4 : Int32 → Int32 → Int32 → Option Int32) (x1 : Int32) (x2 : Int32) (x3 : Int32) : Option Int32 :=
  if (32 : Int32) ≤ x3 then (some x2) else (if (vAt 32 (S.2 0) x3) = x1 then (nm (fun (v4 : Int32) => nm (fun (v5 : Int32) => K4 x1 v4 v5) (x3 + 1)) (x2 + 1)) else (nm (fun (v3 : Int32) => K4 x1 x2 v3) (x3 + 1)))
def f_X1_cellCount (p0 : Int32) (S : OB) : Option Int32 :=
  lpf3 (b_X1_cellCount_4 S) FU p0 (0 : Int32) (0 : Int32)
abbrev rm_X1_cellCount : Room := { frames := 1, cells := 0, slots := 0, locals := 22 }
theorem np_X1_cellCount : yX1_cellCount.cls ≠ "java/lang/invoke/MethodHandle" ∧ yX1_cellCount.cls ≠ "java/lang/invoke/VarHandle" ∧ (parseMethodDescriptor yX1_cellCount.desc).map (fun d => d.parameters.length) = some 1 := by decide +kernel
set_option maxHeartbeats 4000000 in
set_option maxRecDepth 100000 in
theorem k_X1_cellCount (l : Launch) (D : va_G) (cs : CS) (a : Nat → Nat) (p0 : Int32) (S : OB) {r9 : Int32} (h : f_X1_cellCount p0 S = some r9) : MI l D cs yX1_cellCount cX1_cellCount 4 .int rm_X1_cellCount [.ref (a 0), .int p0] (wS cs.1 a S) r9 (wS cs.1 a S) := by
  refine MI_of (by decide) (Nat.le_of_ble_eq_true rfl) ?_
  rintro Γ rfl rfl rfl B ret
  show X Γ 4 0 0 0 [(0, .ref (a 0)), (1, .int p0)] [] (wS Γ.cs.1 a S)
  have h4 : ∀ (n9 : Nat) (x1 : Int32) (x2 : Int32) (x3 : Int32), lpf3 (b_X1_cellCount_4 S) n9 x1 x2 x3 = some r9 → X Γ 4 0 0 4 [(0, .ref (a 0)), (1, .int x1), (2, .int x2), (3, .int x3)] [] (wS Γ.cs.1 a S) := by
    refine lpf3_ind (fun K4 hK4 x1 x2 x3 h => ?_)
    unfold b_X1_cellCount_4 at h
    refine x_iload_n B (pc' := 5) 3 dX1_cellCount_4 rfl rfl rfl ?_
    refine x_bipush B (pc' := 7) 32 dX1_cellCount_5 (by decide) rfl ?_
    refine x_icmp_ge B 31 10 dX1_cellCount_7 (by decide) rfl (fun hc1 => ?_) (fun hc1 => ?_)
    · replace h := ite_t hc1 h
      refine x_iload_n B (pc' := 32) 2 dX1_cellCount_31 rfl rfl rfl ?_
      have h1 := (Option.some.inj h)
      subst h1
      exact ret rfl (by exact Nat.le_of_ble_eq_true rfl) (by exact Nat.le_of_ble_eq_true rfl) dX1_cellCount_32
    · replace h := ite_f hc1 h
      refine x_aload_n B (pc' := 11) 0 dX1_cellCount_10 rfl rfl rfl ?_
      refine s_ref0 B (pc' := 14) wf_RX1_9 dX1_cellCount_11 rfl ?_
      refine x_iload_n B (pc' := 15) 3 dX1_cellCount_14 rfl rfl rfl ?_
      refine s_vAt0 B (pc' := 18) ⟨Nat.le_of_ble_eq_true rfl, Nat.le_of_ble_eq_true rfl⟩ ⟨Nat.le_of_ble_eq_true rfl, Nat.le_of_ble_eq_true rfl⟩ (Nat.le_of_ble_eq_true rfl) nw_RX1_62 dX1_cellCount_15 rfl ?_
      refine x_iload_n B (pc' := 19) 1 dX1_cellCount_18 rfl rfl rfl ?_
      refine x_icmp_ne B 25 22 dX1_cellCount_19 (by decide) rfl (fun hc2 => ?_) (fun hc2 => ?_)
      · replace h := ite_f hc2 h
        obtain ⟨v3, ev3, h⟩ := nm_elim h
        refine x_iinc B (pc' := 28) v3 3 [1, 2, 3, 0] [(0, .ref (a 0)), (1, .int x1), (2, .int x2), (3, .int v3)] dX1_cellCount_25 rfl (by rw [ev3]; rfl) (by decide) rfl rfl ?_
        refine x_goto B (pc' := 4) dX1_cellCount_28 (by decide) ?_
        exact hK4 _ _ _ h
      · replace h := ite_t hc2 h
        obtain ⟨v4, ev4, h⟩ := nm_elim h
        refine x_iinc B (pc' := 25) v4 2 [1, 2, 0, 3] [(0, .ref (a 0)), (1, .int x1), (2, .int v4), (3, .int x3)] dX1_cellCount_22 rfl (by rw [ev4]; rfl) (by decide) rfl rfl ?_
        obtain ⟨v5, ev5, h⟩ := nm_elim h
        refine x_iinc B (pc' := 28) v5 3 [1, 2, 3, 0] [(0, .ref (a 0)), (1, .int x1), (2, .int v4), (3, .int v5)] dX1_cellCount_25 rfl (by rw [ev5]; rfl) (by decide) rfl rfl ?_
        refine x_goto B (pc' := 4) dX1_cellCount_28 (by decide) ?_
        exact hK4 _ _ _ h
  unfold f_X1_cellCount at h
  refine x_iconst B (pc' := 1) 0 dX1_cellCount_0 (by decide) rfl ?_
  refine x_istore_n B (pc' := 2) [1, 2, 0] [(0, .ref (a 0)), (1, .int p0), (2, .int (0 : Int32))] dX1_cellCount_1 rfl (by decide) rfl rfl ?_
  refine x_iconst B (pc' := 3) 0 dX1_cellCount_2 (by decide) rfl ?_
  refine x_istore_n B (pc' := 4) [1, 2, 3, 0] [(0, .ref (a 0)), (1, .int p0), (2, .int (0 : Int32)), (3, .int (0 : Int32))] dX1_cellCount_3 rfl (by decide) rfl rfl ?_
  exact h4  _ _ _ _ h
def b_X1_cellAt_5 (S : OB) (K5 : Int32 → Int32 → Int32 → Int32 → Option Int32) (x1 : Int32) (x2 : Int32) (x3 : Int32) (x4 : Int32) : Option Int32 :=
  if (S.1 4) ≤ x4 then (some ((-1) : Int32)) else (nm (fun (v2 : Int32) => if (vAt 32 (S.2 0) v2) = x1 then (if x3 = x2 then (some v2) else (nm (fun (v6 : Int32) => nm (fun (v7 : Int32) => K5 x1 x2 v6 v7) (x4 + 1)) (x3 + 1))) else (nm (fun (v4 : Int32) => K5 x1 x2 x3 v4) (x4 + 1))) (vAt 32 (S.2 3) x4))
def f_X1_cellAt (p0 : Int32) (p1 : Int32) (S : OB) : Option Int32 :=
  lpf4 (b_X1_cellAt_5 S) FU p0 p1 (0 : Int32) (0 : Int32)
abbrev rm_X1_cellAt : Room := { frames := 1, cells := 0, slots := 0, locals := 22 }
theorem np_X1_cellAt : yX1_cellAt.cls ≠ "java/lang/invoke/MethodHandle" ∧ yX1_cellAt.cls ≠ "java/lang/invoke/VarHandle" ∧ (parseMethodDescriptor yX1_cellAt.desc).map (fun d => d.parameters.length) = some 2 := by decide +kernel
set_option maxHeartbeats 4000000 in
set_option maxRecDepth 100000 in
theorem k_X1_cellAt (l : Launch) (D : va_G) (cs : CS) (a : Nat → Nat) (p0 : Int32) (p1 : Int32) (S : OB) {r9 : Int32} (h : f_X1_cellAt p0 p1 S = some r9) : MI l D cs yX1_cellAt cX1_cellAt 6 .int rm_X1_cellAt [.ref (a 0), .int p0, .int p1] (wS cs.1 a S) r9 (wS cs.1 a S) := by
  refine MI_of (by decide) (Nat.le_of_ble_eq_true rfl) ?_
  rintro Γ rfl rfl rfl B ret
  show X Γ 6 0 0 0 [(0, .ref (a 0)), (1, .int p0), (2, .int p1)] [] (wS Γ.cs.1 a S)
  have h5 : ∀ (n9 : Nat) (x1 : Int32) (x2 : Int32) (x3 : Int32) (x4 : Int32), lpf4 (b_X1_cellAt_5 S) n9 x1 x2 x3 x4 = some r9 → X Γ 6 0 0 5 [(0, .ref (a 0)), (1, .int x1), (2, .int x2), (3, .int x3), (4, .int x4)] [] (wS Γ.cs.1 a S) := by
    refine lpf4_ind (fun K5 hK5 x1 x2 x3 x4 h => ?_)
    unfold b_X1_cellAt_5 at h
    refine x_iload B (pc' := 7) 4 dX1_cellAt_5 rfl rfl ?_
    refine x_aload_n B (pc' := 8) 0 dX1_cellAt_7 rfl rfl rfl ?_
    refine s_get4 B (pc' := 11) wf_RX1_24 dX1_cellAt_8 rfl ?_
    refine x_icmp_ge B 55 14 dX1_cellAt_11 (by decide) rfl (fun hc1 => ?_) (fun hc1 => ?_)
    · replace h := ite_t hc1 h
      refine x_iconst B (pc' := 56) (-1) dX1_cellAt_55 (by decide) rfl ?_
      have h1 := (Option.some.inj h)
      subst h1
      exact ret rfl (by exact Nat.le_of_ble_eq_true rfl) (by exact Nat.le_of_ble_eq_true rfl) dX1_cellAt_56
    · replace h := ite_f hc1 h
      refine x_aload_n B (pc' := 15) 0 dX1_cellAt_14 rfl rfl rfl ?_
      refine s_ref3 B (pc' := 18) wf_RX1_21 dX1_cellAt_15 rfl ?_
      refine x_iload B (pc' := 20) 4 dX1_cellAt_18 rfl rfl ?_
      refine s_vAt3 B (pc' := 23) ⟨Nat.le_of_ble_eq_true rfl, Nat.le_of_ble_eq_true rfl⟩ ⟨Nat.le_of_ble_eq_true rfl, Nat.le_of_ble_eq_true rfl⟩ (Nat.le_of_ble_eq_true rfl) nw_RX1_62 dX1_cellAt_20 rfl ?_
      obtain ⟨v2, ev2, h⟩ := nm_elim h
      refine x_topi ev2 ?_
      refine x_istore B (pc' := 25) [1, 2, 3, 4, 5, 0] [(0, .ref (a 0)), (1, .int x1), (2, .int x2), (3, .int x3), (4, .int x4), (5, .int v2)] dX1_cellAt_23 (by decide) rfl rfl ?_
      refine x_aload_n B (pc' := 26) 0 dX1_cellAt_25 rfl rfl rfl ?_
      refine s_ref0 B (pc' := 29) wf_RX1_9 dX1_cellAt_26 rfl ?_
      refine x_iload B (pc' := 31) 5 dX1_cellAt_29 rfl rfl ?_
      refine s_vAt0 B (pc' := 34) ⟨Nat.le_of_ble_eq_true rfl, Nat.le_of_ble_eq_true rfl⟩ ⟨Nat.le_of_ble_eq_true rfl, Nat.le_of_ble_eq_true rfl⟩ (Nat.le_of_ble_eq_true rfl) nw_RX1_62 dX1_cellAt_31 rfl ?_
      refine x_iload_n B (pc' := 35) 1 dX1_cellAt_34 rfl rfl rfl ?_
      refine x_icmp_ne B 49 38 dX1_cellAt_35 (by decide) rfl (fun hc3 => ?_) (fun hc3 => ?_)
      · replace h := ite_f hc3 h
        obtain ⟨v4, ev4, h⟩ := nm_elim h
        refine x_iinc B (pc' := 52) v4 4 [1, 2, 3, 4, 0, 5] [(0, .ref (a 0)), (1, .int x1), (2, .int x2), (3, .int x3), (4, .int v4), (5, .int v2)] dX1_cellAt_49 rfl (by rw [ev4]; rfl) (by decide) rfl rfl ?_
        refine x_goto B (pc' := 5) dX1_cellAt_52 (by decide) ?_
        refine x_lv [0, 1, 2, 3, 4] (lv' := [(0, .ref (a 0)), (1, .int x1), (2, .int x2), (3, .int x3), (4, .int v4)]) rfl ?_
        exact hK5 _ _ _ _ h
      · replace h := ite_t hc3 h
        refine x_iload_n B (pc' := 39) 3 dX1_cellAt_38 rfl rfl rfl ?_
        refine x_iload_n B (pc' := 40) 2 dX1_cellAt_39 rfl rfl rfl ?_
        refine x_icmp_ne B 46 43 dX1_cellAt_40 (by decide) rfl (fun hc5 => ?_) (fun hc5 => ?_)
        · replace h := ite_f hc5 h
          obtain ⟨v6, ev6, h⟩ := nm_elim h
          refine x_iinc B (pc' := 49) v6 3 [1, 2, 3, 0, 4, 5] [(0, .ref (a 0)), (1, .int x1), (2, .int x2), (3, .int v6), (4, .int x4), (5, .int v2)] dX1_cellAt_46 rfl (by rw [ev6]; rfl) (by decide) rfl rfl ?_
          obtain ⟨v7, ev7, h⟩ := nm_elim h
          refine x_iinc B (pc' := 52) v7 4 [1, 2, 3, 4, 0, 5] [(0, .ref (a 0)), (1, .int x1), (2, .int x2), (3, .int v6), (4, .int v7), (5, .int v2)] dX1_cellAt_49 rfl (by rw [ev7]; rfl) (by decide) rfl rfl ?_
          refine x_goto B (pc' := 5) dX1_cellAt_52 (by decide) ?_
          refine x_lv [0, 1, 2, 3, 4] (lv' := [(0, .ref (a 0)), (1, .int x1), (2, .int x2), (3, .int v6), (4, .int v7)]) rfl ?_
          exact hK5 _ _ _ _ h
        · replace h := ite_t hc5 h
          refine x_iload B (pc' := 45) 5 dX1_cellAt_43 rfl rfl ?_
          have h1 := (Option.some.inj h)
          subst h1
          exact ret rfl (by exact Nat.le_of_ble_eq_true rfl) (by exact Nat.le_of_ble_eq_true rfl) dX1_cellAt_45
  unfold f_X1_cellAt at h
  refine x_iconst B (pc' := 1) 0 dX1_cellAt_0 (by decide) rfl ?_
  refine x_istore_n B (pc' := 2) [1, 2, 3, 0] [(0, .ref (a 0)), (1, .int p0), (2, .int p1), (3, .int (0 : Int32))] dX1_cellAt_1 rfl (by decide) rfl rfl ?_
  refine x_iconst B (pc' := 3) 0 dX1_cellAt_2 (by decide) rfl ?_
  refine x_istore B (pc' := 5) [1, 2, 3, 4, 0] [(0, .ref (a 0)), (1, .int p0), (2, .int p1), (3, .int (0 : Int32)), (4, .int (0 : Int32))] dX1_cellAt_3 (by decide) rfl rfl ?_
  exact h5  _ _ _ _ _ h
def f_X1_mayBegin (S : OB) : Option Int32 :=
  if (S.1 7) < (10 : Int32) then (some (1 : Int32)) else (if (S.1 8) = 0 then (some (0 : Int32)) else (bd (f_X1_runningNumber S) (fun (r3 : Int32) => bd (f_X1_cellCount r3 S) (fun (r4 : Int32) => if r4 = 0 then (some (1 : Int32)) else (some (0 : Int32))))))
abbrev rm_X1_mayBegin : Room := { frames := 2, cells := 0, slots := 0, locals := 45 }
theorem np_X1_mayBegin : yX1_mayBegin.cls ≠ "java/lang/invoke/MethodHandle" ∧ yX1_mayBegin.cls ≠ "java/lang/invoke/VarHandle" ∧ (parseMethodDescriptor yX1_mayBegin.desc).map (fun d => d.parameters.length) = some 0 := by decide +kernel
set_option maxHeartbeats 4000000 in
set_option maxRecDepth 100000 in
theorem k_X1_mayBegin (l : Launch) (D : va_G) (cs : CS) (a : Nat → Nat) (S : OB) {r9 : Int32} (h : f_X1_mayBegin S = some r9) : MI l D cs yX1_mayBegin cX1_mayBegin 1 .boolean rm_X1_mayBegin [.ref (a 0)] (wS cs.1 a S) r9 (wS cs.1 a S) := by
  refine MI_of (by decide) (Nat.le_of_ble_eq_true rfl) ?_
  rintro Γ rfl rfl rfl B ret
  show X Γ 1 0 0 0 [(0, .ref (a 0))] [] (wS Γ.cs.1 a S)
  unfold f_X1_mayBegin at h
  refine x_aload_n B (pc' := 1) 0 dX1_mayBegin_0 rfl rfl rfl ?_
  refine s_get7 B (pc' := 4) wf_RX1_34 dX1_mayBegin_1 rfl ?_
  refine x_bipush B (pc' := 6) 10 dX1_mayBegin_4 (by decide) rfl ?_
  refine x_icmp_lt B 27 9 dX1_mayBegin_6 (by decide) rfl (fun hc1 => ?_) (fun hc1 => ?_)
  · replace h := ite_t hc1 h
    refine x_iconst B (pc' := 28) 1 dX1_mayBegin_27 (by decide) rfl ?_
    refine x_goto B (pc' := 32) dX1_mayBegin_28 (by decide) ?_
    have h1 := (Option.some.inj h)
    subst h1
    exact ret rfl (by exact Nat.le_of_ble_eq_true rfl) (by exact Nat.le_of_ble_eq_true rfl) dX1_mayBegin_32
  · replace h := ite_f hc1 h
    refine x_aload_n B (pc' := 10) 0 dX1_mayBegin_9 rfl rfl rfl ?_
    refine s_get8 B (pc' := 13) wf_RX1_37 dX1_mayBegin_10 rfl ?_
    refine x_if_eq B 31 16 dX1_mayBegin_13 (by decide) rfl (fun hc2 => ?_) (fun hc2 => ?_)
    · replace h := ite_t hc2 h
      refine x_iconst B (pc' := 32) 0 dX1_mayBegin_31 (by decide) rfl ?_
      have h1 := (Option.some.inj h)
      subst h1
      exact ret rfl (by exact Nat.le_of_ble_eq_true rfl) (by exact Nat.le_of_ble_eq_true rfl) dX1_mayBegin_32
    · replace h := ite_f hc2 h
      refine x_aload_n B (pc' := 17) 0 dX1_mayBegin_16 rfl rfl rfl ?_
      refine x_aload_n B (pc' := 18) 0 dX1_mayBegin_17 rfl rfl rfl ?_
      obtain ⟨r3, er3, h⟩ := bd_elim h
      refine x_selfVi B (pc' := 21) [] (k_X1_runningNumber _ _ _ a S er3) rfl rfl gv_RX1_70 rfl np_X1_runningNumber ⟨Nat.le_of_ble_eq_true rfl, Nat.le_of_ble_eq_true rfl⟩ ⟨by exact Nat.le_of_ble_eq_true rfl, by exact Nat.le_of_ble_eq_true rfl⟩ rfl (Nat.le_of_ble_eq_true rfl) dX1_mayBegin_18 rfl ?_
      obtain ⟨r4, er4, h⟩ := bd_elim h
      refine x_selfVi B (pc' := 24) [.int r3] (k_X1_cellCount _ _ _ a r3 S er4) rfl rfl gv_RX1_74 rfl np_X1_cellCount ⟨Nat.le_of_ble_eq_true rfl, Nat.le_of_ble_eq_true rfl⟩ ⟨by exact Nat.le_of_ble_eq_true rfl, by exact Nat.le_of_ble_eq_true rfl⟩ rfl (Nat.le_of_ble_eq_true rfl) dX1_mayBegin_21 rfl ?_
      refine x_if_ne B 31 27 dX1_mayBegin_24 (by decide) rfl (fun hc5 => ?_) (fun hc5 => ?_)
      · replace h := ite_f hc5 h
        refine x_iconst B (pc' := 32) 0 dX1_mayBegin_31 (by decide) rfl ?_
        have h1 := (Option.some.inj h)
        subst h1
        exact ret rfl (by exact Nat.le_of_ble_eq_true rfl) (by exact Nat.le_of_ble_eq_true rfl) dX1_mayBegin_32
      · replace h := ite_t hc5 h
        refine x_iconst B (pc' := 28) 1 dX1_mayBegin_27 (by decide) rfl ?_
        refine x_goto B (pc' := 32) dX1_mayBegin_28 (by decide) ?_
        have h1 := (Option.some.inj h)
        subst h1
        exact ret rfl (by exact Nat.le_of_ble_eq_true rfl) (by exact Nat.le_of_ble_eq_true rfl) dX1_mayBegin_32
def b_X1_removeRecording_79 (K79 : Int32 → Int32 → OB → Option OB) (x1 : Int32) (x2 : Int32) (S : OB) : Option OB :=
  if (32 : Int32) ≤ x2 then (if (S.1 12) = x1 then (nm (fun (S13 : OB) => nm (fun (S14 : OB) => some S14) (upd S13.1 13 ((-1) : Int32), S13.2)) (upd S.1 12 ((-1) : Int32), S.2)) else (if (S.1 12) ≤ x1 then (some S) else (nm (fun (S12 : OB) => some S12) (upd S.1 12 ((S.1 12) - (1 : Int32)), S.2)))) else (nm (fun (v15 : Int32) => if v15 ≤ x1 then (nm (fun (v17 : Int32) => K79 x1 v17 S) (x2 + 1)) else (nm (fun (S18 : OB) => nm (fun (v19 : Int32) => K79 x1 v19 S18) (x2 + 1)) (S.1, up2 S.2 0 (pAt 32 (S.2 0) x2 (v15 - (1 : Int32)))))) (vAt 32 (S.2 0) x2))
def b_X1_removeRecording_15 (K15 : Int32 → Int32 → OB → Option OB) (x1 : Int32) (x2 : Int32) (S : OB) : Option OB :=
  if (S.1 7) ≤ (x2 + (1 : Int32)) then (nm (fun (S5 : OB) => lpf3 (b_X1_removeRecording_79) FU x1 (0 : Int32) S5) (upd S.1 7 ((S.1 7) - (1 : Int32)), S.2)) else (nm (fun (S6 : OB) => nm (fun (S7 : OB) => nm (fun (v8 : Int32) => K15 x1 v8 S7) (x2 + 1)) (S6.1, up2 S6.2 6 (pAt 10 (S6.2 6) x2 (vAt 10 (S6.2 6) (x2 + (1 : Int32)))))) (S.1, up2 S.2 5 (pAt 10 (S.2 5) x2 (vAt 10 (S.2 5) (x2 + (1 : Int32))))))
def f_X1_removeRecording (p0 : Int32) (S : OB) : Option OB :=
  bd (f_X1_runningNumber S) (fun (r1 : Int32) => if p0 = r1 then (nm (fun (S3 : OB) => lpf3 (b_X1_removeRecording_15) FU p0 p0 S3) (upd S.1 8 (0 : Int32), S.2)) else (lpf3 (b_X1_removeRecording_15) FU p0 p0 S))
abbrev rm_X1_removeRecording : Room := { frames := 1, cells := 0, slots := 0, locals := 22 }
theorem np_X1_removeRecording : yX1_removeRecording.cls ≠ "java/lang/invoke/MethodHandle" ∧ yX1_removeRecording.cls ≠ "java/lang/invoke/VarHandle" ∧ (parseMethodDescriptor yX1_removeRecording.desc).map (fun d => d.parameters.length) = some 1 := by decide +kernel
set_option maxHeartbeats 4000000 in
set_option maxRecDepth 100000 in
theorem k_X1_removeRecording (l : Launch) (D : va_G) (cs : CS) (a : Nat → Nat) (p0 : Int32) (S : OB) {S9 : OB} (h : f_X1_removeRecording p0 S = some S9) : MV l D cs yX1_removeRecording cX1_removeRecording 4 rm_X1_removeRecording [.ref (a 0), .int p0] (wS cs.1 a S) (wS cs.1 a S9) := by
  refine MV_of (by decide) (Nat.le_of_ble_eq_true rfl) ?_
  rintro Γ rfl rfl rfl B ret
  show X Γ 4 0 0 0 [(0, .ref (a 0)), (1, .int p0)] [] (wS Γ.cs.1 a S)
  have h79 : ∀ (n9 : Nat) (x1 : Int32) (x2 : Int32) (S : OB), lpf3 (b_X1_removeRecording_79) n9 x1 x2 S = some S9 → X Γ 4 0 0 79 [(0, .ref (a 0)), (1, .int x1), (2, .int x2)] [] (wS Γ.cs.1 a S) := by
    refine lpf3_ind (fun K79 hK79 x1 x2 S h => ?_)
    unfold b_X1_removeRecording_79 at h
    refine x_iload_n B (pc' := 80) 2 dX1_removeRecording_79 rfl rfl rfl ?_
    refine x_bipush B (pc' := 82) 32 dX1_removeRecording_80 (by decide) rfl ?_
    refine x_icmp_ge B 116 85 dX1_removeRecording_82 (by decide) rfl (fun hc9 => ?_) (fun hc9 => ?_)
    · replace h := ite_t hc9 h
      refine x_aload_n B (pc' := 117) 0 dX1_removeRecording_116 rfl rfl rfl ?_
      refine s_get12 B (pc' := 120) wf_RX1_50 dX1_removeRecording_117 rfl ?_
      refine x_iload_n B (pc' := 121) 1 dX1_removeRecording_120 rfl rfl rfl ?_
      refine x_icmp_ne B 137 124 dX1_removeRecording_121 (by decide) rfl (fun hc10 => ?_) (fun hc10 => ?_)
      · replace h := ite_f hc10 h
        refine x_aload_n B (pc' := 138) 0 dX1_removeRecording_137 rfl rfl rfl ?_
        refine s_get12 B (pc' := 141) wf_RX1_50 dX1_removeRecording_138 rfl ?_
        refine x_iload_n B (pc' := 142) 1 dX1_removeRecording_141 rfl rfl rfl ?_
        refine x_icmp_le B 155 145 dX1_removeRecording_142 (by decide) rfl (fun hc11 => ?_) (fun hc11 => ?_)
        · replace h := ite_t hc11 h
          cases h
          exact ret (by exact Nat.le_of_ble_eq_true rfl) (by exact Nat.le_of_ble_eq_true rfl) dX1_removeRecording_155
        · replace h := ite_f hc11 h
          refine x_aload_n B (pc' := 146) 0 dX1_removeRecording_145 rfl rfl rfl ?_
          refine x_dup B (pc' := 147) dX1_removeRecording_146 rfl rfl ?_
          refine s_get12 B (pc' := 150) wf_RX1_50 dX1_removeRecording_147 rfl ?_
          refine x_iconst B (pc' := 151) 1 dX1_removeRecording_150 (by decide) rfl ?_
          refine x_isub B (pc' := 152) dX1_removeRecording_151 rfl ?_
          obtain ⟨S12, eS12, h⟩ := nm_elim h
          refine s_put12 B (pc' := 155) wf_RX1_50 dX1_removeRecording_152 rfl ?_
          refine s_wd eS12 ?_
          cases h
          exact ret (by exact Nat.le_of_ble_eq_true rfl) (by exact Nat.le_of_ble_eq_true rfl) dX1_removeRecording_155
      · replace h := ite_t hc10 h
        refine x_aload_n B (pc' := 125) 0 dX1_removeRecording_124 rfl rfl rfl ?_
        refine x_iconst B (pc' := 126) (-1) dX1_removeRecording_125 (by decide) rfl ?_
        obtain ⟨S13, eS13, h⟩ := nm_elim h
        refine s_put12 B (pc' := 129) wf_RX1_50 dX1_removeRecording_126 rfl ?_
        refine s_wd eS13 ?_
        refine x_aload_n B (pc' := 130) 0 dX1_removeRecording_129 rfl rfl rfl ?_
        refine x_iconst B (pc' := 131) (-1) dX1_removeRecording_130 (by decide) rfl ?_
        obtain ⟨S14, eS14, h⟩ := nm_elim h
        refine s_put13 B (pc' := 134) wf_RX1_53 dX1_removeRecording_131 rfl ?_
        refine s_wd eS14 ?_
        refine x_goto B (pc' := 155) dX1_removeRecording_134 (by decide) ?_
        cases h
        exact ret (by exact Nat.le_of_ble_eq_true rfl) (by exact Nat.le_of_ble_eq_true rfl) dX1_removeRecording_155
    · replace h := ite_f hc9 h
      refine x_aload_n B (pc' := 86) 0 dX1_removeRecording_85 rfl rfl rfl ?_
      refine s_ref0 B (pc' := 89) wf_RX1_9 dX1_removeRecording_86 rfl ?_
      refine x_iload_n B (pc' := 90) 2 dX1_removeRecording_89 rfl rfl rfl ?_
      refine s_vAt0 B (pc' := 93) ⟨Nat.le_of_ble_eq_true rfl, Nat.le_of_ble_eq_true rfl⟩ ⟨Nat.le_of_ble_eq_true rfl, Nat.le_of_ble_eq_true rfl⟩ (Nat.le_of_ble_eq_true rfl) nw_RX1_62 dX1_removeRecording_90 rfl ?_
      obtain ⟨v15, ev15, h⟩ := nm_elim h
      refine x_topi ev15 ?_
      refine x_istore_n B (pc' := 94) [1, 2, 3, 0] [(0, .ref (a 0)), (1, .int x1), (2, .int x2), (3, .int v15)] dX1_removeRecording_93 rfl (by decide) rfl rfl ?_
      refine x_iload_n B (pc' := 95) 3 dX1_removeRecording_94 rfl rfl rfl ?_
      refine x_iload_n B (pc' := 96) 1 dX1_removeRecording_95 rfl rfl rfl ?_
      refine x_icmp_le B 110 99 dX1_removeRecording_96 (by decide) rfl (fun hc16 => ?_) (fun hc16 => ?_)
      · replace h := ite_t hc16 h
        obtain ⟨v17, ev17, h⟩ := nm_elim h
        refine x_iinc B (pc' := 113) v17 2 [1, 2, 0, 3] [(0, .ref (a 0)), (1, .int x1), (2, .int v17), (3, .int v15)] dX1_removeRecording_110 rfl (by rw [ev17]; rfl) (by decide) rfl rfl ?_
        refine x_goto B (pc' := 79) dX1_removeRecording_113 (by decide) ?_
        refine x_lv [0, 1, 2] (lv' := [(0, .ref (a 0)), (1, .int x1), (2, .int v17)]) rfl ?_
        exact hK79 _ _ _ h
      · replace h := ite_f hc16 h
        refine x_aload_n B (pc' := 100) 0 dX1_removeRecording_99 rfl rfl rfl ?_
        refine s_ref0 B (pc' := 103) wf_RX1_9 dX1_removeRecording_100 rfl ?_
        refine x_iload_n B (pc' := 104) 2 dX1_removeRecording_103 rfl rfl rfl ?_
        refine x_iload_n B (pc' := 105) 3 dX1_removeRecording_104 rfl rfl rfl ?_
        refine x_iconst B (pc' := 106) 1 dX1_removeRecording_105 (by decide) rfl ?_
        refine x_isub B (pc' := 107) dX1_removeRecording_106 rfl ?_
        obtain ⟨S18, eS18, h⟩ := nm_elim h
        refine s_pAt0 B (pc' := 110) ⟨Nat.le_of_ble_eq_true rfl, Nat.le_of_ble_eq_true rfl⟩ ⟨Nat.le_of_ble_eq_true rfl, Nat.le_of_ble_eq_true rfl⟩ (Nat.le_of_ble_eq_true rfl) nw_RX1_66 dX1_removeRecording_107 rfl ?_
        refine s_wd eS18 ?_
        obtain ⟨v19, ev19, h⟩ := nm_elim h
        refine x_iinc B (pc' := 113) v19 2 [1, 2, 0, 3] [(0, .ref (a 0)), (1, .int x1), (2, .int v19), (3, .int v15)] dX1_removeRecording_110 rfl (by rw [ev19]; rfl) (by decide) rfl rfl ?_
        refine x_goto B (pc' := 79) dX1_removeRecording_113 (by decide) ?_
        refine x_lv [0, 1, 2] (lv' := [(0, .ref (a 0)), (1, .int x1), (2, .int v19)]) rfl ?_
        exact hK79 _ _ _ h
  have h15 : ∀ (n9 : Nat) (x1 : Int32) (x2 : Int32) (S : OB), lpf3 (b_X1_removeRecording_15) n9 x1 x2 S = some S9 → X Γ 4 0 0 15 [(0, .ref (a 0)), (1, .int x1), (2, .int x2)] [] (wS Γ.cs.1 a S) := by
    refine lpf3_ind (fun K15 hK15 x1 x2 S h => ?_)
    unfold b_X1_removeRecording_15 at h
    refine x_iload_n B (pc' := 16) 2 dX1_removeRecording_15 rfl rfl rfl ?_
    refine x_iconst B (pc' := 17) 1 dX1_removeRecording_16 (by decide) rfl ?_
    refine x_iadd B (pc' := 18) dX1_removeRecording_17 rfl ?_
    refine x_aload_n B (pc' := 19) 0 dX1_removeRecording_18 rfl rfl rfl ?_
    refine s_get7 B (pc' := 22) wf_RX1_34 dX1_removeRecording_19 rfl ?_
    refine x_icmp_ge B 67 25 dX1_removeRecording_22 (by decide) rfl (fun hc4 => ?_) (fun hc4 => ?_)
    · replace h := ite_t hc4 h
      refine x_aload_n B (pc' := 68) 0 dX1_removeRecording_67 rfl rfl rfl ?_
      refine x_dup B (pc' := 69) dX1_removeRecording_68 rfl rfl ?_
      refine s_get7 B (pc' := 72) wf_RX1_34 dX1_removeRecording_69 rfl ?_
      refine x_iconst B (pc' := 73) 1 dX1_removeRecording_72 (by decide) rfl ?_
      refine x_isub B (pc' := 74) dX1_removeRecording_73 rfl ?_
      obtain ⟨S5, eS5, h⟩ := nm_elim h
      refine s_put7 B (pc' := 77) wf_RX1_34 dX1_removeRecording_74 rfl ?_
      refine s_wd eS5 ?_
      refine x_iconst B (pc' := 78) 0 dX1_removeRecording_77 (by decide) rfl ?_
      refine x_istore_n B (pc' := 79) [1, 2, 0] [(0, .ref (a 0)), (1, .int x1), (2, .int (0 : Int32))] dX1_removeRecording_78 rfl (by decide) rfl rfl ?_
      exact h79  _ _ _ _ h
    · replace h := ite_f hc4 h
      refine x_aload_n B (pc' := 26) 0 dX1_removeRecording_25 rfl rfl rfl ?_
      refine s_ref5 B (pc' := 29) wf_RX1_28 dX1_removeRecording_26 rfl ?_
      refine x_iload_n B (pc' := 30) 2 dX1_removeRecording_29 rfl rfl rfl ?_
      refine x_aload_n B (pc' := 31) 0 dX1_removeRecording_30 rfl rfl rfl ?_
      refine s_ref5 B (pc' := 34) wf_RX1_28 dX1_removeRecording_31 rfl ?_
      refine x_iload_n B (pc' := 35) 2 dX1_removeRecording_34 rfl rfl rfl ?_
      refine x_iconst B (pc' := 36) 1 dX1_removeRecording_35 (by decide) rfl ?_
      refine x_iadd B (pc' := 37) dX1_removeRecording_36 rfl ?_
      refine s_vAt5 B (pc' := 40) ⟨Nat.le_of_ble_eq_true rfl, Nat.le_of_ble_eq_true rfl⟩ ⟨Nat.le_of_ble_eq_true rfl, Nat.le_of_ble_eq_true rfl⟩ (Nat.le_of_ble_eq_true rfl) nw_RX1_62 dX1_removeRecording_37 rfl ?_
      obtain ⟨S6, eS6, h⟩ := nm_elim h
      refine s_pAt5 B (pc' := 43) ⟨Nat.le_of_ble_eq_true rfl, Nat.le_of_ble_eq_true rfl⟩ ⟨Nat.le_of_ble_eq_true rfl, Nat.le_of_ble_eq_true rfl⟩ (Nat.le_of_ble_eq_true rfl) nw_RX1_66 dX1_removeRecording_40 rfl ?_
      refine s_wd eS6 ?_
      refine x_aload_n B (pc' := 44) 0 dX1_removeRecording_43 rfl rfl rfl ?_
      refine s_ref6 B (pc' := 47) wf_RX1_31 dX1_removeRecording_44 rfl ?_
      refine x_iload_n B (pc' := 48) 2 dX1_removeRecording_47 rfl rfl rfl ?_
      refine x_aload_n B (pc' := 49) 0 dX1_removeRecording_48 rfl rfl rfl ?_
      refine s_ref6 B (pc' := 52) wf_RX1_31 dX1_removeRecording_49 rfl ?_
      refine x_iload_n B (pc' := 53) 2 dX1_removeRecording_52 rfl rfl rfl ?_
      refine x_iconst B (pc' := 54) 1 dX1_removeRecording_53 (by decide) rfl ?_
      refine x_iadd B (pc' := 55) dX1_removeRecording_54 rfl ?_
      refine s_vAt6 B (pc' := 58) ⟨Nat.le_of_ble_eq_true rfl, Nat.le_of_ble_eq_true rfl⟩ ⟨Nat.le_of_ble_eq_true rfl, Nat.le_of_ble_eq_true rfl⟩ (Nat.le_of_ble_eq_true rfl) nw_RX1_62 dX1_removeRecording_55 rfl ?_
      obtain ⟨S7, eS7, h⟩ := nm_elim h
      refine s_pAt6 B (pc' := 61) ⟨Nat.le_of_ble_eq_true rfl, Nat.le_of_ble_eq_true rfl⟩ ⟨Nat.le_of_ble_eq_true rfl, Nat.le_of_ble_eq_true rfl⟩ (Nat.le_of_ble_eq_true rfl) nw_RX1_66 dX1_removeRecording_58 rfl ?_
      refine s_wd eS7 ?_
      obtain ⟨v8, ev8, h⟩ := nm_elim h
      refine x_iinc B (pc' := 64) v8 2 [1, 2, 0] [(0, .ref (a 0)), (1, .int x1), (2, .int v8)] dX1_removeRecording_61 rfl (by rw [ev8]; rfl) (by decide) rfl rfl ?_
      refine x_goto B (pc' := 15) dX1_removeRecording_64 (by decide) ?_
      exact hK15 _ _ _ h
  unfold f_X1_removeRecording at h
  refine x_iload_n B (pc' := 1) 1 dX1_removeRecording_0 rfl rfl rfl ?_
  refine x_aload_n B (pc' := 2) 0 dX1_removeRecording_1 rfl rfl rfl ?_
  obtain ⟨r1, er1, h⟩ := bd_elim h
  refine x_selfVi B (pc' := 5) [] (k_X1_runningNumber _ _ _ a S er1) rfl rfl gv_RX1_70 rfl np_X1_runningNumber ⟨Nat.le_of_ble_eq_true rfl, Nat.le_of_ble_eq_true rfl⟩ ⟨by exact Nat.le_of_ble_eq_true rfl, by exact Nat.le_of_ble_eq_true rfl⟩ rfl (Nat.le_of_ble_eq_true rfl) dX1_removeRecording_2 rfl ?_
  refine x_icmp_ne B 13 8 dX1_removeRecording_5 (by decide) rfl (fun hc2 => ?_) (fun hc2 => ?_)
  · replace h := ite_f hc2 h
    refine x_iload_n B (pc' := 14) 1 dX1_removeRecording_13 rfl rfl rfl ?_
    refine x_istore_n B (pc' := 15) [1, 2, 0] [(0, .ref (a 0)), (1, .int p0), (2, .int p0)] dX1_removeRecording_14 rfl (by decide) rfl rfl ?_
    exact h15  _ _ _ _ h
  · replace h := ite_t hc2 h
    refine x_aload_n B (pc' := 9) 0 dX1_removeRecording_8 rfl rfl rfl ?_
    refine x_iconst B (pc' := 10) 0 dX1_removeRecording_9 (by decide) rfl ?_
    obtain ⟨S3, eS3, h⟩ := nm_elim h
    refine s_put8 (Or.inl rfl) B (pc' := 13) wf_RX1_37 dX1_removeRecording_10 rfl ?_
    refine s_wd eS3 ?_
    refine x_iload_n B (pc' := 14) 1 dX1_removeRecording_13 rfl rfl rfl ?_
    refine x_istore_n B (pc' := 15) [1, 2, 0] [(0, .ref (a 0)), (1, .int p0), (2, .int p0)] dX1_removeRecording_14 rfl (by decide) rfl rfl ?_
    exact h15  _ _ _ _ h
def f_X1_stopRecording (S : OB) : Option (Int32 × OB) :=
  bd (f_X1_runningNumber S) (fun (r1 : Int32) => bd (f_X1_cellCount r1 S) (fun (r2 : Int32) => nm (fun (S3 : OB) => if r2 = 0 then (bd (f_X1_removeRecording r1 S3) (fun (S5 : OB) => some (r2, S5))) else (some (r2, S3))) (upd S.1 8 (0 : Int32), S.2)))
abbrev rm_X1_stopRecording : Room := { frames := 2, cells := 0, slots := 0, locals := 45 }
theorem np_X1_stopRecording : yX1_stopRecording.cls ≠ "java/lang/invoke/MethodHandle" ∧ yX1_stopRecording.cls ≠ "java/lang/invoke/VarHandle" ∧ (parseMethodDescriptor yX1_stopRecording.desc).map (fun d => d.parameters.length) = some 0 := by decide +kernel
set_option maxHeartbeats 4000000 in
set_option maxRecDepth 100000 in
theorem k_X1_stopRecording (l : Launch) (D : va_G) (cs : CS) (a : Nat → Nat) (S : OB) {r9 : Int32} {S9 : OB} (h : f_X1_stopRecording S = some (r9, S9)) : MI l D cs yX1_stopRecording cX1_stopRecording 3 .int rm_X1_stopRecording [.ref (a 0)] (wS cs.1 a S) r9 (wS cs.1 a S9) := by
  refine MI_of (by decide) (Nat.le_of_ble_eq_true rfl) ?_
  rintro Γ rfl rfl rfl B ret
  show X Γ 3 0 0 0 [(0, .ref (a 0))] [] (wS Γ.cs.1 a S)
  unfold f_X1_stopRecording at h
  refine x_aload_n B (pc' := 1) 0 dX1_stopRecording_0 rfl rfl rfl ?_
  obtain ⟨r1, er1, h⟩ := bd_elim h
  refine x_selfVi B (pc' := 4) [] (k_X1_runningNumber _ _ _ a S er1) rfl rfl gv_RX1_70 rfl np_X1_runningNumber ⟨Nat.le_of_ble_eq_true rfl, Nat.le_of_ble_eq_true rfl⟩ ⟨by exact Nat.le_of_ble_eq_true rfl, by exact Nat.le_of_ble_eq_true rfl⟩ rfl (Nat.le_of_ble_eq_true rfl) dX1_stopRecording_1 rfl ?_
  refine x_istore_n B (pc' := 5) [1, 0] [(0, .ref (a 0)), (1, .int r1)] dX1_stopRecording_4 rfl (by decide) rfl rfl ?_
  refine x_aload_n B (pc' := 6) 0 dX1_stopRecording_5 rfl rfl rfl ?_
  refine x_iload_n B (pc' := 7) 1 dX1_stopRecording_6 rfl rfl rfl ?_
  obtain ⟨r2, er2, h⟩ := bd_elim h
  refine x_selfVi B (pc' := 10) [.int r1] (k_X1_cellCount _ _ _ a r1 S er2) rfl rfl gv_RX1_74 rfl np_X1_cellCount ⟨Nat.le_of_ble_eq_true rfl, Nat.le_of_ble_eq_true rfl⟩ ⟨by exact Nat.le_of_ble_eq_true rfl, by exact Nat.le_of_ble_eq_true rfl⟩ rfl (Nat.le_of_ble_eq_true rfl) dX1_stopRecording_7 rfl ?_
  refine x_istore_n B (pc' := 11) [1, 2, 0] [(0, .ref (a 0)), (1, .int r1), (2, .int r2)] dX1_stopRecording_10 rfl (by decide) rfl rfl ?_
  refine x_aload_n B (pc' := 12) 0 dX1_stopRecording_11 rfl rfl rfl ?_
  refine x_iconst B (pc' := 13) 0 dX1_stopRecording_12 (by decide) rfl ?_
  obtain ⟨S3, eS3, h⟩ := nm_elim h
  refine s_put8 (Or.inl rfl) B (pc' := 16) wf_RX1_37 dX1_stopRecording_13 rfl ?_
  refine s_wd eS3 ?_
  refine x_iload_n B (pc' := 17) 2 dX1_stopRecording_16 rfl rfl rfl ?_
  refine x_if_ne B 25 20 dX1_stopRecording_17 (by decide) rfl (fun hc4 => ?_) (fun hc4 => ?_)
  · replace h := ite_f hc4 h
    refine x_iload_n B (pc' := 26) 2 dX1_stopRecording_25 rfl rfl rfl ?_
    obtain ⟨h1, h2⟩ := some2 h
    subst h1
    subst h2
    exact ret rfl (by exact Nat.le_of_ble_eq_true rfl) (by exact Nat.le_of_ble_eq_true rfl) dX1_stopRecording_26
  · replace h := ite_t hc4 h
    refine x_aload_n B (pc' := 21) 0 dX1_stopRecording_20 rfl rfl rfl ?_
    refine x_iload_n B (pc' := 22) 1 dX1_stopRecording_21 rfl rfl rfl ?_
    obtain ⟨S5, eS5, h⟩ := bd_elim h
    refine x_selfVv B (pc' := 25) [.int r1] (k_X1_removeRecording _ _ _ a r1 S3 eS5) rfl rfl gv_RX1_81 rfl np_X1_removeRecording ⟨Nat.le_of_ble_eq_true rfl, Nat.le_of_ble_eq_true rfl⟩ ⟨by exact Nat.le_of_ble_eq_true rfl, by exact Nat.le_of_ble_eq_true rfl⟩ rfl (Nat.le_of_ble_eq_true rfl) dX1_stopRecording_22 rfl ?_
    refine x_iload_n B (pc' := 26) 2 dX1_stopRecording_25 rfl rfl rfl ?_
    obtain ⟨h1, h2⟩ := some2 h
    subst h1
    subst h2
    exact ret rfl (by exact Nat.le_of_ble_eq_true rfl) (by exact Nat.le_of_ble_eq_true rfl) dX1_stopRecording_26
def c_X1_beginRecording_12 (S : OB) : Option (Int32 × OB) :=
  nm (fun (v4 : Int32) => nm (fun (S5 : OB) => nm (fun (S6 : OB) => nm (fun (S7 : OB) => nm (fun (S8 : OB) => some (v4, S8)) (upd S7.1 8 (1 : Int32), S7.2)) (upd S6.1 7 ((S6.1 7) + (1 : Int32)), S6.2)) (S5.1, up2 S5.2 6 (pAt 10 (S5.2 6) v4 (0 : Int32)))) (S.1, up2 S.2 5 (pAt 10 (S.2 5) v4 (0 : Int32)))) (S.1 7)
def f_X1_beginRecording (S : OB) : Option (Int32 × OB) :=
  if (S.1 8) = 0 then (c_X1_beginRecording_12 S) else (bd2 (f_X1_stopRecording S) (fun (r2 : Int32) (S3 : OB) => c_X1_beginRecording_12 S3))
abbrev rm_X1_beginRecording : Room := { frames := 3, cells := 0, slots := 0, locals := 67 }
theorem np_X1_beginRecording : yX1_beginRecording.cls ≠ "java/lang/invoke/MethodHandle" ∧ yX1_beginRecording.cls ≠ "java/lang/invoke/VarHandle" ∧ (parseMethodDescriptor yX1_beginRecording.desc).map (fun d => d.parameters.length) = some 0 := by decide +kernel
set_option maxHeartbeats 4000000 in
set_option maxRecDepth 100000 in
theorem k_X1_beginRecording (l : Launch) (D : va_G) (cs : CS) (a : Nat → Nat) (S : OB) {r9 : Int32} {S9 : OB} (h : f_X1_beginRecording S = some (r9, S9)) : MI l D cs yX1_beginRecording cX1_beginRecording 2 .int rm_X1_beginRecording [.ref (a 0)] (wS cs.1 a S) r9 (wS cs.1 a S9) := by
  refine MI_of (by decide) (Nat.le_of_ble_eq_true rfl) ?_
  rintro Γ rfl rfl rfl B ret
  show X Γ 2 0 0 0 [(0, .ref (a 0))] [] (wS Γ.cs.1 a S)
  have h12 : ∀ (S : OB), c_X1_beginRecording_12  S = some (r9, S9) → X Γ 2 0 0 12 [(0, .ref (a 0))] [] (wS Γ.cs.1 a S) := by
    intro  S h
    unfold c_X1_beginRecording_12 at h
    refine x_aload_n B (pc' := 13) 0 dX1_beginRecording_12 rfl rfl rfl ?_
    refine s_get7 B (pc' := 16) wf_RX1_34 dX1_beginRecording_13 rfl ?_
    obtain ⟨v4, ev4, h⟩ := nm_elim h
    refine x_topi ev4 ?_
    refine x_istore_n B (pc' := 17) [1, 0] [(0, .ref (a 0)), (1, .int v4)] dX1_beginRecording_16 rfl (by decide) rfl rfl ?_
    refine x_aload_n B (pc' := 18) 0 dX1_beginRecording_17 rfl rfl rfl ?_
    refine s_ref5 B (pc' := 21) wf_RX1_28 dX1_beginRecording_18 rfl ?_
    refine x_iload_n B (pc' := 22) 1 dX1_beginRecording_21 rfl rfl rfl ?_
    refine x_iconst B (pc' := 23) 0 dX1_beginRecording_22 (by decide) rfl ?_
    obtain ⟨S5, eS5, h⟩ := nm_elim h
    refine s_pAt5 B (pc' := 26) ⟨Nat.le_of_ble_eq_true rfl, Nat.le_of_ble_eq_true rfl⟩ ⟨Nat.le_of_ble_eq_true rfl, Nat.le_of_ble_eq_true rfl⟩ (Nat.le_of_ble_eq_true rfl) nw_RX1_66 dX1_beginRecording_23 rfl ?_
    refine s_wd eS5 ?_
    refine x_aload_n B (pc' := 27) 0 dX1_beginRecording_26 rfl rfl rfl ?_
    refine s_ref6 B (pc' := 30) wf_RX1_31 dX1_beginRecording_27 rfl ?_
    refine x_iload_n B (pc' := 31) 1 dX1_beginRecording_30 rfl rfl rfl ?_
    refine x_iconst B (pc' := 32) 0 dX1_beginRecording_31 (by decide) rfl ?_
    obtain ⟨S6, eS6, h⟩ := nm_elim h
    refine s_pAt6 B (pc' := 35) ⟨Nat.le_of_ble_eq_true rfl, Nat.le_of_ble_eq_true rfl⟩ ⟨Nat.le_of_ble_eq_true rfl, Nat.le_of_ble_eq_true rfl⟩ (Nat.le_of_ble_eq_true rfl) nw_RX1_66 dX1_beginRecording_32 rfl ?_
    refine s_wd eS6 ?_
    refine x_aload_n B (pc' := 36) 0 dX1_beginRecording_35 rfl rfl rfl ?_
    refine x_dup B (pc' := 37) dX1_beginRecording_36 rfl rfl ?_
    refine s_get7 B (pc' := 40) wf_RX1_34 dX1_beginRecording_37 rfl ?_
    refine x_iconst B (pc' := 41) 1 dX1_beginRecording_40 (by decide) rfl ?_
    refine x_iadd B (pc' := 42) dX1_beginRecording_41 rfl ?_
    obtain ⟨S7, eS7, h⟩ := nm_elim h
    refine s_put7 B (pc' := 45) wf_RX1_34 dX1_beginRecording_42 rfl ?_
    refine s_wd eS7 ?_
    refine x_aload_n B (pc' := 46) 0 dX1_beginRecording_45 rfl rfl rfl ?_
    refine x_iconst B (pc' := 47) 1 dX1_beginRecording_46 (by decide) rfl ?_
    obtain ⟨S8, eS8, h⟩ := nm_elim h
    refine s_put8 (Or.inr rfl) B (pc' := 50) wf_RX1_37 dX1_beginRecording_47 rfl ?_
    refine s_wd eS8 ?_
    refine x_iload_n B (pc' := 51) 1 dX1_beginRecording_50 rfl rfl rfl ?_
    obtain ⟨h1, h2⟩ := some2 h
    subst h1
    subst h2
    exact ret rfl (by exact Nat.le_of_ble_eq_true rfl) (by exact Nat.le_of_ble_eq_true rfl) dX1_beginRecording_51
  unfold f_X1_beginRecording at h
  refine x_aload_n B (pc' := 1) 0 dX1_beginRecording_0 rfl rfl rfl ?_
  refine s_get8 B (pc' := 4) wf_RX1_37 dX1_beginRecording_1 rfl ?_
  refine x_if_eq B 12 7 dX1_beginRecording_4 (by decide) rfl (fun hc1 => ?_) (fun hc1 => ?_)
  · replace h := ite_t hc1 h
    exact h12  _ h
  · replace h := ite_f hc1 h
    refine x_aload_n B (pc' := 8) 0 dX1_beginRecording_7 rfl rfl rfl ?_
    obtain ⟨r2, S3, er2, h⟩ := bd2_elim h
    refine x_selfVi B (pc' := 11) [] (k_X1_stopRecording _ _ _ a S er2) rfl rfl gv_RX1_78 rfl np_X1_stopRecording ⟨Nat.le_of_ble_eq_true rfl, Nat.le_of_ble_eq_true rfl⟩ ⟨by exact Nat.le_of_ble_eq_true rfl, by exact Nat.le_of_ble_eq_true rfl⟩ rfl (Nat.le_of_ble_eq_true rfl) dX1_beginRecording_8 rfl ?_
    refine x_pop B (pc' := 12) dX1_beginRecording_11 rfl rfl ?_
    exact h12  _ h
def b_X1_dropFreeCells_4 (K4 : Int32 → Int32 → OB → Option OB) (x1 : Int32) (x2 : Int32) (S : OB) : Option OB :=
  if (S.1 4) ≤ x2 then (nm (fun (S2 : OB) => some S2) (upd S.1 4 x1, S.2)) else (nm (fun (v3 : Int32) => if (vAt 32 (S.2 0) v3) = ((-1) : Int32) then (nm (fun (v5 : Int32) => K4 x1 v5 S) (x2 + 1)) else (nm (fun (S6 : OB) => nm (fun (v7 : Int32) => nm (fun (v8 : Int32) => K4 v7 v8 S6) (x2 + 1)) (x1 + 1)) (S.1, up2 S.2 3 (pAt 32 (S.2 3) x1 v3)))) (vAt 32 (S.2 3) x2))
def f_X1_dropFreeCells (S : OB) : Option OB :=
  lpf3 (b_X1_dropFreeCells_4) FU (0 : Int32) (0 : Int32) S
abbrev rm_X1_dropFreeCells : Room := { frames := 1, cells := 0, slots := 0, locals := 22 }
theorem np_X1_dropFreeCells : yX1_dropFreeCells.cls ≠ "java/lang/invoke/MethodHandle" ∧ yX1_dropFreeCells.cls ≠ "java/lang/invoke/VarHandle" ∧ (parseMethodDescriptor yX1_dropFreeCells.desc).map (fun d => d.parameters.length) = some 0 := by decide +kernel
set_option maxHeartbeats 4000000 in
set_option maxRecDepth 100000 in
theorem k_X1_dropFreeCells (l : Launch) (D : va_G) (cs : CS) (a : Nat → Nat) (S : OB) {S9 : OB} (h : f_X1_dropFreeCells S = some S9) : MV l D cs yX1_dropFreeCells cX1_dropFreeCells 4 rm_X1_dropFreeCells [.ref (a 0)] (wS cs.1 a S) (wS cs.1 a S9) := by
  refine MV_of (by decide) (Nat.le_of_ble_eq_true rfl) ?_
  rintro Γ rfl rfl rfl B ret
  show X Γ 4 0 0 0 [(0, .ref (a 0))] [] (wS Γ.cs.1 a S)
  have h4 : ∀ (n9 : Nat) (x1 : Int32) (x2 : Int32) (S : OB), lpf3 (b_X1_dropFreeCells_4) n9 x1 x2 S = some S9 → X Γ 4 0 0 4 [(0, .ref (a 0)), (1, .int x1), (2, .int x2)] [] (wS Γ.cs.1 a S) := by
    refine lpf3_ind (fun K4 hK4 x1 x2 S h => ?_)
    unfold b_X1_dropFreeCells_4 at h
    refine x_iload_n B (pc' := 5) 2 dX1_dropFreeCells_4 rfl rfl rfl ?_
    refine x_aload_n B (pc' := 6) 0 dX1_dropFreeCells_5 rfl rfl rfl ?_
    refine s_get4 B (pc' := 9) wf_RX1_24 dX1_dropFreeCells_6 rfl ?_
    refine x_icmp_ge B 51 12 dX1_dropFreeCells_9 (by decide) rfl (fun hc1 => ?_) (fun hc1 => ?_)
    · replace h := ite_t hc1 h
      refine x_aload_n B (pc' := 52) 0 dX1_dropFreeCells_51 rfl rfl rfl ?_
      refine x_iload_n B (pc' := 53) 1 dX1_dropFreeCells_52 rfl rfl rfl ?_
      obtain ⟨S2, eS2, h⟩ := nm_elim h
      refine s_put4 B (pc' := 56) wf_RX1_24 dX1_dropFreeCells_53 rfl ?_
      refine s_wd eS2 ?_
      cases h
      exact ret (by exact Nat.le_of_ble_eq_true rfl) (by exact Nat.le_of_ble_eq_true rfl) dX1_dropFreeCells_56
    · replace h := ite_f hc1 h
      refine x_aload_n B (pc' := 13) 0 dX1_dropFreeCells_12 rfl rfl rfl ?_
      refine s_ref3 B (pc' := 16) wf_RX1_21 dX1_dropFreeCells_13 rfl ?_
      refine x_iload_n B (pc' := 17) 2 dX1_dropFreeCells_16 rfl rfl rfl ?_
      refine s_vAt3 B (pc' := 20) ⟨Nat.le_of_ble_eq_true rfl, Nat.le_of_ble_eq_true rfl⟩ ⟨Nat.le_of_ble_eq_true rfl, Nat.le_of_ble_eq_true rfl⟩ (Nat.le_of_ble_eq_true rfl) nw_RX1_62 dX1_dropFreeCells_17 rfl ?_
      obtain ⟨v3, ev3, h⟩ := nm_elim h
      refine x_topi ev3 ?_
      refine x_istore_n B (pc' := 21) [1, 2, 3, 0] [(0, .ref (a 0)), (1, .int x1), (2, .int x2), (3, .int v3)] dX1_dropFreeCells_20 rfl (by decide) rfl rfl ?_
      refine x_aload_n B (pc' := 22) 0 dX1_dropFreeCells_21 rfl rfl rfl ?_
      refine s_ref0 B (pc' := 25) wf_RX1_9 dX1_dropFreeCells_22 rfl ?_
      refine x_iload_n B (pc' := 26) 3 dX1_dropFreeCells_25 rfl rfl rfl ?_
      refine s_vAt0 B (pc' := 29) ⟨Nat.le_of_ble_eq_true rfl, Nat.le_of_ble_eq_true rfl⟩ ⟨Nat.le_of_ble_eq_true rfl, Nat.le_of_ble_eq_true rfl⟩ (Nat.le_of_ble_eq_true rfl) nw_RX1_62 dX1_dropFreeCells_26 rfl ?_
      refine x_iconst B (pc' := 30) (-1) dX1_dropFreeCells_29 (by decide) rfl ?_
      refine x_icmp_eq B 45 33 dX1_dropFreeCells_30 (by decide) rfl (fun hc4 => ?_) (fun hc4 => ?_)
      · replace h := ite_t hc4 h
        obtain ⟨v5, ev5, h⟩ := nm_elim h
        refine x_iinc B (pc' := 48) v5 2 [1, 2, 0, 3] [(0, .ref (a 0)), (1, .int x1), (2, .int v5), (3, .int v3)] dX1_dropFreeCells_45 rfl (by rw [ev5]; rfl) (by decide) rfl rfl ?_
        refine x_goto B (pc' := 4) dX1_dropFreeCells_48 (by decide) ?_
        refine x_lv [0, 1, 2] (lv' := [(0, .ref (a 0)), (1, .int x1), (2, .int v5)]) rfl ?_
        exact hK4 _ _ _ h
      · replace h := ite_f hc4 h
        refine x_aload_n B (pc' := 34) 0 dX1_dropFreeCells_33 rfl rfl rfl ?_
        refine s_ref3 B (pc' := 37) wf_RX1_21 dX1_dropFreeCells_34 rfl ?_
        refine x_iload_n B (pc' := 38) 1 dX1_dropFreeCells_37 rfl rfl rfl ?_
        refine x_iload_n B (pc' := 39) 3 dX1_dropFreeCells_38 rfl rfl rfl ?_
        obtain ⟨S6, eS6, h⟩ := nm_elim h
        refine s_pAt3 B (pc' := 42) ⟨Nat.le_of_ble_eq_true rfl, Nat.le_of_ble_eq_true rfl⟩ ⟨Nat.le_of_ble_eq_true rfl, Nat.le_of_ble_eq_true rfl⟩ (Nat.le_of_ble_eq_true rfl) nw_RX1_66 dX1_dropFreeCells_39 rfl ?_
        refine s_wd eS6 ?_
        obtain ⟨v7, ev7, h⟩ := nm_elim h
        refine x_iinc B (pc' := 45) v7 1 [1, 0, 2, 3] [(0, .ref (a 0)), (1, .int v7), (2, .int x2), (3, .int v3)] dX1_dropFreeCells_42 rfl (by rw [ev7]; rfl) (by decide) rfl rfl ?_
        obtain ⟨v8, ev8, h⟩ := nm_elim h
        refine x_iinc B (pc' := 48) v8 2 [1, 2, 0, 3] [(0, .ref (a 0)), (1, .int v7), (2, .int v8), (3, .int v3)] dX1_dropFreeCells_45 rfl (by rw [ev8]; rfl) (by decide) rfl rfl ?_
        refine x_goto B (pc' := 4) dX1_dropFreeCells_48 (by decide) ?_
        refine x_lv [0, 1, 2] (lv' := [(0, .ref (a 0)), (1, .int v7), (2, .int v8)]) rfl ?_
        exact hK4 _ _ _ h
  unfold f_X1_dropFreeCells at h
  refine x_iconst B (pc' := 1) 0 dX1_dropFreeCells_0 (by decide) rfl ?_
  refine x_istore_n B (pc' := 2) [1, 0] [(0, .ref (a 0)), (1, .int (0 : Int32))] dX1_dropFreeCells_1 rfl (by decide) rfl rfl ?_
  refine x_iconst B (pc' := 3) 0 dX1_dropFreeCells_2 (by decide) rfl ?_
  refine x_istore_n B (pc' := 4) [1, 2, 0] [(0, .ref (a 0)), (1, .int (0 : Int32)), (2, .int (0 : Int32))] dX1_dropFreeCells_3 rfl (by decide) rfl rfl ?_
  exact h4  _ _ _ _ h
def b_X1_eraseRecording_4 (K4 : Int32 → Int32 → Int32 → OB → Option (Int32 × OB)) (x1 : Int32) (x2 : Int32) (x3 : Int32) (S : OB) : Option (Int32 × OB) :=
  if (32 : Int32) ≤ x3 then (bd (f_X1_dropFreeCells S) (fun (S2 : OB) => bd (f_X1_removeRecording x1 S2) (fun (S3 : OB) => some (x2, S3)))) else (if (vAt 32 (S.2 0) x3) = x1 then (nm (fun (S6 : OB) => nm (fun (v7 : Int32) => nm (fun (v8 : Int32) => K4 x1 v7 v8 S6) (x3 + 1)) (x2 + 1)) (S.1, up2 S.2 0 (pAt 32 (S.2 0) x3 ((-1) : Int32)))) else (nm (fun (v5 : Int32) => K4 x1 x2 v5 S) (x3 + 1)))
def f_X1_eraseRecording (p0 : Int32) (S : OB) : Option (Int32 × OB) :=
  lpf4 (b_X1_eraseRecording_4) FU p0 (0 : Int32) (0 : Int32) S
abbrev rm_X1_eraseRecording : Room := { frames := 2, cells := 0, slots := 0, locals := 45 }
theorem np_X1_eraseRecording : yX1_eraseRecording.cls ≠ "java/lang/invoke/MethodHandle" ∧ yX1_eraseRecording.cls ≠ "java/lang/invoke/VarHandle" ∧ (parseMethodDescriptor yX1_eraseRecording.desc).map (fun d => d.parameters.length) = some 1 := by decide +kernel
set_option maxHeartbeats 4000000 in
set_option maxRecDepth 100000 in
theorem k_X1_eraseRecording (l : Launch) (D : va_G) (cs : CS) (a : Nat → Nat) (p0 : Int32) (S : OB) {r9 : Int32} {S9 : OB} (h : f_X1_eraseRecording p0 S = some (r9, S9)) : MI l D cs yX1_eraseRecording cX1_eraseRecording 4 .int rm_X1_eraseRecording [.ref (a 0), .int p0] (wS cs.1 a S) r9 (wS cs.1 a S9) := by
  refine MI_of (by decide) (Nat.le_of_ble_eq_true rfl) ?_
  rintro Γ rfl rfl rfl B ret
  show X Γ 4 0 0 0 [(0, .ref (a 0)), (1, .int p0)] [] (wS Γ.cs.1 a S)
  have h4 : ∀ (n9 : Nat) (x1 : Int32) (x2 : Int32) (x3 : Int32) (S : OB), lpf4 (b_X1_eraseRecording_4) n9 x1 x2 x3 S = some (r9, S9) → X Γ 4 0 0 4 [(0, .ref (a 0)), (1, .int x1), (2, .int x2), (3, .int x3)] [] (wS Γ.cs.1 a S) := by
    refine lpf4_ind (fun K4 hK4 x1 x2 x3 S h => ?_)
    unfold b_X1_eraseRecording_4 at h
    refine x_iload_n B (pc' := 5) 3 dX1_eraseRecording_4 rfl rfl rfl ?_
    refine x_bipush B (pc' := 7) 32 dX1_eraseRecording_5 (by decide) rfl ?_
    refine x_icmp_ge B 40 10 dX1_eraseRecording_7 (by decide) rfl (fun hc1 => ?_) (fun hc1 => ?_)
    · replace h := ite_t hc1 h
      refine x_aload_n B (pc' := 41) 0 dX1_eraseRecording_40 rfl rfl rfl ?_
      obtain ⟨S2, eS2, h⟩ := bd_elim h
      refine x_selfVv B (pc' := 44) [] (k_X1_dropFreeCells _ _ _ a S eS2) rfl rfl gv_RX1_85 rfl np_X1_dropFreeCells ⟨Nat.le_of_ble_eq_true rfl, Nat.le_of_ble_eq_true rfl⟩ ⟨by exact Nat.le_of_ble_eq_true rfl, by exact Nat.le_of_ble_eq_true rfl⟩ rfl (Nat.le_of_ble_eq_true rfl) dX1_eraseRecording_41 rfl ?_
      refine x_aload_n B (pc' := 45) 0 dX1_eraseRecording_44 rfl rfl rfl ?_
      refine x_iload_n B (pc' := 46) 1 dX1_eraseRecording_45 rfl rfl rfl ?_
      obtain ⟨S3, eS3, h⟩ := bd_elim h
      refine x_selfVv B (pc' := 49) [.int x1] (k_X1_removeRecording _ _ _ a x1 S2 eS3) rfl rfl gv_RX1_81 rfl np_X1_removeRecording ⟨Nat.le_of_ble_eq_true rfl, Nat.le_of_ble_eq_true rfl⟩ ⟨by exact Nat.le_of_ble_eq_true rfl, by exact Nat.le_of_ble_eq_true rfl⟩ rfl (Nat.le_of_ble_eq_true rfl) dX1_eraseRecording_46 rfl ?_
      refine x_iload_n B (pc' := 50) 2 dX1_eraseRecording_49 rfl rfl rfl ?_
      obtain ⟨h1, h2⟩ := some2 h
      subst h1
      subst h2
      exact ret rfl (by exact Nat.le_of_ble_eq_true rfl) (by exact Nat.le_of_ble_eq_true rfl) dX1_eraseRecording_50
    · replace h := ite_f hc1 h
      refine x_aload_n B (pc' := 11) 0 dX1_eraseRecording_10 rfl rfl rfl ?_
      refine s_ref0 B (pc' := 14) wf_RX1_9 dX1_eraseRecording_11 rfl ?_
      refine x_iload_n B (pc' := 15) 3 dX1_eraseRecording_14 rfl rfl rfl ?_
      refine s_vAt0 B (pc' := 18) ⟨Nat.le_of_ble_eq_true rfl, Nat.le_of_ble_eq_true rfl⟩ ⟨Nat.le_of_ble_eq_true rfl, Nat.le_of_ble_eq_true rfl⟩ (Nat.le_of_ble_eq_true rfl) nw_RX1_62 dX1_eraseRecording_15 rfl ?_
      refine x_iload_n B (pc' := 19) 1 dX1_eraseRecording_18 rfl rfl rfl ?_
      refine x_icmp_ne B 34 22 dX1_eraseRecording_19 (by decide) rfl (fun hc4 => ?_) (fun hc4 => ?_)
      · replace h := ite_f hc4 h
        obtain ⟨v5, ev5, h⟩ := nm_elim h
        refine x_iinc B (pc' := 37) v5 3 [1, 2, 3, 0] [(0, .ref (a 0)), (1, .int x1), (2, .int x2), (3, .int v5)] dX1_eraseRecording_34 rfl (by rw [ev5]; rfl) (by decide) rfl rfl ?_
        refine x_goto B (pc' := 4) dX1_eraseRecording_37 (by decide) ?_
        exact hK4 _ _ _ _ h
      · replace h := ite_t hc4 h
        refine x_aload_n B (pc' := 23) 0 dX1_eraseRecording_22 rfl rfl rfl ?_
        refine s_ref0 B (pc' := 26) wf_RX1_9 dX1_eraseRecording_23 rfl ?_
        refine x_iload_n B (pc' := 27) 3 dX1_eraseRecording_26 rfl rfl rfl ?_
        refine x_iconst B (pc' := 28) (-1) dX1_eraseRecording_27 (by decide) rfl ?_
        obtain ⟨S6, eS6, h⟩ := nm_elim h
        refine s_pAt0 B (pc' := 31) ⟨Nat.le_of_ble_eq_true rfl, Nat.le_of_ble_eq_true rfl⟩ ⟨Nat.le_of_ble_eq_true rfl, Nat.le_of_ble_eq_true rfl⟩ (Nat.le_of_ble_eq_true rfl) nw_RX1_66 dX1_eraseRecording_28 rfl ?_
        refine s_wd eS6 ?_
        obtain ⟨v7, ev7, h⟩ := nm_elim h
        refine x_iinc B (pc' := 34) v7 2 [1, 2, 0, 3] [(0, .ref (a 0)), (1, .int x1), (2, .int v7), (3, .int x3)] dX1_eraseRecording_31 rfl (by rw [ev7]; rfl) (by decide) rfl rfl ?_
        obtain ⟨v8, ev8, h⟩ := nm_elim h
        refine x_iinc B (pc' := 37) v8 3 [1, 2, 3, 0] [(0, .ref (a 0)), (1, .int x1), (2, .int v7), (3, .int v8)] dX1_eraseRecording_34 rfl (by rw [ev8]; rfl) (by decide) rfl rfl ?_
        refine x_goto B (pc' := 4) dX1_eraseRecording_37 (by decide) ?_
        exact hK4 _ _ _ _ h
  unfold f_X1_eraseRecording at h
  refine x_iconst B (pc' := 1) 0 dX1_eraseRecording_0 (by decide) rfl ?_
  refine x_istore_n B (pc' := 2) [1, 2, 0] [(0, .ref (a 0)), (1, .int p0), (2, .int (0 : Int32))] dX1_eraseRecording_1 rfl (by decide) rfl rfl ?_
  refine x_iconst B (pc' := 3) 0 dX1_eraseRecording_2 (by decide) rfl ?_
  refine x_istore_n B (pc' := 4) [1, 2, 3, 0] [(0, .ref (a 0)), (1, .int p0), (2, .int (0 : Int32)), (3, .int (0 : Int32))] dX1_eraseRecording_3 rfl (by decide) rfl rfl ?_
  exact h4  _ _ _ _ _ h
def f_X1_cellFromHead (p0 : Int32) (S : OB) : Option Int32 :=
  some (((S.1 9) + p0) - ((S.1 9) + p0) / (32 : Int32) * (32 : Int32))
abbrev rm_X1_cellFromHead : Room := { frames := 0, cells := 0, slots := 0, locals := 0 }
theorem np_X1_cellFromHead : yX1_cellFromHead.cls ≠ "java/lang/invoke/MethodHandle" ∧ yX1_cellFromHead.cls ≠ "java/lang/invoke/VarHandle" ∧ (parseMethodDescriptor yX1_cellFromHead.desc).map (fun d => d.parameters.length) = some 1 := by decide +kernel
set_option maxHeartbeats 4000000 in
set_option maxRecDepth 100000 in
theorem k_X1_cellFromHead (l : Launch) (D : va_G) (cs : CS) (a : Nat → Nat) (p0 : Int32) (S : OB) {r9 : Int32} (h : f_X1_cellFromHead p0 S = some r9) : MI l D cs yX1_cellFromHead cX1_cellFromHead 2 .int rm_X1_cellFromHead [.ref (a 0), .int p0] (wS cs.1 a S) r9 (wS cs.1 a S) := by
  refine MI_of (by decide) (Nat.le_of_ble_eq_true rfl) ?_
  rintro Γ rfl rfl rfl B ret
  show X Γ 2 0 0 0 [(0, .ref (a 0)), (1, .int p0)] [] (wS Γ.cs.1 a S)
  unfold f_X1_cellFromHead at h
  refine x_aload_n B (pc' := 1) 0 dX1_cellFromHead_0 rfl rfl rfl ?_
  refine s_get9 B (pc' := 4) wf_RX1_41 dX1_cellFromHead_1 rfl ?_
  refine x_iload_n B (pc' := 5) 1 dX1_cellFromHead_4 rfl rfl rfl ?_
  refine x_iadd B (pc' := 6) dX1_cellFromHead_5 rfl ?_
  refine x_bipush B (pc' := 8) 32 dX1_cellFromHead_6 (by decide) rfl ?_
  refine x_irem B (pc' := 9) dX1_cellFromHead_8 (by decide) rfl ?_
  have h1 := (Option.some.inj h)
  subst h1
  exact ret rfl (by exact Nat.le_of_ble_eq_true rfl) (by exact Nat.le_of_ble_eq_true rfl) dX1_cellFromHead_9
def f_X1_isWritable (p0 : Int32) (S : OB) : Option Int32 :=
  nm (fun (v1 : Int32) => if v1 = ((-1) : Int32) then (some (1 : Int32)) else (bd (f_X1_runningNumber S) (fun (r3 : Int32) => if v1 = r3 then (some (0 : Int32)) else (if (vAt 10 (S.2 5) v1) = 0 then (some (1 : Int32)) else (some (0 : Int32)))))) (vAt 32 (S.2 0) p0)
abbrev rm_X1_isWritable : Room := { frames := 1, cells := 0, slots := 0, locals := 22 }
theorem np_X1_isWritable : yX1_isWritable.cls ≠ "java/lang/invoke/MethodHandle" ∧ yX1_isWritable.cls ≠ "java/lang/invoke/VarHandle" ∧ (parseMethodDescriptor yX1_isWritable.desc).map (fun d => d.parameters.length) = some 1 := by decide +kernel
set_option maxHeartbeats 4000000 in
set_option maxRecDepth 100000 in
theorem k_X1_isWritable (l : Launch) (D : va_G) (cs : CS) (a : Nat → Nat) (p0 : Int32) (S : OB) {r9 : Int32} (h : f_X1_isWritable p0 S = some r9) : MI l D cs yX1_isWritable cX1_isWritable 3 .boolean rm_X1_isWritable [.ref (a 0), .int p0] (wS cs.1 a S) r9 (wS cs.1 a S) := by
  refine MI_of (by decide) (Nat.le_of_ble_eq_true rfl) ?_
  rintro Γ rfl rfl rfl B ret
  show X Γ 3 0 0 0 [(0, .ref (a 0)), (1, .int p0)] [] (wS Γ.cs.1 a S)
  unfold f_X1_isWritable at h
  refine x_aload_n B (pc' := 1) 0 dX1_isWritable_0 rfl rfl rfl ?_
  refine s_ref0 B (pc' := 4) wf_RX1_9 dX1_isWritable_1 rfl ?_
  refine x_iload_n B (pc' := 5) 1 dX1_isWritable_4 rfl rfl rfl ?_
  refine s_vAt0 B (pc' := 8) ⟨Nat.le_of_ble_eq_true rfl, Nat.le_of_ble_eq_true rfl⟩ ⟨Nat.le_of_ble_eq_true rfl, Nat.le_of_ble_eq_true rfl⟩ (Nat.le_of_ble_eq_true rfl) nw_RX1_62 dX1_isWritable_5 rfl ?_
  obtain ⟨v1, ev1, h⟩ := nm_elim h
  refine x_topi ev1 ?_
  refine x_istore_n B (pc' := 9) [1, 2, 0] [(0, .ref (a 0)), (1, .int p0), (2, .int v1)] dX1_isWritable_8 rfl (by decide) rfl rfl ?_
  refine x_iload_n B (pc' := 10) 2 dX1_isWritable_9 rfl rfl rfl ?_
  refine x_iconst B (pc' := 11) (-1) dX1_isWritable_10 (by decide) rfl ?_
  refine x_icmp_eq B 33 14 dX1_isWritable_11 (by decide) rfl (fun hc2 => ?_) (fun hc2 => ?_)
  · replace h := ite_t hc2 h
    refine x_iconst B (pc' := 34) 1 dX1_isWritable_33 (by decide) rfl ?_
    refine x_goto B (pc' := 38) dX1_isWritable_34 (by decide) ?_
    have h1 := (Option.some.inj h)
    subst h1
    exact ret rfl (by exact Nat.le_of_ble_eq_true rfl) (by exact Nat.le_of_ble_eq_true rfl) dX1_isWritable_38
  · replace h := ite_f hc2 h
    refine x_iload_n B (pc' := 15) 2 dX1_isWritable_14 rfl rfl rfl ?_
    refine x_aload_n B (pc' := 16) 0 dX1_isWritable_15 rfl rfl rfl ?_
    obtain ⟨r3, er3, h⟩ := bd_elim h
    refine x_selfVi B (pc' := 19) [] (k_X1_runningNumber _ _ _ a S er3) rfl rfl gv_RX1_70 rfl np_X1_runningNumber ⟨Nat.le_of_ble_eq_true rfl, Nat.le_of_ble_eq_true rfl⟩ ⟨by exact Nat.le_of_ble_eq_true rfl, by exact Nat.le_of_ble_eq_true rfl⟩ rfl (Nat.le_of_ble_eq_true rfl) dX1_isWritable_16 rfl ?_
    refine x_icmp_eq B 37 22 dX1_isWritable_19 (by decide) rfl (fun hc4 => ?_) (fun hc4 => ?_)
    · replace h := ite_t hc4 h
      refine x_iconst B (pc' := 38) 0 dX1_isWritable_37 (by decide) rfl ?_
      have h1 := (Option.some.inj h)
      subst h1
      exact ret rfl (by exact Nat.le_of_ble_eq_true rfl) (by exact Nat.le_of_ble_eq_true rfl) dX1_isWritable_38
    · replace h := ite_f hc4 h
      refine x_aload_n B (pc' := 23) 0 dX1_isWritable_22 rfl rfl rfl ?_
      refine s_ref5 B (pc' := 26) wf_RX1_28 dX1_isWritable_23 rfl ?_
      refine x_iload_n B (pc' := 27) 2 dX1_isWritable_26 rfl rfl rfl ?_
      refine s_vAt5 B (pc' := 30) ⟨Nat.le_of_ble_eq_true rfl, Nat.le_of_ble_eq_true rfl⟩ ⟨Nat.le_of_ble_eq_true rfl, Nat.le_of_ble_eq_true rfl⟩ (Nat.le_of_ble_eq_true rfl) nw_RX1_62 dX1_isWritable_27 rfl ?_
      refine x_if_ne B 37 33 dX1_isWritable_30 (by decide) rfl (fun hc5 => ?_) (fun hc5 => ?_)
      · replace h := ite_f hc5 h
        refine x_iconst B (pc' := 38) 0 dX1_isWritable_37 (by decide) rfl ?_
        have h1 := (Option.some.inj h)
        subst h1
        exact ret rfl (by exact Nat.le_of_ble_eq_true rfl) (by exact Nat.le_of_ble_eq_true rfl) dX1_isWritable_38
      · replace h := ite_t hc5 h
        refine x_iconst B (pc' := 34) 1 dX1_isWritable_33 (by decide) rfl ?_
        refine x_goto B (pc' := 38) dX1_isWritable_34 (by decide) ?_
        have h1 := (Option.some.inj h)
        subst h1
        exact ret rfl (by exact Nat.le_of_ble_eq_true rfl) (by exact Nat.le_of_ble_eq_true rfl) dX1_isWritable_38
def b_X1_writableCells_4 (S : OB) (K4 : Int32 → Int32 → Option Int32) (x1 : Int32) (x2 : Int32) : Option Int32 :=
  if (32 : Int32) ≤ x2 then (some x1) else (bd (f_X1_isWritable x2 S) (fun (r2 : Int32) => if r2 = 0 then (nm (fun (v4 : Int32) => K4 x1 v4) (x2 + 1)) else (nm (fun (v5 : Int32) => nm (fun (v6 : Int32) => K4 v5 v6) (x2 + 1)) (x1 + 1))))
def f_X1_writableCells (S : OB) : Option Int32 :=
  lpf2 (b_X1_writableCells_4 S) FU (0 : Int32) (0 : Int32)
abbrev rm_X1_writableCells : Room := { frames := 2, cells := 0, slots := 0, locals := 44 }
theorem np_X1_writableCells : yX1_writableCells.cls ≠ "java/lang/invoke/MethodHandle" ∧ yX1_writableCells.cls ≠ "java/lang/invoke/VarHandle" ∧ (parseMethodDescriptor yX1_writableCells.desc).map (fun d => d.parameters.length) = some 0 := by decide +kernel
set_option maxHeartbeats 4000000 in
set_option maxRecDepth 100000 in
theorem k_X1_writableCells (l : Launch) (D : va_G) (cs : CS) (a : Nat → Nat) (S : OB) {r9 : Int32} (h : f_X1_writableCells S = some r9) : MI l D cs yX1_writableCells cX1_writableCells 3 .int rm_X1_writableCells [.ref (a 0)] (wS cs.1 a S) r9 (wS cs.1 a S) := by
  refine MI_of (by decide) (Nat.le_of_ble_eq_true rfl) ?_
  rintro Γ rfl rfl rfl B ret
  show X Γ 3 0 0 0 [(0, .ref (a 0))] [] (wS Γ.cs.1 a S)
  have h4 : ∀ (n9 : Nat) (x1 : Int32) (x2 : Int32), lpf2 (b_X1_writableCells_4 S) n9 x1 x2 = some r9 → X Γ 3 0 0 4 [(0, .ref (a 0)), (1, .int x1), (2, .int x2)] [] (wS Γ.cs.1 a S) := by
    refine lpf2_ind (fun K4 hK4 x1 x2 h => ?_)
    unfold b_X1_writableCells_4 at h
    refine x_iload_n B (pc' := 5) 2 dX1_writableCells_4 rfl rfl rfl ?_
    refine x_bipush B (pc' := 7) 32 dX1_writableCells_5 (by decide) rfl ?_
    refine x_icmp_ge B 27 10 dX1_writableCells_7 (by decide) rfl (fun hc1 => ?_) (fun hc1 => ?_)
    · replace h := ite_t hc1 h
      refine x_iload_n B (pc' := 28) 1 dX1_writableCells_27 rfl rfl rfl ?_
      have h1 := (Option.some.inj h)
      subst h1
      exact ret rfl (by exact Nat.le_of_ble_eq_true rfl) (by exact Nat.le_of_ble_eq_true rfl) dX1_writableCells_28
    · replace h := ite_f hc1 h
      refine x_aload_n B (pc' := 11) 0 dX1_writableCells_10 rfl rfl rfl ?_
      refine x_iload_n B (pc' := 12) 2 dX1_writableCells_11 rfl rfl rfl ?_
      obtain ⟨r2, er2, h⟩ := bd_elim h
      refine x_selfVi B (pc' := 15) [.int x2] (k_X1_isWritable _ _ _ a x2 S er2) rfl rfl gv_RX1_88 rfl np_X1_isWritable ⟨Nat.le_of_ble_eq_true rfl, Nat.le_of_ble_eq_true rfl⟩ ⟨by exact Nat.le_of_ble_eq_true rfl, by exact Nat.le_of_ble_eq_true rfl⟩ rfl (Nat.le_of_ble_eq_true rfl) dX1_writableCells_12 rfl ?_
      refine x_if_eq B 21 18 dX1_writableCells_15 (by decide) rfl (fun hc3 => ?_) (fun hc3 => ?_)
      · replace h := ite_t hc3 h
        obtain ⟨v4, ev4, h⟩ := nm_elim h
        refine x_iinc B (pc' := 24) v4 2 [1, 2, 0] [(0, .ref (a 0)), (1, .int x1), (2, .int v4)] dX1_writableCells_21 rfl (by rw [ev4]; rfl) (by decide) rfl rfl ?_
        refine x_goto B (pc' := 4) dX1_writableCells_24 (by decide) ?_
        exact hK4 _ _ h
      · replace h := ite_f hc3 h
        obtain ⟨v5, ev5, h⟩ := nm_elim h
        refine x_iinc B (pc' := 21) v5 1 [1, 0, 2] [(0, .ref (a 0)), (1, .int v5), (2, .int x2)] dX1_writableCells_18 rfl (by rw [ev5]; rfl) (by decide) rfl rfl ?_
        obtain ⟨v6, ev6, h⟩ := nm_elim h
        refine x_iinc B (pc' := 24) v6 2 [1, 2, 0] [(0, .ref (a 0)), (1, .int v5), (2, .int v6)] dX1_writableCells_21 rfl (by rw [ev6]; rfl) (by decide) rfl rfl ?_
        refine x_goto B (pc' := 4) dX1_writableCells_24 (by decide) ?_
        exact hK4 _ _ h
  unfold f_X1_writableCells at h
  refine x_iconst B (pc' := 1) 0 dX1_writableCells_0 (by decide) rfl ?_
  refine x_istore_n B (pc' := 2) [1, 0] [(0, .ref (a 0)), (1, .int (0 : Int32))] dX1_writableCells_1 rfl (by decide) rfl rfl ?_
  refine x_iconst B (pc' := 3) 0 dX1_writableCells_2 (by decide) rfl ?_
  refine x_istore_n B (pc' := 4) [1, 2, 0] [(0, .ref (a 0)), (1, .int (0 : Int32)), (2, .int (0 : Int32))] dX1_writableCells_3 rfl (by decide) rfl rfl ?_
  exact h4  _ _ _ h
def b_X1_firstWritable_2 (S : OB) (K2 : Int32 → Option Int32) (x1 : Int32) : Option Int32 :=
  if (32 : Int32) ≤ x1 then (some ((-1) : Int32)) else (bd (f_X1_cellFromHead x1 S) (fun (r2 : Int32) => bd (f_X1_isWritable r2 S) (fun (r3 : Int32) => if r3 = 0 then (nm (fun (v5 : Int32) => K2 v5) (x1 + 1)) else (some r2))))
def f_X1_firstWritable (S : OB) : Option Int32 :=
  lpf1 (b_X1_firstWritable_2 S) FU (0 : Int32)
abbrev rm_X1_firstWritable : Room := { frames := 2, cells := 0, slots := 0, locals := 44 }
theorem np_X1_firstWritable : yX1_firstWritable.cls ≠ "java/lang/invoke/MethodHandle" ∧ yX1_firstWritable.cls ≠ "java/lang/invoke/VarHandle" ∧ (parseMethodDescriptor yX1_firstWritable.desc).map (fun d => d.parameters.length) = some 0 := by decide +kernel
set_option maxHeartbeats 4000000 in
set_option maxRecDepth 100000 in
theorem k_X1_firstWritable (l : Launch) (D : va_G) (cs : CS) (a : Nat → Nat) (S : OB) {r9 : Int32} (h : f_X1_firstWritable S = some r9) : MI l D cs yX1_firstWritable cX1_firstWritable 3 .int rm_X1_firstWritable [.ref (a 0)] (wS cs.1 a S) r9 (wS cs.1 a S) := by
  refine MI_of (by decide) (Nat.le_of_ble_eq_true rfl) ?_
  rintro Γ rfl rfl rfl B ret
  show X Γ 3 0 0 0 [(0, .ref (a 0))] [] (wS Γ.cs.1 a S)
  have h2 : ∀ (n9 : Nat) (x1 : Int32), lpf1 (b_X1_firstWritable_2 S) n9 x1 = some r9 → X Γ 3 0 0 2 [(0, .ref (a 0)), (1, .int x1)] [] (wS Γ.cs.1 a S) := by
    refine lpf1_ind (fun K2 hK2 x1 h => ?_)
    unfold b_X1_firstWritable_2 at h
    refine x_iload_n B (pc' := 3) 1 dX1_firstWritable_2 rfl rfl rfl ?_
    refine x_bipush B (pc' := 5) 32 dX1_firstWritable_3 (by decide) rfl ?_
    refine x_icmp_ge B 30 8 dX1_firstWritable_5 (by decide) rfl (fun hc1 => ?_) (fun hc1 => ?_)
    · replace h := ite_t hc1 h
      refine x_iconst B (pc' := 31) (-1) dX1_firstWritable_30 (by decide) rfl ?_
      have h1 := (Option.some.inj h)
      subst h1
      exact ret rfl (by exact Nat.le_of_ble_eq_true rfl) (by exact Nat.le_of_ble_eq_true rfl) dX1_firstWritable_31
    · replace h := ite_f hc1 h
      refine x_aload_n B (pc' := 9) 0 dX1_firstWritable_8 rfl rfl rfl ?_
      refine x_iload_n B (pc' := 10) 1 dX1_firstWritable_9 rfl rfl rfl ?_
      obtain ⟨r2, er2, h⟩ := bd_elim h
      refine x_selfVi B (pc' := 13) [.int x1] (k_X1_cellFromHead _ _ _ a x1 S er2) rfl rfl gv_RX1_92 rfl np_X1_cellFromHead ⟨Nat.le_of_ble_eq_true rfl, Nat.le_of_ble_eq_true rfl⟩ ⟨by exact Nat.le_of_ble_eq_true rfl, by exact Nat.le_of_ble_eq_true rfl⟩ rfl (Nat.le_of_ble_eq_true rfl) dX1_firstWritable_10 rfl ?_
      refine x_istore_n B (pc' := 14) [1, 2, 0] [(0, .ref (a 0)), (1, .int x1), (2, .int r2)] dX1_firstWritable_13 rfl (by decide) rfl rfl ?_
      refine x_aload_n B (pc' := 15) 0 dX1_firstWritable_14 rfl rfl rfl ?_
      refine x_iload_n B (pc' := 16) 2 dX1_firstWritable_15 rfl rfl rfl ?_
      obtain ⟨r3, er3, h⟩ := bd_elim h
      refine x_selfVi B (pc' := 19) [.int r2] (k_X1_isWritable _ _ _ a r2 S er3) rfl rfl gv_RX1_88 rfl np_X1_isWritable ⟨Nat.le_of_ble_eq_true rfl, Nat.le_of_ble_eq_true rfl⟩ ⟨by exact Nat.le_of_ble_eq_true rfl, by exact Nat.le_of_ble_eq_true rfl⟩ rfl (Nat.le_of_ble_eq_true rfl) dX1_firstWritable_16 rfl ?_
      refine x_if_eq B 24 22 dX1_firstWritable_19 (by decide) rfl (fun hc4 => ?_) (fun hc4 => ?_)
      · replace h := ite_t hc4 h
        obtain ⟨v5, ev5, h⟩ := nm_elim h
        refine x_iinc B (pc' := 27) v5 1 [1, 0, 2] [(0, .ref (a 0)), (1, .int v5), (2, .int r2)] dX1_firstWritable_24 rfl (by rw [ev5]; rfl) (by decide) rfl rfl ?_
        refine x_goto B (pc' := 2) dX1_firstWritable_27 (by decide) ?_
        refine x_lv [0, 1] (lv' := [(0, .ref (a 0)), (1, .int v5)]) rfl ?_
        exact hK2 _ h
      · replace h := ite_f hc4 h
        refine x_iload_n B (pc' := 23) 2 dX1_firstWritable_22 rfl rfl rfl ?_
        have h1 := (Option.some.inj h)
        subst h1
        exact ret rfl (by exact Nat.le_of_ble_eq_true rfl) (by exact Nat.le_of_ble_eq_true rfl) dX1_firstWritable_23
  unfold f_X1_firstWritable at h
  refine x_iconst B (pc' := 1) 0 dX1_firstWritable_0 (by decide) rfl ?_
  refine x_istore_n B (pc' := 2) [1, 0] [(0, .ref (a 0)), (1, .int (0 : Int32))] dX1_firstWritable_1 rfl (by decide) rfl rfl ?_
  exact h2  _ _ h
def b_X1_firstLoser_2 (S : OB) (K2 : Int32 → Option Int32) (x1 : Int32) : Option Int32 :=
  if (32 : Int32) ≤ x1 then (some ((-1) : Int32)) else (bd (f_X1_cellFromHead x1 S) (fun (r2 : Int32) => nm (fun (v3 : Int32) => if v3 = ((-1) : Int32) then (nm (fun (v5 : Int32) => K2 v5) (x1 + 1)) else (bd (f_X1_isWritable r2 S) (fun (r6 : Int32) => if r6 = 0 then (nm (fun (v8 : Int32) => K2 v8) (x1 + 1)) else (some v3)))) (vAt 32 (S.2 0) r2)))
def f_X1_firstLoser (S : OB) : Option Int32 :=
  lpf1 (b_X1_firstLoser_2 S) FU (0 : Int32)
abbrev rm_X1_firstLoser : Room := { frames := 2, cells := 0, slots := 0, locals := 44 }
theorem np_X1_firstLoser : yX1_firstLoser.cls ≠ "java/lang/invoke/MethodHandle" ∧ yX1_firstLoser.cls ≠ "java/lang/invoke/VarHandle" ∧ (parseMethodDescriptor yX1_firstLoser.desc).map (fun d => d.parameters.length) = some 0 := by decide +kernel
set_option maxHeartbeats 4000000 in
set_option maxRecDepth 100000 in
theorem k_X1_firstLoser (l : Launch) (D : va_G) (cs : CS) (a : Nat → Nat) (S : OB) {r9 : Int32} (h : f_X1_firstLoser S = some r9) : MI l D cs yX1_firstLoser cX1_firstLoser 4 .int rm_X1_firstLoser [.ref (a 0)] (wS cs.1 a S) r9 (wS cs.1 a S) := by
  refine MI_of (by decide) (Nat.le_of_ble_eq_true rfl) ?_
  rintro Γ rfl rfl rfl B ret
  show X Γ 4 0 0 0 [(0, .ref (a 0))] [] (wS Γ.cs.1 a S)
  have h2 : ∀ (n9 : Nat) (x1 : Int32), lpf1 (b_X1_firstLoser_2 S) n9 x1 = some r9 → X Γ 4 0 0 2 [(0, .ref (a 0)), (1, .int x1)] [] (wS Γ.cs.1 a S) := by
    refine lpf1_ind (fun K2 hK2 x1 h => ?_)
    unfold b_X1_firstLoser_2 at h
    refine x_iload_n B (pc' := 3) 1 dX1_firstLoser_2 rfl rfl rfl ?_
    refine x_bipush B (pc' := 5) 32 dX1_firstLoser_3 (by decide) rfl ?_
    refine x_icmp_ge B 44 8 dX1_firstLoser_5 (by decide) rfl (fun hc1 => ?_) (fun hc1 => ?_)
    · replace h := ite_t hc1 h
      refine x_iconst B (pc' := 45) (-1) dX1_firstLoser_44 (by decide) rfl ?_
      have h1 := (Option.some.inj h)
      subst h1
      exact ret rfl (by exact Nat.le_of_ble_eq_true rfl) (by exact Nat.le_of_ble_eq_true rfl) dX1_firstLoser_45
    · replace h := ite_f hc1 h
      refine x_aload_n B (pc' := 9) 0 dX1_firstLoser_8 rfl rfl rfl ?_
      refine x_iload_n B (pc' := 10) 1 dX1_firstLoser_9 rfl rfl rfl ?_
      obtain ⟨r2, er2, h⟩ := bd_elim h
      refine x_selfVi B (pc' := 13) [.int x1] (k_X1_cellFromHead _ _ _ a x1 S er2) rfl rfl gv_RX1_92 rfl np_X1_cellFromHead ⟨Nat.le_of_ble_eq_true rfl, Nat.le_of_ble_eq_true rfl⟩ ⟨by exact Nat.le_of_ble_eq_true rfl, by exact Nat.le_of_ble_eq_true rfl⟩ rfl (Nat.le_of_ble_eq_true rfl) dX1_firstLoser_10 rfl ?_
      refine x_istore_n B (pc' := 14) [1, 2, 0] [(0, .ref (a 0)), (1, .int x1), (2, .int r2)] dX1_firstLoser_13 rfl (by decide) rfl rfl ?_
      refine x_aload_n B (pc' := 15) 0 dX1_firstLoser_14 rfl rfl rfl ?_
      refine s_ref0 B (pc' := 18) wf_RX1_9 dX1_firstLoser_15 rfl ?_
      refine x_iload_n B (pc' := 19) 2 dX1_firstLoser_18 rfl rfl rfl ?_
      refine s_vAt0 B (pc' := 22) ⟨Nat.le_of_ble_eq_true rfl, Nat.le_of_ble_eq_true rfl⟩ ⟨Nat.le_of_ble_eq_true rfl, Nat.le_of_ble_eq_true rfl⟩ (Nat.le_of_ble_eq_true rfl) nw_RX1_62 dX1_firstLoser_19 rfl ?_
      obtain ⟨v3, ev3, h⟩ := nm_elim h
      refine x_topi ev3 ?_
      refine x_istore_n B (pc' := 23) [1, 2, 3, 0] [(0, .ref (a 0)), (1, .int x1), (2, .int r2), (3, .int v3)] dX1_firstLoser_22 rfl (by decide) rfl rfl ?_
      refine x_iload_n B (pc' := 24) 3 dX1_firstLoser_23 rfl rfl rfl ?_
      refine x_iconst B (pc' := 25) (-1) dX1_firstLoser_24 (by decide) rfl ?_
      refine x_icmp_eq B 38 28 dX1_firstLoser_25 (by decide) rfl (fun hc4 => ?_) (fun hc4 => ?_)
      · replace h := ite_t hc4 h
        obtain ⟨v5, ev5, h⟩ := nm_elim h
        refine x_iinc B (pc' := 41) v5 1 [1, 0, 2, 3] [(0, .ref (a 0)), (1, .int v5), (2, .int r2), (3, .int v3)] dX1_firstLoser_38 rfl (by rw [ev5]; rfl) (by decide) rfl rfl ?_
        refine x_goto B (pc' := 2) dX1_firstLoser_41 (by decide) ?_
        refine x_lv [0, 1] (lv' := [(0, .ref (a 0)), (1, .int v5)]) rfl ?_
        exact hK2 _ h
      · replace h := ite_f hc4 h
        refine x_aload_n B (pc' := 29) 0 dX1_firstLoser_28 rfl rfl rfl ?_
        refine x_iload_n B (pc' := 30) 2 dX1_firstLoser_29 rfl rfl rfl ?_
        obtain ⟨r6, er6, h⟩ := bd_elim h
        refine x_selfVi B (pc' := 33) [.int r2] (k_X1_isWritable _ _ _ a r2 S er6) rfl rfl gv_RX1_88 rfl np_X1_isWritable ⟨Nat.le_of_ble_eq_true rfl, Nat.le_of_ble_eq_true rfl⟩ ⟨by exact Nat.le_of_ble_eq_true rfl, by exact Nat.le_of_ble_eq_true rfl⟩ rfl (Nat.le_of_ble_eq_true rfl) dX1_firstLoser_30 rfl ?_
        refine x_if_eq B 38 36 dX1_firstLoser_33 (by decide) rfl (fun hc7 => ?_) (fun hc7 => ?_)
        · replace h := ite_t hc7 h
          obtain ⟨v8, ev8, h⟩ := nm_elim h
          refine x_iinc B (pc' := 41) v8 1 [1, 0, 2, 3] [(0, .ref (a 0)), (1, .int v8), (2, .int r2), (3, .int v3)] dX1_firstLoser_38 rfl (by rw [ev8]; rfl) (by decide) rfl rfl ?_
          refine x_goto B (pc' := 2) dX1_firstLoser_41 (by decide) ?_
          refine x_lv [0, 1] (lv' := [(0, .ref (a 0)), (1, .int v8)]) rfl ?_
          exact hK2 _ h
        · replace h := ite_f hc7 h
          refine x_iload_n B (pc' := 37) 3 dX1_firstLoser_36 rfl rfl rfl ?_
          have h1 := (Option.some.inj h)
          subst h1
          exact ret rfl (by exact Nat.le_of_ble_eq_true rfl) (by exact Nat.le_of_ble_eq_true rfl) dX1_firstLoser_37
  unfold f_X1_firstLoser at h
  refine x_iconst B (pc' := 1) 0 dX1_firstLoser_0 (by decide) rfl ?_
  refine x_istore_n B (pc' := 2) [1, 0] [(0, .ref (a 0)), (1, .int (0 : Int32))] dX1_firstLoser_1 rfl (by decide) rfl rfl ?_
  exact h2  _ _ h
def b_X1_lossAfter_8 (S : OB) (K8 : Int32 → Int32 → Int32 → Int32 → Option Int32) (x1 : Int32) (x3 : Int32) (x4 : Int32) (x5 : Int32) : Option Int32 :=
  if (32 : Int32) ≤ x5 then (some x4) else (if x3 ≤ 0 then (some x4) else (bd (f_X1_cellFromHead x5 S) (fun (r3 : Int32) => bd (f_X1_isWritable r3 S) (fun (r4 : Int32) => if r4 = 0 then (nm (fun (v6 : Int32) => K8 x1 x3 x4 v6) (x5 + 1)) else (nm (fun (v7 : Int32) => if (vAt 32 (S.2 0) r3) = x1 then (nm (fun (v10 : Int32) => nm (fun (v11 : Int32) => K8 x1 v7 v10 v11) (x5 + 1)) (x4 + 1)) else (nm (fun (v9 : Int32) => K8 x1 v7 x4 v9) (x5 + 1))) (x3 + (-1)))))))
def f_X1_lossAfter (p0 : Int32) (p1 : Int32) (S : OB) : Option Int32 :=
  lpf4 (b_X1_lossAfter_8 S) FU p0 p1 (0 : Int32) (0 : Int32)
abbrev rm_X1_lossAfter : Room := { frames := 2, cells := 0, slots := 0, locals := 44 }
theorem np_X1_lossAfter : yX1_lossAfter.cls ≠ "java/lang/invoke/MethodHandle" ∧ yX1_lossAfter.cls ≠ "java/lang/invoke/VarHandle" ∧ (parseMethodDescriptor yX1_lossAfter.desc).map (fun d => d.parameters.length) = some 2 := by decide +kernel
set_option maxHeartbeats 4000000 in
set_option maxRecDepth 100000 in
theorem k_X1_lossAfter (l : Launch) (D : va_G) (cs : CS) (a : Nat → Nat) (p0 : Int32) (p1 : Int32) (S : OB) {r9 : Int32} (h : f_X1_lossAfter p0 p1 S = some r9) : MI l D cs yX1_lossAfter cX1_lossAfter 7 .int rm_X1_lossAfter [.ref (a 0), .int p0, .int p1] (wS cs.1 a S) r9 (wS cs.1 a S) := by
  refine MI_of (by decide) (Nat.le_of_ble_eq_true rfl) ?_
  rintro Γ rfl rfl rfl B ret
  show X Γ 7 0 0 0 [(0, .ref (a 0)), (1, .int p0), (2, .int p1)] [] (wS Γ.cs.1 a S)
  have h8 : ∀ (n9 : Nat) (x1 : Int32) (x3 : Int32) (x4 : Int32) (x5 : Int32), lpf4 (b_X1_lossAfter_8 S) n9 x1 x3 x4 x5 = some r9 → X Γ 7 0 0 8 [(0, .ref (a 0)), (1, .int x1), (3, .int x3), (4, .int x4), (5, .int x5)] [] (wS Γ.cs.1 a S) := by
    refine lpf4_ind (fun K8 hK8 x1 x3 x4 x5 h => ?_)
    unfold b_X1_lossAfter_8 at h
    refine x_iload B (pc' := 10) 4 dX1_lossAfter_8 rfl rfl ?_
    refine x_bipush B (pc' := 12) 32 dX1_lossAfter_10 (by decide) rfl ?_
    refine x_icmp_ge B 61 15 dX1_lossAfter_12 (by decide) rfl (fun hc1 => ?_) (fun hc1 => ?_)
    · replace h := ite_t hc1 h
      refine x_iload B (pc' := 63) 3 dX1_lossAfter_61 rfl rfl ?_
      have h1 := (Option.some.inj h)
      subst h1
      exact ret rfl (by exact Nat.le_of_ble_eq_true rfl) (by exact Nat.le_of_ble_eq_true rfl) dX1_lossAfter_63
    · replace h := ite_f hc1 h
      refine x_iload_n B (pc' := 16) 2 dX1_lossAfter_15 rfl rfl rfl ?_
      refine x_if_le B 61 19 dX1_lossAfter_16 (by decide) rfl (fun hc2 => ?_) (fun hc2 => ?_)
      · replace h := ite_t hc2 h
        refine x_iload B (pc' := 63) 3 dX1_lossAfter_61 rfl rfl ?_
        have h1 := (Option.some.inj h)
        subst h1
        exact ret rfl (by exact Nat.le_of_ble_eq_true rfl) (by exact Nat.le_of_ble_eq_true rfl) dX1_lossAfter_63
      · replace h := ite_f hc2 h
        refine x_aload_n B (pc' := 20) 0 dX1_lossAfter_19 rfl rfl rfl ?_
        refine x_iload B (pc' := 22) 4 dX1_lossAfter_20 rfl rfl ?_
        obtain ⟨r3, er3, h⟩ := bd_elim h
        refine x_selfVi B (pc' := 25) [.int x5] (k_X1_cellFromHead _ _ _ a x5 S er3) rfl rfl gv_RX1_92 rfl np_X1_cellFromHead ⟨Nat.le_of_ble_eq_true rfl, Nat.le_of_ble_eq_true rfl⟩ ⟨by exact Nat.le_of_ble_eq_true rfl, by exact Nat.le_of_ble_eq_true rfl⟩ rfl (Nat.le_of_ble_eq_true rfl) dX1_lossAfter_22 rfl ?_
        refine x_istore B (pc' := 27) [1, 2, 3, 4, 5, 0] [(0, .ref (a 0)), (1, .int x1), (3, .int x3), (4, .int x4), (5, .int x5), (6, .int r3)] dX1_lossAfter_25 (by decide) rfl rfl ?_
        refine x_aload_n B (pc' := 28) 0 dX1_lossAfter_27 rfl rfl rfl ?_
        refine x_iload B (pc' := 30) 5 dX1_lossAfter_28 rfl rfl ?_
        obtain ⟨r4, er4, h⟩ := bd_elim h
        refine x_selfVi B (pc' := 33) [.int r3] (k_X1_isWritable _ _ _ a r3 S er4) rfl rfl gv_RX1_88 rfl np_X1_isWritable ⟨Nat.le_of_ble_eq_true rfl, Nat.le_of_ble_eq_true rfl⟩ ⟨by exact Nat.le_of_ble_eq_true rfl, by exact Nat.le_of_ble_eq_true rfl⟩ rfl (Nat.le_of_ble_eq_true rfl) dX1_lossAfter_30 rfl ?_
        refine x_if_eq B 55 36 dX1_lossAfter_33 (by decide) rfl (fun hc5 => ?_) (fun hc5 => ?_)
        · replace h := ite_t hc5 h
          obtain ⟨v6, ev6, h⟩ := nm_elim h
          refine x_iinc B (pc' := 58) v6 4 [1, 2, 3, 4, 0, 5] [(0, .ref (a 0)), (1, .int x1), (3, .int x3), (4, .int x4), (5, .int v6), (6, .int r3)] dX1_lossAfter_55 rfl (by rw [ev6]; rfl) (by decide) rfl rfl ?_
          refine x_goto B (pc' := 8) dX1_lossAfter_58 (by decide) ?_
          refine x_lv [0, 1, 2, 3, 4] (lv' := [(0, .ref (a 0)), (1, .int x1), (3, .int x3), (4, .int x4), (5, .int v6)]) rfl ?_
          exact hK8 _ _ _ _ h
        · replace h := ite_f hc5 h
          obtain ⟨v7, ev7, h⟩ := nm_elim h
          refine x_iinc B (pc' := 39) v7 2 [1, 2, 0, 3, 4, 5] [(0, .ref (a 0)), (1, .int x1), (3, .int v7), (4, .int x4), (5, .int x5), (6, .int r3)] dX1_lossAfter_36 rfl (by rw [ev7]; rfl) (by decide) rfl rfl ?_
          refine x_aload_n B (pc' := 40) 0 dX1_lossAfter_39 rfl rfl rfl ?_
          refine s_ref0 B (pc' := 43) wf_RX1_9 dX1_lossAfter_40 rfl ?_
          refine x_iload B (pc' := 45) 5 dX1_lossAfter_43 rfl rfl ?_
          refine s_vAt0 B (pc' := 48) ⟨Nat.le_of_ble_eq_true rfl, Nat.le_of_ble_eq_true rfl⟩ ⟨Nat.le_of_ble_eq_true rfl, Nat.le_of_ble_eq_true rfl⟩ (Nat.le_of_ble_eq_true rfl) nw_RX1_62 dX1_lossAfter_45 rfl ?_
          refine x_iload_n B (pc' := 49) 1 dX1_lossAfter_48 rfl rfl rfl ?_
          refine x_icmp_ne B 55 52 dX1_lossAfter_49 (by decide) rfl (fun hc8 => ?_) (fun hc8 => ?_)
          · replace h := ite_f hc8 h
            obtain ⟨v9, ev9, h⟩ := nm_elim h
            refine x_iinc B (pc' := 58) v9 4 [1, 2, 3, 4, 0, 5] [(0, .ref (a 0)), (1, .int x1), (3, .int v7), (4, .int x4), (5, .int v9), (6, .int r3)] dX1_lossAfter_55 rfl (by rw [ev9]; rfl) (by decide) rfl rfl ?_
            refine x_goto B (pc' := 8) dX1_lossAfter_58 (by decide) ?_
            refine x_lv [0, 1, 2, 3, 4] (lv' := [(0, .ref (a 0)), (1, .int x1), (3, .int v7), (4, .int x4), (5, .int v9)]) rfl ?_
            exact hK8 _ _ _ _ h
          · replace h := ite_t hc8 h
            obtain ⟨v10, ev10, h⟩ := nm_elim h
            refine x_iinc B (pc' := 55) v10 3 [1, 2, 3, 0, 4, 5] [(0, .ref (a 0)), (1, .int x1), (3, .int v7), (4, .int v10), (5, .int x5), (6, .int r3)] dX1_lossAfter_52 rfl (by rw [ev10]; rfl) (by decide) rfl rfl ?_
            obtain ⟨v11, ev11, h⟩ := nm_elim h
            refine x_iinc B (pc' := 58) v11 4 [1, 2, 3, 4, 0, 5] [(0, .ref (a 0)), (1, .int x1), (3, .int v7), (4, .int v10), (5, .int v11), (6, .int r3)] dX1_lossAfter_55 rfl (by rw [ev11]; rfl) (by decide) rfl rfl ?_
            refine x_goto B (pc' := 8) dX1_lossAfter_58 (by decide) ?_
            refine x_lv [0, 1, 2, 3, 4] (lv' := [(0, .ref (a 0)), (1, .int x1), (3, .int v7), (4, .int v10), (5, .int v11)]) rfl ?_
            exact hK8 _ _ _ _ h
  unfold f_X1_lossAfter at h
  refine x_iload_n B (pc' := 1) 2 dX1_lossAfter_0 rfl rfl rfl ?_
  refine x_istore_n B (pc' := 2) [1, 2, 3, 0] [(0, .ref (a 0)), (1, .int p0), (2, .int p1), (3, .int p1)] dX1_lossAfter_1 rfl (by decide) rfl rfl ?_
  refine x_iconst B (pc' := 3) 0 dX1_lossAfter_2 (by decide) rfl ?_
  refine x_istore B (pc' := 5) [1, 2, 3, 4, 0] [(0, .ref (a 0)), (1, .int p0), (2, .int p1), (3, .int p1), (4, .int (0 : Int32))] dX1_lossAfter_3 (by decide) rfl rfl ?_
  refine x_iconst B (pc' := 6) 0 dX1_lossAfter_5 (by decide) rfl ?_
  refine x_istore B (pc' := 8) [1, 2, 3, 4, 5, 0] [(0, .ref (a 0)), (1, .int p0), (2, .int p1), (3, .int p1), (4, .int (0 : Int32)), (5, .int (0 : Int32))] dX1_lossAfter_6 (by decide) rfl rfl ?_
  refine x_lv [0, 1, 3, 4, 5] (lv' := [(0, .ref (a 0)), (1, .int p0), (3, .int p1), (4, .int (0 : Int32)), (5, .int (0 : Int32))]) rfl ?_
  exact h8  _ _ _ _ _ h
def f_X1_maySpeak (p0 : Int32) (S : OB) : Option Int32 :=
  if (S.1 8) = 0 then (some (0 : Int32)) else (bd (f_X1_writableCells S) (fun (r2 : Int32) => if r2 < p0 then (some (0 : Int32)) else (some (1 : Int32))))
abbrev rm_X1_maySpeak : Room := { frames := 3, cells := 0, slots := 0, locals := 66 }
theorem np_X1_maySpeak : yX1_maySpeak.cls ≠ "java/lang/invoke/MethodHandle" ∧ yX1_maySpeak.cls ≠ "java/lang/invoke/VarHandle" ∧ (parseMethodDescriptor yX1_maySpeak.desc).map (fun d => d.parameters.length) = some 1 := by decide +kernel
set_option maxHeartbeats 4000000 in
set_option maxRecDepth 100000 in
theorem k_X1_maySpeak (l : Launch) (D : va_G) (cs : CS) (a : Nat → Nat) (p0 : Int32) (S : OB) {r9 : Int32} (h : f_X1_maySpeak p0 S = some r9) : MI l D cs yX1_maySpeak cX1_maySpeak 2 .boolean rm_X1_maySpeak [.ref (a 0), .int p0] (wS cs.1 a S) r9 (wS cs.1 a S) := by
  refine MI_of (by decide) (Nat.le_of_ble_eq_true rfl) ?_
  rintro Γ rfl rfl rfl B ret
  show X Γ 2 0 0 0 [(0, .ref (a 0)), (1, .int p0)] [] (wS Γ.cs.1 a S)
  unfold f_X1_maySpeak at h
  refine x_aload_n B (pc' := 1) 0 dX1_maySpeak_0 rfl rfl rfl ?_
  refine s_get8 B (pc' := 4) wf_RX1_37 dX1_maySpeak_1 rfl ?_
  refine x_if_eq B 19 7 dX1_maySpeak_4 (by decide) rfl (fun hc1 => ?_) (fun hc1 => ?_)
  · replace h := ite_t hc1 h
    refine x_iconst B (pc' := 20) 0 dX1_maySpeak_19 (by decide) rfl ?_
    have h1 := (Option.some.inj h)
    subst h1
    exact ret rfl (by exact Nat.le_of_ble_eq_true rfl) (by exact Nat.le_of_ble_eq_true rfl) dX1_maySpeak_20
  · replace h := ite_f hc1 h
    refine x_aload_n B (pc' := 8) 0 dX1_maySpeak_7 rfl rfl rfl ?_
    obtain ⟨r2, er2, h⟩ := bd_elim h
    refine x_selfVi B (pc' := 11) [] (k_X1_writableCells _ _ _ a S er2) rfl rfl gv_RX1_95 rfl np_X1_writableCells ⟨Nat.le_of_ble_eq_true rfl, Nat.le_of_ble_eq_true rfl⟩ ⟨by exact Nat.le_of_ble_eq_true rfl, by exact Nat.le_of_ble_eq_true rfl⟩ rfl (Nat.le_of_ble_eq_true rfl) dX1_maySpeak_8 rfl ?_
    refine x_iload_n B (pc' := 12) 1 dX1_maySpeak_11 rfl rfl rfl ?_
    refine x_icmp_lt B 19 15 dX1_maySpeak_12 (by decide) rfl (fun hc3 => ?_) (fun hc3 => ?_)
    · replace h := ite_t hc3 h
      refine x_iconst B (pc' := 20) 0 dX1_maySpeak_19 (by decide) rfl ?_
      have h1 := (Option.some.inj h)
      subst h1
      exact ret rfl (by exact Nat.le_of_ble_eq_true rfl) (by exact Nat.le_of_ble_eq_true rfl) dX1_maySpeak_20
    · replace h := ite_f hc3 h
      refine x_iconst B (pc' := 16) 1 dX1_maySpeak_15 (by decide) rfl ?_
      refine x_goto B (pc' := 20) dX1_maySpeak_16 (by decide) ?_
      have h1 := (Option.some.inj h)
      subst h1
      exact ret rfl (by exact Nat.le_of_ble_eq_true rfl) (by exact Nat.le_of_ble_eq_true rfl) dX1_maySpeak_20
def b_X1_cellsBefore_14 (S : OB) (K14 : Int32 → Int32 → Int32 → Int32 → Option Int32) (x1 : Int32) (x2 : Int32) (x3 : Int32) (x4 : Int32) : Option Int32 :=
  if (S.1 4) ≤ x4 then (some x3) else (nm (fun (v3 : Int32) => if v3 = x1 then (some x3) else (if (vAt 32 (S.2 0) v3) = x2 then (nm (fun (v7 : Int32) => nm (fun (v8 : Int32) => K14 x1 x2 v7 v8) (x4 + 1)) (x3 + 1)) else (nm (fun (v6 : Int32) => K14 x1 x2 x3 v6) (x4 + 1)))) (vAt 32 (S.2 3) x4))
def f_X1_cellsBefore (p0 : Int32) (S : OB) : Option Int32 :=
  nm (fun (v1 : Int32) => lpf4 (b_X1_cellsBefore_14 S) FU p0 v1 (0 : Int32) (0 : Int32)) (vAt 32 (S.2 0) p0)
abbrev rm_X1_cellsBefore : Room := { frames := 1, cells := 0, slots := 0, locals := 22 }
theorem np_X1_cellsBefore : yX1_cellsBefore.cls ≠ "java/lang/invoke/MethodHandle" ∧ yX1_cellsBefore.cls ≠ "java/lang/invoke/VarHandle" ∧ (parseMethodDescriptor yX1_cellsBefore.desc).map (fun d => d.parameters.length) = some 1 := by decide +kernel
set_option maxHeartbeats 4000000 in
set_option maxRecDepth 100000 in
theorem k_X1_cellsBefore (l : Launch) (D : va_G) (cs : CS) (a : Nat → Nat) (p0 : Int32) (S : OB) {r9 : Int32} (h : f_X1_cellsBefore p0 S = some r9) : MI l D cs yX1_cellsBefore cX1_cellsBefore 6 .int rm_X1_cellsBefore [.ref (a 0), .int p0] (wS cs.1 a S) r9 (wS cs.1 a S) := by
  refine MI_of (by decide) (Nat.le_of_ble_eq_true rfl) ?_
  rintro Γ rfl rfl rfl B ret
  show X Γ 6 0 0 0 [(0, .ref (a 0)), (1, .int p0)] [] (wS Γ.cs.1 a S)
  have h14 : ∀ (n9 : Nat) (x1 : Int32) (x2 : Int32) (x3 : Int32) (x4 : Int32), lpf4 (b_X1_cellsBefore_14 S) n9 x1 x2 x3 x4 = some r9 → X Γ 6 0 0 14 [(0, .ref (a 0)), (1, .int x1), (2, .int x2), (3, .int x3), (4, .int x4)] [] (wS Γ.cs.1 a S) := by
    refine lpf4_ind (fun K14 hK14 x1 x2 x3 x4 h => ?_)
    unfold b_X1_cellsBefore_14 at h
    refine x_iload B (pc' := 16) 4 dX1_cellsBefore_14 rfl rfl ?_
    refine x_aload_n B (pc' := 17) 0 dX1_cellsBefore_16 rfl rfl rfl ?_
    refine s_get4 B (pc' := 20) wf_RX1_24 dX1_cellsBefore_17 rfl ?_
    refine x_icmp_ge B 64 23 dX1_cellsBefore_20 (by decide) rfl (fun hc2 => ?_) (fun hc2 => ?_)
    · replace h := ite_t hc2 h
      refine x_iload_n B (pc' := 65) 3 dX1_cellsBefore_64 rfl rfl rfl ?_
      have h1 := (Option.some.inj h)
      subst h1
      exact ret rfl (by exact Nat.le_of_ble_eq_true rfl) (by exact Nat.le_of_ble_eq_true rfl) dX1_cellsBefore_65
    · replace h := ite_f hc2 h
      refine x_aload_n B (pc' := 24) 0 dX1_cellsBefore_23 rfl rfl rfl ?_
      refine s_ref3 B (pc' := 27) wf_RX1_21 dX1_cellsBefore_24 rfl ?_
      refine x_iload B (pc' := 29) 4 dX1_cellsBefore_27 rfl rfl ?_
      refine s_vAt3 B (pc' := 32) ⟨Nat.le_of_ble_eq_true rfl, Nat.le_of_ble_eq_true rfl⟩ ⟨Nat.le_of_ble_eq_true rfl, Nat.le_of_ble_eq_true rfl⟩ (Nat.le_of_ble_eq_true rfl) nw_RX1_62 dX1_cellsBefore_29 rfl ?_
      obtain ⟨v3, ev3, h⟩ := nm_elim h
      refine x_topi ev3 ?_
      refine x_istore B (pc' := 34) [1, 2, 3, 4, 5, 0] [(0, .ref (a 0)), (1, .int x1), (2, .int x2), (3, .int x3), (4, .int x4), (5, .int v3)] dX1_cellsBefore_32 (by decide) rfl rfl ?_
      refine x_iload B (pc' := 36) 5 dX1_cellsBefore_34 rfl rfl ?_
      refine x_iload_n B (pc' := 37) 1 dX1_cellsBefore_36 rfl rfl rfl ?_
      refine x_icmp_ne B 42 40 dX1_cellsBefore_37 (by decide) rfl (fun hc4 => ?_) (fun hc4 => ?_)
      · replace h := ite_f hc4 h
        refine x_aload_n B (pc' := 43) 0 dX1_cellsBefore_42 rfl rfl rfl ?_
        refine s_ref0 B (pc' := 46) wf_RX1_9 dX1_cellsBefore_43 rfl ?_
        refine x_iload B (pc' := 48) 5 dX1_cellsBefore_46 rfl rfl ?_
        refine s_vAt0 B (pc' := 51) ⟨Nat.le_of_ble_eq_true rfl, Nat.le_of_ble_eq_true rfl⟩ ⟨Nat.le_of_ble_eq_true rfl, Nat.le_of_ble_eq_true rfl⟩ (Nat.le_of_ble_eq_true rfl) nw_RX1_62 dX1_cellsBefore_48 rfl ?_
        refine x_iload_n B (pc' := 52) 2 dX1_cellsBefore_51 rfl rfl rfl ?_
        refine x_icmp_ne B 58 55 dX1_cellsBefore_52 (by decide) rfl (fun hc5 => ?_) (fun hc5 => ?_)
        · replace h := ite_f hc5 h
          obtain ⟨v6, ev6, h⟩ := nm_elim h
          refine x_iinc B (pc' := 61) v6 4 [1, 2, 3, 4, 0, 5] [(0, .ref (a 0)), (1, .int x1), (2, .int x2), (3, .int x3), (4, .int v6), (5, .int v3)] dX1_cellsBefore_58 rfl (by rw [ev6]; rfl) (by decide) rfl rfl ?_
          refine x_goto B (pc' := 14) dX1_cellsBefore_61 (by decide) ?_
          refine x_lv [0, 1, 2, 3, 4] (lv' := [(0, .ref (a 0)), (1, .int x1), (2, .int x2), (3, .int x3), (4, .int v6)]) rfl ?_
          exact hK14 _ _ _ _ h
        · replace h := ite_t hc5 h
          obtain ⟨v7, ev7, h⟩ := nm_elim h
          refine x_iinc B (pc' := 58) v7 3 [1, 2, 3, 0, 4, 5] [(0, .ref (a 0)), (1, .int x1), (2, .int x2), (3, .int v7), (4, .int x4), (5, .int v3)] dX1_cellsBefore_55 rfl (by rw [ev7]; rfl) (by decide) rfl rfl ?_
          obtain ⟨v8, ev8, h⟩ := nm_elim h
          refine x_iinc B (pc' := 61) v8 4 [1, 2, 3, 4, 0, 5] [(0, .ref (a 0)), (1, .int x1), (2, .int x2), (3, .int v7), (4, .int v8), (5, .int v3)] dX1_cellsBefore_58 rfl (by rw [ev8]; rfl) (by decide) rfl rfl ?_
          refine x_goto B (pc' := 14) dX1_cellsBefore_61 (by decide) ?_
          refine x_lv [0, 1, 2, 3, 4] (lv' := [(0, .ref (a 0)), (1, .int x1), (2, .int x2), (3, .int v7), (4, .int v8)]) rfl ?_
          exact hK14 _ _ _ _ h
      · replace h := ite_t hc4 h
        refine x_iload_n B (pc' := 41) 3 dX1_cellsBefore_40 rfl rfl rfl ?_
        have h1 := (Option.some.inj h)
        subst h1
        exact ret rfl (by exact Nat.le_of_ble_eq_true rfl) (by exact Nat.le_of_ble_eq_true rfl) dX1_cellsBefore_41
  unfold f_X1_cellsBefore at h
  refine x_aload_n B (pc' := 1) 0 dX1_cellsBefore_0 rfl rfl rfl ?_
  refine s_ref0 B (pc' := 4) wf_RX1_9 dX1_cellsBefore_1 rfl ?_
  refine x_iload_n B (pc' := 5) 1 dX1_cellsBefore_4 rfl rfl rfl ?_
  refine s_vAt0 B (pc' := 8) ⟨Nat.le_of_ble_eq_true rfl, Nat.le_of_ble_eq_true rfl⟩ ⟨Nat.le_of_ble_eq_true rfl, Nat.le_of_ble_eq_true rfl⟩ (Nat.le_of_ble_eq_true rfl) nw_RX1_62 dX1_cellsBefore_5 rfl ?_
  obtain ⟨v1, ev1, h⟩ := nm_elim h
  refine x_topi ev1 ?_
  refine x_istore_n B (pc' := 9) [1, 2, 0] [(0, .ref (a 0)), (1, .int p0), (2, .int v1)] dX1_cellsBefore_8 rfl (by decide) rfl rfl ?_
  refine x_iconst B (pc' := 10) 0 dX1_cellsBefore_9 (by decide) rfl ?_
  refine x_istore_n B (pc' := 11) [1, 2, 3, 0] [(0, .ref (a 0)), (1, .int p0), (2, .int v1), (3, .int (0 : Int32))] dX1_cellsBefore_10 rfl (by decide) rfl rfl ?_
  refine x_iconst B (pc' := 12) 0 dX1_cellsBefore_11 (by decide) rfl ?_
  refine x_istore B (pc' := 14) [1, 2, 3, 4, 0] [(0, .ref (a 0)), (1, .int p0), (2, .int v1), (3, .int (0 : Int32)), (4, .int (0 : Int32))] dX1_cellsBefore_12 (by decide) rfl rfl ?_
  exact h14  _ _ _ _ _ h
def c_X1_loseCell_45 (x1 : Int32) (x2 : Int32) (S : OB) : Option OB :=
  nm (fun (S7 : OB) => bd (f_X1_dropFreeCells S7) (fun (S8 : OB) => nm (fun (S9 : OB) => bd (f_X1_cellCount x2 S9) (fun (r10 : Int32) => if r10 = 0 then (nm (fun (S12 : OB) => bd (f_X1_removeRecording x2 S12) (fun (S13 : OB) => some S13)) (upd S9.1 11 ((S9.1 11) + (1 : Int32)), S9.2)) else (some S9))) (S8.1, up2 S8.2 6 (pAt 10 (S8.2 6) x2 ((vAt 10 (S8.2 6) x2) + (1 : Int32)))))) (S.1, up2 S.2 0 (pAt 32 (S.2 0) x1 ((-1) : Int32)))
def f_X1_loseCell (p0 : Int32) (S : OB) : Option OB :=
  nm (fun (v1 : Int32) => if v1 = ((-1) : Int32) then (some S) else (if (S.1 12) = v1 then (bd (f_X1_cellsBefore p0 S) (fun (r4 : Int32) => if (S.1 13) ≤ r4 then (c_X1_loseCell_45 p0 v1 S) else (nm (fun (S6 : OB) => c_X1_loseCell_45 p0 v1 S6) (upd S.1 13 ((S.1 13) - (1 : Int32)), S.2)))) else (c_X1_loseCell_45 p0 v1 S))) (vAt 32 (S.2 0) p0)
abbrev rm_X1_loseCell : Room := { frames := 2, cells := 0, slots := 0, locals := 47 }
theorem np_X1_loseCell : yX1_loseCell.cls ≠ "java/lang/invoke/MethodHandle" ∧ yX1_loseCell.cls ≠ "java/lang/invoke/VarHandle" ∧ (parseMethodDescriptor yX1_loseCell.desc).map (fun d => d.parameters.length) = some 1 := by decide +kernel
set_option maxHeartbeats 4000000 in
set_option maxRecDepth 100000 in
theorem k_X1_loseCell (l : Launch) (D : va_G) (cs : CS) (a : Nat → Nat) (p0 : Int32) (S : OB) {S9 : OB} (h : f_X1_loseCell p0 S = some S9) : MV l D cs yX1_loseCell cX1_loseCell 3 rm_X1_loseCell [.ref (a 0), .int p0] (wS cs.1 a S) (wS cs.1 a S9) := by
  refine MV_of (by decide) (Nat.le_of_ble_eq_true rfl) ?_
  rintro Γ rfl rfl rfl B ret
  show X Γ 3 0 0 0 [(0, .ref (a 0)), (1, .int p0)] [] (wS Γ.cs.1 a S)
  have h45 : ∀ (x1 : Int32) (x2 : Int32) (S : OB), c_X1_loseCell_45  x1 x2 S = some S9 → X Γ 3 0 0 45 [(0, .ref (a 0)), (1, .int x1), (2, .int x2)] [] (wS Γ.cs.1 a S) := by
    intro  x1 x2 S h
    unfold c_X1_loseCell_45 at h
    refine x_aload_n B (pc' := 46) 0 dX1_loseCell_45 rfl rfl rfl ?_
    refine s_ref0 B (pc' := 49) wf_RX1_9 dX1_loseCell_46 rfl ?_
    refine x_iload_n B (pc' := 50) 1 dX1_loseCell_49 rfl rfl rfl ?_
    refine x_iconst B (pc' := 51) (-1) dX1_loseCell_50 (by decide) rfl ?_
    obtain ⟨S7, eS7, h⟩ := nm_elim h
    refine s_pAt0 B (pc' := 54) ⟨Nat.le_of_ble_eq_true rfl, Nat.le_of_ble_eq_true rfl⟩ ⟨Nat.le_of_ble_eq_true rfl, Nat.le_of_ble_eq_true rfl⟩ (Nat.le_of_ble_eq_true rfl) nw_RX1_66 dX1_loseCell_51 rfl ?_
    refine s_wd eS7 ?_
    refine x_aload_n B (pc' := 55) 0 dX1_loseCell_54 rfl rfl rfl ?_
    obtain ⟨S8, eS8, h⟩ := bd_elim h
    refine x_selfVv B (pc' := 58) [] (k_X1_dropFreeCells _ _ _ a S7 eS8) rfl rfl gv_RX1_85 rfl np_X1_dropFreeCells ⟨Nat.le_of_ble_eq_true rfl, Nat.le_of_ble_eq_true rfl⟩ ⟨by exact Nat.le_of_ble_eq_true rfl, by exact Nat.le_of_ble_eq_true rfl⟩ rfl (Nat.le_of_ble_eq_true rfl) dX1_loseCell_55 rfl ?_
    refine x_aload_n B (pc' := 59) 0 dX1_loseCell_58 rfl rfl rfl ?_
    refine s_ref6 B (pc' := 62) wf_RX1_31 dX1_loseCell_59 rfl ?_
    refine x_iload_n B (pc' := 63) 2 dX1_loseCell_62 rfl rfl rfl ?_
    refine x_aload_n B (pc' := 64) 0 dX1_loseCell_63 rfl rfl rfl ?_
    refine s_ref6 B (pc' := 67) wf_RX1_31 dX1_loseCell_64 rfl ?_
    refine x_iload_n B (pc' := 68) 2 dX1_loseCell_67 rfl rfl rfl ?_
    refine s_vAt6 B (pc' := 71) ⟨Nat.le_of_ble_eq_true rfl, Nat.le_of_ble_eq_true rfl⟩ ⟨Nat.le_of_ble_eq_true rfl, Nat.le_of_ble_eq_true rfl⟩ (Nat.le_of_ble_eq_true rfl) nw_RX1_62 dX1_loseCell_68 rfl ?_
    refine x_iconst B (pc' := 72) 1 dX1_loseCell_71 (by decide) rfl ?_
    refine x_iadd B (pc' := 73) dX1_loseCell_72 rfl ?_
    obtain ⟨S9, eS9, h⟩ := nm_elim h
    refine s_pAt6 B (pc' := 76) ⟨Nat.le_of_ble_eq_true rfl, Nat.le_of_ble_eq_true rfl⟩ ⟨Nat.le_of_ble_eq_true rfl, Nat.le_of_ble_eq_true rfl⟩ (Nat.le_of_ble_eq_true rfl) nw_RX1_66 dX1_loseCell_73 rfl ?_
    refine s_wd eS9 ?_
    refine x_aload_n B (pc' := 77) 0 dX1_loseCell_76 rfl rfl rfl ?_
    refine x_iload_n B (pc' := 78) 2 dX1_loseCell_77 rfl rfl rfl ?_
    obtain ⟨r10, er10, h⟩ := bd_elim h
    refine x_selfVi B (pc' := 81) [.int x2] (k_X1_cellCount _ _ _ a x2 S9 er10) rfl rfl gv_RX1_74 rfl np_X1_cellCount ⟨Nat.le_of_ble_eq_true rfl, Nat.le_of_ble_eq_true rfl⟩ ⟨by exact Nat.le_of_ble_eq_true rfl, by exact Nat.le_of_ble_eq_true rfl⟩ rfl (Nat.le_of_ble_eq_true rfl) dX1_loseCell_78 rfl ?_
    refine x_if_ne B 99 84 dX1_loseCell_81 (by decide) rfl (fun hc11 => ?_) (fun hc11 => ?_)
    · replace h := ite_f hc11 h
      cases h
      exact ret (by exact Nat.le_of_ble_eq_true rfl) (by exact Nat.le_of_ble_eq_true rfl) dX1_loseCell_99
    · replace h := ite_t hc11 h
      refine x_aload_n B (pc' := 85) 0 dX1_loseCell_84 rfl rfl rfl ?_
      refine x_dup B (pc' := 86) dX1_loseCell_85 rfl rfl ?_
      refine s_get11 B (pc' := 89) wf_RX1_47 dX1_loseCell_86 rfl ?_
      refine x_iconst B (pc' := 90) 1 dX1_loseCell_89 (by decide) rfl ?_
      refine x_iadd B (pc' := 91) dX1_loseCell_90 rfl ?_
      obtain ⟨S12, eS12, h⟩ := nm_elim h
      refine s_put11 B (pc' := 94) wf_RX1_47 dX1_loseCell_91 rfl ?_
      refine s_wd eS12 ?_
      refine x_aload_n B (pc' := 95) 0 dX1_loseCell_94 rfl rfl rfl ?_
      refine x_iload_n B (pc' := 96) 2 dX1_loseCell_95 rfl rfl rfl ?_
      obtain ⟨S13, eS13, h⟩ := bd_elim h
      refine x_selfVv B (pc' := 99) [.int x2] (k_X1_removeRecording _ _ _ a x2 S12 eS13) rfl rfl gv_RX1_81 rfl np_X1_removeRecording ⟨Nat.le_of_ble_eq_true rfl, Nat.le_of_ble_eq_true rfl⟩ ⟨by exact Nat.le_of_ble_eq_true rfl, by exact Nat.le_of_ble_eq_true rfl⟩ rfl (Nat.le_of_ble_eq_true rfl) dX1_loseCell_96 rfl ?_
      cases h
      exact ret (by exact Nat.le_of_ble_eq_true rfl) (by exact Nat.le_of_ble_eq_true rfl) dX1_loseCell_99
  unfold f_X1_loseCell at h
  refine x_aload_n B (pc' := 1) 0 dX1_loseCell_0 rfl rfl rfl ?_
  refine s_ref0 B (pc' := 4) wf_RX1_9 dX1_loseCell_1 rfl ?_
  refine x_iload_n B (pc' := 5) 1 dX1_loseCell_4 rfl rfl rfl ?_
  refine s_vAt0 B (pc' := 8) ⟨Nat.le_of_ble_eq_true rfl, Nat.le_of_ble_eq_true rfl⟩ ⟨Nat.le_of_ble_eq_true rfl, Nat.le_of_ble_eq_true rfl⟩ (Nat.le_of_ble_eq_true rfl) nw_RX1_62 dX1_loseCell_5 rfl ?_
  obtain ⟨v1, ev1, h⟩ := nm_elim h
  refine x_topi ev1 ?_
  refine x_istore_n B (pc' := 9) [1, 2, 0] [(0, .ref (a 0)), (1, .int p0), (2, .int v1)] dX1_loseCell_8 rfl (by decide) rfl rfl ?_
  refine x_iload_n B (pc' := 10) 2 dX1_loseCell_9 rfl rfl rfl ?_
  refine x_iconst B (pc' := 11) (-1) dX1_loseCell_10 (by decide) rfl ?_
  refine x_icmp_ne B 15 14 dX1_loseCell_11 (by decide) rfl (fun hc2 => ?_) (fun hc2 => ?_)
  · replace h := ite_f hc2 h
    refine x_aload_n B (pc' := 16) 0 dX1_loseCell_15 rfl rfl rfl ?_
    refine s_get12 B (pc' := 19) wf_RX1_50 dX1_loseCell_16 rfl ?_
    refine x_iload_n B (pc' := 20) 2 dX1_loseCell_19 rfl rfl rfl ?_
    refine x_icmp_ne B 45 23 dX1_loseCell_20 (by decide) rfl (fun hc3 => ?_) (fun hc3 => ?_)
    · replace h := ite_f hc3 h
      exact h45  _ _ _ h
    · replace h := ite_t hc3 h
      refine x_aload_n B (pc' := 24) 0 dX1_loseCell_23 rfl rfl rfl ?_
      refine x_iload_n B (pc' := 25) 1 dX1_loseCell_24 rfl rfl rfl ?_
      obtain ⟨r4, er4, h⟩ := bd_elim h
      refine x_selfVi B (pc' := 28) [.int p0] (k_X1_cellsBefore _ _ _ a p0 S er4) rfl rfl gv_RX1_108 rfl np_X1_cellsBefore ⟨Nat.le_of_ble_eq_true rfl, Nat.le_of_ble_eq_true rfl⟩ ⟨by exact Nat.le_of_ble_eq_true rfl, by exact Nat.le_of_ble_eq_true rfl⟩ rfl (Nat.le_of_ble_eq_true rfl) dX1_loseCell_25 rfl ?_
      refine x_aload_n B (pc' := 29) 0 dX1_loseCell_28 rfl rfl rfl ?_
      refine s_get13 B (pc' := 32) wf_RX1_53 dX1_loseCell_29 rfl ?_
      refine x_icmp_ge B 45 35 dX1_loseCell_32 (by decide) rfl (fun hc5 => ?_) (fun hc5 => ?_)
      · replace h := ite_t hc5 h
        exact h45  _ _ _ h
      · replace h := ite_f hc5 h
        refine x_aload_n B (pc' := 36) 0 dX1_loseCell_35 rfl rfl rfl ?_
        refine x_dup B (pc' := 37) dX1_loseCell_36 rfl rfl ?_
        refine s_get13 B (pc' := 40) wf_RX1_53 dX1_loseCell_37 rfl ?_
        refine x_iconst B (pc' := 41) 1 dX1_loseCell_40 (by decide) rfl ?_
        refine x_isub B (pc' := 42) dX1_loseCell_41 rfl ?_
        obtain ⟨S6, eS6, h⟩ := nm_elim h
        refine s_put13 B (pc' := 45) wf_RX1_53 dX1_loseCell_42 rfl ?_
        refine s_wd eS6 ?_
        exact h45  _ _ _ h
  · replace h := ite_t hc2 h
    cases h
    exact ret (by exact Nat.le_of_ble_eq_true rfl) (by exact Nat.le_of_ble_eq_true rfl) dX1_loseCell_14
def f_X1_writeCell (p0 : Int32) (p1 : Int32) (S : OB) : Option OB :=
  bd (f_X1_runningNumber S) (fun (r1 : Int32) => nm (fun (S2 : OB) => nm (fun (S3 : OB) => nm (fun (S4 : OB) => nm (fun (S5 : OB) => nm (fun (S6 : OB) => nm (fun (S7 : OB) => nm (fun (S8 : OB) => some S8) (upd S7.1 10 ((S7.1 10) + (1 : Int32)), S7.2)) (upd S6.1 9 ((p0 + (1 : Int32)) - (p0 + (1 : Int32)) / (32 : Int32) * (32 : Int32)), S6.2)) (upd S5.1 4 ((S5.1 4) + (1 : Int32)), S5.2)) (S4.1, up2 S4.2 3 (pAt 32 (S4.2 3) (S4.1 4) p0))) (S3.1, up2 S3.2 2 (pAt 32 (S3.2 2) p0 p1))) (S2.1, up2 S2.2 1 (pAt 32 (S2.2 1) p0 p1))) (S.1, up2 S.2 0 (pAt 32 (S.2 0) p0 r1)))
abbrev rm_X1_writeCell : Room := { frames := 1, cells := 0, slots := 0, locals := 22 }
theorem np_X1_writeCell : yX1_writeCell.cls ≠ "java/lang/invoke/MethodHandle" ∧ yX1_writeCell.cls ≠ "java/lang/invoke/VarHandle" ∧ (parseMethodDescriptor yX1_writeCell.desc).map (fun d => d.parameters.length) = some 2 := by decide +kernel
set_option maxHeartbeats 4000000 in
set_option maxRecDepth 100000 in
theorem k_X1_writeCell (l : Launch) (D : va_G) (cs : CS) (a : Nat → Nat) (p0 : Int32) (p1 : Int32) (S : OB) {S9 : OB} (h : f_X1_writeCell p0 p1 S = some S9) : MV l D cs yX1_writeCell cX1_writeCell 3 rm_X1_writeCell [.ref (a 0), .int p0, .int p1] (wS cs.1 a S) (wS cs.1 a S9) := by
  refine MV_of (by decide) (Nat.le_of_ble_eq_true rfl) ?_
  rintro Γ rfl rfl rfl B ret
  show X Γ 3 0 0 0 [(0, .ref (a 0)), (1, .int p0), (2, .int p1)] [] (wS Γ.cs.1 a S)
  unfold f_X1_writeCell at h
  refine x_aload_n B (pc' := 1) 0 dX1_writeCell_0 rfl rfl rfl ?_
  refine s_ref0 B (pc' := 4) wf_RX1_9 dX1_writeCell_1 rfl ?_
  refine x_iload_n B (pc' := 5) 1 dX1_writeCell_4 rfl rfl rfl ?_
  refine x_aload_n B (pc' := 6) 0 dX1_writeCell_5 rfl rfl rfl ?_
  obtain ⟨r1, er1, h⟩ := bd_elim h
  refine x_selfVi B (pc' := 9) [] (k_X1_runningNumber _ _ _ a S er1) rfl rfl gv_RX1_70 rfl np_X1_runningNumber ⟨Nat.le_of_ble_eq_true rfl, Nat.le_of_ble_eq_true rfl⟩ ⟨by exact Nat.le_of_ble_eq_true rfl, by exact Nat.le_of_ble_eq_true rfl⟩ rfl (Nat.le_of_ble_eq_true rfl) dX1_writeCell_6 rfl ?_
  obtain ⟨S2, eS2, h⟩ := nm_elim h
  refine s_pAt0 B (pc' := 12) ⟨Nat.le_of_ble_eq_true rfl, Nat.le_of_ble_eq_true rfl⟩ ⟨Nat.le_of_ble_eq_true rfl, Nat.le_of_ble_eq_true rfl⟩ (Nat.le_of_ble_eq_true rfl) nw_RX1_66 dX1_writeCell_9 rfl ?_
  refine s_wd eS2 ?_
  refine x_aload_n B (pc' := 13) 0 dX1_writeCell_12 rfl rfl rfl ?_
  refine s_ref1 B (pc' := 16) wf_RX1_15 dX1_writeCell_13 rfl ?_
  refine x_iload_n B (pc' := 17) 1 dX1_writeCell_16 rfl rfl rfl ?_
  refine x_iload_n B (pc' := 18) 2 dX1_writeCell_17 rfl rfl rfl ?_
  obtain ⟨S3, eS3, h⟩ := nm_elim h
  refine s_pAt1 B (pc' := 21) ⟨Nat.le_of_ble_eq_true rfl, Nat.le_of_ble_eq_true rfl⟩ ⟨Nat.le_of_ble_eq_true rfl, Nat.le_of_ble_eq_true rfl⟩ (Nat.le_of_ble_eq_true rfl) nw_RX1_66 dX1_writeCell_18 rfl ?_
  refine s_wd eS3 ?_
  refine x_aload_n B (pc' := 22) 0 dX1_writeCell_21 rfl rfl rfl ?_
  refine s_ref2 B (pc' := 25) wf_RX1_18 dX1_writeCell_22 rfl ?_
  refine x_iload_n B (pc' := 26) 1 dX1_writeCell_25 rfl rfl rfl ?_
  refine x_iload_n B (pc' := 27) 2 dX1_writeCell_26 rfl rfl rfl ?_
  obtain ⟨S4, eS4, h⟩ := nm_elim h
  refine s_pAt2 B (pc' := 30) ⟨Nat.le_of_ble_eq_true rfl, Nat.le_of_ble_eq_true rfl⟩ ⟨Nat.le_of_ble_eq_true rfl, Nat.le_of_ble_eq_true rfl⟩ (Nat.le_of_ble_eq_true rfl) nw_RX1_66 dX1_writeCell_27 rfl ?_
  refine s_wd eS4 ?_
  refine x_aload_n B (pc' := 31) 0 dX1_writeCell_30 rfl rfl rfl ?_
  refine s_ref3 B (pc' := 34) wf_RX1_21 dX1_writeCell_31 rfl ?_
  refine x_aload_n B (pc' := 35) 0 dX1_writeCell_34 rfl rfl rfl ?_
  refine s_get4 B (pc' := 38) wf_RX1_24 dX1_writeCell_35 rfl ?_
  refine x_iload_n B (pc' := 39) 1 dX1_writeCell_38 rfl rfl rfl ?_
  obtain ⟨S5, eS5, h⟩ := nm_elim h
  refine s_pAt3 B (pc' := 42) ⟨Nat.le_of_ble_eq_true rfl, Nat.le_of_ble_eq_true rfl⟩ ⟨Nat.le_of_ble_eq_true rfl, Nat.le_of_ble_eq_true rfl⟩ (Nat.le_of_ble_eq_true rfl) nw_RX1_66 dX1_writeCell_39 rfl ?_
  refine s_wd eS5 ?_
  refine x_aload_n B (pc' := 43) 0 dX1_writeCell_42 rfl rfl rfl ?_
  refine x_dup B (pc' := 44) dX1_writeCell_43 rfl rfl ?_
  refine s_get4 B (pc' := 47) wf_RX1_24 dX1_writeCell_44 rfl ?_
  refine x_iconst B (pc' := 48) 1 dX1_writeCell_47 (by decide) rfl ?_
  refine x_iadd B (pc' := 49) dX1_writeCell_48 rfl ?_
  obtain ⟨S6, eS6, h⟩ := nm_elim h
  refine s_put4 B (pc' := 52) wf_RX1_24 dX1_writeCell_49 rfl ?_
  refine s_wd eS6 ?_
  refine x_aload_n B (pc' := 53) 0 dX1_writeCell_52 rfl rfl rfl ?_
  refine x_iload_n B (pc' := 54) 1 dX1_writeCell_53 rfl rfl rfl ?_
  refine x_iconst B (pc' := 55) 1 dX1_writeCell_54 (by decide) rfl ?_
  refine x_iadd B (pc' := 56) dX1_writeCell_55 rfl ?_
  refine x_bipush B (pc' := 58) 32 dX1_writeCell_56 (by decide) rfl ?_
  refine x_irem B (pc' := 59) dX1_writeCell_58 (by decide) rfl ?_
  obtain ⟨S7, eS7, h⟩ := nm_elim h
  refine s_put9 B (pc' := 62) wf_RX1_41 dX1_writeCell_59 rfl ?_
  refine s_wd eS7 ?_
  refine x_aload_n B (pc' := 63) 0 dX1_writeCell_62 rfl rfl rfl ?_
  refine x_dup B (pc' := 64) dX1_writeCell_63 rfl rfl ?_
  refine s_get10 B (pc' := 67) wf_RX1_44 dX1_writeCell_64 rfl ?_
  refine x_iconst B (pc' := 68) 1 dX1_writeCell_67 (by decide) rfl ?_
  refine x_iadd B (pc' := 69) dX1_writeCell_68 rfl ?_
  obtain ⟨S8, eS8, h⟩ := nm_elim h
  refine s_put10 B (pc' := 72) wf_RX1_44 dX1_writeCell_69 rfl ?_
  refine s_wd eS8 ?_
  cases h
  exact ret (by exact Nat.le_of_ble_eq_true rfl) (by exact Nat.le_of_ble_eq_true rfl) dX1_writeCell_72
def b_X1_speakTimes_5 (K5 : Int32 → Int32 → Int32 → Int32 → OB → Option (Int32 × OB)) (x1 : Int32) (x2 : Int32) (x3 : Int32) (x4 : Int32) (S : OB) : Option (Int32 × OB) :=
  if x1 ≤ x4 then (some (x3, S)) else (bd (f_X1_firstWritable S) (fun (r2 : Int32) => if r2 = ((-1) : Int32) then (some (((-1) : Int32), S)) else (bd (f_X1_loseCell r2 S) (fun (S4 : OB) => bd (f_X1_writeCell r2 x2 S4) (fun (S5 : OB) => nm (fun (v6 : Int32) => K5 x1 x2 r2 v6 S5) (x4 + 1))))))
def f_X1_speakTimes (p0 : Int32) (p1 : Int32) (S : OB) : Option (Int32 × OB) :=
  lpf5 (b_X1_speakTimes_5) FU p0 p1 ((-1) : Int32) (0 : Int32) S
abbrev rm_X1_speakTimes : Room := { frames := 3, cells := 0, slots := 0, locals := 69 }
theorem np_X1_speakTimes : yX1_speakTimes.cls ≠ "java/lang/invoke/MethodHandle" ∧ yX1_speakTimes.cls ≠ "java/lang/invoke/VarHandle" ∧ (parseMethodDescriptor yX1_speakTimes.desc).map (fun d => d.parameters.length) = some 2 := by decide +kernel
set_option maxHeartbeats 4000000 in
set_option maxRecDepth 100000 in
theorem k_X1_speakTimes (l : Launch) (D : va_G) (cs : CS) (a : Nat → Nat) (p0 : Int32) (p1 : Int32) (S : OB) {r9 : Int32} {S9 : OB} (h : f_X1_speakTimes p0 p1 S = some (r9, S9)) : MI l D cs yX1_speakTimes cX1_speakTimes 5 .int rm_X1_speakTimes [.ref (a 0), .int p0, .int p1] (wS cs.1 a S) r9 (wS cs.1 a S9) := by
  refine MI_of (by decide) (Nat.le_of_ble_eq_true rfl) ?_
  rintro Γ rfl rfl rfl B ret
  show X Γ 5 0 0 0 [(0, .ref (a 0)), (1, .int p0), (2, .int p1)] [] (wS Γ.cs.1 a S)
  have h5 : ∀ (n9 : Nat) (x1 : Int32) (x2 : Int32) (x3 : Int32) (x4 : Int32) (S : OB), lpf5 (b_X1_speakTimes_5) n9 x1 x2 x3 x4 S = some (r9, S9) → X Γ 5 0 0 5 [(0, .ref (a 0)), (1, .int x1), (2, .int x2), (3, .int x3), (4, .int x4)] [] (wS Γ.cs.1 a S) := by
    refine lpf5_ind (fun K5 hK5 x1 x2 x3 x4 S h => ?_)
    unfold b_X1_speakTimes_5 at h
    refine x_iload B (pc' := 7) 4 dX1_speakTimes_5 rfl rfl ?_
    refine x_iload_n B (pc' := 8) 1 dX1_speakTimes_7 rfl rfl rfl ?_
    refine x_icmp_ge B 40 11 dX1_speakTimes_8 (by decide) rfl (fun hc1 => ?_) (fun hc1 => ?_)
    · replace h := ite_t hc1 h
      refine x_iload_n B (pc' := 41) 3 dX1_speakTimes_40 rfl rfl rfl ?_
      obtain ⟨h1, h2⟩ := some2 h
      subst h1
      subst h2
      exact ret rfl (by exact Nat.le_of_ble_eq_true rfl) (by exact Nat.le_of_ble_eq_true rfl) dX1_speakTimes_41
    · replace h := ite_f hc1 h
      refine x_aload_n B (pc' := 12) 0 dX1_speakTimes_11 rfl rfl rfl ?_
      obtain ⟨r2, er2, h⟩ := bd_elim h
      refine x_selfVi B (pc' := 15) [] (k_X1_firstWritable _ _ _ a S er2) rfl rfl gv_RX1_98 rfl np_X1_firstWritable ⟨Nat.le_of_ble_eq_true rfl, Nat.le_of_ble_eq_true rfl⟩ ⟨by exact Nat.le_of_ble_eq_true rfl, by exact Nat.le_of_ble_eq_true rfl⟩ rfl (Nat.le_of_ble_eq_true rfl) dX1_speakTimes_12 rfl ?_
      refine x_istore_n B (pc' := 16) [1, 2, 3, 0, 4] [(0, .ref (a 0)), (1, .int x1), (2, .int x2), (3, .int r2), (4, .int x4)] dX1_speakTimes_15 rfl (by decide) rfl rfl ?_
      refine x_iload_n B (pc' := 17) 3 dX1_speakTimes_16 rfl rfl rfl ?_
      refine x_iconst B (pc' := 18) (-1) dX1_speakTimes_17 (by decide) rfl ?_
      refine x_icmp_ne B 23 21 dX1_speakTimes_18 (by decide) rfl (fun hc3 => ?_) (fun hc3 => ?_)
      · replace h := ite_f hc3 h
        refine x_aload_n B (pc' := 24) 0 dX1_speakTimes_23 rfl rfl rfl ?_
        refine x_iload_n B (pc' := 25) 3 dX1_speakTimes_24 rfl rfl rfl ?_
        obtain ⟨S4, eS4, h⟩ := bd_elim h
        refine x_selfVv B (pc' := 28) [.int r2] (k_X1_loseCell _ _ _ a r2 S eS4) rfl rfl gv_RX1_101 rfl np_X1_loseCell ⟨Nat.le_of_ble_eq_true rfl, Nat.le_of_ble_eq_true rfl⟩ ⟨by exact Nat.le_of_ble_eq_true rfl, by exact Nat.le_of_ble_eq_true rfl⟩ rfl (Nat.le_of_ble_eq_true rfl) dX1_speakTimes_25 rfl ?_
        refine x_aload_n B (pc' := 29) 0 dX1_speakTimes_28 rfl rfl rfl ?_
        refine x_iload_n B (pc' := 30) 3 dX1_speakTimes_29 rfl rfl rfl ?_
        refine x_iload_n B (pc' := 31) 2 dX1_speakTimes_30 rfl rfl rfl ?_
        obtain ⟨S5, eS5, h⟩ := bd_elim h
        refine x_selfVv B (pc' := 34) [.int r2, .int x2] (k_X1_writeCell _ _ _ a r2 x2 S4 eS5) rfl rfl gv_RX1_104 rfl np_X1_writeCell ⟨Nat.le_of_ble_eq_true rfl, Nat.le_of_ble_eq_true rfl⟩ ⟨by exact Nat.le_of_ble_eq_true rfl, by exact Nat.le_of_ble_eq_true rfl⟩ rfl (Nat.le_of_ble_eq_true rfl) dX1_speakTimes_31 rfl ?_
        obtain ⟨v6, ev6, h⟩ := nm_elim h
        refine x_iinc B (pc' := 37) v6 4 [1, 2, 3, 4, 0] [(0, .ref (a 0)), (1, .int x1), (2, .int x2), (3, .int r2), (4, .int v6)] dX1_speakTimes_34 rfl (by rw [ev6]; rfl) (by decide) rfl rfl ?_
        refine x_goto B (pc' := 5) dX1_speakTimes_37 (by decide) ?_
        exact hK5 _ _ _ _ _ h
      · replace h := ite_t hc3 h
        refine x_iconst B (pc' := 22) (-1) dX1_speakTimes_21 (by decide) rfl ?_
        obtain ⟨h1, h2⟩ := some2 h
        subst h1
        subst h2
        exact ret rfl (by exact Nat.le_of_ble_eq_true rfl) (by exact Nat.le_of_ble_eq_true rfl) dX1_speakTimes_22
  unfold f_X1_speakTimes at h
  refine x_iconst B (pc' := 1) (-1) dX1_speakTimes_0 (by decide) rfl ?_
  refine x_istore_n B (pc' := 2) [1, 2, 3, 0] [(0, .ref (a 0)), (1, .int p0), (2, .int p1), (3, .int ((-1) : Int32))] dX1_speakTimes_1 rfl (by decide) rfl rfl ?_
  refine x_iconst B (pc' := 3) 0 dX1_speakTimes_2 (by decide) rfl ?_
  refine x_istore B (pc' := 5) [1, 2, 3, 4, 0] [(0, .ref (a 0)), (1, .int p0), (2, .int p1), (3, .int ((-1) : Int32)), (4, .int (0 : Int32))] dX1_speakTimes_3 (by decide) rfl rfl ?_
  exact h5  _ _ _ _ _ _ h
def f_X1_bringPlayer (p0 : Int32) (S : OB) : Option OB :=
  nm (fun (S1 : OB) => nm (fun (S2 : OB) => some S2) (upd S1.1 13 (0 : Int32), S1.2)) (upd S.1 12 p0, S.2)
abbrev rm_X1_bringPlayer : Room := { frames := 0, cells := 0, slots := 0, locals := 0 }
theorem np_X1_bringPlayer : yX1_bringPlayer.cls ≠ "java/lang/invoke/MethodHandle" ∧ yX1_bringPlayer.cls ≠ "java/lang/invoke/VarHandle" ∧ (parseMethodDescriptor yX1_bringPlayer.desc).map (fun d => d.parameters.length) = some 1 := by decide +kernel
set_option maxHeartbeats 4000000 in
set_option maxRecDepth 100000 in
theorem k_X1_bringPlayer (l : Launch) (D : va_G) (cs : CS) (a : Nat → Nat) (p0 : Int32) (S : OB) {S9 : OB} (h : f_X1_bringPlayer p0 S = some S9) : MV l D cs yX1_bringPlayer cX1_bringPlayer 2 rm_X1_bringPlayer [.ref (a 0), .int p0] (wS cs.1 a S) (wS cs.1 a S9) := by
  refine MV_of (by decide) (Nat.le_of_ble_eq_true rfl) ?_
  rintro Γ rfl rfl rfl B ret
  show X Γ 2 0 0 0 [(0, .ref (a 0)), (1, .int p0)] [] (wS Γ.cs.1 a S)
  unfold f_X1_bringPlayer at h
  refine x_aload_n B (pc' := 1) 0 dX1_bringPlayer_0 rfl rfl rfl ?_
  refine x_iload_n B (pc' := 2) 1 dX1_bringPlayer_1 rfl rfl rfl ?_
  obtain ⟨S1, eS1, h⟩ := nm_elim h
  refine s_put12 B (pc' := 5) wf_RX1_50 dX1_bringPlayer_2 rfl ?_
  refine s_wd eS1 ?_
  refine x_aload_n B (pc' := 6) 0 dX1_bringPlayer_5 rfl rfl rfl ?_
  refine x_iconst B (pc' := 7) 0 dX1_bringPlayer_6 (by decide) rfl ?_
  obtain ⟨S2, eS2, h⟩ := nm_elim h
  refine s_put13 B (pc' := 10) wf_RX1_53 dX1_bringPlayer_7 rfl ?_
  refine s_wd eS2 ?_
  cases h
  exact ret (by exact Nat.le_of_ble_eq_true rfl) (by exact Nat.le_of_ble_eq_true rfl) dX1_bringPlayer_10
def f_X1_playCell (S : OB) : Option (Int32 × OB) :=
  bd (f_X1_cellAt (S.1 12) (S.1 13) S) (fun (r1 : Int32) => if r1 = ((-1) : Int32) then (some (((-1) : Int32), S)) else (nm (fun (S3 : OB) => some ((vAt 32 (S3.2 1) r1), S3)) (upd S.1 13 ((S.1 13) + (1 : Int32)), S.2)))
abbrev rm_X1_playCell : Room := { frames := 2, cells := 0, slots := 0, locals := 47 }
theorem np_X1_playCell : yX1_playCell.cls ≠ "java/lang/invoke/MethodHandle" ∧ yX1_playCell.cls ≠ "java/lang/invoke/VarHandle" ∧ (parseMethodDescriptor yX1_playCell.desc).map (fun d => d.parameters.length) = some 0 := by decide +kernel
set_option maxHeartbeats 4000000 in
set_option maxRecDepth 100000 in
theorem k_X1_playCell (l : Launch) (D : va_G) (cs : CS) (a : Nat → Nat) (S : OB) {r9 : Int32} {S9 : OB} (h : f_X1_playCell S = some (r9, S9)) : MI l D cs yX1_playCell cX1_playCell 2 .int rm_X1_playCell [.ref (a 0)] (wS cs.1 a S) r9 (wS cs.1 a S9) := by
  refine MI_of (by decide) (Nat.le_of_ble_eq_true rfl) ?_
  rintro Γ rfl rfl rfl B ret
  show X Γ 2 0 0 0 [(0, .ref (a 0))] [] (wS Γ.cs.1 a S)
  unfold f_X1_playCell at h
  refine x_aload_n B (pc' := 1) 0 dX1_playCell_0 rfl rfl rfl ?_
  refine x_aload_n B (pc' := 2) 0 dX1_playCell_1 rfl rfl rfl ?_
  refine s_get12 B (pc' := 5) wf_RX1_50 dX1_playCell_2 rfl ?_
  refine x_aload_n B (pc' := 6) 0 dX1_playCell_5 rfl rfl rfl ?_
  refine s_get13 B (pc' := 9) wf_RX1_53 dX1_playCell_6 rfl ?_
  obtain ⟨r1, er1, h⟩ := bd_elim h
  refine x_selfVi B (pc' := 12) [.int (S.1 12), .int (S.1 13)] (k_X1_cellAt _ _ _ a (S.1 12) (S.1 13) S er1) rfl rfl gv_RX1_111 rfl np_X1_cellAt ⟨Nat.le_of_ble_eq_true rfl, Nat.le_of_ble_eq_true rfl⟩ ⟨by exact Nat.le_of_ble_eq_true rfl, by exact Nat.le_of_ble_eq_true rfl⟩ rfl (Nat.le_of_ble_eq_true rfl) dX1_playCell_9 rfl ?_
  refine x_istore_n B (pc' := 13) [1, 0] [(0, .ref (a 0)), (1, .int r1)] dX1_playCell_12 rfl (by decide) rfl rfl ?_
  refine x_iload_n B (pc' := 14) 1 dX1_playCell_13 rfl rfl rfl ?_
  refine x_iconst B (pc' := 15) (-1) dX1_playCell_14 (by decide) rfl ?_
  refine x_icmp_ne B 20 18 dX1_playCell_15 (by decide) rfl (fun hc2 => ?_) (fun hc2 => ?_)
  · replace h := ite_f hc2 h
    refine x_aload_n B (pc' := 21) 0 dX1_playCell_20 rfl rfl rfl ?_
    refine x_dup B (pc' := 22) dX1_playCell_21 rfl rfl ?_
    refine s_get13 B (pc' := 25) wf_RX1_53 dX1_playCell_22 rfl ?_
    refine x_iconst B (pc' := 26) 1 dX1_playCell_25 (by decide) rfl ?_
    refine x_iadd B (pc' := 27) dX1_playCell_26 rfl ?_
    obtain ⟨S3, eS3, h⟩ := nm_elim h
    refine s_put13 B (pc' := 30) wf_RX1_53 dX1_playCell_27 rfl ?_
    refine s_wd eS3 ?_
    refine x_aload_n B (pc' := 31) 0 dX1_playCell_30 rfl rfl rfl ?_
    refine s_ref1 B (pc' := 34) wf_RX1_15 dX1_playCell_31 rfl ?_
    refine x_iload_n B (pc' := 35) 1 dX1_playCell_34 rfl rfl rfl ?_
    refine s_vAt1 B (pc' := 38) ⟨Nat.le_of_ble_eq_true rfl, Nat.le_of_ble_eq_true rfl⟩ ⟨Nat.le_of_ble_eq_true rfl, Nat.le_of_ble_eq_true rfl⟩ (Nat.le_of_ble_eq_true rfl) nw_RX1_62 dX1_playCell_35 rfl ?_
    obtain ⟨h1, h2⟩ := some2 h
    subst h1
    subst h2
    exact ret rfl (by exact Nat.le_of_ble_eq_true rfl) (by exact Nat.le_of_ble_eq_true rfl) dX1_playCell_38
  · replace h := ite_t hc2 h
    refine x_iconst B (pc' := 19) (-1) dX1_playCell_18 (by decide) rfl ?_
    obtain ⟨h1, h2⟩ := some2 h
    subst h1
    subst h2
    exact ret rfl (by exact Nat.le_of_ble_eq_true rfl) (by exact Nat.le_of_ble_eq_true rfl) dX1_playCell_19
def f_X1_stepBack (p0 : Int32) (S : OB) : Option (Int32 × OB) :=
  nm (fun (S1 : OB) => some ((S1.1 13), S1)) (upd S.1 13 (if (0 : Int32) < ((S.1 13) - p0) then ((S.1 13) - p0) else (0 : Int32)), S.2)
abbrev rm_X1_stepBack : Room := { frames := 1, cells := 0, slots := 0, locals := 24 }
theorem np_X1_stepBack : yX1_stepBack.cls ≠ "java/lang/invoke/MethodHandle" ∧ yX1_stepBack.cls ≠ "java/lang/invoke/VarHandle" ∧ (parseMethodDescriptor yX1_stepBack.desc).map (fun d => d.parameters.length) = some 1 := by decide +kernel
set_option maxHeartbeats 4000000 in
set_option maxRecDepth 100000 in
theorem k_X1_stepBack (l : Launch) (D : va_G) (cs : CS) (a : Nat → Nat) (p0 : Int32) (S : OB) {r9 : Int32} {S9 : OB} (h : f_X1_stepBack p0 S = some (r9, S9)) : MI l D cs yX1_stepBack cX1_stepBack 2 .int rm_X1_stepBack [.ref (a 0), .int p0] (wS cs.1 a S) r9 (wS cs.1 a S9) := by
  refine MI_of (by decide) (Nat.le_of_ble_eq_true rfl) ?_
  rintro Γ rfl rfl rfl B ret
  show X Γ 2 0 0 0 [(0, .ref (a 0)), (1, .int p0)] [] (wS Γ.cs.1 a S)
  unfold f_X1_stepBack at h
  refine x_aload_n B (pc' := 1) 0 dX1_stepBack_0 rfl rfl rfl ?_
  refine x_iconst B (pc' := 2) 0 dX1_stepBack_1 (by decide) rfl ?_
  refine x_aload_n B (pc' := 3) 0 dX1_stepBack_2 rfl rfl rfl ?_
  refine s_get13 B (pc' := 6) wf_RX1_53 dX1_stepBack_3 rfl ?_
  refine x_iload_n B (pc' := 7) 1 dX1_stepBack_6 rfl rfl rfl ?_
  refine x_isub B (pc' := 8) dX1_stepBack_7 rfl ?_
  refine x_mmax B (pc' := 11) mw_RX1_115 mw_max1 mw_max2 mw_max3 ⟨Nat.le_of_ble_eq_true rfl, Nat.le_of_ble_eq_true rfl⟩ ⟨Nat.le_of_ble_eq_true rfl, Nat.le_of_ble_eq_true rfl⟩ dX1_stepBack_8 rfl ?_
  obtain ⟨S1, eS1, h⟩ := nm_elim h
  refine s_put13 B (pc' := 14) wf_RX1_53 dX1_stepBack_11 rfl ?_
  refine s_wd eS1 ?_
  refine x_aload_n B (pc' := 15) 0 dX1_stepBack_14 rfl rfl rfl ?_
  refine s_get13 B (pc' := 18) wf_RX1_53 dX1_stepBack_15 rfl ?_
  obtain ⟨h1, h2⟩ := some2 h
  subst h1
  subst h2
  exact ret rfl (by exact Nat.le_of_ble_eq_true rfl) (by exact Nat.le_of_ble_eq_true rfl) dX1_stepBack_18
def b_X1_correctedCells_4 (S : OB) (K4 : Int32 → Int32 → Option Int32) (x1 : Int32) (x2 : Int32) : Option Int32 :=
  if (32 : Int32) ≤ x2 then (some x1) else (if (vAt 32 (S.2 0) x2) = ((-1) : Int32) then (nm (fun (v3 : Int32) => K4 x1 v3) (x2 + 1)) else (if (vAt 32 (S.2 1) x2) = (vAt 32 (S.2 2) x2) then (nm (fun (v5 : Int32) => K4 x1 v5) (x2 + 1)) else (nm (fun (v6 : Int32) => nm (fun (v7 : Int32) => K4 v6 v7) (x2 + 1)) (x1 + 1))))
def f_X1_correctedCells (S : OB) : Option Int32 :=
  lpf2 (b_X1_correctedCells_4 S) FU (0 : Int32) (0 : Int32)
abbrev rm_X1_correctedCells : Room := { frames := 1, cells := 0, slots := 0, locals := 22 }
theorem np_X1_correctedCells : yX1_correctedCells.cls ≠ "java/lang/invoke/MethodHandle" ∧ yX1_correctedCells.cls ≠ "java/lang/invoke/VarHandle" ∧ (parseMethodDescriptor yX1_correctedCells.desc).map (fun d => d.parameters.length) = some 0 := by decide +kernel
set_option maxHeartbeats 4000000 in
set_option maxRecDepth 100000 in
theorem k_X1_correctedCells (l : Launch) (D : va_G) (cs : CS) (a : Nat → Nat) (S : OB) {r9 : Int32} (h : f_X1_correctedCells S = some r9) : MI l D cs yX1_correctedCells cX1_correctedCells 3 .int rm_X1_correctedCells [.ref (a 0)] (wS cs.1 a S) r9 (wS cs.1 a S) := by
  refine MI_of (by decide) (Nat.le_of_ble_eq_true rfl) ?_
  rintro Γ rfl rfl rfl B ret
  show X Γ 3 0 0 0 [(0, .ref (a 0))] [] (wS Γ.cs.1 a S)
  have h4 : ∀ (n9 : Nat) (x1 : Int32) (x2 : Int32), lpf2 (b_X1_correctedCells_4 S) n9 x1 x2 = some r9 → X Γ 3 0 0 4 [(0, .ref (a 0)), (1, .int x1), (2, .int x2)] [] (wS Γ.cs.1 a S) := by
    refine lpf2_ind (fun K4 hK4 x1 x2 h => ?_)
    unfold b_X1_correctedCells_4 at h
    refine x_iload_n B (pc' := 5) 2 dX1_correctedCells_4 rfl rfl rfl ?_
    refine x_bipush B (pc' := 7) 32 dX1_correctedCells_5 (by decide) rfl ?_
    refine x_icmp_ge B 50 10 dX1_correctedCells_7 (by decide) rfl (fun hc1 => ?_) (fun hc1 => ?_)
    · replace h := ite_t hc1 h
      refine x_iload_n B (pc' := 51) 1 dX1_correctedCells_50 rfl rfl rfl ?_
      have h1 := (Option.some.inj h)
      subst h1
      exact ret rfl (by exact Nat.le_of_ble_eq_true rfl) (by exact Nat.le_of_ble_eq_true rfl) dX1_correctedCells_51
    · replace h := ite_f hc1 h
      refine x_aload_n B (pc' := 11) 0 dX1_correctedCells_10 rfl rfl rfl ?_
      refine s_ref0 B (pc' := 14) wf_RX1_9 dX1_correctedCells_11 rfl ?_
      refine x_iload_n B (pc' := 15) 2 dX1_correctedCells_14 rfl rfl rfl ?_
      refine s_vAt0 B (pc' := 18) ⟨Nat.le_of_ble_eq_true rfl, Nat.le_of_ble_eq_true rfl⟩ ⟨Nat.le_of_ble_eq_true rfl, Nat.le_of_ble_eq_true rfl⟩ (Nat.le_of_ble_eq_true rfl) nw_RX1_62 dX1_correctedCells_15 rfl ?_
      refine x_iconst B (pc' := 19) (-1) dX1_correctedCells_18 (by decide) rfl ?_
      refine x_icmp_eq B 44 22 dX1_correctedCells_19 (by decide) rfl (fun hc2 => ?_) (fun hc2 => ?_)
      · replace h := ite_t hc2 h
        obtain ⟨v3, ev3, h⟩ := nm_elim h
        refine x_iinc B (pc' := 47) v3 2 [1, 2, 0] [(0, .ref (a 0)), (1, .int x1), (2, .int v3)] dX1_correctedCells_44 rfl (by rw [ev3]; rfl) (by decide) rfl rfl ?_
        refine x_goto B (pc' := 4) dX1_correctedCells_47 (by decide) ?_
        exact hK4 _ _ h
      · replace h := ite_f hc2 h
        refine x_aload_n B (pc' := 23) 0 dX1_correctedCells_22 rfl rfl rfl ?_
        refine s_ref1 B (pc' := 26) wf_RX1_15 dX1_correctedCells_23 rfl ?_
        refine x_iload_n B (pc' := 27) 2 dX1_correctedCells_26 rfl rfl rfl ?_
        refine s_vAt1 B (pc' := 30) ⟨Nat.le_of_ble_eq_true rfl, Nat.le_of_ble_eq_true rfl⟩ ⟨Nat.le_of_ble_eq_true rfl, Nat.le_of_ble_eq_true rfl⟩ (Nat.le_of_ble_eq_true rfl) nw_RX1_62 dX1_correctedCells_27 rfl ?_
        refine x_aload_n B (pc' := 31) 0 dX1_correctedCells_30 rfl rfl rfl ?_
        refine s_ref2 B (pc' := 34) wf_RX1_18 dX1_correctedCells_31 rfl ?_
        refine x_iload_n B (pc' := 35) 2 dX1_correctedCells_34 rfl rfl rfl ?_
        refine s_vAt2 B (pc' := 38) ⟨Nat.le_of_ble_eq_true rfl, Nat.le_of_ble_eq_true rfl⟩ ⟨Nat.le_of_ble_eq_true rfl, Nat.le_of_ble_eq_true rfl⟩ (Nat.le_of_ble_eq_true rfl) nw_RX1_62 dX1_correctedCells_35 rfl ?_
        refine x_icmp_eq B 44 41 dX1_correctedCells_38 (by decide) rfl (fun hc4 => ?_) (fun hc4 => ?_)
        · replace h := ite_t hc4 h
          obtain ⟨v5, ev5, h⟩ := nm_elim h
          refine x_iinc B (pc' := 47) v5 2 [1, 2, 0] [(0, .ref (a 0)), (1, .int x1), (2, .int v5)] dX1_correctedCells_44 rfl (by rw [ev5]; rfl) (by decide) rfl rfl ?_
          refine x_goto B (pc' := 4) dX1_correctedCells_47 (by decide) ?_
          exact hK4 _ _ h
        · replace h := ite_f hc4 h
          obtain ⟨v6, ev6, h⟩ := nm_elim h
          refine x_iinc B (pc' := 44) v6 1 [1, 0, 2] [(0, .ref (a 0)), (1, .int v6), (2, .int x2)] dX1_correctedCells_41 rfl (by rw [ev6]; rfl) (by decide) rfl rfl ?_
          obtain ⟨v7, ev7, h⟩ := nm_elim h
          refine x_iinc B (pc' := 47) v7 2 [1, 2, 0] [(0, .ref (a 0)), (1, .int v6), (2, .int v7)] dX1_correctedCells_44 rfl (by rw [ev7]; rfl) (by decide) rfl rfl ?_
          refine x_goto B (pc' := 4) dX1_correctedCells_47 (by decide) ?_
          exact hK4 _ _ h
  unfold f_X1_correctedCells at h
  refine x_iconst B (pc' := 1) 0 dX1_correctedCells_0 (by decide) rfl ?_
  refine x_istore_n B (pc' := 2) [1, 0] [(0, .ref (a 0)), (1, .int (0 : Int32))] dX1_correctedCells_1 rfl (by decide) rfl rfl ?_
  refine x_iconst B (pc' := 3) 0 dX1_correctedCells_2 (by decide) rfl ?_
  refine x_istore_n B (pc' := 4) [1, 2, 0] [(0, .ref (a 0)), (1, .int (0 : Int32)), (2, .int (0 : Int32))] dX1_correctedCells_3 rfl (by decide) rfl rfl ?_
  exact h4  _ _ _ h
