def f_X3_cellOf (p0 : Int32) (p1 : Int32) (S : MO) : Option (Int32 × MO) :=
  bd2 (f_X3_ofPlace p0 p1 (0 : Int32) S) (fun (r1 : Int32) (S2 : MO) => some (r1, S2))
abbrev rm_X3_cellOf : Room := { frames := 3, cells := 0, slots := 0, locals := 70 }
theorem np_X3_cellOf : yX3_cellOf.cls ≠ "java/lang/invoke/MethodHandle" ∧ yX3_cellOf.cls ≠ "java/lang/invoke/VarHandle" ∧ (parseMethodDescriptor yX3_cellOf.desc).map (fun d => d.parameters.length) = some 2 := by decide +kernel
set_option maxHeartbeats 4000000 in
set_option maxRecDepth 100000 in
theorem k_X3_cellOf (l : Launch) (D : va_G) (cs : CS) (a : Nat → Nat) (p0 : Int32) (p1 : Int32) (S : MO) {r9 : Int32} {S9 : MO} (h : f_X3_cellOf p0 p1 S = some (r9, S9)) : MI l D cs yX3_cellOf cX3_cellOf 3 .int rm_X3_cellOf [.ref (a 0), .int p0, .int p1] (wM cs.1 a S) r9 (wM cs.1 a S9) := by
  refine MI_of (by decide) (Nat.le_of_ble_eq_true rfl) ?_
  rintro Γ rfl rfl rfl B ret
  show X Γ 3 0 0 0 [(0, .ref (a 0)), (1, .int p0), (2, .int p1)] [] (wM Γ.cs.1 a S)
  unfold f_X3_cellOf at h
  refine x_aload_n B (pc' := 1) 0 dX3_cellOf_0 rfl rfl rfl ?_
  refine x_iload_n B (pc' := 2) 1 dX3_cellOf_1 rfl rfl rfl ?_
  refine x_iload_n B (pc' := 3) 2 dX3_cellOf_2 rfl rfl rfl ?_
  refine x_iconst B (pc' := 4) 0 dX3_cellOf_3 (by decide) rfl ?_
  obtain ⟨r1, S2, er1, h⟩ := bd2_elim h
  refine x_selfVi B (pc' := 7) [.int p0, .int p1, .int (0 : Int32)] (k_X3_ofPlace _ _ _ a p0 p1 (0 : Int32) S er1) rfl rfl gv_RX3_91 rfl np_X3_ofPlace ⟨Nat.le_of_ble_eq_true rfl, Nat.le_of_ble_eq_true rfl⟩ ⟨by exact Nat.le_of_ble_eq_true rfl, by exact Nat.le_of_ble_eq_true rfl⟩ rfl (Nat.le_of_ble_eq_true rfl) dX3_cellOf_4 rfl ?_
  obtain ⟨h1, h2⟩ := some2 h
  subst h1
  subst h2
  exact ret rfl (by exact Nat.le_of_ble_eq_true rfl) (by exact Nat.le_of_ble_eq_true rfl) dX3_cellOf_7
def c_X3_hasFlag_14 (x1 : Int32) (t0 : Int32) (S : MO) : Option (Int32 × MO) :=
  bd2 (f_X3_holds t0 S) (fun (r3 : Int32) (S4 : MO) => if r3 = 0 then (some ((0 : Int32), S4)) else (gd ((7 : Int32) + x1) 1085 (if ((S4.2.1 1) (Int32.toNatClampNeg ((7 : Int32) + x1))) = (1 : Int32) then (some ((1 : Int32), S4)) else (some ((0 : Int32), S4)))))
def f_X3_hasFlag (p0 : Int32) (S : MO) : Option (Int32 × MO) :=
  bd (f_X3_isRecording p0 S) (fun (r1 : Int32) => if r1 = 0 then (c_X3_hasFlag_14 p0 (1 : Int32) S) else (c_X3_hasFlag_14 p0 (0 : Int32) S))
abbrev rm_X3_hasFlag : Room := { frames := 2, cells := 0, slots := 0, locals := 43 }
theorem np_X3_hasFlag : yX3_hasFlag.cls ≠ "java/lang/invoke/MethodHandle" ∧ yX3_hasFlag.cls ≠ "java/lang/invoke/VarHandle" ∧ (parseMethodDescriptor yX3_hasFlag.desc).map (fun d => d.parameters.length) = some 1 := by decide +kernel
set_option maxHeartbeats 4000000 in
set_option maxRecDepth 100000 in
theorem k_X3_hasFlag (l : Launch) (D : va_G) (cs : CS) (a : Nat → Nat) (p0 : Int32) (S : MO) {r9 : Int32} {S9 : MO} (h : f_X3_hasFlag p0 S = some (r9, S9)) : MI l D cs yX3_hasFlag cX3_hasFlag 2 .boolean rm_X3_hasFlag [.ref (a 0), .int p0] (wM cs.1 a S) r9 (wM cs.1 a S9) := by
  refine MI_of (by decide) (Nat.le_of_ble_eq_true rfl) ?_
  rintro Γ rfl rfl rfl B ret
  show X Γ 2 0 0 0 [(0, .ref (a 0)), (1, .int p0)] [] (wM Γ.cs.1 a S)
  have h14 : ∀ (x1 : Int32) (t0 : Int32) (S : MO), c_X3_hasFlag_14  x1 t0 S = some (r9, S9) → X Γ 2 0 0 14 [(0, .ref (a 0)), (1, .int x1)] [.int t0, .ref (a 0)] (wM Γ.cs.1 a S) := by
    intro  x1 t0 S h
    unfold c_X3_hasFlag_14 at h
    obtain ⟨r3, S4, er3, h⟩ := bd2_elim h
    refine x_selfVi B (pc' := 17) [.int t0] (k_X3_holds _ _ _ a t0 S er3) rfl rfl gv_RX3_64 rfl np_X3_holds ⟨Nat.le_of_ble_eq_true rfl, Nat.le_of_ble_eq_true rfl⟩ ⟨by exact Nat.le_of_ble_eq_true rfl, by exact Nat.le_of_ble_eq_true rfl⟩ rfl (Nat.le_of_ble_eq_true rfl) dX3_hasFlag_14 rfl ?_
    refine x_if_eq B 37 20 dX3_hasFlag_17 (by decide) rfl (fun hc5 => ?_) (fun hc5 => ?_)
    · replace h := ite_t hc5 h
      refine x_iconst B (pc' := 38) 0 dX3_hasFlag_37 (by decide) rfl ?_
      obtain ⟨h1, h2⟩ := some2 h
      subst h1
      subst h2
      exact ret rfl (by exact Nat.le_of_ble_eq_true rfl) (by exact Nat.le_of_ble_eq_true rfl) dX3_hasFlag_38
    · replace h := ite_f hc5 h
      refine x_aload_n B (pc' := 21) 0 dX3_hasFlag_20 rfl rfl rfl ?_
      refine m_ref1 B (pc' := 24) wf_RX3_7 dX3_hasFlag_21 rfl ?_
      refine x_bipush B (pc' := 26) 7 dX3_hasFlag_24 (by decide) rfl ?_
      refine x_iload_n B (pc' := 27) 1 dX3_hasFlag_26 rfl rfl rfl ?_
      refine x_iadd B (pc' := 28) dX3_hasFlag_27 rfl ?_
      obtain ⟨hi6, h⟩ := gd_elim h
      refine m_ald1 B (pc' := 29) hi6 dX3_hasFlag_28 rfl ?_
      refine x_iconst B (pc' := 30) 1 dX3_hasFlag_29 (by decide) rfl ?_
      refine x_icmp_ne B 37 33 dX3_hasFlag_30 (by decide) rfl (fun hc7 => ?_) (fun hc7 => ?_)
      · replace h := ite_f hc7 h
        refine x_iconst B (pc' := 38) 0 dX3_hasFlag_37 (by decide) rfl ?_
        obtain ⟨h1, h2⟩ := some2 h
        subst h1
        subst h2
        exact ret rfl (by exact Nat.le_of_ble_eq_true rfl) (by exact Nat.le_of_ble_eq_true rfl) dX3_hasFlag_38
      · replace h := ite_t hc7 h
        refine x_iconst B (pc' := 34) 1 dX3_hasFlag_33 (by decide) rfl ?_
        refine x_goto B (pc' := 38) dX3_hasFlag_34 (by decide) ?_
        obtain ⟨h1, h2⟩ := some2 h
        subst h1
        subst h2
        exact ret rfl (by exact Nat.le_of_ble_eq_true rfl) (by exact Nat.le_of_ble_eq_true rfl) dX3_hasFlag_38
  unfold f_X3_hasFlag at h
  refine x_aload_n B (pc' := 1) 0 dX3_hasFlag_0 rfl rfl rfl ?_
  refine x_aload_n B (pc' := 2) 0 dX3_hasFlag_1 rfl rfl rfl ?_
  refine x_iload_n B (pc' := 3) 1 dX3_hasFlag_2 rfl rfl rfl ?_
  obtain ⟨r1, er1, h⟩ := bd_elim h
  refine x_selfVi B (pc' := 6) [.int p0] (k_X3_isRecording _ _ _ a p0 S er1) rfl rfl gv_RX3_82 rfl np_X3_isRecording ⟨Nat.le_of_ble_eq_true rfl, Nat.le_of_ble_eq_true rfl⟩ ⟨by exact Nat.le_of_ble_eq_true rfl, by exact Nat.le_of_ble_eq_true rfl⟩ rfl (Nat.le_of_ble_eq_true rfl) dX3_hasFlag_3 rfl ?_
  refine x_if_eq B 13 9 dX3_hasFlag_6 (by decide) rfl (fun hc2 => ?_) (fun hc2 => ?_)
  · replace h := ite_t hc2 h
    refine x_iconst B (pc' := 14) 1 dX3_hasFlag_13 (by decide) rfl ?_
    exact h14  _ _ _ h
  · replace h := ite_f hc2 h
    refine x_iconst B (pc' := 10) 0 dX3_hasFlag_9 (by decide) rfl ?_
    refine x_goto B (pc' := 14) dX3_hasFlag_10 (by decide) ?_
    exact h14  _ _ _ h
def c_X3_lost_14 (x1 : Int32) (t0 : Int32) (S : MO) : Option (Int32 × MO) :=
  bd2 (f_X3_holds t0 S) (fun (r3 : Int32) (S4 : MO) => if r3 = 0 then (some ((0 : Int32), S4)) else (gd ((17 : Int32) + x1) 1085 (some (((S4.2.1 1) (Int32.toNatClampNeg ((17 : Int32) + x1))), S4))))
def f_X3_lost (p0 : Int32) (S : MO) : Option (Int32 × MO) :=
  bd (f_X3_isRecording p0 S) (fun (r1 : Int32) => if r1 = 0 then (c_X3_lost_14 p0 (1 : Int32) S) else (c_X3_lost_14 p0 (0 : Int32) S))
abbrev rm_X3_lost : Room := { frames := 2, cells := 0, slots := 0, locals := 43 }
theorem np_X3_lost : yX3_lost.cls ≠ "java/lang/invoke/MethodHandle" ∧ yX3_lost.cls ≠ "java/lang/invoke/VarHandle" ∧ (parseMethodDescriptor yX3_lost.desc).map (fun d => d.parameters.length) = some 1 := by decide +kernel
set_option maxHeartbeats 4000000 in
set_option maxRecDepth 100000 in
theorem k_X3_lost (l : Launch) (D : va_G) (cs : CS) (a : Nat → Nat) (p0 : Int32) (S : MO) {r9 : Int32} {S9 : MO} (h : f_X3_lost p0 S = some (r9, S9)) : MI l D cs yX3_lost cX3_lost 2 .int rm_X3_lost [.ref (a 0), .int p0] (wM cs.1 a S) r9 (wM cs.1 a S9) := by
  refine MI_of (by decide) (Nat.le_of_ble_eq_true rfl) ?_
  rintro Γ rfl rfl rfl B ret
  show X Γ 2 0 0 0 [(0, .ref (a 0)), (1, .int p0)] [] (wM Γ.cs.1 a S)
  have h14 : ∀ (x1 : Int32) (t0 : Int32) (S : MO), c_X3_lost_14  x1 t0 S = some (r9, S9) → X Γ 2 0 0 14 [(0, .ref (a 0)), (1, .int x1)] [.int t0, .ref (a 0)] (wM Γ.cs.1 a S) := by
    intro  x1 t0 S h
    unfold c_X3_lost_14 at h
    obtain ⟨r3, S4, er3, h⟩ := bd2_elim h
    refine x_selfVi B (pc' := 17) [.int t0] (k_X3_holds _ _ _ a t0 S er3) rfl rfl gv_RX3_64 rfl np_X3_holds ⟨Nat.le_of_ble_eq_true rfl, Nat.le_of_ble_eq_true rfl⟩ ⟨by exact Nat.le_of_ble_eq_true rfl, by exact Nat.le_of_ble_eq_true rfl⟩ rfl (Nat.le_of_ble_eq_true rfl) dX3_lost_14 rfl ?_
    refine x_if_eq B 32 20 dX3_lost_17 (by decide) rfl (fun hc5 => ?_) (fun hc5 => ?_)
    · replace h := ite_t hc5 h
      refine x_iconst B (pc' := 33) 0 dX3_lost_32 (by decide) rfl ?_
      obtain ⟨h1, h2⟩ := some2 h
      subst h1
      subst h2
      exact ret rfl (by exact Nat.le_of_ble_eq_true rfl) (by exact Nat.le_of_ble_eq_true rfl) dX3_lost_33
    · replace h := ite_f hc5 h
      refine x_aload_n B (pc' := 21) 0 dX3_lost_20 rfl rfl rfl ?_
      refine m_ref1 B (pc' := 24) wf_RX3_7 dX3_lost_21 rfl ?_
      refine x_bipush B (pc' := 26) 17 dX3_lost_24 (by decide) rfl ?_
      refine x_iload_n B (pc' := 27) 1 dX3_lost_26 rfl rfl rfl ?_
      refine x_iadd B (pc' := 28) dX3_lost_27 rfl ?_
      obtain ⟨hi6, h⟩ := gd_elim h
      refine m_ald1 B (pc' := 29) hi6 dX3_lost_28 rfl ?_
      refine x_goto B (pc' := 33) dX3_lost_29 (by decide) ?_
      obtain ⟨h1, h2⟩ := some2 h
      subst h1
      subst h2
      exact ret rfl (by exact Nat.le_of_ble_eq_true rfl) (by exact Nat.le_of_ble_eq_true rfl) dX3_lost_33
  unfold f_X3_lost at h
  refine x_aload_n B (pc' := 1) 0 dX3_lost_0 rfl rfl rfl ?_
  refine x_aload_n B (pc' := 2) 0 dX3_lost_1 rfl rfl rfl ?_
  refine x_iload_n B (pc' := 3) 1 dX3_lost_2 rfl rfl rfl ?_
  obtain ⟨r1, er1, h⟩ := bd_elim h
  refine x_selfVi B (pc' := 6) [.int p0] (k_X3_isRecording _ _ _ a p0 S er1) rfl rfl gv_RX3_82 rfl np_X3_isRecording ⟨Nat.le_of_ble_eq_true rfl, Nat.le_of_ble_eq_true rfl⟩ ⟨by exact Nat.le_of_ble_eq_true rfl, by exact Nat.le_of_ble_eq_true rfl⟩ rfl (Nat.le_of_ble_eq_true rfl) dX3_lost_3 rfl ?_
  refine x_if_eq B 13 9 dX3_lost_6 (by decide) rfl (fun hc2 => ?_) (fun hc2 => ?_)
  · replace h := ite_t hc2 h
    refine x_iconst B (pc' := 14) 1 dX3_lost_13 (by decide) rfl ?_
    exact h14  _ _ _ h
  · replace h := ite_f hc2 h
    refine x_iconst B (pc' := 10) 0 dX3_lost_9 (by decide) rfl ?_
    refine x_goto B (pc' := 14) dX3_lost_10 (by decide) ?_
    exact h14  _ _ _ h
def c_X3_owner_13 (x1 : Int32) (t0 : Int32) (S : MO) : Option (Int32 × MO) :=
  bd2 (f_X3_holds t0 S) (fun (r3 : Int32) (S4 : MO) => if r3 = 0 then (some ((0 : Int32), S4)) else (gd ((27 : Int32) + x1) 1085 (some (((S4.2.1 1) (Int32.toNatClampNeg ((27 : Int32) + x1))), S4))))
def f_X3_owner (p0 : Int32) (S : MO) : Option (Int32 × MO) :=
  bd (f_X3_isCell p0) (fun (r1 : Int32) => if r1 = 0 then (c_X3_owner_13 p0 (1 : Int32) S) else (c_X3_owner_13 p0 (0 : Int32) S))
abbrev rm_X3_owner : Room := { frames := 2, cells := 0, slots := 0, locals := 42 }
theorem np_X3_owner : yX3_owner.cls ≠ "java/lang/invoke/MethodHandle" ∧ yX3_owner.cls ≠ "java/lang/invoke/VarHandle" ∧ (parseMethodDescriptor yX3_owner.desc).map (fun d => d.parameters.length) = some 1 := by decide +kernel
set_option maxHeartbeats 4000000 in
set_option maxRecDepth 100000 in
theorem k_X3_owner (l : Launch) (D : va_G) (cs : CS) (a : Nat → Nat) (p0 : Int32) (S : MO) {r9 : Int32} {S9 : MO} (h : f_X3_owner p0 S = some (r9, S9)) : MI l D cs yX3_owner cX3_owner 2 .int rm_X3_owner [.ref (a 0), .int p0] (wM cs.1 a S) r9 (wM cs.1 a S9) := by
  refine MI_of (by decide) (Nat.le_of_ble_eq_true rfl) ?_
  rintro Γ rfl rfl rfl B ret
  show X Γ 2 0 0 0 [(0, .ref (a 0)), (1, .int p0)] [] (wM Γ.cs.1 a S)
  have h13 : ∀ (x1 : Int32) (t0 : Int32) (S : MO), c_X3_owner_13  x1 t0 S = some (r9, S9) → X Γ 2 0 0 13 [(0, .ref (a 0)), (1, .int x1)] [.int t0, .ref (a 0)] (wM Γ.cs.1 a S) := by
    intro  x1 t0 S h
    unfold c_X3_owner_13 at h
    obtain ⟨r3, S4, er3, h⟩ := bd2_elim h
    refine x_selfVi B (pc' := 16) [.int t0] (k_X3_holds _ _ _ a t0 S er3) rfl rfl gv_RX3_64 rfl np_X3_holds ⟨Nat.le_of_ble_eq_true rfl, Nat.le_of_ble_eq_true rfl⟩ ⟨by exact Nat.le_of_ble_eq_true rfl, by exact Nat.le_of_ble_eq_true rfl⟩ rfl (Nat.le_of_ble_eq_true rfl) dX3_owner_13 rfl ?_
    refine x_if_eq B 31 19 dX3_owner_16 (by decide) rfl (fun hc5 => ?_) (fun hc5 => ?_)
    · replace h := ite_t hc5 h
      refine x_iconst B (pc' := 32) 0 dX3_owner_31 (by decide) rfl ?_
      obtain ⟨h1, h2⟩ := some2 h
      subst h1
      subst h2
      exact ret rfl (by exact Nat.le_of_ble_eq_true rfl) (by exact Nat.le_of_ble_eq_true rfl) dX3_owner_32
    · replace h := ite_f hc5 h
      refine x_aload_n B (pc' := 20) 0 dX3_owner_19 rfl rfl rfl ?_
      refine m_ref1 B (pc' := 23) wf_RX3_7 dX3_owner_20 rfl ?_
      refine x_bipush B (pc' := 25) 27 dX3_owner_23 (by decide) rfl ?_
      refine x_iload_n B (pc' := 26) 1 dX3_owner_25 rfl rfl rfl ?_
      refine x_iadd B (pc' := 27) dX3_owner_26 rfl ?_
      obtain ⟨hi6, h⟩ := gd_elim h
      refine m_ald1 B (pc' := 28) hi6 dX3_owner_27 rfl ?_
      refine x_goto B (pc' := 32) dX3_owner_28 (by decide) ?_
      obtain ⟨h1, h2⟩ := some2 h
      subst h1
      subst h2
      exact ret rfl (by exact Nat.le_of_ble_eq_true rfl) (by exact Nat.le_of_ble_eq_true rfl) dX3_owner_32
  unfold f_X3_owner at h
  refine x_aload_n B (pc' := 1) 0 dX3_owner_0 rfl rfl rfl ?_
  refine x_iload_n B (pc' := 2) 1 dX3_owner_1 rfl rfl rfl ?_
  obtain ⟨r1, er1, h⟩ := bd_elim h
  refine x_pureSi B (pc' := 5) [.int p0] (k_X3_isCell _ _ _ p0 er1) gv_RX3_85 np_X3_isCell ⟨Nat.le_of_ble_eq_true rfl, Nat.le_of_ble_eq_true rfl⟩ ⟨by exact Nat.le_of_ble_eq_true rfl, by exact Nat.le_of_ble_eq_true rfl⟩ rfl (Nat.le_of_ble_eq_true rfl) dX3_owner_2 rfl ?_
  refine x_if_eq B 12 8 dX3_owner_5 (by decide) rfl (fun hc2 => ?_) (fun hc2 => ?_)
  · replace h := ite_t hc2 h
    refine x_iconst B (pc' := 13) 1 dX3_owner_12 (by decide) rfl ?_
    exact h13  _ _ _ h
  · replace h := ite_f hc2 h
    refine x_iconst B (pc' := 9) 0 dX3_owner_8 (by decide) rfl ?_
    refine x_goto B (pc' := 13) dX3_owner_9 (by decide) ?_
    exact h13  _ _ _ h
def f_X3_free (S : MO) : Option (Int32 × MO) :=
  bd (f_X3_cells ((-1) : Int32) S) (fun (r1 : Int32) => bd2 (f_X3_told r1 S) (fun (r2 : Int32) (S3 : MO) => some (r2, S3)))
abbrev rm_X3_free : Room := { frames := 1, cells := 0, slots := 0, locals := 23 }
theorem np_X3_free : yX3_free.cls ≠ "java/lang/invoke/MethodHandle" ∧ yX3_free.cls ≠ "java/lang/invoke/VarHandle" ∧ (parseMethodDescriptor yX3_free.desc).map (fun d => d.parameters.length) = some 0 := by decide +kernel
set_option maxHeartbeats 4000000 in
set_option maxRecDepth 100000 in
theorem k_X3_free (l : Launch) (D : va_G) (cs : CS) (a : Nat → Nat) (S : MO) {r9 : Int32} {S9 : MO} (h : f_X3_free S = some (r9, S9)) : MI l D cs yX3_free cX3_free 1 .int rm_X3_free [.ref (a 0)] (wM cs.1 a S) r9 (wM cs.1 a S9) := by
  refine MI_of (by decide) (Nat.le_of_ble_eq_true rfl) ?_
  rintro Γ rfl rfl rfl B ret
  show X Γ 1 0 0 0 [(0, .ref (a 0))] [] (wM Γ.cs.1 a S)
  unfold f_X3_free at h
  refine x_aload_n B (pc' := 1) 0 dX3_free_0 rfl rfl rfl ?_
  refine x_aload_n B (pc' := 2) 0 dX3_free_1 rfl rfl rfl ?_
  refine x_iconst B (pc' := 3) (-1) dX3_free_2 (by decide) rfl ?_
  obtain ⟨r1, er1, h⟩ := bd_elim h
  refine x_selfVi B (pc' := 6) [.int ((-1) : Int32)] (k_X3_cells _ _ _ a ((-1) : Int32) S er1) rfl rfl gv_RX3_32 rfl np_X3_cells ⟨Nat.le_of_ble_eq_true rfl, Nat.le_of_ble_eq_true rfl⟩ ⟨by exact Nat.le_of_ble_eq_true rfl, by exact Nat.le_of_ble_eq_true rfl⟩ rfl (Nat.le_of_ble_eq_true rfl) dX3_free_3 rfl ?_
  obtain ⟨r2, S3, er2, h⟩ := bd2_elim h
  refine x_selfVi B (pc' := 9) [.int r1] (k_X3_told _ _ _ a r1 S er2) rfl rfl gv_RX3_88 rfl np_X3_told ⟨Nat.le_of_ble_eq_true rfl, Nat.le_of_ble_eq_true rfl⟩ ⟨by exact Nat.le_of_ble_eq_true rfl, by exact Nat.le_of_ble_eq_true rfl⟩ rfl (Nat.le_of_ble_eq_true rfl) dX3_free_6 rfl ?_
  obtain ⟨h1, h2⟩ := some2 h
  subst h1
  subst h2
  exact ret rfl (by exact Nat.le_of_ble_eq_true rfl) (by exact Nat.le_of_ble_eq_true rfl) dX3_free_9
def f_X3_spoken (S : MO) : Option (Int32 × MO) :=
  gd (3 : Int32) 1085 (bd2 (f_X3_told ((S.2.1 1) (Int32.toNatClampNeg (3 : Int32))) S) (fun (r2 : Int32) (S3 : MO) => some (r2, S3)))
abbrev rm_X3_spoken : Room := { frames := 1, cells := 0, slots := 0, locals := 21 }
theorem np_X3_spoken : yX3_spoken.cls ≠ "java/lang/invoke/MethodHandle" ∧ yX3_spoken.cls ≠ "java/lang/invoke/VarHandle" ∧ (parseMethodDescriptor yX3_spoken.desc).map (fun d => d.parameters.length) = some 0 := by decide +kernel
set_option maxHeartbeats 4000000 in
set_option maxRecDepth 100000 in
theorem k_X3_spoken (l : Launch) (D : va_G) (cs : CS) (a : Nat → Nat) (S : MO) {r9 : Int32} {S9 : MO} (h : f_X3_spoken S = some (r9, S9)) : MI l D cs yX3_spoken cX3_spoken 1 .int rm_X3_spoken [.ref (a 0)] (wM cs.1 a S) r9 (wM cs.1 a S9) := by
  refine MI_of (by decide) (Nat.le_of_ble_eq_true rfl) ?_
  rintro Γ rfl rfl rfl B ret
  show X Γ 1 0 0 0 [(0, .ref (a 0))] [] (wM Γ.cs.1 a S)
  unfold f_X3_spoken at h
  refine x_aload_n B (pc' := 1) 0 dX3_spoken_0 rfl rfl rfl ?_
  refine x_aload_n B (pc' := 2) 0 dX3_spoken_1 rfl rfl rfl ?_
  refine m_ref1 B (pc' := 5) wf_RX3_7 dX3_spoken_2 rfl ?_
  refine x_iconst B (pc' := 6) 3 dX3_spoken_5 (by decide) rfl ?_
  obtain ⟨hi1, h⟩ := gd_elim h
  refine m_ald1 B (pc' := 7) hi1 dX3_spoken_6 rfl ?_
  obtain ⟨r2, S3, er2, h⟩ := bd2_elim h
  refine x_selfVi B (pc' := 10) [.int ((S.2.1 1) (Int32.toNatClampNeg (3 : Int32)))] (k_X3_told _ _ _ a ((S.2.1 1) (Int32.toNatClampNeg (3 : Int32))) S er2) rfl rfl gv_RX3_88 rfl np_X3_told ⟨Nat.le_of_ble_eq_true rfl, Nat.le_of_ble_eq_true rfl⟩ ⟨by exact Nat.le_of_ble_eq_true rfl, by exact Nat.le_of_ble_eq_true rfl⟩ rfl (Nat.le_of_ble_eq_true rfl) dX3_spoken_7 rfl ?_
  obtain ⟨h1, h2⟩ := some2 h
  subst h1
  subst h2
  exact ret rfl (by exact Nat.le_of_ble_eq_true rfl) (by exact Nat.le_of_ble_eq_true rfl) dX3_spoken_10
def f_X3_gone (S : MO) : Option (Int32 × MO) :=
  gd (4 : Int32) 1085 (bd2 (f_X3_told ((S.2.1 1) (Int32.toNatClampNeg (4 : Int32))) S) (fun (r2 : Int32) (S3 : MO) => some (r2, S3)))
abbrev rm_X3_gone : Room := { frames := 1, cells := 0, slots := 0, locals := 21 }
theorem np_X3_gone : yX3_gone.cls ≠ "java/lang/invoke/MethodHandle" ∧ yX3_gone.cls ≠ "java/lang/invoke/VarHandle" ∧ (parseMethodDescriptor yX3_gone.desc).map (fun d => d.parameters.length) = some 0 := by decide +kernel
set_option maxHeartbeats 4000000 in
set_option maxRecDepth 100000 in
theorem k_X3_gone (l : Launch) (D : va_G) (cs : CS) (a : Nat → Nat) (S : MO) {r9 : Int32} {S9 : MO} (h : f_X3_gone S = some (r9, S9)) : MI l D cs yX3_gone cX3_gone 1 .int rm_X3_gone [.ref (a 0)] (wM cs.1 a S) r9 (wM cs.1 a S9) := by
  refine MI_of (by decide) (Nat.le_of_ble_eq_true rfl) ?_
  rintro Γ rfl rfl rfl B ret
  show X Γ 1 0 0 0 [(0, .ref (a 0))] [] (wM Γ.cs.1 a S)
  unfold f_X3_gone at h
  refine x_aload_n B (pc' := 1) 0 dX3_gone_0 rfl rfl rfl ?_
  refine x_aload_n B (pc' := 2) 0 dX3_gone_1 rfl rfl rfl ?_
  refine m_ref1 B (pc' := 5) wf_RX3_7 dX3_gone_2 rfl ?_
  refine x_iconst B (pc' := 6) 4 dX3_gone_5 (by decide) rfl ?_
  obtain ⟨hi1, h⟩ := gd_elim h
  refine m_ald1 B (pc' := 7) hi1 dX3_gone_6 rfl ?_
  obtain ⟨r2, S3, er2, h⟩ := bd2_elim h
  refine x_selfVi B (pc' := 10) [.int ((S.2.1 1) (Int32.toNatClampNeg (4 : Int32)))] (k_X3_told _ _ _ a ((S.2.1 1) (Int32.toNatClampNeg (4 : Int32))) S er2) rfl rfl gv_RX3_88 rfl np_X3_told ⟨Nat.le_of_ble_eq_true rfl, Nat.le_of_ble_eq_true rfl⟩ ⟨by exact Nat.le_of_ble_eq_true rfl, by exact Nat.le_of_ble_eq_true rfl⟩ rfl (Nat.le_of_ble_eq_true rfl) dX3_gone_7 rfl ?_
  obtain ⟨h1, h2⟩ := some2 h
  subst h1
  subst h2
  exact ret rfl (by exact Nat.le_of_ble_eq_true rfl) (by exact Nat.le_of_ble_eq_true rfl) dX3_gone_10
def c_X3_go_14 (x1 : Int32) (t0 : Int32) (S : MO) : Option (Int32 × MO) :=
  bd2 (f_X3_holds t0 S) (fun (r3 : Int32) (S4 : MO) => if r3 = 0 then (some ((0 : Int32), S4)) else (bd (f_X3_save S4) (fun (S6 : MO) => bd2 (f_X3_goes x1 S6) (fun (r7 : Int32) (S8 : MO) => some (r7, S8)))))
def f_X3_go (p0 : Int32) (S : MO) : Option (Int32 × MO) :=
  bd (f_X3_isRecording p0 S) (fun (r1 : Int32) => if r1 = 0 then (c_X3_go_14 p0 (1 : Int32) S) else (c_X3_go_14 p0 (0 : Int32) S))
abbrev rm_X3_go : Room := { frames := 2, cells := 0, slots := 0, locals := 44 }
theorem np_X3_go : yX3_go.cls ≠ "java/lang/invoke/MethodHandle" ∧ yX3_go.cls ≠ "java/lang/invoke/VarHandle" ∧ (parseMethodDescriptor yX3_go.desc).map (fun d => d.parameters.length) = some 1 := by decide +kernel
set_option maxHeartbeats 4000000 in
set_option maxRecDepth 100000 in
theorem k_X3_go (l : Launch) (D : va_G) (cs : CS) (a : Nat → Nat) (p0 : Int32) (S : MO) {r9 : Int32} {S9 : MO} (h : f_X3_go p0 S = some (r9, S9)) : MI l D cs yX3_go cX3_go 2 .int rm_X3_go [.ref (a 0), .int p0] (wM cs.1 a S) r9 (wM cs.1 a S9) := by
  refine MI_of (by decide) (Nat.le_of_ble_eq_true rfl) ?_
  rintro Γ rfl rfl rfl B ret
  show X Γ 2 0 0 0 [(0, .ref (a 0)), (1, .int p0)] [] (wM Γ.cs.1 a S)
  have h14 : ∀ (x1 : Int32) (t0 : Int32) (S : MO), c_X3_go_14  x1 t0 S = some (r9, S9) → X Γ 2 0 0 14 [(0, .ref (a 0)), (1, .int x1)] [.int t0, .ref (a 0)] (wM Γ.cs.1 a S) := by
    intro  x1 t0 S h
    unfold c_X3_go_14 at h
    obtain ⟨r3, S4, er3, h⟩ := bd2_elim h
    refine x_selfVi B (pc' := 17) [.int t0] (k_X3_holds _ _ _ a t0 S er3) rfl rfl gv_RX3_64 rfl np_X3_holds ⟨Nat.le_of_ble_eq_true rfl, Nat.le_of_ble_eq_true rfl⟩ ⟨by exact Nat.le_of_ble_eq_true rfl, by exact Nat.le_of_ble_eq_true rfl⟩ rfl (Nat.le_of_ble_eq_true rfl) dX3_go_14 rfl ?_
    refine x_if_ne B 22 20 dX3_go_17 (by decide) rfl (fun hc5 => ?_) (fun hc5 => ?_)
    · replace h := ite_f hc5 h
      refine x_aload_n B (pc' := 23) 0 dX3_go_22 rfl rfl rfl ?_
      obtain ⟨S6, eS6, h⟩ := bd_elim h
      refine x_selfVv B (pc' := 26) [] (k_X3_save _ _ _ a S4 eS6) rfl rfl gv_RX3_67 rfl np_X3_save ⟨Nat.le_of_ble_eq_true rfl, Nat.le_of_ble_eq_true rfl⟩ ⟨by exact Nat.le_of_ble_eq_true rfl, by exact Nat.le_of_ble_eq_true rfl⟩ rfl (Nat.le_of_ble_eq_true rfl) dX3_go_23 rfl ?_
      refine x_aload_n B (pc' := 27) 0 dX3_go_26 rfl rfl rfl ?_
      refine x_iload_n B (pc' := 28) 1 dX3_go_27 rfl rfl rfl ?_
      obtain ⟨r7, S8, er7, h⟩ := bd2_elim h
      refine x_selfVi B (pc' := 31) [.int x1] (k_X3_goes _ _ _ a x1 S6 er7) rfl rfl gv_RX3_97 rfl np_X3_goes ⟨Nat.le_of_ble_eq_true rfl, Nat.le_of_ble_eq_true rfl⟩ ⟨by exact Nat.le_of_ble_eq_true rfl, by exact Nat.le_of_ble_eq_true rfl⟩ rfl (Nat.le_of_ble_eq_true rfl) dX3_go_28 rfl ?_
      obtain ⟨h1, h2⟩ := some2 h
      subst h1
      subst h2
      exact ret rfl (by exact Nat.le_of_ble_eq_true rfl) (by exact Nat.le_of_ble_eq_true rfl) dX3_go_31
    · replace h := ite_t hc5 h
      refine x_iconst B (pc' := 21) 0 dX3_go_20 (by decide) rfl ?_
      obtain ⟨h1, h2⟩ := some2 h
      subst h1
      subst h2
      exact ret rfl (by exact Nat.le_of_ble_eq_true rfl) (by exact Nat.le_of_ble_eq_true rfl) dX3_go_21
  unfold f_X3_go at h
  refine x_aload_n B (pc' := 1) 0 dX3_go_0 rfl rfl rfl ?_
  refine x_aload_n B (pc' := 2) 0 dX3_go_1 rfl rfl rfl ?_
  refine x_iload_n B (pc' := 3) 1 dX3_go_2 rfl rfl rfl ?_
  obtain ⟨r1, er1, h⟩ := bd_elim h
  refine x_selfVi B (pc' := 6) [.int p0] (k_X3_isRecording _ _ _ a p0 S er1) rfl rfl gv_RX3_82 rfl np_X3_isRecording ⟨Nat.le_of_ble_eq_true rfl, Nat.le_of_ble_eq_true rfl⟩ ⟨by exact Nat.le_of_ble_eq_true rfl, by exact Nat.le_of_ble_eq_true rfl⟩ rfl (Nat.le_of_ble_eq_true rfl) dX3_go_3 rfl ?_
  refine x_if_eq B 13 9 dX3_go_6 (by decide) rfl (fun hc2 => ?_) (fun hc2 => ?_)
  · replace h := ite_t hc2 h
    refine x_iconst B (pc' := 14) 1 dX3_go_13 (by decide) rfl ?_
    exact h14  _ _ _ h
  · replace h := ite_f hc2 h
    refine x_iconst B (pc' := 10) 0 dX3_go_9 (by decide) rfl ?_
    refine x_goto B (pc' := 14) dX3_go_10 (by decide) ?_
    exact h14  _ _ _ h
def c_X3_play_16 (t0 : Int32) (S : MO) : Option (Int32 × MO) :=
  bd2 (f_X3_holds t0 S) (fun (r3 : Int32) (S4 : MO) => if r3 = 0 then (some ((0 : Int32), S4)) else (bd (f_X3_save S4) (fun (S6 : MO) => bd2 (f_X3_plays S6) (fun (r7 : Int32) (S8 : MO) => some (r7, S8)))))
def f_X3_play (S : MO) : Option (Int32 × MO) :=
  gd (5 : Int32) 1085 (if ((S.2.1 1) (Int32.toNatClampNeg (5 : Int32))) = ((-1) : Int32) then (c_X3_play_16 (1 : Int32) S) else (c_X3_play_16 (0 : Int32) S))
abbrev rm_X3_play : Room := { frames := 3, cells := 0, slots := 0, locals := 67 }
theorem np_X3_play : yX3_play.cls ≠ "java/lang/invoke/MethodHandle" ∧ yX3_play.cls ≠ "java/lang/invoke/VarHandle" ∧ (parseMethodDescriptor yX3_play.desc).map (fun d => d.parameters.length) = some 0 := by decide +kernel
set_option maxHeartbeats 4000000 in
set_option maxRecDepth 100000 in
theorem k_X3_play (l : Launch) (D : va_G) (cs : CS) (a : Nat → Nat) (S : MO) {r9 : Int32} {S9 : MO} (h : f_X3_play S = some (r9, S9)) : MI l D cs yX3_play cX3_play 1 .int rm_X3_play [.ref (a 0)] (wM cs.1 a S) r9 (wM cs.1 a S9) := by
  refine MI_of (by decide) (Nat.le_of_ble_eq_true rfl) ?_
  rintro Γ rfl rfl rfl B ret
  show X Γ 1 0 0 0 [(0, .ref (a 0))] [] (wM Γ.cs.1 a S)
  have h16 : ∀ (t0 : Int32) (S : MO), c_X3_play_16  t0 S = some (r9, S9) → X Γ 1 0 0 16 [(0, .ref (a 0))] [.int t0, .ref (a 0)] (wM Γ.cs.1 a S) := by
    intro  t0 S h
    unfold c_X3_play_16 at h
    obtain ⟨r3, S4, er3, h⟩ := bd2_elim h
    refine x_selfVi B (pc' := 19) [.int t0] (k_X3_holds _ _ _ a t0 S er3) rfl rfl gv_RX3_64 rfl np_X3_holds ⟨Nat.le_of_ble_eq_true rfl, Nat.le_of_ble_eq_true rfl⟩ ⟨by exact Nat.le_of_ble_eq_true rfl, by exact Nat.le_of_ble_eq_true rfl⟩ rfl (Nat.le_of_ble_eq_true rfl) dX3_play_16 rfl ?_
    refine x_if_ne B 24 22 dX3_play_19 (by decide) rfl (fun hc5 => ?_) (fun hc5 => ?_)
    · replace h := ite_f hc5 h
      refine x_aload_n B (pc' := 25) 0 dX3_play_24 rfl rfl rfl ?_
      obtain ⟨S6, eS6, h⟩ := bd_elim h
      refine x_selfVv B (pc' := 28) [] (k_X3_save _ _ _ a S4 eS6) rfl rfl gv_RX3_67 rfl np_X3_save ⟨Nat.le_of_ble_eq_true rfl, Nat.le_of_ble_eq_true rfl⟩ ⟨by exact Nat.le_of_ble_eq_true rfl, by exact Nat.le_of_ble_eq_true rfl⟩ rfl (Nat.le_of_ble_eq_true rfl) dX3_play_25 rfl ?_
      refine x_aload_n B (pc' := 29) 0 dX3_play_28 rfl rfl rfl ?_
      obtain ⟨r7, S8, er7, h⟩ := bd2_elim h
      refine x_selfVi B (pc' := 32) [] (k_X3_plays _ _ _ a S6 er7) rfl rfl gv_RX3_100 rfl np_X3_plays ⟨Nat.le_of_ble_eq_true rfl, Nat.le_of_ble_eq_true rfl⟩ ⟨by exact Nat.le_of_ble_eq_true rfl, by exact Nat.le_of_ble_eq_true rfl⟩ rfl (Nat.le_of_ble_eq_true rfl) dX3_play_29 rfl ?_
      obtain ⟨h1, h2⟩ := some2 h
      subst h1
      subst h2
      exact ret rfl (by exact Nat.le_of_ble_eq_true rfl) (by exact Nat.le_of_ble_eq_true rfl) dX3_play_32
    · replace h := ite_t hc5 h
      refine x_iconst B (pc' := 23) 0 dX3_play_22 (by decide) rfl ?_
      obtain ⟨h1, h2⟩ := some2 h
      subst h1
      subst h2
      exact ret rfl (by exact Nat.le_of_ble_eq_true rfl) (by exact Nat.le_of_ble_eq_true rfl) dX3_play_23
  unfold f_X3_play at h
  refine x_aload_n B (pc' := 1) 0 dX3_play_0 rfl rfl rfl ?_
  refine x_aload_n B (pc' := 2) 0 dX3_play_1 rfl rfl rfl ?_
  refine m_ref1 B (pc' := 5) wf_RX3_7 dX3_play_2 rfl ?_
  refine x_iconst B (pc' := 6) 5 dX3_play_5 (by decide) rfl ?_
  obtain ⟨hi1, h⟩ := gd_elim h
  refine m_ald1 B (pc' := 7) hi1 dX3_play_6 rfl ?_
  refine x_iconst B (pc' := 8) (-1) dX3_play_7 (by decide) rfl ?_
  refine x_icmp_ne B 15 11 dX3_play_8 (by decide) rfl (fun hc2 => ?_) (fun hc2 => ?_)
  · replace h := ite_f hc2 h
    refine x_iconst B (pc' := 16) 0 dX3_play_15 (by decide) rfl ?_
    exact h16  _ _ h
  · replace h := ite_t hc2 h
    refine x_iconst B (pc' := 12) 1 dX3_play_11 (by decide) rfl ?_
    refine x_goto B (pc' := 16) dX3_play_12 (by decide) ?_
    exact h16  _ _ h
def c_X3_back_30 (x1 : Int32) (t0 : Int32) (S : MO) : Option (Int32 × MO) :=
  bd2 (f_X3_holds t0 S) (fun (r5 : Int32) (S6 : MO) => if r5 = 0 then (some ((0 : Int32), S6)) else (bd (f_X3_save S6) (fun (S8 : MO) => bd2 (f_X3_goesBack x1 S8) (fun (r9 : Int32) (S10 : MO) => some (r9, S10)))))
def f_X3_back (p0 : Int32) (S : MO) : Option (Int32 × MO) :=
  bd (f_X3_in p0 (1 : Int32) (9 : Int32)) (fun (r1 : Int32) => if r1 = 0 then (c_X3_back_30 p0 (1 : Int32) S) else (gd (5 : Int32) 1085 (if ((S.2.1 1) (Int32.toNatClampNeg (5 : Int32))) = ((-1) : Int32) then (c_X3_back_30 p0 (2 : Int32) S) else (c_X3_back_30 p0 (0 : Int32) S))))
abbrev rm_X3_back : Room := { frames := 2, cells := 0, slots := 0, locals := 44 }
theorem np_X3_back : yX3_back.cls ≠ "java/lang/invoke/MethodHandle" ∧ yX3_back.cls ≠ "java/lang/invoke/VarHandle" ∧ (parseMethodDescriptor yX3_back.desc).map (fun d => d.parameters.length) = some 1 := by decide +kernel
set_option maxHeartbeats 4000000 in
set_option maxRecDepth 100000 in
theorem k_X3_back (l : Launch) (D : va_G) (cs : CS) (a : Nat → Nat) (p0 : Int32) (S : MO) {r9 : Int32} {S9 : MO} (h : f_X3_back p0 S = some (r9, S9)) : MI l D cs yX3_back cX3_back 2 .int rm_X3_back [.ref (a 0), .int p0] (wM cs.1 a S) r9 (wM cs.1 a S9) := by
  refine MI_of (by decide) (Nat.le_of_ble_eq_true rfl) ?_
  rintro Γ rfl rfl rfl B ret
  show X Γ 2 0 0 0 [(0, .ref (a 0)), (1, .int p0)] [] (wM Γ.cs.1 a S)
  have h30 : ∀ (x1 : Int32) (t0 : Int32) (S : MO), c_X3_back_30  x1 t0 S = some (r9, S9) → X Γ 2 0 0 30 [(0, .ref (a 0)), (1, .int x1)] [.int t0, .ref (a 0)] (wM Γ.cs.1 a S) := by
    intro  x1 t0 S h
    unfold c_X3_back_30 at h
    obtain ⟨r5, S6, er5, h⟩ := bd2_elim h
    refine x_selfVi B (pc' := 33) [.int t0] (k_X3_holds _ _ _ a t0 S er5) rfl rfl gv_RX3_64 rfl np_X3_holds ⟨Nat.le_of_ble_eq_true rfl, Nat.le_of_ble_eq_true rfl⟩ ⟨by exact Nat.le_of_ble_eq_true rfl, by exact Nat.le_of_ble_eq_true rfl⟩ rfl (Nat.le_of_ble_eq_true rfl) dX3_back_30 rfl ?_
    refine x_if_ne B 38 36 dX3_back_33 (by decide) rfl (fun hc7 => ?_) (fun hc7 => ?_)
    · replace h := ite_f hc7 h
      refine x_aload_n B (pc' := 39) 0 dX3_back_38 rfl rfl rfl ?_
      obtain ⟨S8, eS8, h⟩ := bd_elim h
      refine x_selfVv B (pc' := 42) [] (k_X3_save _ _ _ a S6 eS8) rfl rfl gv_RX3_67 rfl np_X3_save ⟨Nat.le_of_ble_eq_true rfl, Nat.le_of_ble_eq_true rfl⟩ ⟨by exact Nat.le_of_ble_eq_true rfl, by exact Nat.le_of_ble_eq_true rfl⟩ rfl (Nat.le_of_ble_eq_true rfl) dX3_back_39 rfl ?_
      refine x_aload_n B (pc' := 43) 0 dX3_back_42 rfl rfl rfl ?_
      refine x_iload_n B (pc' := 44) 1 dX3_back_43 rfl rfl rfl ?_
      obtain ⟨r9, S10, er9, h⟩ := bd2_elim h
      refine x_selfVi B (pc' := 47) [.int x1] (k_X3_goesBack _ _ _ a x1 S8 er9) rfl rfl gv_RX3_103 rfl np_X3_goesBack ⟨Nat.le_of_ble_eq_true rfl, Nat.le_of_ble_eq_true rfl⟩ ⟨by exact Nat.le_of_ble_eq_true rfl, by exact Nat.le_of_ble_eq_true rfl⟩ rfl (Nat.le_of_ble_eq_true rfl) dX3_back_44 rfl ?_
      obtain ⟨h1, h2⟩ := some2 h
      subst h1
      subst h2
      exact ret rfl (by exact Nat.le_of_ble_eq_true rfl) (by exact Nat.le_of_ble_eq_true rfl) dX3_back_47
    · replace h := ite_t hc7 h
      refine x_iconst B (pc' := 37) 0 dX3_back_36 (by decide) rfl ?_
      obtain ⟨h1, h2⟩ := some2 h
      subst h1
      subst h2
      exact ret rfl (by exact Nat.le_of_ble_eq_true rfl) (by exact Nat.le_of_ble_eq_true rfl) dX3_back_37
  unfold f_X3_back at h
  refine x_aload_n B (pc' := 1) 0 dX3_back_0 rfl rfl rfl ?_
  refine x_iload_n B (pc' := 2) 1 dX3_back_1 rfl rfl rfl ?_
  refine x_iconst B (pc' := 3) 1 dX3_back_2 (by decide) rfl ?_
  refine x_bipush B (pc' := 5) 9 dX3_back_3 (by decide) rfl ?_
  obtain ⟨r1, er1, h⟩ := bd_elim h
  refine x_pureSi B (pc' := 8) [.int p0, .int (1 : Int32), .int (9 : Int32)] (k_X3_in _ _ _ p0 (1 : Int32) (9 : Int32) er1) gv_RX3_20 np_X3_in ⟨Nat.le_of_ble_eq_true rfl, Nat.le_of_ble_eq_true rfl⟩ ⟨by exact Nat.le_of_ble_eq_true rfl, by exact Nat.le_of_ble_eq_true rfl⟩ rfl (Nat.le_of_ble_eq_true rfl) dX3_back_5 rfl ?_
  refine x_if_ne B 15 11 dX3_back_8 (by decide) rfl (fun hc2 => ?_) (fun hc2 => ?_)
  · replace h := ite_f hc2 h
    refine x_aload_n B (pc' := 16) 0 dX3_back_15 rfl rfl rfl ?_
    refine m_ref1 B (pc' := 19) wf_RX3_7 dX3_back_16 rfl ?_
    refine x_iconst B (pc' := 20) 5 dX3_back_19 (by decide) rfl ?_
    obtain ⟨hi3, h⟩ := gd_elim h
    refine m_ald1 B (pc' := 21) hi3 dX3_back_20 rfl ?_
    refine x_iconst B (pc' := 22) (-1) dX3_back_21 (by decide) rfl ?_
    refine x_icmp_ne B 29 25 dX3_back_22 (by decide) rfl (fun hc4 => ?_) (fun hc4 => ?_)
    · replace h := ite_f hc4 h
      refine x_iconst B (pc' := 30) 0 dX3_back_29 (by decide) rfl ?_
      exact h30  _ _ _ h
    · replace h := ite_t hc4 h
      refine x_iconst B (pc' := 26) 2 dX3_back_25 (by decide) rfl ?_
      refine x_goto B (pc' := 30) dX3_back_26 (by decide) ?_
      exact h30  _ _ _ h
  · replace h := ite_t hc2 h
    refine x_iconst B (pc' := 12) 1 dX3_back_11 (by decide) rfl ?_
    refine x_goto B (pc' := 30) dX3_back_12 (by decide) ?_
    exact h30  _ _ _ h
def f_X3_playing (S : MO) : Option (Int32 × MO) :=
  gd (5 : Int32) 1085 (bd2 (f_X3_told ((S.2.1 1) (Int32.toNatClampNeg (5 : Int32))) S) (fun (r2 : Int32) (S3 : MO) => some (r2, S3)))
abbrev rm_X3_playing : Room := { frames := 1, cells := 0, slots := 0, locals := 21 }
theorem np_X3_playing : yX3_playing.cls ≠ "java/lang/invoke/MethodHandle" ∧ yX3_playing.cls ≠ "java/lang/invoke/VarHandle" ∧ (parseMethodDescriptor yX3_playing.desc).map (fun d => d.parameters.length) = some 0 := by decide +kernel
set_option maxHeartbeats 4000000 in
set_option maxRecDepth 100000 in
theorem k_X3_playing (l : Launch) (D : va_G) (cs : CS) (a : Nat → Nat) (S : MO) {r9 : Int32} {S9 : MO} (h : f_X3_playing S = some (r9, S9)) : MI l D cs yX3_playing cX3_playing 1 .int rm_X3_playing [.ref (a 0)] (wM cs.1 a S) r9 (wM cs.1 a S9) := by
  refine MI_of (by decide) (Nat.le_of_ble_eq_true rfl) ?_
  rintro Γ rfl rfl rfl B ret
  show X Γ 1 0 0 0 [(0, .ref (a 0))] [] (wM Γ.cs.1 a S)
  unfold f_X3_playing at h
  refine x_aload_n B (pc' := 1) 0 dX3_playing_0 rfl rfl rfl ?_
  refine x_aload_n B (pc' := 2) 0 dX3_playing_1 rfl rfl rfl ?_
  refine m_ref1 B (pc' := 5) wf_RX3_7 dX3_playing_2 rfl ?_
  refine x_iconst B (pc' := 6) 5 dX3_playing_5 (by decide) rfl ?_
  obtain ⟨hi1, h⟩ := gd_elim h
  refine m_ald1 B (pc' := 7) hi1 dX3_playing_6 rfl ?_
  obtain ⟨r2, S3, er2, h⟩ := bd2_elim h
  refine x_selfVi B (pc' := 10) [.int ((S.2.1 1) (Int32.toNatClampNeg (5 : Int32)))] (k_X3_told _ _ _ a ((S.2.1 1) (Int32.toNatClampNeg (5 : Int32))) S er2) rfl rfl gv_RX3_88 rfl np_X3_told ⟨Nat.le_of_ble_eq_true rfl, Nat.le_of_ble_eq_true rfl⟩ ⟨by exact Nat.le_of_ble_eq_true rfl, by exact Nat.le_of_ble_eq_true rfl⟩ rfl (Nat.le_of_ble_eq_true rfl) dX3_playing_7 rfl ?_
  obtain ⟨h1, h2⟩ := some2 h
  subst h1
  subst h2
  exact ret rfl (by exact Nat.le_of_ble_eq_true rfl) (by exact Nat.le_of_ble_eq_true rfl) dX3_playing_10
def f_X3_place (S : MO) : Option (Int32 × MO) :=
  gd (6 : Int32) 1085 (bd2 (f_X3_told ((S.2.1 1) (Int32.toNatClampNeg (6 : Int32))) S) (fun (r2 : Int32) (S3 : MO) => some (r2, S3)))
abbrev rm_X3_place : Room := { frames := 1, cells := 0, slots := 0, locals := 21 }
theorem np_X3_place : yX3_place.cls ≠ "java/lang/invoke/MethodHandle" ∧ yX3_place.cls ≠ "java/lang/invoke/VarHandle" ∧ (parseMethodDescriptor yX3_place.desc).map (fun d => d.parameters.length) = some 0 := by decide +kernel
set_option maxHeartbeats 4000000 in
set_option maxRecDepth 100000 in
theorem k_X3_place (l : Launch) (D : va_G) (cs : CS) (a : Nat → Nat) (S : MO) {r9 : Int32} {S9 : MO} (h : f_X3_place S = some (r9, S9)) : MI l D cs yX3_place cX3_place 1 .int rm_X3_place [.ref (a 0)] (wM cs.1 a S) r9 (wM cs.1 a S9) := by
  refine MI_of (by decide) (Nat.le_of_ble_eq_true rfl) ?_
  rintro Γ rfl rfl rfl B ret
  show X Γ 1 0 0 0 [(0, .ref (a 0))] [] (wM Γ.cs.1 a S)
  unfold f_X3_place at h
  refine x_aload_n B (pc' := 1) 0 dX3_place_0 rfl rfl rfl ?_
  refine x_aload_n B (pc' := 2) 0 dX3_place_1 rfl rfl rfl ?_
  refine m_ref1 B (pc' := 5) wf_RX3_7 dX3_place_2 rfl ?_
  refine x_bipush B (pc' := 7) 6 dX3_place_5 (by decide) rfl ?_
  obtain ⟨hi1, h⟩ := gd_elim h
  refine m_ald1 B (pc' := 8) hi1 dX3_place_7 rfl ?_
  obtain ⟨r2, S3, er2, h⟩ := bd2_elim h
  refine x_selfVi B (pc' := 11) [.int ((S.2.1 1) (Int32.toNatClampNeg (6 : Int32)))] (k_X3_told _ _ _ a ((S.2.1 1) (Int32.toNatClampNeg (6 : Int32))) S er2) rfl rfl gv_RX3_88 rfl np_X3_told ⟨Nat.le_of_ble_eq_true rfl, Nat.le_of_ble_eq_true rfl⟩ ⟨by exact Nat.le_of_ble_eq_true rfl, by exact Nat.le_of_ble_eq_true rfl⟩ rfl (Nat.le_of_ble_eq_true rfl) dX3_place_8 rfl ?_
  obtain ⟨h1, h2⟩ := some2 h
  subst h1
  subst h2
  exact ret rfl (by exact Nat.le_of_ble_eq_true rfl) (by exact Nat.le_of_ble_eq_true rfl) dX3_place_11
def c_X3_correct_64 (x3 : Int32) (x4 : Int32) (t0 : Int32) (S : MO) : Option (Int32 × MO) :=
  bd2 (f_X3_holds t0 S) (fun (r10 : Int32) (S11 : MO) => if r10 = 0 then (some ((0 : Int32), S11)) else (bd (f_X3_save S11) (fun (S13 : MO) => gd ((59 : Int32) + x4) 1085 (nm (fun (v15 : Int32) => gd ((59 : Int32) + x4) 1085 (nm (fun (S17 : MO) => some (v15, S17)) (S13.1, up2 S13.2.1 1 (upd (S13.2.1 1) (Int32.toNatClampNeg ((59 : Int32) + x4)) x3), S13.2.2))) ((S13.2.1 1) (Int32.toNatClampNeg ((59 : Int32) + x4)))))))
def c_X3_correct_22 (x1 : Int32) (x3 : Int32) (t0 : Int32) (S : MO) : Option (Int32 × MO) :=
  if t0 = ((-1) : Int32) then (c_X3_correct_64 x3 t0 (1 : Int32) S) else (bd (f_X3_isSound x3) (fun (r6 : Int32) => if r6 = 0 then (c_X3_correct_64 x3 t0 (2 : Int32) S) else (gd ((7 : Int32) + x1) 1085 (if ((S.2.1 1) (Int32.toNatClampNeg ((7 : Int32) + x1))) = (1 : Int32) then (c_X3_correct_64 x3 t0 (3 : Int32) S) else (c_X3_correct_64 x3 t0 (0 : Int32) S)))))
def c_X3_correct_21 (x1 : Int32) (x3 : Int32) (S : MO) : Option (Int32 × MO) :=
  c_X3_correct_22 x1 x3 ((-1) : Int32) S
def f_X3_correct (p0 : Int32) (p1 : Int32) (p2 : Int32) (S : MO) : Option (Int32 × MO) :=
  bd (f_X3_isRecording p0 S) (fun (r1 : Int32) => if r1 = 0 then (c_X3_correct_21 p0 p2 S) else (if p1 < 0 then (c_X3_correct_21 p0 p2 S) else (bd (f_X3_cellAt p0 p1 S) (fun (r4 : Int32) => c_X3_correct_22 p0 p2 r4 S))))
abbrev rm_X3_correct : Room := { frames := 2, cells := 0, slots := 0, locals := 46 }
theorem np_X3_correct : yX3_correct.cls ≠ "java/lang/invoke/MethodHandle" ∧ yX3_correct.cls ≠ "java/lang/invoke/VarHandle" ∧ (parseMethodDescriptor yX3_correct.desc).map (fun d => d.parameters.length) = some 3 := by decide +kernel
set_option maxHeartbeats 4000000 in
set_option maxRecDepth 100000 in
theorem k_X3_correct (l : Launch) (D : va_G) (cs : CS) (a : Nat → Nat) (p0 : Int32) (p1 : Int32) (p2 : Int32) (S : MO) {r9 : Int32} {S9 : MO} (h : f_X3_correct p0 p1 p2 S = some (r9, S9)) : MI l D cs yX3_correct cX3_correct 6 .int rm_X3_correct [.ref (a 0), .int p0, .int p1, .int p2] (wM cs.1 a S) r9 (wM cs.1 a S9) := by
  refine MI_of (by decide) (Nat.le_of_ble_eq_true rfl) ?_
  rintro Γ rfl rfl rfl B ret
  show X Γ 6 0 0 0 [(0, .ref (a 0)), (1, .int p0), (2, .int p1), (3, .int p2)] [] (wM Γ.cs.1 a S)
  have h64 : ∀ (x3 : Int32) (x4 : Int32) (t0 : Int32) (S : MO), c_X3_correct_64  x3 x4 t0 S = some (r9, S9) → X Γ 6 0 0 64 [(0, .ref (a 0)), (3, .int x3), (4, .int x4)] [.int t0, .ref (a 0)] (wM Γ.cs.1 a S) := by
    intro  x3 x4 t0 S h
    unfold c_X3_correct_64 at h
    obtain ⟨r10, S11, er10, h⟩ := bd2_elim h
    refine x_selfVi B (pc' := 67) [.int t0] (k_X3_holds _ _ _ a t0 S er10) rfl rfl gv_RX3_64 rfl np_X3_holds ⟨Nat.le_of_ble_eq_true rfl, Nat.le_of_ble_eq_true rfl⟩ ⟨by exact Nat.le_of_ble_eq_true rfl, by exact Nat.le_of_ble_eq_true rfl⟩ rfl (Nat.le_of_ble_eq_true rfl) dX3_correct_64 rfl ?_
    refine x_if_ne B 72 70 dX3_correct_67 (by decide) rfl (fun hc12 => ?_) (fun hc12 => ?_)
    · replace h := ite_f hc12 h
      refine x_aload_n B (pc' := 73) 0 dX3_correct_72 rfl rfl rfl ?_
      obtain ⟨S13, eS13, h⟩ := bd_elim h
      refine x_selfVv B (pc' := 76) [] (k_X3_save _ _ _ a S11 eS13) rfl rfl gv_RX3_67 rfl np_X3_save ⟨Nat.le_of_ble_eq_true rfl, Nat.le_of_ble_eq_true rfl⟩ ⟨by exact Nat.le_of_ble_eq_true rfl, by exact Nat.le_of_ble_eq_true rfl⟩ rfl (Nat.le_of_ble_eq_true rfl) dX3_correct_73 rfl ?_
      refine x_aload_n B (pc' := 77) 0 dX3_correct_76 rfl rfl rfl ?_
      refine m_ref1 B (pc' := 80) wf_RX3_7 dX3_correct_77 rfl ?_
      refine x_bipush B (pc' := 82) 59 dX3_correct_80 (by decide) rfl ?_
      refine x_iload B (pc' := 84) 2 dX3_correct_82 rfl rfl ?_
      refine x_iadd B (pc' := 85) dX3_correct_84 rfl ?_
      obtain ⟨hi14, h⟩ := gd_elim h
      refine m_ald1 B (pc' := 86) hi14 dX3_correct_85 rfl ?_
      obtain ⟨v15, ev15, h⟩ := nm_elim h
      refine x_topi ev15 ?_
      refine x_istore B (pc' := 88) [1, 2, 3, 0] [(0, .ref (a 0)), (3, .int x3), (4, .int x4), (5, .int v15)] dX3_correct_86 (by decide) rfl rfl ?_
      refine x_aload_n B (pc' := 89) 0 dX3_correct_88 rfl rfl rfl ?_
      refine m_ref1 B (pc' := 92) wf_RX3_7 dX3_correct_89 rfl ?_
      refine x_bipush B (pc' := 94) 59 dX3_correct_92 (by decide) rfl ?_
      refine x_iload B (pc' := 96) 2 dX3_correct_94 rfl rfl ?_
      refine x_iadd B (pc' := 97) dX3_correct_96 rfl ?_
      refine x_iload_n B (pc' := 98) 1 dX3_correct_97 rfl rfl rfl ?_
      obtain ⟨hi16, h⟩ := gd_elim h
      obtain ⟨S17, eS17, h⟩ := nm_elim h
      refine m_ast1 B (pc' := 99) hi16 dX3_correct_98 rfl ?_
      refine m_wd eS17 ?_
      refine x_iload B (pc' := 101) 3 dX3_correct_99 rfl rfl ?_
      obtain ⟨h1, h2⟩ := some2 h
      subst h1
      subst h2
      exact ret rfl (by exact Nat.le_of_ble_eq_true rfl) (by exact Nat.le_of_ble_eq_true rfl) dX3_correct_101
    · replace h := ite_t hc12 h
      refine x_iconst B (pc' := 71) 0 dX3_correct_70 (by decide) rfl ?_
      obtain ⟨h1, h2⟩ := some2 h
      subst h1
      subst h2
      exact ret rfl (by exact Nat.le_of_ble_eq_true rfl) (by exact Nat.le_of_ble_eq_true rfl) dX3_correct_71
  have h22 : ∀ (x1 : Int32) (x3 : Int32) (t0 : Int32) (S : MO), c_X3_correct_22  x1 x3 t0 S = some (r9, S9) → X Γ 6 0 0 22 [(0, .ref (a 0)), (1, .int x1), (3, .int x3)] [.int t0] (wM Γ.cs.1 a S) := by
    intro  x1 x3 t0 S h
    unfold c_X3_correct_22 at h
    refine x_istore B (pc' := 24) [1, 2, 3, 0] [(0, .ref (a 0)), (1, .int x1), (3, .int x3), (4, .int t0)] dX3_correct_22 (by decide) rfl rfl ?_
    refine x_aload_n B (pc' := 25) 0 dX3_correct_24 rfl rfl rfl ?_
    refine x_iload B (pc' := 27) 3 dX3_correct_25 rfl rfl ?_
    refine x_iconst B (pc' := 28) (-1) dX3_correct_27 (by decide) rfl ?_
    refine x_icmp_ne B 35 31 dX3_correct_28 (by decide) rfl (fun hc5 => ?_) (fun hc5 => ?_)
    · replace h := ite_f hc5 h
      refine x_iload_n B (pc' := 36) 2 dX3_correct_35 rfl rfl rfl ?_
      obtain ⟨r6, er6, h⟩ := bd_elim h
      refine x_pureSi B (pc' := 39) [.int x3] (k_X3_isSound _ _ _ x3 er6) gv_RX3_73 np_X3_isSound ⟨Nat.le_of_ble_eq_true rfl, Nat.le_of_ble_eq_true rfl⟩ ⟨by exact Nat.le_of_ble_eq_true rfl, by exact Nat.le_of_ble_eq_true rfl⟩ rfl (Nat.le_of_ble_eq_true rfl) dX3_correct_36 rfl ?_
      refine x_if_ne B 46 42 dX3_correct_39 (by decide) rfl (fun hc7 => ?_) (fun hc7 => ?_)
      · replace h := ite_f hc7 h
        refine x_aload_n B (pc' := 47) 0 dX3_correct_46 rfl rfl rfl ?_
        refine m_ref1 B (pc' := 50) wf_RX3_7 dX3_correct_47 rfl ?_
        refine x_bipush B (pc' := 52) 7 dX3_correct_50 (by decide) rfl ?_
        refine x_iload_n B (pc' := 53) 1 dX3_correct_52 rfl rfl rfl ?_
        refine x_iadd B (pc' := 54) dX3_correct_53 rfl ?_
        obtain ⟨hi8, h⟩ := gd_elim h
        refine m_ald1 B (pc' := 55) hi8 dX3_correct_54 rfl ?_
        refine x_iconst B (pc' := 56) 1 dX3_correct_55 (by decide) rfl ?_
        refine x_icmp_ne B 63 59 dX3_correct_56 (by decide) rfl (fun hc9 => ?_) (fun hc9 => ?_)
        · replace h := ite_f hc9 h
          refine x_iconst B (pc' := 64) 0 dX3_correct_63 (by decide) rfl ?_
          refine x_lv [0, 2, 3] (lv' := [(0, .ref (a 0)), (3, .int x3), (4, .int t0)]) rfl ?_
          exact h64  _ _ _ _ h
        · replace h := ite_t hc9 h
          refine x_iconst B (pc' := 60) 3 dX3_correct_59 (by decide) rfl ?_
          refine x_goto B (pc' := 64) dX3_correct_60 (by decide) ?_
          refine x_lv [0, 2, 3] (lv' := [(0, .ref (a 0)), (3, .int x3), (4, .int t0)]) rfl ?_
          exact h64  _ _ _ _ h
      · replace h := ite_t hc7 h
        refine x_iconst B (pc' := 43) 2 dX3_correct_42 (by decide) rfl ?_
        refine x_goto B (pc' := 64) dX3_correct_43 (by decide) ?_
        refine x_lv [0, 2, 3] (lv' := [(0, .ref (a 0)), (3, .int x3), (4, .int t0)]) rfl ?_
        exact h64  _ _ _ _ h
    · replace h := ite_t hc5 h
      refine x_iconst B (pc' := 32) 1 dX3_correct_31 (by decide) rfl ?_
      refine x_goto B (pc' := 64) dX3_correct_32 (by decide) ?_
      refine x_lv [0, 2, 3] (lv' := [(0, .ref (a 0)), (3, .int x3), (4, .int t0)]) rfl ?_
      exact h64  _ _ _ _ h
  have h21 : ∀ (x1 : Int32) (x3 : Int32) (S : MO), c_X3_correct_21  x1 x3 S = some (r9, S9) → X Γ 6 0 0 21 [(0, .ref (a 0)), (1, .int x1), (3, .int x3)] [] (wM Γ.cs.1 a S) := by
    intro  x1 x3 S h
    unfold c_X3_correct_21 at h
    refine x_iconst B (pc' := 22) (-1) dX3_correct_21 (by decide) rfl ?_
    exact h22  _ _ _ _ h
  unfold f_X3_correct at h
  refine x_aload_n B (pc' := 1) 0 dX3_correct_0 rfl rfl rfl ?_
  refine x_iload_n B (pc' := 2) 1 dX3_correct_1 rfl rfl rfl ?_
  obtain ⟨r1, er1, h⟩ := bd_elim h
  refine x_selfVi B (pc' := 5) [.int p0] (k_X3_isRecording _ _ _ a p0 S er1) rfl rfl gv_RX3_82 rfl np_X3_isRecording ⟨Nat.le_of_ble_eq_true rfl, Nat.le_of_ble_eq_true rfl⟩ ⟨by exact Nat.le_of_ble_eq_true rfl, by exact Nat.le_of_ble_eq_true rfl⟩ rfl (Nat.le_of_ble_eq_true rfl) dX3_correct_2 rfl ?_
  refine x_if_eq B 21 8 dX3_correct_5 (by decide) rfl (fun hc2 => ?_) (fun hc2 => ?_)
  · replace h := ite_t hc2 h
    refine x_lv [0, 1, 3] (lv' := [(0, .ref (a 0)), (1, .int p0), (3, .int p2)]) rfl ?_
    exact h21  _ _ _ h
  · replace h := ite_f hc2 h
    refine x_iload_n B (pc' := 9) 2 dX3_correct_8 rfl rfl rfl ?_
    refine x_if_lt B 21 12 dX3_correct_9 (by decide) rfl (fun hc3 => ?_) (fun hc3 => ?_)
    · replace h := ite_t hc3 h
      refine x_lv [0, 1, 3] (lv' := [(0, .ref (a 0)), (1, .int p0), (3, .int p2)]) rfl ?_
      exact h21  _ _ _ h
    · replace h := ite_f hc3 h
      refine x_aload_n B (pc' := 13) 0 dX3_correct_12 rfl rfl rfl ?_
      refine x_iload_n B (pc' := 14) 1 dX3_correct_13 rfl rfl rfl ?_
      refine x_iload_n B (pc' := 15) 2 dX3_correct_14 rfl rfl rfl ?_
      obtain ⟨r4, er4, h⟩ := bd_elim h
      refine x_selfVi B (pc' := 18) [.int p0, .int p1] (k_X3_cellAt _ _ _ a p0 p1 S er4) rfl rfl gv_RX3_49 rfl np_X3_cellAt ⟨Nat.le_of_ble_eq_true rfl, Nat.le_of_ble_eq_true rfl⟩ ⟨by exact Nat.le_of_ble_eq_true rfl, by exact Nat.le_of_ble_eq_true rfl⟩ rfl (Nat.le_of_ble_eq_true rfl) dX3_correct_15 rfl ?_
      refine x_goto B (pc' := 22) dX3_correct_18 (by decide) ?_
      refine x_lv [0, 1, 3] (lv' := [(0, .ref (a 0)), (1, .int p0), (3, .int p2)]) rfl ?_
      exact h22  _ _ _ _ h
def f_X3_carbon (p0 : Int32) (p1 : Int32) (S : MO) : Option (Int32 × MO) :=
  bd2 (f_X3_ofPlace p0 p1 (91 : Int32) S) (fun (r1 : Int32) (S2 : MO) => some (r1, S2))
abbrev rm_X3_carbon : Room := { frames := 3, cells := 0, slots := 0, locals := 70 }
theorem np_X3_carbon : yX3_carbon.cls ≠ "java/lang/invoke/MethodHandle" ∧ yX3_carbon.cls ≠ "java/lang/invoke/VarHandle" ∧ (parseMethodDescriptor yX3_carbon.desc).map (fun d => d.parameters.length) = some 2 := by decide +kernel
set_option maxHeartbeats 4000000 in
set_option maxRecDepth 100000 in
theorem k_X3_carbon (l : Launch) (D : va_G) (cs : CS) (a : Nat → Nat) (p0 : Int32) (p1 : Int32) (S : MO) {r9 : Int32} {S9 : MO} (h : f_X3_carbon p0 p1 S = some (r9, S9)) : MI l D cs yX3_carbon cX3_carbon 3 .int rm_X3_carbon [.ref (a 0), .int p0, .int p1] (wM cs.1 a S) r9 (wM cs.1 a S9) := by
  refine MI_of (by decide) (Nat.le_of_ble_eq_true rfl) ?_
  rintro Γ rfl rfl rfl B ret
  show X Γ 3 0 0 0 [(0, .ref (a 0)), (1, .int p0), (2, .int p1)] [] (wM Γ.cs.1 a S)
  unfold f_X3_carbon at h
  refine x_aload_n B (pc' := 1) 0 dX3_carbon_0 rfl rfl rfl ?_
  refine x_iload_n B (pc' := 2) 1 dX3_carbon_1 rfl rfl rfl ?_
  refine x_iload_n B (pc' := 3) 2 dX3_carbon_2 rfl rfl rfl ?_
  refine x_bipush B (pc' := 5) 91 dX3_carbon_3 (by decide) rfl ?_
  obtain ⟨r1, S2, er1, h⟩ := bd2_elim h
  refine x_selfVi B (pc' := 8) [.int p0, .int p1, .int (91 : Int32)] (k_X3_ofPlace _ _ _ a p0 p1 (91 : Int32) S er1) rfl rfl gv_RX3_91 rfl np_X3_ofPlace ⟨Nat.le_of_ble_eq_true rfl, Nat.le_of_ble_eq_true rfl⟩ ⟨by exact Nat.le_of_ble_eq_true rfl, by exact Nat.le_of_ble_eq_true rfl⟩ rfl (Nat.le_of_ble_eq_true rfl) dX3_carbon_5 rfl ?_
  obtain ⟨h1, h2⟩ := some2 h
  subst h1
  subst h2
  exact ret rfl (by exact Nat.le_of_ble_eq_true rfl) (by exact Nat.le_of_ble_eq_true rfl) dX3_carbon_8
def b_X3_correctedCells_4 (S : MO) (K4 : Int32 → Int32 → Option Int32) (x1 : Int32) (x2 : Int32) : Option Int32 :=
  if (32 : Int32) ≤ x2 then (some x1) else (gd ((27 : Int32) + x2) 1085 (if ((S.2.1 1) (Int32.toNatClampNeg ((27 : Int32) + x2))) = ((-1) : Int32) then (nm (fun (v4 : Int32) => nm (fun (v5 : Int32) => K4 v4 v5) (x2 + 1)) (x1 + (0 : Int32))) else (gd ((59 : Int32) + x2) 1085 (gd ((91 : Int32) + x2) 1085 (if ((S.2.1 1) (Int32.toNatClampNeg ((59 : Int32) + x2))) = ((S.2.1 1) (Int32.toNatClampNeg ((91 : Int32) + x2))) then (nm (fun (v9 : Int32) => nm (fun (v10 : Int32) => K4 v9 v10) (x2 + 1)) (x1 + (0 : Int32))) else (nm (fun (v11 : Int32) => nm (fun (v12 : Int32) => K4 v11 v12) (x2 + 1)) (x1 + (1 : Int32))))))))
def f_X3_correctedCells (S : MO) : Option Int32 :=
  lpf2 (b_X3_correctedCells_4 S) FU (0 : Int32) (0 : Int32)
abbrev rm_X3_correctedCells : Room := { frames := 0, cells := 0, slots := 0, locals := 0 }
theorem np_X3_correctedCells : yX3_correctedCells.cls ≠ "java/lang/invoke/MethodHandle" ∧ yX3_correctedCells.cls ≠ "java/lang/invoke/VarHandle" ∧ (parseMethodDescriptor yX3_correctedCells.desc).map (fun d => d.parameters.length) = some 0 := by decide +kernel
set_option maxHeartbeats 4000000 in
set_option maxRecDepth 100000 in
theorem k_X3_correctedCells (l : Launch) (D : va_G) (cs : CS) (a : Nat → Nat) (S : MO) {r9 : Int32} (h : f_X3_correctedCells S = some r9) : MI l D cs yX3_correctedCells cX3_correctedCells 3 .int rm_X3_correctedCells [.ref (a 0)] (wM cs.1 a S) r9 (wM cs.1 a S) := by
  refine MI_of (by decide) (Nat.le_of_ble_eq_true rfl) ?_
  rintro Γ rfl rfl rfl B ret
  show X Γ 3 0 0 0 [(0, .ref (a 0))] [] (wM Γ.cs.1 a S)
  have h4 : ∀ (n9 : Nat) (x1 : Int32) (x2 : Int32), lpf2 (b_X3_correctedCells_4 S) n9 x1 x2 = some r9 → X Γ 3 0 0 4 [(0, .ref (a 0)), (1, .int x1), (2, .int x2)] [] (wM Γ.cs.1 a S) := by
    refine lpf2_ind (fun K4 hK4 x1 x2 h => ?_)
    unfold b_X3_correctedCells_4 at h
    refine x_iload_n B (pc' := 5) 2 dX3_correctedCells_4 rfl rfl rfl ?_
    refine x_bipush B (pc' := 7) 32 dX3_correctedCells_5 (by decide) rfl ?_
    refine x_icmp_ge B 58 10 dX3_correctedCells_7 (by decide) rfl (fun hc1 => ?_) (fun hc1 => ?_)
    · replace h := ite_t hc1 h
      refine x_iload_n B (pc' := 59) 1 dX3_correctedCells_58 rfl rfl rfl ?_
      have h1 := Option.some.inj h
      subst h1
      exact ret rfl (by exact Nat.le_of_ble_eq_true rfl) (by exact Nat.le_of_ble_eq_true rfl) dX3_correctedCells_59
    · replace h := ite_f hc1 h
      refine x_iload_n B (pc' := 11) 1 dX3_correctedCells_10 rfl rfl rfl ?_
      refine x_aload_n B (pc' := 12) 0 dX3_correctedCells_11 rfl rfl rfl ?_
      refine m_ref1 B (pc' := 15) wf_RX3_7 dX3_correctedCells_12 rfl ?_
      refine x_bipush B (pc' := 17) 27 dX3_correctedCells_15 (by decide) rfl ?_
      refine x_iload_n B (pc' := 18) 2 dX3_correctedCells_17 rfl rfl rfl ?_
      refine x_iadd B (pc' := 19) dX3_correctedCells_18 rfl ?_
      obtain ⟨hi2, h⟩ := gd_elim h
      refine m_ald1 B (pc' := 20) hi2 dX3_correctedCells_19 rfl ?_
      refine x_iconst B (pc' := 21) (-1) dX3_correctedCells_20 (by decide) rfl ?_
      refine x_icmp_eq B 49 24 dX3_correctedCells_21 (by decide) rfl (fun hc3 => ?_) (fun hc3 => ?_)
      · replace h := ite_t hc3 h
        refine x_iconst B (pc' := 50) 0 dX3_correctedCells_49 (by decide) rfl ?_
        refine x_iadd B (pc' := 51) dX3_correctedCells_50 rfl ?_
        obtain ⟨v4, ev4, h⟩ := nm_elim h
        refine x_topi ev4 ?_
        refine x_istore_n B (pc' := 52) [1, 0, 2] [(0, .ref (a 0)), (1, .int v4), (2, .int x2)] dX3_correctedCells_51 rfl (by decide) rfl rfl ?_
        obtain ⟨v5, ev5, h⟩ := nm_elim h
        refine x_iinc B (pc' := 55) v5 2 [1, 2, 0] [(0, .ref (a 0)), (1, .int v4), (2, .int v5)] dX3_correctedCells_52 rfl (by rw [ev5]; rfl) (by decide) rfl rfl ?_
        refine x_goto B (pc' := 4) dX3_correctedCells_55 (by decide) ?_
        exact hK4 _ _ h
      · replace h := ite_f hc3 h
        refine x_aload_n B (pc' := 25) 0 dX3_correctedCells_24 rfl rfl rfl ?_
        refine m_ref1 B (pc' := 28) wf_RX3_7 dX3_correctedCells_25 rfl ?_
        refine x_bipush B (pc' := 30) 59 dX3_correctedCells_28 (by decide) rfl ?_
        refine x_iload_n B (pc' := 31) 2 dX3_correctedCells_30 rfl rfl rfl ?_
        refine x_iadd B (pc' := 32) dX3_correctedCells_31 rfl ?_
        obtain ⟨hi6, h⟩ := gd_elim h
        refine m_ald1 B (pc' := 33) hi6 dX3_correctedCells_32 rfl ?_
        refine x_aload_n B (pc' := 34) 0 dX3_correctedCells_33 rfl rfl rfl ?_
        refine m_ref1 B (pc' := 37) wf_RX3_7 dX3_correctedCells_34 rfl ?_
        refine x_bipush B (pc' := 39) 91 dX3_correctedCells_37 (by decide) rfl ?_
        refine x_iload_n B (pc' := 40) 2 dX3_correctedCells_39 rfl rfl rfl ?_
        refine x_iadd B (pc' := 41) dX3_correctedCells_40 rfl ?_
        obtain ⟨hi7, h⟩ := gd_elim h
        refine m_ald1 B (pc' := 42) hi7 dX3_correctedCells_41 rfl ?_
        refine x_icmp_eq B 49 45 dX3_correctedCells_42 (by decide) rfl (fun hc8 => ?_) (fun hc8 => ?_)
        · replace h := ite_t hc8 h
          refine x_iconst B (pc' := 50) 0 dX3_correctedCells_49 (by decide) rfl ?_
          refine x_iadd B (pc' := 51) dX3_correctedCells_50 rfl ?_
          obtain ⟨v9, ev9, h⟩ := nm_elim h
          refine x_topi ev9 ?_
          refine x_istore_n B (pc' := 52) [1, 0, 2] [(0, .ref (a 0)), (1, .int v9), (2, .int x2)] dX3_correctedCells_51 rfl (by decide) rfl rfl ?_
          obtain ⟨v10, ev10, h⟩ := nm_elim h
          refine x_iinc B (pc' := 55) v10 2 [1, 2, 0] [(0, .ref (a 0)), (1, .int v9), (2, .int v10)] dX3_correctedCells_52 rfl (by rw [ev10]; rfl) (by decide) rfl rfl ?_
          refine x_goto B (pc' := 4) dX3_correctedCells_55 (by decide) ?_
          exact hK4 _ _ h
        · replace h := ite_f hc8 h
          refine x_iconst B (pc' := 46) 1 dX3_correctedCells_45 (by decide) rfl ?_
          refine x_goto B (pc' := 50) dX3_correctedCells_46 (by decide) ?_
          refine x_iadd B (pc' := 51) dX3_correctedCells_50 rfl ?_
          obtain ⟨v11, ev11, h⟩ := nm_elim h
          refine x_topi ev11 ?_
          refine x_istore_n B (pc' := 52) [1, 0, 2] [(0, .ref (a 0)), (1, .int v11), (2, .int x2)] dX3_correctedCells_51 rfl (by decide) rfl rfl ?_
          obtain ⟨v12, ev12, h⟩ := nm_elim h
          refine x_iinc B (pc' := 55) v12 2 [1, 2, 0] [(0, .ref (a 0)), (1, .int v11), (2, .int v12)] dX3_correctedCells_52 rfl (by rw [ev12]; rfl) (by decide) rfl rfl ?_
          refine x_goto B (pc' := 4) dX3_correctedCells_55 (by decide) ?_
          exact hK4 _ _ h
  unfold f_X3_correctedCells at h
  refine x_iconst B (pc' := 1) 0 dX3_correctedCells_0 (by decide) rfl ?_
  refine x_istore_n B (pc' := 2) [1, 0] [(0, .ref (a 0)), (1, .int (0 : Int32))] dX3_correctedCells_1 rfl (by decide) rfl rfl ?_
  refine x_iconst B (pc' := 3) 0 dX3_correctedCells_2 (by decide) rfl ?_
  refine x_istore_n B (pc' := 4) [1, 2, 0] [(0, .ref (a 0)), (1, .int (0 : Int32)), (2, .int (0 : Int32))] dX3_correctedCells_3 rfl (by decide) rfl rfl ?_
  exact h4  _ _ _ h
def f_X3_corrected (S : MO) : Option (Int32 × MO) :=
  bd (f_X3_correctedCells S) (fun (r1 : Int32) => bd2 (f_X3_told r1 S) (fun (r2 : Int32) (S3 : MO) => some (r2, S3)))
abbrev rm_X3_corrected : Room := { frames := 1, cells := 0, slots := 0, locals := 22 }
theorem np_X3_corrected : yX3_corrected.cls ≠ "java/lang/invoke/MethodHandle" ∧ yX3_corrected.cls ≠ "java/lang/invoke/VarHandle" ∧ (parseMethodDescriptor yX3_corrected.desc).map (fun d => d.parameters.length) = some 0 := by decide +kernel
set_option maxHeartbeats 4000000 in
set_option maxRecDepth 100000 in
theorem k_X3_corrected (l : Launch) (D : va_G) (cs : CS) (a : Nat → Nat) (S : MO) {r9 : Int32} {S9 : MO} (h : f_X3_corrected S = some (r9, S9)) : MI l D cs yX3_corrected cX3_corrected 1 .int rm_X3_corrected [.ref (a 0)] (wM cs.1 a S) r9 (wM cs.1 a S9) := by
  refine MI_of (by decide) (Nat.le_of_ble_eq_true rfl) ?_
  rintro Γ rfl rfl rfl B ret
  show X Γ 1 0 0 0 [(0, .ref (a 0))] [] (wM Γ.cs.1 a S)
  unfold f_X3_corrected at h
  refine x_aload_n B (pc' := 1) 0 dX3_corrected_0 rfl rfl rfl ?_
  refine x_aload_n B (pc' := 2) 0 dX3_corrected_1 rfl rfl rfl ?_
  obtain ⟨r1, er1, h⟩ := bd_elim h
  refine x_selfVi B (pc' := 5) [] (k_X3_correctedCells _ _ _ a S er1) rfl rfl gv_RX3_106 rfl np_X3_correctedCells ⟨Nat.le_of_ble_eq_true rfl, Nat.le_of_ble_eq_true rfl⟩ ⟨by exact Nat.le_of_ble_eq_true rfl, by exact Nat.le_of_ble_eq_true rfl⟩ rfl (Nat.le_of_ble_eq_true rfl) dX3_corrected_2 rfl ?_
  obtain ⟨r2, S3, er2, h⟩ := bd2_elim h
  refine x_selfVi B (pc' := 8) [.int r1] (k_X3_told _ _ _ a r1 S er2) rfl rfl gv_RX3_88 rfl np_X3_told ⟨Nat.le_of_ble_eq_true rfl, Nat.le_of_ble_eq_true rfl⟩ ⟨by exact Nat.le_of_ble_eq_true rfl, by exact Nat.le_of_ble_eq_true rfl⟩ rfl (Nat.le_of_ble_eq_true rfl) dX3_corrected_5 rfl ?_
  obtain ⟨h1, h2⟩ := some2 h
  subst h1
  subst h2
  exact ret rfl (by exact Nat.le_of_ble_eq_true rfl) (by exact Nat.le_of_ble_eq_true rfl) dX3_corrected_8
def f_X3_room (S : MO) : Option (Int32 × MO) :=
  bd (f_X3_writable S) (fun (r1 : Int32) => bd2 (f_X3_told r1 S) (fun (r2 : Int32) (S3 : MO) => some (r2, S3)))
abbrev rm_X3_room : Room := { frames := 2, cells := 0, slots := 0, locals := 44 }
theorem np_X3_room : yX3_room.cls ≠ "java/lang/invoke/MethodHandle" ∧ yX3_room.cls ≠ "java/lang/invoke/VarHandle" ∧ (parseMethodDescriptor yX3_room.desc).map (fun d => d.parameters.length) = some 0 := by decide +kernel
set_option maxHeartbeats 4000000 in
set_option maxRecDepth 100000 in
theorem k_X3_room (l : Launch) (D : va_G) (cs : CS) (a : Nat → Nat) (S : MO) {r9 : Int32} {S9 : MO} (h : f_X3_room S = some (r9, S9)) : MI l D cs yX3_room cX3_room 1 .int rm_X3_room [.ref (a 0)] (wM cs.1 a S) r9 (wM cs.1 a S9) := by
  refine MI_of (by decide) (Nat.le_of_ble_eq_true rfl) ?_
  rintro Γ rfl rfl rfl B ret
  show X Γ 1 0 0 0 [(0, .ref (a 0))] [] (wM Γ.cs.1 a S)
  unfold f_X3_room at h
  refine x_aload_n B (pc' := 1) 0 dX3_room_0 rfl rfl rfl ?_
  refine x_aload_n B (pc' := 2) 0 dX3_room_1 rfl rfl rfl ?_
  obtain ⟨r1, er1, h⟩ := bd_elim h
  refine x_selfVi B (pc' := 5) [] (k_X3_writable _ _ _ a S er1) rfl rfl gv_RX3_46 rfl np_X3_writable ⟨Nat.le_of_ble_eq_true rfl, Nat.le_of_ble_eq_true rfl⟩ ⟨by exact Nat.le_of_ble_eq_true rfl, by exact Nat.le_of_ble_eq_true rfl⟩ rfl (Nat.le_of_ble_eq_true rfl) dX3_room_2 rfl ?_
  obtain ⟨r2, S3, er2, h⟩ := bd2_elim h
  refine x_selfVi B (pc' := 8) [.int r1] (k_X3_told _ _ _ a r1 S er2) rfl rfl gv_RX3_88 rfl np_X3_told ⟨Nat.le_of_ble_eq_true rfl, Nat.le_of_ble_eq_true rfl⟩ ⟨by exact Nat.le_of_ble_eq_true rfl, by exact Nat.le_of_ble_eq_true rfl⟩ rfl (Nat.le_of_ble_eq_true rfl) dX3_room_5 rfl ?_
  obtain ⟨h1, h2⟩ := some2 h
  subst h1
  subst h2
  exact ret rfl (by exact Nat.le_of_ble_eq_true rfl) (by exact Nat.le_of_ble_eq_true rfl) dX3_room_8
def b_X3_loser_2 (S : MO) (K2 : Int32 → Option Int32) (x1 : Int32) : Option Int32 :=
  if (32 : Int32) ≤ x1 then (some ((-1) : Int32)) else (gd (2 : Int32) 1085 (nm (fun (v3 : Int32) => gd ((27 : Int32) + v3) 1085 (if ((S.2.1 1) (Int32.toNatClampNeg ((27 : Int32) + v3))) = ((-1) : Int32) then (nm (fun (v6 : Int32) => K2 v6) (x1 + 1)) else (bd (f_X3_isWritable v3 S) (fun (r7 : Int32) => if r7 = 0 then (nm (fun (v9 : Int32) => K2 v9) (x1 + 1)) else (gd ((27 : Int32) + v3) 1085 (some ((S.2.1 1) (Int32.toNatClampNeg ((27 : Int32) + v3))))))))) ((((S.2.1 1) (Int32.toNatClampNeg (2 : Int32))) + x1) - (((S.2.1 1) (Int32.toNatClampNeg (2 : Int32))) + x1) / (32 : Int32) * (32 : Int32))))
def f_X3_loser (S : MO) : Option Int32 :=
  lpf1 (b_X3_loser_2 S) FU (0 : Int32)
abbrev rm_X3_loser : Room := { frames := 1, cells := 0, slots := 0, locals := 22 }
theorem np_X3_loser : yX3_loser.cls ≠ "java/lang/invoke/MethodHandle" ∧ yX3_loser.cls ≠ "java/lang/invoke/VarHandle" ∧ (parseMethodDescriptor yX3_loser.desc).map (fun d => d.parameters.length) = some 0 := by decide +kernel
set_option maxHeartbeats 4000000 in
set_option maxRecDepth 100000 in
theorem k_X3_loser (l : Launch) (D : va_G) (cs : CS) (a : Nat → Nat) (S : MO) {r9 : Int32} (h : f_X3_loser S = some r9) : MI l D cs yX3_loser cX3_loser 3 .int rm_X3_loser [.ref (a 0)] (wM cs.1 a S) r9 (wM cs.1 a S) := by
  refine MI_of (by decide) (Nat.le_of_ble_eq_true rfl) ?_
  rintro Γ rfl rfl rfl B ret
  show X Γ 3 0 0 0 [(0, .ref (a 0))] [] (wM Γ.cs.1 a S)
  have h2 : ∀ (n9 : Nat) (x1 : Int32), lpf1 (b_X3_loser_2 S) n9 x1 = some r9 → X Γ 3 0 0 2 [(0, .ref (a 0)), (1, .int x1)] [] (wM Γ.cs.1 a S) := by
    refine lpf1_ind (fun K2 hK2 x1 h => ?_)
    unfold b_X3_loser_2 at h
    refine x_iload_n B (pc' := 3) 1 dX3_loser_2 rfl rfl rfl ?_
    refine x_bipush B (pc' := 5) 32 dX3_loser_3 (by decide) rfl ?_
    refine x_icmp_ge B 57 8 dX3_loser_5 (by decide) rfl (fun hc1 => ?_) (fun hc1 => ?_)
    · replace h := ite_t hc1 h
      refine x_iconst B (pc' := 58) (-1) dX3_loser_57 (by decide) rfl ?_
      have h1 := Option.some.inj h
      subst h1
      exact ret rfl (by exact Nat.le_of_ble_eq_true rfl) (by exact Nat.le_of_ble_eq_true rfl) dX3_loser_58
    · replace h := ite_f hc1 h
      refine x_aload_n B (pc' := 9) 0 dX3_loser_8 rfl rfl rfl ?_
      refine m_ref1 B (pc' := 12) wf_RX3_7 dX3_loser_9 rfl ?_
      refine x_iconst B (pc' := 13) 2 dX3_loser_12 (by decide) rfl ?_
      obtain ⟨hi2, h⟩ := gd_elim h
      refine m_ald1 B (pc' := 14) hi2 dX3_loser_13 rfl ?_
      refine x_iload_n B (pc' := 15) 1 dX3_loser_14 rfl rfl rfl ?_
      refine x_iadd B (pc' := 16) dX3_loser_15 rfl ?_
      refine x_bipush B (pc' := 18) 32 dX3_loser_16 (by decide) rfl ?_
      refine x_irem B (pc' := 19) dX3_loser_18 (by decide) rfl ?_
      obtain ⟨v3, ev3, h⟩ := nm_elim h
      refine x_topi ev3 ?_
      refine x_istore_n B (pc' := 20) [1, 2, 0] [(0, .ref (a 0)), (1, .int x1), (2, .int v3)] dX3_loser_19 rfl (by decide) rfl rfl ?_
      refine x_aload_n B (pc' := 21) 0 dX3_loser_20 rfl rfl rfl ?_
      refine m_ref1 B (pc' := 24) wf_RX3_7 dX3_loser_21 rfl ?_
      refine x_bipush B (pc' := 26) 27 dX3_loser_24 (by decide) rfl ?_
      refine x_iload_n B (pc' := 27) 2 dX3_loser_26 rfl rfl rfl ?_
      refine x_iadd B (pc' := 28) dX3_loser_27 rfl ?_
      obtain ⟨hi4, h⟩ := gd_elim h
      refine m_ald1 B (pc' := 29) hi4 dX3_loser_28 rfl ?_
      refine x_iconst B (pc' := 30) (-1) dX3_loser_29 (by decide) rfl ?_
      refine x_icmp_eq B 51 33 dX3_loser_30 (by decide) rfl (fun hc5 => ?_) (fun hc5 => ?_)
      · replace h := ite_t hc5 h
        obtain ⟨v6, ev6, h⟩ := nm_elim h
        refine x_iinc B (pc' := 54) v6 1 [1, 0, 2] [(0, .ref (a 0)), (1, .int v6), (2, .int v3)] dX3_loser_51 rfl (by rw [ev6]; rfl) (by decide) rfl rfl ?_
        refine x_goto B (pc' := 2) dX3_loser_54 (by decide) ?_
        refine x_lv [0, 1] (lv' := [(0, .ref (a 0)), (1, .int v6)]) rfl ?_
        exact hK2 _ h
      · replace h := ite_f hc5 h
        refine x_aload_n B (pc' := 34) 0 dX3_loser_33 rfl rfl rfl ?_
        refine x_iload_n B (pc' := 35) 2 dX3_loser_34 rfl rfl rfl ?_
        obtain ⟨r7, er7, h⟩ := bd_elim h
        refine x_selfVi B (pc' := 38) [.int v3] (k_X3_isWritable _ _ _ a v3 S er7) rfl rfl gv_RX3_28 rfl np_X3_isWritable ⟨Nat.le_of_ble_eq_true rfl, Nat.le_of_ble_eq_true rfl⟩ ⟨by exact Nat.le_of_ble_eq_true rfl, by exact Nat.le_of_ble_eq_true rfl⟩ rfl (Nat.le_of_ble_eq_true rfl) dX3_loser_35 rfl ?_
        refine x_if_eq B 51 41 dX3_loser_38 (by decide) rfl (fun hc8 => ?_) (fun hc8 => ?_)
        · replace h := ite_t hc8 h
          obtain ⟨v9, ev9, h⟩ := nm_elim h
          refine x_iinc B (pc' := 54) v9 1 [1, 0, 2] [(0, .ref (a 0)), (1, .int v9), (2, .int v3)] dX3_loser_51 rfl (by rw [ev9]; rfl) (by decide) rfl rfl ?_
          refine x_goto B (pc' := 2) dX3_loser_54 (by decide) ?_
          refine x_lv [0, 1] (lv' := [(0, .ref (a 0)), (1, .int v9)]) rfl ?_
          exact hK2 _ h
        · replace h := ite_f hc8 h
          refine x_aload_n B (pc' := 42) 0 dX3_loser_41 rfl rfl rfl ?_
          refine m_ref1 B (pc' := 45) wf_RX3_7 dX3_loser_42 rfl ?_
          refine x_bipush B (pc' := 47) 27 dX3_loser_45 (by decide) rfl ?_
          refine x_iload_n B (pc' := 48) 2 dX3_loser_47 rfl rfl rfl ?_
          refine x_iadd B (pc' := 49) dX3_loser_48 rfl ?_
          obtain ⟨hi10, h⟩ := gd_elim h
          refine m_ald1 B (pc' := 50) hi10 dX3_loser_49 rfl ?_
          have h1 := Option.some.inj h
          subst h1
          exact ret rfl (by exact Nat.le_of_ble_eq_true rfl) (by exact Nat.le_of_ble_eq_true rfl) dX3_loser_50
  unfold f_X3_loser at h
  refine x_iconst B (pc' := 1) 0 dX3_loser_0 (by decide) rfl ?_
  refine x_istore_n B (pc' := 2) [1, 0] [(0, .ref (a 0)), (1, .int (0 : Int32))] dX3_loser_1 rfl (by decide) rfl rfl ?_
  exact h2  _ _ h
def f_X3_nextLoser (S : MO) : Option (Int32 × MO) :=
  bd (f_X3_loser S) (fun (r1 : Int32) => bd2 (f_X3_told r1 S) (fun (r2 : Int32) (S3 : MO) => some (r2, S3)))
abbrev rm_X3_nextLoser : Room := { frames := 2, cells := 0, slots := 0, locals := 44 }
theorem np_X3_nextLoser : yX3_nextLoser.cls ≠ "java/lang/invoke/MethodHandle" ∧ yX3_nextLoser.cls ≠ "java/lang/invoke/VarHandle" ∧ (parseMethodDescriptor yX3_nextLoser.desc).map (fun d => d.parameters.length) = some 0 := by decide +kernel
set_option maxHeartbeats 4000000 in
set_option maxRecDepth 100000 in
theorem k_X3_nextLoser (l : Launch) (D : va_G) (cs : CS) (a : Nat → Nat) (S : MO) {r9 : Int32} {S9 : MO} (h : f_X3_nextLoser S = some (r9, S9)) : MI l D cs yX3_nextLoser cX3_nextLoser 1 .int rm_X3_nextLoser [.ref (a 0)] (wM cs.1 a S) r9 (wM cs.1 a S9) := by
  refine MI_of (by decide) (Nat.le_of_ble_eq_true rfl) ?_
  rintro Γ rfl rfl rfl B ret
  show X Γ 1 0 0 0 [(0, .ref (a 0))] [] (wM Γ.cs.1 a S)
  unfold f_X3_nextLoser at h
  refine x_aload_n B (pc' := 1) 0 dX3_nextLoser_0 rfl rfl rfl ?_
  refine x_aload_n B (pc' := 2) 0 dX3_nextLoser_1 rfl rfl rfl ?_
  obtain ⟨r1, er1, h⟩ := bd_elim h
  refine x_selfVi B (pc' := 5) [] (k_X3_loser _ _ _ a S er1) rfl rfl gv_RX3_109 rfl np_X3_loser ⟨Nat.le_of_ble_eq_true rfl, Nat.le_of_ble_eq_true rfl⟩ ⟨by exact Nat.le_of_ble_eq_true rfl, by exact Nat.le_of_ble_eq_true rfl⟩ rfl (Nat.le_of_ble_eq_true rfl) dX3_nextLoser_2 rfl ?_
  obtain ⟨r2, S3, er2, h⟩ := bd2_elim h
  refine x_selfVi B (pc' := 8) [.int r1] (k_X3_told _ _ _ a r1 S er2) rfl rfl gv_RX3_88 rfl np_X3_told ⟨Nat.le_of_ble_eq_true rfl, Nat.le_of_ble_eq_true rfl⟩ ⟨by exact Nat.le_of_ble_eq_true rfl, by exact Nat.le_of_ble_eq_true rfl⟩ rfl (Nat.le_of_ble_eq_true rfl) dX3_nextLoser_5 rfl ?_
  obtain ⟨h1, h2⟩ := some2 h
  subst h1
  subst h2
  exact ret rfl (by exact Nat.le_of_ble_eq_true rfl) (by exact Nat.le_of_ble_eq_true rfl) dX3_nextLoser_8
def c_X3_loss_52 (S : MO) (K8 : Int32 → Int32 → Int32 → Int32 → Option Int32) (x1 : Int32) (x4 : Int32) (x5 : Int32) (x6 : Int32) (x7 : Int32) (t0 : Int32) (t1 : Int32) : Option Int32 :=
  nm (fun (v7 : Int32) => if x7 = 0 then (nm (fun (v9 : Int32) => nm (fun (v10 : Int32) => K8 x1 v7 v9 v10) (x5 + 1)) (x4 + (0 : Int32))) else (gd ((27 : Int32) + x6) 1085 (if ((S.2.1 1) (Int32.toNatClampNeg ((27 : Int32) + x6))) = x1 then (nm (fun (v15 : Int32) => nm (fun (v16 : Int32) => K8 x1 v7 v15 v16) (x5 + 1)) (x4 + (1 : Int32))) else (nm (fun (v13 : Int32) => nm (fun (v14 : Int32) => K8 x1 v7 v13 v14) (x5 + 1)) (x4 + (0 : Int32)))))) (t1 - t0)
def b_X3_loss_8 (S : MO) (K8 : Int32 → Int32 → Int32 → Int32 → Option Int32) (x1 : Int32) (x3 : Int32) (x4 : Int32) (x5 : Int32) : Option Int32 :=
  if (32 : Int32) ≤ x5 then (some x4) else (if x3 ≤ 0 then (some x4) else (gd (2 : Int32) 1085 (nm (fun (v4 : Int32) => bd (f_X3_isWritable v4 S) (fun (r5 : Int32) => if r5 = 0 then (c_X3_loss_52 S K8 x1 x4 x5 v4 r5 (0 : Int32) x3) else (c_X3_loss_52 S K8 x1 x4 x5 v4 r5 (1 : Int32) x3))) ((((S.2.1 1) (Int32.toNatClampNeg (2 : Int32))) + x5) - (((S.2.1 1) (Int32.toNatClampNeg (2 : Int32))) + x5) / (32 : Int32) * (32 : Int32)))))
def f_X3_loss (p0 : Int32) (p1 : Int32) (S : MO) : Option Int32 :=
  lpf4 (b_X3_loss_8 S) FU p0 p1 (0 : Int32) (0 : Int32)
abbrev rm_X3_loss : Room := { frames := 1, cells := 0, slots := 0, locals := 22 }
theorem np_X3_loss : yX3_loss.cls ≠ "java/lang/invoke/MethodHandle" ∧ yX3_loss.cls ≠ "java/lang/invoke/VarHandle" ∧ (parseMethodDescriptor yX3_loss.desc).map (fun d => d.parameters.length) = some 2 := by decide +kernel
set_option maxHeartbeats 4000000 in
set_option maxRecDepth 100000 in
theorem k_X3_loss (l : Launch) (D : va_G) (cs : CS) (a : Nat → Nat) (p0 : Int32) (p1 : Int32) (S : MO) {r9 : Int32} (h : f_X3_loss p0 p1 S = some r9) : MI l D cs yX3_loss cX3_loss 8 .int rm_X3_loss [.ref (a 0), .int p0, .int p1] (wM cs.1 a S) r9 (wM cs.1 a S) := by
  refine MI_of (by decide) (Nat.le_of_ble_eq_true rfl) ?_
  rintro Γ rfl rfl rfl B ret
  show X Γ 8 0 0 0 [(0, .ref (a 0)), (1, .int p0), (2, .int p1)] [] (wM Γ.cs.1 a S)
  have h52 : ∀ (K8 : Int32 → Int32 → Int32 → Int32 → Option Int32) (_ : ∀ x1 x3 x4 x5, K8 x1 x3 x4 x5 = some r9 → X Γ 8 0 0 8 [(0, .ref (a 0)), (1, .int x1), (3, .int x3), (4, .int x4), (5, .int x5)] [] (wM Γ.cs.1 a S)) (x1 : Int32) (x4 : Int32) (x5 : Int32) (x6 : Int32) (x7 : Int32) (t0 : Int32) (t1 : Int32), c_X3_loss_52 S K8 x1 x4 x5 x6 x7 t0 t1 = some r9 → X Γ 8 0 0 52 [(0, .ref (a 0)), (1, .int x1), (4, .int x4), (5, .int x5), (6, .int x6), (7, .int x7)] [.int t0, .int t1] (wM Γ.cs.1 a S) := by
    intro K8 hK8 x1 x4 x5 x6 x7 t0 t1 h
    unfold c_X3_loss_52 at h
    refine x_isub B (pc' := 53) dX3_loss_52 rfl ?_
    obtain ⟨v7, ev7, h⟩ := nm_elim h
    refine x_topi ev7 ?_
    refine x_istore_n B (pc' := 54) [1, 2, 0, 3, 4, 5, 6] [(0, .ref (a 0)), (1, .int x1), (3, .int v7), (4, .int x4), (5, .int x5), (6, .int x6), (7, .int x7)] dX3_loss_53 rfl (by decide) rfl rfl ?_
    refine x_iload B (pc' := 56) 3 dX3_loss_54 rfl rfl ?_
    refine x_iload B (pc' := 58) 6 dX3_loss_56 rfl rfl ?_
    refine x_if_eq B 79 61 dX3_loss_58 (by decide) rfl (fun hc8 => ?_) (fun hc8 => ?_)
    · replace h := ite_t hc8 h
      refine x_iconst B (pc' := 80) 0 dX3_loss_79 (by decide) rfl ?_
      refine x_iadd B (pc' := 81) dX3_loss_80 rfl ?_
      obtain ⟨v9, ev9, h⟩ := nm_elim h
      refine x_topi ev9 ?_
      refine x_istore B (pc' := 83) [1, 2, 3, 0, 4, 5, 6] [(0, .ref (a 0)), (1, .int x1), (3, .int v7), (4, .int v9), (5, .int x5), (6, .int x6), (7, .int x7)] dX3_loss_81 (by decide) rfl rfl ?_
      obtain ⟨v10, ev10, h⟩ := nm_elim h
      refine x_iinc B (pc' := 86) v10 4 [1, 2, 3, 4, 0, 5, 6] [(0, .ref (a 0)), (1, .int x1), (3, .int v7), (4, .int v9), (5, .int v10), (6, .int x6), (7, .int x7)] dX3_loss_83 rfl (by rw [ev10]; rfl) (by decide) rfl rfl ?_
      refine x_goto B (pc' := 8) dX3_loss_86 (by decide) ?_
      refine x_lv [0, 1, 2, 3, 4] (lv' := [(0, .ref (a 0)), (1, .int x1), (3, .int v7), (4, .int v9), (5, .int v10)]) rfl ?_
      exact hK8 _ _ _ _ h
    · replace h := ite_f hc8 h
      refine x_aload_n B (pc' := 62) 0 dX3_loss_61 rfl rfl rfl ?_
      refine m_ref1 B (pc' := 65) wf_RX3_7 dX3_loss_62 rfl ?_
      refine x_bipush B (pc' := 67) 27 dX3_loss_65 (by decide) rfl ?_
      refine x_iload B (pc' := 69) 5 dX3_loss_67 rfl rfl ?_
      refine x_iadd B (pc' := 70) dX3_loss_69 rfl ?_
      obtain ⟨hi11, h⟩ := gd_elim h
      refine m_ald1 B (pc' := 71) hi11 dX3_loss_70 rfl ?_
      refine x_iload_n B (pc' := 72) 1 dX3_loss_71 rfl rfl rfl ?_
      refine x_icmp_ne B 79 75 dX3_loss_72 (by decide) rfl (fun hc12 => ?_) (fun hc12 => ?_)
      · replace h := ite_f hc12 h
        refine x_iconst B (pc' := 80) 0 dX3_loss_79 (by decide) rfl ?_
        refine x_iadd B (pc' := 81) dX3_loss_80 rfl ?_
        obtain ⟨v13, ev13, h⟩ := nm_elim h
        refine x_topi ev13 ?_
        refine x_istore B (pc' := 83) [1, 2, 3, 0, 4, 5, 6] [(0, .ref (a 0)), (1, .int x1), (3, .int v7), (4, .int v13), (5, .int x5), (6, .int x6), (7, .int x7)] dX3_loss_81 (by decide) rfl rfl ?_
        obtain ⟨v14, ev14, h⟩ := nm_elim h
        refine x_iinc B (pc' := 86) v14 4 [1, 2, 3, 4, 0, 5, 6] [(0, .ref (a 0)), (1, .int x1), (3, .int v7), (4, .int v13), (5, .int v14), (6, .int x6), (7, .int x7)] dX3_loss_83 rfl (by rw [ev14]; rfl) (by decide) rfl rfl ?_
        refine x_goto B (pc' := 8) dX3_loss_86 (by decide) ?_
        refine x_lv [0, 1, 2, 3, 4] (lv' := [(0, .ref (a 0)), (1, .int x1), (3, .int v7), (4, .int v13), (5, .int v14)]) rfl ?_
        exact hK8 _ _ _ _ h
      · replace h := ite_t hc12 h
        refine x_iconst B (pc' := 76) 1 dX3_loss_75 (by decide) rfl ?_
        refine x_goto B (pc' := 80) dX3_loss_76 (by decide) ?_
        refine x_iadd B (pc' := 81) dX3_loss_80 rfl ?_
        obtain ⟨v15, ev15, h⟩ := nm_elim h
        refine x_topi ev15 ?_
        refine x_istore B (pc' := 83) [1, 2, 3, 0, 4, 5, 6] [(0, .ref (a 0)), (1, .int x1), (3, .int v7), (4, .int v15), (5, .int x5), (6, .int x6), (7, .int x7)] dX3_loss_81 (by decide) rfl rfl ?_
        obtain ⟨v16, ev16, h⟩ := nm_elim h
        refine x_iinc B (pc' := 86) v16 4 [1, 2, 3, 4, 0, 5, 6] [(0, .ref (a 0)), (1, .int x1), (3, .int v7), (4, .int v15), (5, .int v16), (6, .int x6), (7, .int x7)] dX3_loss_83 rfl (by rw [ev16]; rfl) (by decide) rfl rfl ?_
        refine x_goto B (pc' := 8) dX3_loss_86 (by decide) ?_
        refine x_lv [0, 1, 2, 3, 4] (lv' := [(0, .ref (a 0)), (1, .int x1), (3, .int v7), (4, .int v15), (5, .int v16)]) rfl ?_
        exact hK8 _ _ _ _ h
  have h8 : ∀ (n9 : Nat) (x1 : Int32) (x3 : Int32) (x4 : Int32) (x5 : Int32), lpf4 (b_X3_loss_8 S) n9 x1 x3 x4 x5 = some r9 → X Γ 8 0 0 8 [(0, .ref (a 0)), (1, .int x1), (3, .int x3), (4, .int x4), (5, .int x5)] [] (wM Γ.cs.1 a S) := by
    refine lpf4_ind (fun K8 hK8 x1 x3 x4 x5 h => ?_)
    unfold b_X3_loss_8 at h
    refine x_iload B (pc' := 10) 4 dX3_loss_8 rfl rfl ?_
    refine x_bipush B (pc' := 12) 32 dX3_loss_10 (by decide) rfl ?_
    refine x_icmp_ge B 89 15 dX3_loss_12 (by decide) rfl (fun hc1 => ?_) (fun hc1 => ?_)
    · replace h := ite_t hc1 h
      refine x_iload B (pc' := 91) 3 dX3_loss_89 rfl rfl ?_
      have h1 := Option.some.inj h
      subst h1
      exact ret rfl (by exact Nat.le_of_ble_eq_true rfl) (by exact Nat.le_of_ble_eq_true rfl) dX3_loss_91
    · replace h := ite_f hc1 h
      refine x_iload_n B (pc' := 16) 2 dX3_loss_15 rfl rfl rfl ?_
      refine x_if_le B 89 19 dX3_loss_16 (by decide) rfl (fun hc2 => ?_) (fun hc2 => ?_)
      · replace h := ite_t hc2 h
        refine x_iload B (pc' := 91) 3 dX3_loss_89 rfl rfl ?_
        have h1 := Option.some.inj h
        subst h1
        exact ret rfl (by exact Nat.le_of_ble_eq_true rfl) (by exact Nat.le_of_ble_eq_true rfl) dX3_loss_91
      · replace h := ite_f hc2 h
        refine x_aload_n B (pc' := 20) 0 dX3_loss_19 rfl rfl rfl ?_
        refine m_ref1 B (pc' := 23) wf_RX3_7 dX3_loss_20 rfl ?_
        refine x_iconst B (pc' := 24) 2 dX3_loss_23 (by decide) rfl ?_
        obtain ⟨hi3, h⟩ := gd_elim h
        refine m_ald1 B (pc' := 25) hi3 dX3_loss_24 rfl ?_
        refine x_iload B (pc' := 27) 4 dX3_loss_25 rfl rfl ?_
        refine x_iadd B (pc' := 28) dX3_loss_27 rfl ?_
        refine x_bipush B (pc' := 30) 32 dX3_loss_28 (by decide) rfl ?_
        refine x_irem B (pc' := 31) dX3_loss_30 (by decide) rfl ?_
        obtain ⟨v4, ev4, h⟩ := nm_elim h
        refine x_topi ev4 ?_
        refine x_istore B (pc' := 33) [1, 2, 3, 4, 5, 0] [(0, .ref (a 0)), (1, .int x1), (3, .int x3), (4, .int x4), (5, .int x5), (6, .int v4)] dX3_loss_31 (by decide) rfl rfl ?_
        refine x_aload_n B (pc' := 34) 0 dX3_loss_33 rfl rfl rfl ?_
        refine x_iload B (pc' := 36) 5 dX3_loss_34 rfl rfl ?_
        obtain ⟨r5, er5, h⟩ := bd_elim h
        refine x_selfVi B (pc' := 39) [.int v4] (k_X3_isWritable _ _ _ a v4 S er5) rfl rfl gv_RX3_28 rfl np_X3_isWritable ⟨Nat.le_of_ble_eq_true rfl, Nat.le_of_ble_eq_true rfl⟩ ⟨by exact Nat.le_of_ble_eq_true rfl, by exact Nat.le_of_ble_eq_true rfl⟩ rfl (Nat.le_of_ble_eq_true rfl) dX3_loss_36 rfl ?_
        refine x_istore B (pc' := 41) [1, 2, 3, 4, 5, 6, 0] [(0, .ref (a 0)), (1, .int x1), (3, .int x3), (4, .int x4), (5, .int x5), (6, .int v4), (7, .int r5)] dX3_loss_39 (by decide) rfl rfl ?_
        refine x_iload_n B (pc' := 42) 2 dX3_loss_41 rfl rfl rfl ?_
        refine x_iload B (pc' := 44) 6 dX3_loss_42 rfl rfl ?_
        refine x_if_eq B 51 47 dX3_loss_44 (by decide) rfl (fun hc6 => ?_) (fun hc6 => ?_)
        · replace h := ite_t hc6 h
          refine x_iconst B (pc' := 52) 0 dX3_loss_51 (by decide) rfl ?_
          refine x_lv [0, 1, 3, 4, 5, 6] (lv' := [(0, .ref (a 0)), (1, .int x1), (4, .int x4), (5, .int x5), (6, .int v4), (7, .int r5)]) rfl ?_
          exact h52 K8 hK8 _ _ _ _ _ _ _ h
        · replace h := ite_f hc6 h
          refine x_iconst B (pc' := 48) 1 dX3_loss_47 (by decide) rfl ?_
          refine x_goto B (pc' := 52) dX3_loss_48 (by decide) ?_
          refine x_lv [0, 1, 3, 4, 5, 6] (lv' := [(0, .ref (a 0)), (1, .int x1), (4, .int x4), (5, .int x5), (6, .int v4), (7, .int r5)]) rfl ?_
          exact h52 K8 hK8 _ _ _ _ _ _ _ h
  unfold f_X3_loss at h
  refine x_iload_n B (pc' := 1) 2 dX3_loss_0 rfl rfl rfl ?_
  refine x_istore_n B (pc' := 2) [1, 2, 3, 0] [(0, .ref (a 0)), (1, .int p0), (2, .int p1), (3, .int p1)] dX3_loss_1 rfl (by decide) rfl rfl ?_
  refine x_iconst B (pc' := 3) 0 dX3_loss_2 (by decide) rfl ?_
  refine x_istore B (pc' := 5) [1, 2, 3, 4, 0] [(0, .ref (a 0)), (1, .int p0), (2, .int p1), (3, .int p1), (4, .int (0 : Int32))] dX3_loss_3 (by decide) rfl rfl ?_
  refine x_iconst B (pc' := 6) 0 dX3_loss_5 (by decide) rfl ?_
  refine x_istore B (pc' := 8) [1, 2, 3, 4, 5, 0] [(0, .ref (a 0)), (1, .int p0), (2, .int p1), (3, .int p1), (4, .int (0 : Int32)), (5, .int (0 : Int32))] dX3_loss_6 (by decide) rfl rfl ?_
  refine x_lv [0, 1, 3, 4, 5] (lv' := [(0, .ref (a 0)), (1, .int p0), (3, .int p1), (4, .int (0 : Int32)), (5, .int (0 : Int32))]) rfl ?_
  exact h8  _ _ _ _ _ h
def c_X3_lossOf_28 (x1 : Int32) (x2 : Int32) (t0 : Int32) (S : MO) : Option (Int32 × MO) :=
  bd2 (f_X3_holds t0 S) (fun (r5 : Int32) (S6 : MO) => if r5 = 0 then (some ((0 : Int32), S6)) else (bd (f_X3_loss x1 x2 S6) (fun (r8 : Int32) => some (r8, S6))))
def f_X3_lossOf (p0 : Int32) (p1 : Int32) (S : MO) : Option (Int32 × MO) :=
  bd (f_X3_isRecording p0 S) (fun (r1 : Int32) => if r1 = 0 then (c_X3_lossOf_28 p0 p1 (1 : Int32) S) else (bd (f_X3_in p1 (1 : Int32) (32 : Int32)) (fun (r3 : Int32) => if r3 = 0 then (c_X3_lossOf_28 p0 p1 (2 : Int32) S) else (c_X3_lossOf_28 p0 p1 (0 : Int32) S))))
abbrev rm_X3_lossOf : Room := { frames := 2, cells := 0, slots := 0, locals := 49 }
theorem np_X3_lossOf : yX3_lossOf.cls ≠ "java/lang/invoke/MethodHandle" ∧ yX3_lossOf.cls ≠ "java/lang/invoke/VarHandle" ∧ (parseMethodDescriptor yX3_lossOf.desc).map (fun d => d.parameters.length) = some 2 := by decide +kernel
set_option maxHeartbeats 4000000 in
set_option maxRecDepth 100000 in
theorem k_X3_lossOf (l : Launch) (D : va_G) (cs : CS) (a : Nat → Nat) (p0 : Int32) (p1 : Int32) (S : MO) {r9 : Int32} {S9 : MO} (h : f_X3_lossOf p0 p1 S = some (r9, S9)) : MI l D cs yX3_lossOf cX3_lossOf 3 .int rm_X3_lossOf [.ref (a 0), .int p0, .int p1] (wM cs.1 a S) r9 (wM cs.1 a S9) := by
  refine MI_of (by decide) (Nat.le_of_ble_eq_true rfl) ?_
  rintro Γ rfl rfl rfl B ret
  show X Γ 3 0 0 0 [(0, .ref (a 0)), (1, .int p0), (2, .int p1)] [] (wM Γ.cs.1 a S)
  have h28 : ∀ (x1 : Int32) (x2 : Int32) (t0 : Int32) (S : MO), c_X3_lossOf_28  x1 x2 t0 S = some (r9, S9) → X Γ 3 0 0 28 [(0, .ref (a 0)), (1, .int x1), (2, .int x2)] [.int t0, .ref (a 0)] (wM Γ.cs.1 a S) := by
    intro  x1 x2 t0 S h
    unfold c_X3_lossOf_28 at h
    obtain ⟨r5, S6, er5, h⟩ := bd2_elim h
    refine x_selfVi B (pc' := 31) [.int t0] (k_X3_holds _ _ _ a t0 S er5) rfl rfl gv_RX3_64 rfl np_X3_holds ⟨Nat.le_of_ble_eq_true rfl, Nat.le_of_ble_eq_true rfl⟩ ⟨by exact Nat.le_of_ble_eq_true rfl, by exact Nat.le_of_ble_eq_true rfl⟩ rfl (Nat.le_of_ble_eq_true rfl) dX3_lossOf_28 rfl ?_
    refine x_if_eq B 43 34 dX3_lossOf_31 (by decide) rfl (fun hc7 => ?_) (fun hc7 => ?_)
    · replace h := ite_t hc7 h
      refine x_iconst B (pc' := 44) 0 dX3_lossOf_43 (by decide) rfl ?_
      obtain ⟨h1, h2⟩ := some2 h
      subst h1
      subst h2
      exact ret rfl (by exact Nat.le_of_ble_eq_true rfl) (by exact Nat.le_of_ble_eq_true rfl) dX3_lossOf_44
    · replace h := ite_f hc7 h
      refine x_aload_n B (pc' := 35) 0 dX3_lossOf_34 rfl rfl rfl ?_
      refine x_iload_n B (pc' := 36) 1 dX3_lossOf_35 rfl rfl rfl ?_
      refine x_iload_n B (pc' := 37) 2 dX3_lossOf_36 rfl rfl rfl ?_
      obtain ⟨r8, er8, h⟩ := bd_elim h
      refine x_selfVi B (pc' := 40) [.int x1, .int x2] (k_X3_loss _ _ _ a x1 x2 S6 er8) rfl rfl gv_RX3_112 rfl np_X3_loss ⟨Nat.le_of_ble_eq_true rfl, Nat.le_of_ble_eq_true rfl⟩ ⟨by exact Nat.le_of_ble_eq_true rfl, by exact Nat.le_of_ble_eq_true rfl⟩ rfl (Nat.le_of_ble_eq_true rfl) dX3_lossOf_37 rfl ?_
      refine x_goto B (pc' := 44) dX3_lossOf_40 (by decide) ?_
      obtain ⟨h1, h2⟩ := some2 h
      subst h1
      subst h2
      exact ret rfl (by exact Nat.le_of_ble_eq_true rfl) (by exact Nat.le_of_ble_eq_true rfl) dX3_lossOf_44
  unfold f_X3_lossOf at h
  refine x_aload_n B (pc' := 1) 0 dX3_lossOf_0 rfl rfl rfl ?_
  refine x_aload_n B (pc' := 2) 0 dX3_lossOf_1 rfl rfl rfl ?_
  refine x_iload_n B (pc' := 3) 1 dX3_lossOf_2 rfl rfl rfl ?_
  obtain ⟨r1, er1, h⟩ := bd_elim h
  refine x_selfVi B (pc' := 6) [.int p0] (k_X3_isRecording _ _ _ a p0 S er1) rfl rfl gv_RX3_82 rfl np_X3_isRecording ⟨Nat.le_of_ble_eq_true rfl, Nat.le_of_ble_eq_true rfl⟩ ⟨by exact Nat.le_of_ble_eq_true rfl, by exact Nat.le_of_ble_eq_true rfl⟩ rfl (Nat.le_of_ble_eq_true rfl) dX3_lossOf_3 rfl ?_
  refine x_if_ne B 13 9 dX3_lossOf_6 (by decide) rfl (fun hc2 => ?_) (fun hc2 => ?_)
  · replace h := ite_f hc2 h
    refine x_iload_n B (pc' := 14) 2 dX3_lossOf_13 rfl rfl rfl ?_
    refine x_iconst B (pc' := 15) 1 dX3_lossOf_14 (by decide) rfl ?_
    refine x_bipush B (pc' := 17) 32 dX3_lossOf_15 (by decide) rfl ?_
    obtain ⟨r3, er3, h⟩ := bd_elim h
    refine x_pureSi B (pc' := 20) [.int p1, .int (1 : Int32), .int (32 : Int32)] (k_X3_in _ _ _ p1 (1 : Int32) (32 : Int32) er3) gv_RX3_20 np_X3_in ⟨Nat.le_of_ble_eq_true rfl, Nat.le_of_ble_eq_true rfl⟩ ⟨by exact Nat.le_of_ble_eq_true rfl, by exact Nat.le_of_ble_eq_true rfl⟩ rfl (Nat.le_of_ble_eq_true rfl) dX3_lossOf_17 rfl ?_
    refine x_if_ne B 27 23 dX3_lossOf_20 (by decide) rfl (fun hc4 => ?_) (fun hc4 => ?_)
    · replace h := ite_f hc4 h
      refine x_iconst B (pc' := 28) 0 dX3_lossOf_27 (by decide) rfl ?_
      exact h28  _ _ _ _ h
    · replace h := ite_t hc4 h
      refine x_iconst B (pc' := 24) 2 dX3_lossOf_23 (by decide) rfl ?_
      refine x_goto B (pc' := 28) dX3_lossOf_24 (by decide) ?_
      exact h28  _ _ _ _ h
  · replace h := ite_t hc2 h
    refine x_iconst B (pc' := 10) 1 dX3_lossOf_9 (by decide) rfl ?_
    refine x_goto B (pc' := 28) dX3_lossOf_10 (by decide) ?_
    exact h28  _ _ _ _ h
def b_X3_goneAfter_28 (K28 : Int32 → Int32 → Int32 → MO → Option (Int32 × MO)) (x1 : Int32) (x2 : Int32) (x3 : Int32) (S : MO) : Option (Int32 × MO) :=
  gd (0 : Int32) 1085 (if ((S.2.1 1) (Int32.toNatClampNeg (0 : Int32))) ≤ x3 then (some (x2, S)) else (bd (f_X3_loss x3 x1 S) (fun (r8 : Int32) => if r8 ≤ 0 then (nm (fun (v10 : Int32) => nm (fun (v11 : Int32) => K28 x1 v10 v11 S) (x3 + 1)) (x2 + (0 : Int32))) else (bd (f_X3_cells x3 S) (fun (r12 : Int32) => if r8 = r12 then (nm (fun (v16 : Int32) => nm (fun (v17 : Int32) => K28 x1 v16 v17 S) (x3 + 1)) (x2 + (1 : Int32))) else (nm (fun (v14 : Int32) => nm (fun (v15 : Int32) => K28 x1 v14 v15 S) (x3 + 1)) (x2 + (0 : Int32))))))))
def c_X3_goneAfter_16 (x1 : Int32) (t0 : Int32) (S : MO) : Option (Int32 × MO) :=
  bd2 (f_X3_holds t0 S) (fun (r3 : Int32) (S4 : MO) => if r3 = 0 then (some ((0 : Int32), S4)) else (lpf4 (b_X3_goneAfter_28) FU x1 (0 : Int32) (0 : Int32) S4))
def f_X3_goneAfter (p0 : Int32) (S : MO) : Option (Int32 × MO) :=
  bd (f_X3_in p0 (1 : Int32) (32 : Int32)) (fun (r1 : Int32) => if r1 = 0 then (c_X3_goneAfter_16 p0 (1 : Int32) S) else (c_X3_goneAfter_16 p0 (0 : Int32) S))
abbrev rm_X3_goneAfter : Room := { frames := 2, cells := 0, slots := 0, locals := 49 }
theorem np_X3_goneAfter : yX3_goneAfter.cls ≠ "java/lang/invoke/MethodHandle" ∧ yX3_goneAfter.cls ≠ "java/lang/invoke/VarHandle" ∧ (parseMethodDescriptor yX3_goneAfter.desc).map (fun d => d.parameters.length) = some 1 := by decide +kernel
set_option maxHeartbeats 4000000 in
set_option maxRecDepth 100000 in
theorem k_X3_goneAfter (l : Launch) (D : va_G) (cs : CS) (a : Nat → Nat) (p0 : Int32) (S : MO) {r9 : Int32} {S9 : MO} (h : f_X3_goneAfter p0 S = some (r9, S9)) : MI l D cs yX3_goneAfter cX3_goneAfter 5 .int rm_X3_goneAfter [.ref (a 0), .int p0] (wM cs.1 a S) r9 (wM cs.1 a S9) := by
  refine MI_of (by decide) (Nat.le_of_ble_eq_true rfl) ?_
  rintro Γ rfl rfl rfl B ret
  show X Γ 5 0 0 0 [(0, .ref (a 0)), (1, .int p0)] [] (wM Γ.cs.1 a S)
  have h28 : ∀ (n9 : Nat) (x1 : Int32) (x2 : Int32) (x3 : Int32) (S : MO), lpf4 (b_X3_goneAfter_28) n9 x1 x2 x3 S = some (r9, S9) → X Γ 5 0 0 28 [(0, .ref (a 0)), (1, .int x1), (2, .int x2), (3, .int x3)] [] (wM Γ.cs.1 a S) := by
    refine lpf4_ind (fun K28 hK28 x1 x2 x3 S h => ?_)
    unfold b_X3_goneAfter_28 at h
    refine x_iload_n B (pc' := 29) 3 dX3_goneAfter_28 rfl rfl rfl ?_
    refine x_aload_n B (pc' := 30) 0 dX3_goneAfter_29 rfl rfl rfl ?_
    refine m_ref1 B (pc' := 33) wf_RX3_7 dX3_goneAfter_30 rfl ?_
    refine x_iconst B (pc' := 34) 0 dX3_goneAfter_33 (by decide) rfl ?_
    obtain ⟨hi6, h⟩ := gd_elim h
    refine m_ald1 B (pc' := 35) hi6 dX3_goneAfter_34 rfl ?_
    refine x_icmp_ge B 75 38 dX3_goneAfter_35 (by decide) rfl (fun hc7 => ?_) (fun hc7 => ?_)
    · replace h := ite_t hc7 h
      refine x_iload_n B (pc' := 76) 2 dX3_goneAfter_75 rfl rfl rfl ?_
      obtain ⟨h1, h2⟩ := some2 h
      subst h1
      subst h2
      exact ret rfl (by exact Nat.le_of_ble_eq_true rfl) (by exact Nat.le_of_ble_eq_true rfl) dX3_goneAfter_76
    · replace h := ite_f hc7 h
      refine x_aload_n B (pc' := 39) 0 dX3_goneAfter_38 rfl rfl rfl ?_
      refine x_iload_n B (pc' := 40) 3 dX3_goneAfter_39 rfl rfl rfl ?_
      refine x_iload_n B (pc' := 41) 1 dX3_goneAfter_40 rfl rfl rfl ?_
      obtain ⟨r8, er8, h⟩ := bd_elim h
      refine x_selfVi B (pc' := 44) [.int x3, .int x1] (k_X3_loss _ _ _ a x3 x1 S er8) rfl rfl gv_RX3_112 rfl np_X3_loss ⟨Nat.le_of_ble_eq_true rfl, Nat.le_of_ble_eq_true rfl⟩ ⟨by exact Nat.le_of_ble_eq_true rfl, by exact Nat.le_of_ble_eq_true rfl⟩ rfl (Nat.le_of_ble_eq_true rfl) dX3_goneAfter_41 rfl ?_
      refine x_istore B (pc' := 46) [1, 2, 3, 4, 0] [(0, .ref (a 0)), (1, .int x1), (2, .int x2), (3, .int x3), (4, .int r8)] dX3_goneAfter_44 (by decide) rfl rfl ?_
      refine x_iload_n B (pc' := 47) 2 dX3_goneAfter_46 rfl rfl rfl ?_
      refine x_iload B (pc' := 49) 4 dX3_goneAfter_47 rfl rfl ?_
      refine x_if_le B 66 52 dX3_goneAfter_49 (by decide) rfl (fun hc9 => ?_) (fun hc9 => ?_)
      · replace h := ite_t hc9 h
        refine x_iconst B (pc' := 67) 0 dX3_goneAfter_66 (by decide) rfl ?_
        refine x_iadd B (pc' := 68) dX3_goneAfter_67 rfl ?_
        obtain ⟨v10, ev10, h⟩ := nm_elim h
        refine x_topi ev10 ?_
        refine x_istore_n B (pc' := 69) [1, 2, 0, 3, 4] [(0, .ref (a 0)), (1, .int x1), (2, .int v10), (3, .int x3), (4, .int r8)] dX3_goneAfter_68 rfl (by decide) rfl rfl ?_
        obtain ⟨v11, ev11, h⟩ := nm_elim h
        refine x_iinc B (pc' := 72) v11 3 [1, 2, 3, 0, 4] [(0, .ref (a 0)), (1, .int x1), (2, .int v10), (3, .int v11), (4, .int r8)] dX3_goneAfter_69 rfl (by rw [ev11]; rfl) (by decide) rfl rfl ?_
        refine x_goto B (pc' := 28) dX3_goneAfter_72 (by decide) ?_
        refine x_lv [0, 1, 2, 3] (lv' := [(0, .ref (a 0)), (1, .int x1), (2, .int v10), (3, .int v11)]) rfl ?_
        exact hK28 _ _ _ _ h
      · replace h := ite_f hc9 h
        refine x_iload B (pc' := 54) 4 dX3_goneAfter_52 rfl rfl ?_
        refine x_aload_n B (pc' := 55) 0 dX3_goneAfter_54 rfl rfl rfl ?_
        refine x_iload_n B (pc' := 56) 3 dX3_goneAfter_55 rfl rfl rfl ?_
        obtain ⟨r12, er12, h⟩ := bd_elim h
        refine x_selfVi B (pc' := 59) [.int x3] (k_X3_cells _ _ _ a x3 S er12) rfl rfl gv_RX3_32 rfl np_X3_cells ⟨Nat.le_of_ble_eq_true rfl, Nat.le_of_ble_eq_true rfl⟩ ⟨by exact Nat.le_of_ble_eq_true rfl, by exact Nat.le_of_ble_eq_true rfl⟩ rfl (Nat.le_of_ble_eq_true rfl) dX3_goneAfter_56 rfl ?_
        refine x_icmp_ne B 66 62 dX3_goneAfter_59 (by decide) rfl (fun hc13 => ?_) (fun hc13 => ?_)
        · replace h := ite_f hc13 h
          refine x_iconst B (pc' := 67) 0 dX3_goneAfter_66 (by decide) rfl ?_
          refine x_iadd B (pc' := 68) dX3_goneAfter_67 rfl ?_
          obtain ⟨v14, ev14, h⟩ := nm_elim h
          refine x_topi ev14 ?_
          refine x_istore_n B (pc' := 69) [1, 2, 0, 3, 4] [(0, .ref (a 0)), (1, .int x1), (2, .int v14), (3, .int x3), (4, .int r8)] dX3_goneAfter_68 rfl (by decide) rfl rfl ?_
          obtain ⟨v15, ev15, h⟩ := nm_elim h
          refine x_iinc B (pc' := 72) v15 3 [1, 2, 3, 0, 4] [(0, .ref (a 0)), (1, .int x1), (2, .int v14), (3, .int v15), (4, .int r8)] dX3_goneAfter_69 rfl (by rw [ev15]; rfl) (by decide) rfl rfl ?_
          refine x_goto B (pc' := 28) dX3_goneAfter_72 (by decide) ?_
          refine x_lv [0, 1, 2, 3] (lv' := [(0, .ref (a 0)), (1, .int x1), (2, .int v14), (3, .int v15)]) rfl ?_
          exact hK28 _ _ _ _ h
        · replace h := ite_t hc13 h
          refine x_iconst B (pc' := 63) 1 dX3_goneAfter_62 (by decide) rfl ?_
          refine x_goto B (pc' := 67) dX3_goneAfter_63 (by decide) ?_
          refine x_iadd B (pc' := 68) dX3_goneAfter_67 rfl ?_
          obtain ⟨v16, ev16, h⟩ := nm_elim h
          refine x_topi ev16 ?_
          refine x_istore_n B (pc' := 69) [1, 2, 0, 3, 4] [(0, .ref (a 0)), (1, .int x1), (2, .int v16), (3, .int x3), (4, .int r8)] dX3_goneAfter_68 rfl (by decide) rfl rfl ?_
          obtain ⟨v17, ev17, h⟩ := nm_elim h
          refine x_iinc B (pc' := 72) v17 3 [1, 2, 3, 0, 4] [(0, .ref (a 0)), (1, .int x1), (2, .int v16), (3, .int v17), (4, .int r8)] dX3_goneAfter_69 rfl (by rw [ev17]; rfl) (by decide) rfl rfl ?_
          refine x_goto B (pc' := 28) dX3_goneAfter_72 (by decide) ?_
          refine x_lv [0, 1, 2, 3] (lv' := [(0, .ref (a 0)), (1, .int x1), (2, .int v16), (3, .int v17)]) rfl ?_
          exact hK28 _ _ _ _ h
  have h16 : ∀ (x1 : Int32) (t0 : Int32) (S : MO), c_X3_goneAfter_16  x1 t0 S = some (r9, S9) → X Γ 5 0 0 16 [(0, .ref (a 0)), (1, .int x1)] [.int t0, .ref (a 0)] (wM Γ.cs.1 a S) := by
    intro  x1 t0 S h
    unfold c_X3_goneAfter_16 at h
    obtain ⟨r3, S4, er3, h⟩ := bd2_elim h
    refine x_selfVi B (pc' := 19) [.int t0] (k_X3_holds _ _ _ a t0 S er3) rfl rfl gv_RX3_64 rfl np_X3_holds ⟨Nat.le_of_ble_eq_true rfl, Nat.le_of_ble_eq_true rfl⟩ ⟨by exact Nat.le_of_ble_eq_true rfl, by exact Nat.le_of_ble_eq_true rfl⟩ rfl (Nat.le_of_ble_eq_true rfl) dX3_goneAfter_16 rfl ?_
    refine x_if_ne B 24 22 dX3_goneAfter_19 (by decide) rfl (fun hc5 => ?_) (fun hc5 => ?_)
    · replace h := ite_f hc5 h
      refine x_iconst B (pc' := 25) 0 dX3_goneAfter_24 (by decide) rfl ?_
      refine x_istore_n B (pc' := 26) [1, 2, 0] [(0, .ref (a 0)), (1, .int x1), (2, .int (0 : Int32))] dX3_goneAfter_25 rfl (by decide) rfl rfl ?_
      refine x_iconst B (pc' := 27) 0 dX3_goneAfter_26 (by decide) rfl ?_
      refine x_istore_n B (pc' := 28) [1, 2, 3, 0] [(0, .ref (a 0)), (1, .int x1), (2, .int (0 : Int32)), (3, .int (0 : Int32))] dX3_goneAfter_27 rfl (by decide) rfl rfl ?_
      exact h28  _ _ _ _ _ h
    · replace h := ite_t hc5 h
      refine x_iconst B (pc' := 23) 0 dX3_goneAfter_22 (by decide) rfl ?_
      obtain ⟨h1, h2⟩ := some2 h
      subst h1
      subst h2
      exact ret rfl (by exact Nat.le_of_ble_eq_true rfl) (by exact Nat.le_of_ble_eq_true rfl) dX3_goneAfter_23
  unfold f_X3_goneAfter at h
  refine x_aload_n B (pc' := 1) 0 dX3_goneAfter_0 rfl rfl rfl ?_
  refine x_iload_n B (pc' := 2) 1 dX3_goneAfter_1 rfl rfl rfl ?_
  refine x_iconst B (pc' := 3) 1 dX3_goneAfter_2 (by decide) rfl ?_
  refine x_bipush B (pc' := 5) 32 dX3_goneAfter_3 (by decide) rfl ?_
  obtain ⟨r1, er1, h⟩ := bd_elim h
  refine x_pureSi B (pc' := 8) [.int p0, .int (1 : Int32), .int (32 : Int32)] (k_X3_in _ _ _ p0 (1 : Int32) (32 : Int32) er1) gv_RX3_20 np_X3_in ⟨Nat.le_of_ble_eq_true rfl, Nat.le_of_ble_eq_true rfl⟩ ⟨by exact Nat.le_of_ble_eq_true rfl, by exact Nat.le_of_ble_eq_true rfl⟩ rfl (Nat.le_of_ble_eq_true rfl) dX3_goneAfter_5 rfl ?_
  refine x_if_eq B 15 11 dX3_goneAfter_8 (by decide) rfl (fun hc2 => ?_) (fun hc2 => ?_)
  · replace h := ite_t hc2 h
    refine x_iconst B (pc' := 16) 1 dX3_goneAfter_15 (by decide) rfl ?_
    exact h16  _ _ _ h
  · replace h := ite_f hc2 h
    refine x_iconst B (pc' := 12) 0 dX3_goneAfter_11 (by decide) rfl ?_
    refine x_goto B (pc' := 16) dX3_goneAfter_12 (by decide) ?_
    exact h16  _ _ _ h
def c_X3_append_30 (x1 : Int32) (t0 : Int32) (S : MO) : Option (Int32 × MO) :=
  bd2 (f_X3_holds t0 S) (fun (r4 : Int32) (S5 : MO) => if r4 = 0 then (some ((0 : Int32), S5)) else (gd (S5.1 4) 60 (nm (fun (S8 : MO) => nm (fun (S9 : MO) => some ((S9.1 4), S9)) (upd S8.1 4 ((S8.1 4) + (1 : Int32)), S8.2)) (S5.1, up2 S5.2.1 3 (upd (S5.2.1 3) (Int32.toNatClampNeg (S5.1 4)) x1), S5.2.2))))
def f_X3_append (p0 : Int32) (S : MO) : Option (Int32 × MO) :=
  bd (f_X3_in p0 (33 : Int32) (126 : Int32)) (fun (r1 : Int32) => if r1 = 0 then (c_X3_append_30 p0 (1 : Int32) S) else (if (S.1 4) = (60 : Int32) then (c_X3_append_30 p0 (2 : Int32) S) else (c_X3_append_30 p0 (0 : Int32) S)))
abbrev rm_X3_append : Room := { frames := 1, cells := 0, slots := 0, locals := 22 }
theorem np_X3_append : yX3_append.cls ≠ "java/lang/invoke/MethodHandle" ∧ yX3_append.cls ≠ "java/lang/invoke/VarHandle" ∧ (parseMethodDescriptor yX3_append.desc).map (fun d => d.parameters.length) = some 1 := by decide +kernel
set_option maxHeartbeats 4000000 in
set_option maxRecDepth 100000 in
theorem k_X3_append (l : Launch) (D : va_G) (cs : CS) (a : Nat → Nat) (p0 : Int32) (S : MO) {r9 : Int32} {S9 : MO} (h : f_X3_append p0 S = some (r9, S9)) : MI l D cs yX3_append cX3_append 2 .int rm_X3_append [.ref (a 0), .int p0] (wM cs.1 a S) r9 (wM cs.1 a S9) := by
  refine MI_of (by decide) (Nat.le_of_ble_eq_true rfl) ?_
  rintro Γ rfl rfl rfl B ret
  show X Γ 2 0 0 0 [(0, .ref (a 0)), (1, .int p0)] [] (wM Γ.cs.1 a S)
  have h30 : ∀ (x1 : Int32) (t0 : Int32) (S : MO), c_X3_append_30  x1 t0 S = some (r9, S9) → X Γ 2 0 0 30 [(0, .ref (a 0)), (1, .int x1)] [.int t0, .ref (a 0)] (wM Γ.cs.1 a S) := by
    intro  x1 t0 S h
    unfold c_X3_append_30 at h
    obtain ⟨r4, S5, er4, h⟩ := bd2_elim h
    refine x_selfVi B (pc' := 33) [.int t0] (k_X3_holds _ _ _ a t0 S er4) rfl rfl gv_RX3_64 rfl np_X3_holds ⟨Nat.le_of_ble_eq_true rfl, Nat.le_of_ble_eq_true rfl⟩ ⟨by exact Nat.le_of_ble_eq_true rfl, by exact Nat.le_of_ble_eq_true rfl⟩ rfl (Nat.le_of_ble_eq_true rfl) dX3_append_30 rfl ?_
    refine x_if_ne B 38 36 dX3_append_33 (by decide) rfl (fun hc6 => ?_) (fun hc6 => ?_)
    · replace h := ite_f hc6 h
      refine x_aload_n B (pc' := 39) 0 dX3_append_38 rfl rfl rfl ?_
      refine m_ref3 B (pc' := 42) wf_RX3_13 dX3_append_39 rfl ?_
      refine x_aload_n B (pc' := 43) 0 dX3_append_42 rfl rfl rfl ?_
      refine m_get4 B (pc' := 46) wf_RX3_115 dX3_append_43 rfl ?_
      refine x_iload_n B (pc' := 47) 1 dX3_append_46 rfl rfl rfl ?_
      obtain ⟨hi7, h⟩ := gd_elim h
      obtain ⟨S8, eS8, h⟩ := nm_elim h
      refine m_ast3 B (pc' := 48) hi7 dX3_append_47 rfl ?_
      refine m_wd eS8 ?_
      refine x_aload_n B (pc' := 49) 0 dX3_append_48 rfl rfl rfl ?_
      refine x_dup B (pc' := 50) dX3_append_49 rfl rfl ?_
      refine m_get4 B (pc' := 53) wf_RX3_115 dX3_append_50 rfl ?_
      refine x_iconst B (pc' := 54) 1 dX3_append_53 (by decide) rfl ?_
      refine x_iadd B (pc' := 55) dX3_append_54 rfl ?_
      obtain ⟨S9, eS9, h⟩ := nm_elim h
      refine m_put4 B (pc' := 58) wf_RX3_115 dX3_append_55 rfl ?_
      refine m_wd eS9 ?_
      refine x_aload_n B (pc' := 59) 0 dX3_append_58 rfl rfl rfl ?_
      refine m_get4 B (pc' := 62) wf_RX3_115 dX3_append_59 rfl ?_
      obtain ⟨h1, h2⟩ := some2 h
      subst h1
      subst h2
      exact ret rfl (by exact Nat.le_of_ble_eq_true rfl) (by exact Nat.le_of_ble_eq_true rfl) dX3_append_62
    · replace h := ite_t hc6 h
      refine x_iconst B (pc' := 37) 0 dX3_append_36 (by decide) rfl ?_
      obtain ⟨h1, h2⟩ := some2 h
      subst h1
      subst h2
      exact ret rfl (by exact Nat.le_of_ble_eq_true rfl) (by exact Nat.le_of_ble_eq_true rfl) dX3_append_37
  unfold f_X3_append at h
  refine x_aload_n B (pc' := 1) 0 dX3_append_0 rfl rfl rfl ?_
  refine x_iload_n B (pc' := 2) 1 dX3_append_1 rfl rfl rfl ?_
  refine x_bipush B (pc' := 4) 33 dX3_append_2 (by decide) rfl ?_
  refine x_bipush B (pc' := 6) 126 dX3_append_4 (by decide) rfl ?_
  obtain ⟨r1, er1, h⟩ := bd_elim h
  refine x_pureSi B (pc' := 9) [.int p0, .int (33 : Int32), .int (126 : Int32)] (k_X3_in _ _ _ p0 (33 : Int32) (126 : Int32) er1) gv_RX3_20 np_X3_in ⟨Nat.le_of_ble_eq_true rfl, Nat.le_of_ble_eq_true rfl⟩ ⟨by exact Nat.le_of_ble_eq_true rfl, by exact Nat.le_of_ble_eq_true rfl⟩ rfl (Nat.le_of_ble_eq_true rfl) dX3_append_6 rfl ?_
  refine x_if_ne B 16 12 dX3_append_9 (by decide) rfl (fun hc2 => ?_) (fun hc2 => ?_)
  · replace h := ite_f hc2 h
    refine x_aload_n B (pc' := 17) 0 dX3_append_16 rfl rfl rfl ?_
    refine m_get4 B (pc' := 20) wf_RX3_115 dX3_append_17 rfl ?_
    refine x_bipush B (pc' := 22) 60 dX3_append_20 (by decide) rfl ?_
    refine x_icmp_ne B 29 25 dX3_append_22 (by decide) rfl (fun hc3 => ?_) (fun hc3 => ?_)
    · replace h := ite_f hc3 h
      refine x_iconst B (pc' := 30) 0 dX3_append_29 (by decide) rfl ?_
      exact h30  _ _ _ h
    · replace h := ite_t hc3 h
      refine x_iconst B (pc' := 26) 2 dX3_append_25 (by decide) rfl ?_
      refine x_goto B (pc' := 30) dX3_append_26 (by decide) ?_
      exact h30  _ _ _ h
  · replace h := ite_t hc2 h
    refine x_iconst B (pc' := 13) 1 dX3_append_12 (by decide) rfl ?_
    refine x_goto B (pc' := 30) dX3_append_13 (by decide) ?_
    exact h30  _ _ _ h
def f_X3_clearText (S : MO) : Option (Int32 × MO) :=
  nm (fun (S1 : MO) => nm (fun (v2 : Int32) => nm (fun (S3 : MO) => some (v2, S3)) (upd S1.1 4 (0 : Int32), S1.2)) (S1.1 4)) (upd S.1 0 (0 : Int32), S.2)
abbrev rm_X3_clearText : Room := { frames := 0, cells := 0, slots := 0, locals := 0 }
theorem np_X3_clearText : yX3_clearText.cls ≠ "java/lang/invoke/MethodHandle" ∧ yX3_clearText.cls ≠ "java/lang/invoke/VarHandle" ∧ (parseMethodDescriptor yX3_clearText.desc).map (fun d => d.parameters.length) = some 0 := by decide +kernel
set_option maxHeartbeats 4000000 in
set_option maxRecDepth 100000 in
theorem k_X3_clearText (l : Launch) (D : va_G) (cs : CS) (a : Nat → Nat) (S : MO) {r9 : Int32} {S9 : MO} (h : f_X3_clearText S = some (r9, S9)) : MI l D cs yX3_clearText cX3_clearText 2 .int rm_X3_clearText [.ref (a 0)] (wM cs.1 a S) r9 (wM cs.1 a S9) := by
  refine MI_of (by decide) (Nat.le_of_ble_eq_true rfl) ?_
  rintro Γ rfl rfl rfl B ret
  show X Γ 2 0 0 0 [(0, .ref (a 0))] [] (wM Γ.cs.1 a S)
  unfold f_X3_clearText at h
  refine x_aload_n B (pc' := 1) 0 dX3_clearText_0 rfl rfl rfl ?_
  refine x_iconst B (pc' := 2) 0 dX3_clearText_1 (by decide) rfl ?_
  obtain ⟨S1, eS1, h⟩ := nm_elim h
  refine m_put0 B (pc' := 5) wf_RX3_16 dX3_clearText_2 rfl ?_
  refine m_wd eS1 ?_
  refine x_aload_n B (pc' := 6) 0 dX3_clearText_5 rfl rfl rfl ?_
  refine m_get4 B (pc' := 9) wf_RX3_115 dX3_clearText_6 rfl ?_
  obtain ⟨v2, ev2, h⟩ := nm_elim h
  refine x_topi ev2 ?_
  refine x_istore_n B (pc' := 10) [1, 0] [(0, .ref (a 0)), (1, .int v2)] dX3_clearText_9 rfl (by decide) rfl rfl ?_
  refine x_aload_n B (pc' := 11) 0 dX3_clearText_10 rfl rfl rfl ?_
  refine x_iconst B (pc' := 12) 0 dX3_clearText_11 (by decide) rfl ?_
  obtain ⟨S3, eS3, h⟩ := nm_elim h
  refine m_put4 B (pc' := 15) wf_RX3_115 dX3_clearText_12 rfl ?_
  refine m_wd eS3 ?_
  refine x_iload_n B (pc' := 16) 1 dX3_clearText_15 rfl rfl rfl ?_
  obtain ⟨h1, h2⟩ := some2 h
  subst h1
  subst h2
  exact ret rfl (by exact Nat.le_of_ble_eq_true rfl) (by exact Nat.le_of_ble_eq_true rfl) dX3_clearText_16
def f_X3_sign (S : MO) : Option Int32 :=
  if (S.1 4) ≤ (S.1 5) then (some (0 : Int32)) else (gd (S.1 5) 60 (some ((S.2.1 3) (Int32.toNatClampNeg (S.1 5)))))
abbrev rm_X3_sign : Room := { frames := 0, cells := 0, slots := 0, locals := 0 }
theorem np_X3_sign : yX3_sign.cls ≠ "java/lang/invoke/MethodHandle" ∧ yX3_sign.cls ≠ "java/lang/invoke/VarHandle" ∧ (parseMethodDescriptor yX3_sign.desc).map (fun d => d.parameters.length) = some 0 := by decide +kernel
set_option maxHeartbeats 4000000 in
set_option maxRecDepth 100000 in
theorem k_X3_sign (l : Launch) (D : va_G) (cs : CS) (a : Nat → Nat) (S : MO) {r9 : Int32} (h : f_X3_sign S = some r9) : MI l D cs yX3_sign cX3_sign 1 .int rm_X3_sign [.ref (a 0)] (wM cs.1 a S) r9 (wM cs.1 a S) := by
  refine MI_of (by decide) (Nat.le_of_ble_eq_true rfl) ?_
  rintro Γ rfl rfl rfl B ret
  show X Γ 1 0 0 0 [(0, .ref (a 0))] [] (wM Γ.cs.1 a S)
  unfold f_X3_sign at h
  refine x_aload_n B (pc' := 1) 0 dX3_sign_0 rfl rfl rfl ?_
  refine m_get5 B (pc' := 4) wf_RX3_118 dX3_sign_1 rfl ?_
  refine x_aload_n B (pc' := 5) 0 dX3_sign_4 rfl rfl rfl ?_
  refine m_get4 B (pc' := 8) wf_RX3_115 dX3_sign_5 rfl ?_
  refine x_icmp_ge B 23 11 dX3_sign_8 (by decide) rfl (fun hc1 => ?_) (fun hc1 => ?_)
  · replace h := ite_t hc1 h
    refine x_iconst B (pc' := 24) 0 dX3_sign_23 (by decide) rfl ?_
    have h1 := Option.some.inj h
    subst h1
    exact ret rfl (by exact Nat.le_of_ble_eq_true rfl) (by exact Nat.le_of_ble_eq_true rfl) dX3_sign_24
  · replace h := ite_f hc1 h
    refine x_aload_n B (pc' := 12) 0 dX3_sign_11 rfl rfl rfl ?_
    refine m_ref3 B (pc' := 15) wf_RX3_13 dX3_sign_12 rfl ?_
    refine x_aload_n B (pc' := 16) 0 dX3_sign_15 rfl rfl rfl ?_
    refine m_get5 B (pc' := 19) wf_RX3_118 dX3_sign_16 rfl ?_
    obtain ⟨hi2, h⟩ := gd_elim h
    refine m_ald3 B (pc' := 20) hi2 dX3_sign_19 rfl ?_
    refine x_goto B (pc' := 24) dX3_sign_20 (by decide) ?_
    have h1 := Option.some.inj h
    subst h1
    exact ret rfl (by exact Nat.le_of_ble_eq_true rfl) (by exact Nat.le_of_ble_eq_true rfl) dX3_sign_24
def c_X3_takes_28 (x2 : Int32) (t0 : Int32) (t1 : Int32) (S : MO) : Option (Int32 × MO) :=
  nm (fun (S4 : MO) => zb x2 (some (x2, S4))) (upd S.1 5 (t1 + t0), S.2)
def c_X3_takes_13 (t0 : Int32) (S : MO) : Option (Int32 × MO) :=
  if t0 = 0 then (c_X3_takes_28 t0 (0 : Int32) (S.1 5) S) else (c_X3_takes_28 t0 (1 : Int32) (S.1 5) S)
def f_X3_takes (p0 : Int32) (S : MO) : Option (Int32 × MO) :=
  bd (f_X3_sign S) (fun (r1 : Int32) => if r1 = p0 then (c_X3_takes_13 (1 : Int32) S) else (c_X3_takes_13 (0 : Int32) S))
abbrev rm_X3_takes : Room := { frames := 1, cells := 0, slots := 0, locals := 20 }
theorem np_X3_takes : yX3_takes.cls ≠ "java/lang/invoke/MethodHandle" ∧ yX3_takes.cls ≠ "java/lang/invoke/VarHandle" ∧ (parseMethodDescriptor yX3_takes.desc).map (fun d => d.parameters.length) = some 1 := by decide +kernel
set_option maxHeartbeats 4000000 in
set_option maxRecDepth 100000 in
theorem k_X3_takes (l : Launch) (D : va_G) (cs : CS) (a : Nat → Nat) (p0 : Int32) (S : MO) {r9 : Int32} {S9 : MO} (h : f_X3_takes p0 S = some (r9, S9)) : MI l D cs yX3_takes cX3_takes 3 .boolean rm_X3_takes [.ref (a 0), .int p0] (wM cs.1 a S) r9 (wM cs.1 a S9) := by
  refine MI_of (by decide) (Nat.le_of_ble_eq_true rfl) ?_
  rintro Γ rfl rfl rfl B ret
  show X Γ 3 0 0 0 [(0, .ref (a 0)), (1, .int p0)] [] (wM Γ.cs.1 a S)
  have h28 : ∀ (x2 : Int32) (t0 : Int32) (t1 : Int32) (S : MO), c_X3_takes_28  x2 t0 t1 S = some (r9, S9) → X Γ 3 0 0 28 [(2, .int x2)] [.int t0, .int t1, .ref (a 0)] (wM Γ.cs.1 a S) := by
    intro  x2 t0 t1 S h
    unfold c_X3_takes_28 at h
    refine x_iadd B (pc' := 29) dX3_takes_28 rfl ?_
    obtain ⟨S4, eS4, h⟩ := nm_elim h
    refine m_put5 B (pc' := 32) wf_RX3_118 dX3_takes_29 rfl ?_
    refine m_wd eS4 ?_
    refine x_iload_n B (pc' := 33) 0 dX3_takes_32 rfl rfl rfl ?_
    obtain ⟨hz5, h⟩ := zb_elim h
    obtain ⟨h1, h2⟩ := some2 h
    subst h1
    subst h2
    exact ret (zb_nar hz5) (by exact Nat.le_of_ble_eq_true rfl) (by exact Nat.le_of_ble_eq_true rfl) dX3_takes_33
  have h13 : ∀ (t0 : Int32) (S : MO), c_X3_takes_13  t0 S = some (r9, S9) → X Γ 3 0 0 13 [(0, .ref (a 0))] [.int t0] (wM Γ.cs.1 a S) := by
    intro  t0 S h
    unfold c_X3_takes_13 at h
    refine x_istore_n B (pc' := 14) [1, 0] [(0, .ref (a 0)), (2, .int t0)] dX3_takes_13 rfl (by decide) rfl rfl ?_
    refine x_aload_n B (pc' := 15) 0 dX3_takes_14 rfl rfl rfl ?_
    refine x_dup B (pc' := 16) dX3_takes_15 rfl rfl ?_
    refine m_get5 B (pc' := 19) wf_RX3_118 dX3_takes_16 rfl ?_
    refine x_iload_n B (pc' := 20) 1 dX3_takes_19 rfl rfl rfl ?_
    refine x_if_eq B 27 23 dX3_takes_20 (by decide) rfl (fun hc3 => ?_) (fun hc3 => ?_)
    · replace h := ite_t hc3 h
      refine x_iconst B (pc' := 28) 0 dX3_takes_27 (by decide) rfl ?_
      refine x_lv [1] (lv' := [(2, .int t0)]) rfl ?_
      exact h28  _ _ _ _ h
    · replace h := ite_f hc3 h
      refine x_iconst B (pc' := 24) 1 dX3_takes_23 (by decide) rfl ?_
      refine x_goto B (pc' := 28) dX3_takes_24 (by decide) ?_
      refine x_lv [1] (lv' := [(2, .int t0)]) rfl ?_
      exact h28  _ _ _ _ h
  unfold f_X3_takes at h
  refine x_aload_n B (pc' := 1) 0 dX3_takes_0 rfl rfl rfl ?_
  obtain ⟨r1, er1, h⟩ := bd_elim h
  refine x_selfVi B (pc' := 4) [] (k_X3_sign _ _ _ a S er1) rfl rfl gv_RX3_121 rfl np_X3_sign ⟨Nat.le_of_ble_eq_true rfl, Nat.le_of_ble_eq_true rfl⟩ ⟨by exact Nat.le_of_ble_eq_true rfl, by exact Nat.le_of_ble_eq_true rfl⟩ rfl (Nat.le_of_ble_eq_true rfl) dX3_takes_1 rfl ?_
  refine x_iload_n B (pc' := 5) 1 dX3_takes_4 rfl rfl rfl ?_
  refine x_icmp_ne B 12 8 dX3_takes_5 (by decide) rfl (fun hc2 => ?_) (fun hc2 => ?_)
  · replace h := ite_f hc2 h
    refine x_iconst B (pc' := 13) 0 dX3_takes_12 (by decide) rfl ?_
    refine x_lv [0] (lv' := [(0, .ref (a 0))]) rfl ?_
    exact h13  _ _ h
  · replace h := ite_t hc2 h
    refine x_iconst B (pc' := 9) 1 dX3_takes_8 (by decide) rfl ?_
    refine x_goto B (pc' := 13) dX3_takes_9 (by decide) ?_
    refine x_lv [0] (lv' := [(0, .ref (a 0))]) rfl ?_
    exact h13  _ _ h
def b_X3_number_47 (K47 : Int32 → Int32 → MO → Option (Int32 × MO)) (x2 : Int32) (x3 : Int32) (S : MO) : Option (Int32 × MO) :=
  if x3 ≤ 0 then (some (x3, S)) else (bd (f_X3_sign S) (fun (r8 : Int32) => bd (f_X3_in r8 (48 : Int32) (57 : Int32)) (fun (r9 : Int32) => if r9 = 0 then (some (x3, S)) else (bd (f_X3_sign S) (fun (r11 : Int32) => if x2 < ((((10 : Int32) * x3) + r11) - (48 : Int32)) then (some (x3, S)) else (bd (f_X3_sign S) (fun (r13 : Int32) => nm (fun (v14 : Int32) => nm (fun (S15 : MO) => K47 x2 v14 S15) (upd S.1 5 ((S.1 5) + (1 : Int32)), S.2)) ((((10 : Int32) * x3) + r13) - (48 : Int32)))))))))
def c_X3_number_43 (x2 : Int32) (x3 : Int32) (t0 : Int32) (t1 : Int32) (S : MO) : Option (Int32 × MO) :=
  nm (fun (S6 : MO) => lpf3 (b_X3_number_47) FU x2 x3 S6) (upd S.1 5 (t1 + t0), S.2)
def c_X3_number_27 (x2 : Int32) (t0 : Int32) (S : MO) : Option (Int32 × MO) :=
  if t0 = ((-1) : Int32) then (c_X3_number_43 x2 t0 (0 : Int32) (S.1 5) S) else (c_X3_number_43 x2 t0 (1 : Int32) (S.1 5) S)
def f_X3_number (p0 : Int32) (p1 : Int32) (S : MO) : Option (Int32 × MO) :=
  bd (f_X3_sign S) (fun (r1 : Int32) => bd (f_X3_in r1 ((48 : Int32) + p0) (57 : Int32)) (fun (r2 : Int32) => if r2 = 0 then (c_X3_number_27 p1 ((-1) : Int32) S) else (bd (f_X3_sign S) (fun (r4 : Int32) => c_X3_number_27 p1 (r4 - (48 : Int32)) S))))
abbrev rm_X3_number : Room := { frames := 1, cells := 0, slots := 0, locals := 22 }
theorem np_X3_number : yX3_number.cls ≠ "java/lang/invoke/MethodHandle" ∧ yX3_number.cls ≠ "java/lang/invoke/VarHandle" ∧ (parseMethodDescriptor yX3_number.desc).map (fun d => d.parameters.length) = some 2 := by decide +kernel
set_option maxHeartbeats 4000000 in
set_option maxRecDepth 100000 in
theorem k_X3_number (l : Launch) (D : va_G) (cs : CS) (a : Nat → Nat) (p0 : Int32) (p1 : Int32) (S : MO) {r9 : Int32} {S9 : MO} (h : f_X3_number p0 p1 S = some (r9, S9)) : MI l D cs yX3_number cX3_number 4 .int rm_X3_number [.ref (a 0), .int p0, .int p1] (wM cs.1 a S) r9 (wM cs.1 a S9) := by
  refine MI_of (by decide) (Nat.le_of_ble_eq_true rfl) ?_
  rintro Γ rfl rfl rfl B ret
  show X Γ 4 0 0 0 [(0, .ref (a 0)), (1, .int p0), (2, .int p1)] [] (wM Γ.cs.1 a S)
  have h47 : ∀ (n9 : Nat) (x2 : Int32) (x3 : Int32) (S : MO), lpf3 (b_X3_number_47) n9 x2 x3 S = some (r9, S9) → X Γ 4 0 0 47 [(0, .ref (a 0)), (2, .int x2), (3, .int x3)] [] (wM Γ.cs.1 a S) := by
    refine lpf3_ind (fun K47 hK47 x2 x3 S h => ?_)
    unfold b_X3_number_47 at h
    refine x_iload_n B (pc' := 48) 2 dX3_number_47 rfl rfl rfl ?_
    refine x_if_le B 107 51 dX3_number_48 (by decide) rfl (fun hc7 => ?_) (fun hc7 => ?_)
    · replace h := ite_t hc7 h
      refine x_iload_n B (pc' := 108) 2 dX3_number_107 rfl rfl rfl ?_
      obtain ⟨h1, h2⟩ := some2 h
      subst h1
      subst h2
      exact ret rfl (by exact Nat.le_of_ble_eq_true rfl) (by exact Nat.le_of_ble_eq_true rfl) dX3_number_108
    · replace h := ite_f hc7 h
      refine x_aload_n B (pc' := 52) 0 dX3_number_51 rfl rfl rfl ?_
      obtain ⟨r8, er8, h⟩ := bd_elim h
      refine x_selfVi B (pc' := 55) [] (k_X3_sign _ _ _ a S er8) rfl rfl gv_RX3_121 rfl np_X3_sign ⟨Nat.le_of_ble_eq_true rfl, Nat.le_of_ble_eq_true rfl⟩ ⟨by exact Nat.le_of_ble_eq_true rfl, by exact Nat.le_of_ble_eq_true rfl⟩ rfl (Nat.le_of_ble_eq_true rfl) dX3_number_52 rfl ?_
      refine x_bipush B (pc' := 57) 48 dX3_number_55 (by decide) rfl ?_
      refine x_bipush B (pc' := 59) 57 dX3_number_57 (by decide) rfl ?_
      obtain ⟨r9, er9, h⟩ := bd_elim h
      refine x_pureSi B (pc' := 62) [.int r8, .int (48 : Int32), .int (57 : Int32)] (k_X3_in _ _ _ r8 (48 : Int32) (57 : Int32) er9) gv_RX3_20 np_X3_in ⟨Nat.le_of_ble_eq_true rfl, Nat.le_of_ble_eq_true rfl⟩ ⟨by exact Nat.le_of_ble_eq_true rfl, by exact Nat.le_of_ble_eq_true rfl⟩ rfl (Nat.le_of_ble_eq_true rfl) dX3_number_59 rfl ?_
      refine x_if_eq B 107 65 dX3_number_62 (by decide) rfl (fun hc10 => ?_) (fun hc10 => ?_)
      · replace h := ite_t hc10 h
        refine x_iload_n B (pc' := 108) 2 dX3_number_107 rfl rfl rfl ?_
        obtain ⟨h1, h2⟩ := some2 h
        subst h1
        subst h2
        exact ret rfl (by exact Nat.le_of_ble_eq_true rfl) (by exact Nat.le_of_ble_eq_true rfl) dX3_number_108
      · replace h := ite_f hc10 h
        refine x_bipush B (pc' := 67) 10 dX3_number_65 (by decide) rfl ?_
        refine x_iload_n B (pc' := 68) 2 dX3_number_67 rfl rfl rfl ?_
        refine x_imul B (pc' := 69) dX3_number_68 rfl ?_
        refine x_aload_n B (pc' := 70) 0 dX3_number_69 rfl rfl rfl ?_
        obtain ⟨r11, er11, h⟩ := bd_elim h
        refine x_selfVi B (pc' := 73) [] (k_X3_sign _ _ _ a S er11) rfl rfl gv_RX3_121 rfl np_X3_sign ⟨Nat.le_of_ble_eq_true rfl, Nat.le_of_ble_eq_true rfl⟩ ⟨by exact Nat.le_of_ble_eq_true rfl, by exact Nat.le_of_ble_eq_true rfl⟩ rfl (Nat.le_of_ble_eq_true rfl) dX3_number_70 rfl ?_
        refine x_iadd B (pc' := 74) dX3_number_73 rfl ?_
        refine x_bipush B (pc' := 76) 48 dX3_number_74 (by decide) rfl ?_
        refine x_isub B (pc' := 77) dX3_number_76 rfl ?_
        refine x_iload_n B (pc' := 78) 1 dX3_number_77 rfl rfl rfl ?_
        refine x_icmp_gt B 107 81 dX3_number_78 (by decide) rfl (fun hc12 => ?_) (fun hc12 => ?_)
        · replace h := ite_t hc12 h
          refine x_iload_n B (pc' := 108) 2 dX3_number_107 rfl rfl rfl ?_
          obtain ⟨h1, h2⟩ := some2 h
          subst h1
          subst h2
          exact ret rfl (by exact Nat.le_of_ble_eq_true rfl) (by exact Nat.le_of_ble_eq_true rfl) dX3_number_108
        · replace h := ite_f hc12 h
          refine x_bipush B (pc' := 83) 10 dX3_number_81 (by decide) rfl ?_
          refine x_iload_n B (pc' := 84) 2 dX3_number_83 rfl rfl rfl ?_
          refine x_imul B (pc' := 85) dX3_number_84 rfl ?_
          refine x_aload_n B (pc' := 86) 0 dX3_number_85 rfl rfl rfl ?_
          obtain ⟨r13, er13, h⟩ := bd_elim h
          refine x_selfVi B (pc' := 89) [] (k_X3_sign _ _ _ a S er13) rfl rfl gv_RX3_121 rfl np_X3_sign ⟨Nat.le_of_ble_eq_true rfl, Nat.le_of_ble_eq_true rfl⟩ ⟨by exact Nat.le_of_ble_eq_true rfl, by exact Nat.le_of_ble_eq_true rfl⟩ rfl (Nat.le_of_ble_eq_true rfl) dX3_number_86 rfl ?_
          refine x_iadd B (pc' := 90) dX3_number_89 rfl ?_
          refine x_bipush B (pc' := 92) 48 dX3_number_90 (by decide) rfl ?_
          refine x_isub B (pc' := 93) dX3_number_92 rfl ?_
          obtain ⟨v14, ev14, h⟩ := nm_elim h
          refine x_topi ev14 ?_
          refine x_istore_n B (pc' := 94) [1, 2, 0] [(0, .ref (a 0)), (2, .int x2), (3, .int v14)] dX3_number_93 rfl (by decide) rfl rfl ?_
          refine x_aload_n B (pc' := 95) 0 dX3_number_94 rfl rfl rfl ?_
          refine x_dup B (pc' := 96) dX3_number_95 rfl rfl ?_
          refine m_get5 B (pc' := 99) wf_RX3_118 dX3_number_96 rfl ?_
          refine x_iconst B (pc' := 100) 1 dX3_number_99 (by decide) rfl ?_
          refine x_iadd B (pc' := 101) dX3_number_100 rfl ?_
          obtain ⟨S15, eS15, h⟩ := nm_elim h
          refine m_put5 B (pc' := 104) wf_RX3_118 dX3_number_101 rfl ?_
          refine m_wd eS15 ?_
          refine x_goto B (pc' := 47) dX3_number_104 (by decide) ?_
          exact hK47 _ _ _ h
  have h43 : ∀ (x2 : Int32) (x3 : Int32) (t0 : Int32) (t1 : Int32) (S : MO), c_X3_number_43  x2 x3 t0 t1 S = some (r9, S9) → X Γ 4 0 0 43 [(0, .ref (a 0)), (2, .int x2), (3, .int x3)] [.int t0, .int t1, .ref (a 0)] (wM Γ.cs.1 a S) := by
    intro  x2 x3 t0 t1 S h
    unfold c_X3_number_43 at h
    refine x_iadd B (pc' := 44) dX3_number_43 rfl ?_
    obtain ⟨S6, eS6, h⟩ := nm_elim h
    refine m_put5 B (pc' := 47) wf_RX3_118 dX3_number_44 rfl ?_
    refine m_wd eS6 ?_
    exact h47  _ _ _ _ h
  have h27 : ∀ (x2 : Int32) (t0 : Int32) (S : MO), c_X3_number_27  x2 t0 S = some (r9, S9) → X Γ 4 0 0 27 [(0, .ref (a 0)), (2, .int x2)] [.int t0] (wM Γ.cs.1 a S) := by
    intro  x2 t0 S h
    unfold c_X3_number_27 at h
    refine x_istore_n B (pc' := 28) [1, 2, 0] [(0, .ref (a 0)), (2, .int x2), (3, .int t0)] dX3_number_27 rfl (by decide) rfl rfl ?_
    refine x_aload_n B (pc' := 29) 0 dX3_number_28 rfl rfl rfl ?_
    refine x_dup B (pc' := 30) dX3_number_29 rfl rfl ?_
    refine m_get5 B (pc' := 33) wf_RX3_118 dX3_number_30 rfl ?_
    refine x_iload_n B (pc' := 34) 2 dX3_number_33 rfl rfl rfl ?_
    refine x_iconst B (pc' := 35) (-1) dX3_number_34 (by decide) rfl ?_
    refine x_icmp_ne B 42 38 dX3_number_35 (by decide) rfl (fun hc5 => ?_) (fun hc5 => ?_)
    · replace h := ite_f hc5 h
      refine x_iconst B (pc' := 43) 1 dX3_number_42 (by decide) rfl ?_
      exact h43  _ _ _ _ _ h
    · replace h := ite_t hc5 h
      refine x_iconst B (pc' := 39) 0 dX3_number_38 (by decide) rfl ?_
      refine x_goto B (pc' := 43) dX3_number_39 (by decide) ?_
      exact h43  _ _ _ _ _ h
  unfold f_X3_number at h
  refine x_aload_n B (pc' := 1) 0 dX3_number_0 rfl rfl rfl ?_
  obtain ⟨r1, er1, h⟩ := bd_elim h
  refine x_selfVi B (pc' := 4) [] (k_X3_sign _ _ _ a S er1) rfl rfl gv_RX3_121 rfl np_X3_sign ⟨Nat.le_of_ble_eq_true rfl, Nat.le_of_ble_eq_true rfl⟩ ⟨by exact Nat.le_of_ble_eq_true rfl, by exact Nat.le_of_ble_eq_true rfl⟩ rfl (Nat.le_of_ble_eq_true rfl) dX3_number_1 rfl ?_
  refine x_bipush B (pc' := 6) 48 dX3_number_4 (by decide) rfl ?_
  refine x_iload_n B (pc' := 7) 1 dX3_number_6 rfl rfl rfl ?_
  refine x_iadd B (pc' := 8) dX3_number_7 rfl ?_
  refine x_bipush B (pc' := 10) 57 dX3_number_8 (by decide) rfl ?_
  obtain ⟨r2, er2, h⟩ := bd_elim h
  refine x_pureSi B (pc' := 13) [.int r1, .int ((48 : Int32) + p0), .int (57 : Int32)] (k_X3_in _ _ _ r1 ((48 : Int32) + p0) (57 : Int32) er2) gv_RX3_20 np_X3_in ⟨Nat.le_of_ble_eq_true rfl, Nat.le_of_ble_eq_true rfl⟩ ⟨by exact Nat.le_of_ble_eq_true rfl, by exact Nat.le_of_ble_eq_true rfl⟩ rfl (Nat.le_of_ble_eq_true rfl) dX3_number_10 rfl ?_
  refine x_if_eq B 26 16 dX3_number_13 (by decide) rfl (fun hc3 => ?_) (fun hc3 => ?_)
  · replace h := ite_t hc3 h
    refine x_iconst B (pc' := 27) (-1) dX3_number_26 (by decide) rfl ?_
    refine x_lv [0, 2] (lv' := [(0, .ref (a 0)), (2, .int p1)]) rfl ?_
    exact h27  _ _ _ h
  · replace h := ite_f hc3 h
    refine x_aload_n B (pc' := 17) 0 dX3_number_16 rfl rfl rfl ?_
    obtain ⟨r4, er4, h⟩ := bd_elim h
    refine x_selfVi B (pc' := 20) [] (k_X3_sign _ _ _ a S er4) rfl rfl gv_RX3_121 rfl np_X3_sign ⟨Nat.le_of_ble_eq_true rfl, Nat.le_of_ble_eq_true rfl⟩ ⟨by exact Nat.le_of_ble_eq_true rfl, by exact Nat.le_of_ble_eq_true rfl⟩ rfl (Nat.le_of_ble_eq_true rfl) dX3_number_17 rfl ?_
    refine x_bipush B (pc' := 22) 48 dX3_number_20 (by decide) rfl ?_
    refine x_isub B (pc' := 23) dX3_number_22 rfl ?_
    refine x_goto B (pc' := 27) dX3_number_23 (by decide) ?_
    refine x_lv [0, 2] (lv' := [(0, .ref (a 0)), (2, .int p1)]) rfl ?_
    exact h27  _ _ _ h
def c_X3_readsOrder_219 (t0 : Int32) (S : MO) : Option (Int32 × MO) :=
  nm (fun (S52 : MO) => if (S52.1 7) = ((-1) : Int32) then (some ((0 : Int32), S52)) else (some ((1 : Int32), S52))) (upd S.1 7 t0, S.2)
def c_X3_readsOrder_208 (S : MO) : Option (Int32 × MO) :=
  bd2 (f_X3_number (0 : Int32) (9 : Int32) S) (fun (r50 : Int32) (S51 : MO) => c_X3_readsOrder_219 r50 S51)
def c_X3_readsOrder_120 (t0 : Int32) (S : MO) : Option (Int32 × MO) :=
  nm (fun (S54 : MO) => if (S54.1 8) = ((-1) : Int32) then (some ((0 : Int32), S54)) else (some ((1 : Int32), S54))) (upd S.1 8 t0, S.2)
def c_X3_readsOrder_119 (S : MO) : Option (Int32 × MO) :=
  c_X3_readsOrder_120 ((-1) : Int32) S
def f_X3_readsOrder (S : MO) : Option (Int32 × MO) :=
  bd (f_X3_sign S) (fun (r1 : Int32) => nm (fun (S2 : MO) => bd2 (f_X3_takes (98 : Int32) S2) (fun (r3 : Int32) (S4 : MO) => if r3 = 0 then (bd2 (f_X3_takes (104 : Int32) S4) (fun (r6 : Int32) (S7 : MO) => if r6 = 0 then (bd2 (f_X3_takes (112 : Int32) S7) (fun (r9 : Int32) (S10 : MO) => if r9 = 0 then (bd2 (f_X3_takes (115 : Int32) S10) (fun (r12 : Int32) (S13 : MO) => if r12 = 0 then (bd2 (f_X3_takes (114 : Int32) S13) (fun (r15 : Int32) (S16 : MO) => if r15 = 0 then (bd2 (f_X3_takes (107 : Int32) S16) (fun (r18 : Int32) (S19 : MO) => if r18 = 0 then (bd2 (f_X3_takes (102 : Int32) S19) (fun (r21 : Int32) (S22 : MO) => if r21 = 0 then (bd2 (f_X3_takes (117 : Int32) S22) (fun (r24 : Int32) (S25 : MO) => if r24 = 0 then (bd2 (f_X3_takes (101 : Int32) S25) (fun (r27 : Int32) (S28 : MO) => if r27 = 0 then (bd2 (f_X3_takes (103 : Int32) S28) (fun (r30 : Int32) (S31 : MO) => if r30 = 0 then (c_X3_readsOrder_219 ((-1) : Int32) S31) else (c_X3_readsOrder_208 S31))) else (c_X3_readsOrder_208 S28))) else (c_X3_readsOrder_208 S25))) else (c_X3_readsOrder_208 S22))) else (bd2 (f_X3_number (1 : Int32) (9 : Int32) S19) (fun (r33 : Int32) (S34 : MO) => nm (fun (S35 : MO) => if (S35.1 7) = ((-1) : Int32) then (some ((0 : Int32), S35)) else (some ((1 : Int32), S35))) (upd S34.1 7 r33, S34.2))))) else (bd2 (f_X3_number (1 : Int32) (32 : Int32) S16) (fun (r37 : Int32) (S38 : MO) => nm (fun (S39 : MO) => if (S39.1 7) = ((-1) : Int32) then (c_X3_readsOrder_119 S39) else (bd2 (f_X3_takes (61 : Int32) S39) (fun (r41 : Int32) (S42 : MO) => if r41 = 0 then (c_X3_readsOrder_119 S42) else (bd2 (f_X3_number (0 : Int32) (99 : Int32) S42) (fun (r44 : Int32) (S45 : MO) => c_X3_readsOrder_120 r44 S45))))) (upd S38.1 7 r37, S38.2))))) else (bd2 (f_X3_number (0 : Int32) (99 : Int32) S13) (fun (r46 : Int32) (S47 : MO) => nm (fun (S48 : MO) => if (S48.1 8) = ((-1) : Int32) then (some ((0 : Int32), S48)) else (some ((1 : Int32), S48))) (upd S47.1 8 r46, S47.2))))) else (some ((1 : Int32), S10)))) else (some ((1 : Int32), S7)))) else (some ((1 : Int32), S4)))) (upd S.1 6 r1, S.2))
abbrev rm_X3_readsOrder : Room := { frames := 2, cells := 0, slots := 0, locals := 45 }
theorem np_X3_readsOrder : yX3_readsOrder.cls ≠ "java/lang/invoke/MethodHandle" ∧ yX3_readsOrder.cls ≠ "java/lang/invoke/VarHandle" ∧ (parseMethodDescriptor yX3_readsOrder.desc).map (fun d => d.parameters.length) = some 0 := by decide +kernel
set_option maxHeartbeats 4000000 in
set_option maxRecDepth 100000 in
theorem k_X3_readsOrder (l : Launch) (D : va_G) (cs : CS) (a : Nat → Nat) (S : MO) {r9 : Int32} {S9 : MO} (h : f_X3_readsOrder S = some (r9, S9)) : MI l D cs yX3_readsOrder cX3_readsOrder 1 .boolean rm_X3_readsOrder [.ref (a 0)] (wM cs.1 a S) r9 (wM cs.1 a S9) := by
  refine MI_of (by decide) (Nat.le_of_ble_eq_true rfl) ?_
  rintro Γ rfl rfl rfl B ret
  show X Γ 1 0 0 0 [(0, .ref (a 0))] [] (wM Γ.cs.1 a S)
  have h219 : ∀ (t0 : Int32) (S : MO), c_X3_readsOrder_219  t0 S = some (r9, S9) → X Γ 1 0 0 219 [(0, .ref (a 0))] [.int t0, .ref (a 0)] (wM Γ.cs.1 a S) := by
    intro  t0 S h
    unfold c_X3_readsOrder_219 at h
    obtain ⟨S52, eS52, h⟩ := nm_elim h
    refine m_put7 B (pc' := 222) wf_RX3_136 dX3_readsOrder_219 rfl ?_
    refine m_wd eS52 ?_
    refine x_aload_n B (pc' := 223) 0 dX3_readsOrder_222 rfl rfl rfl ?_
    refine m_get7 B (pc' := 226) wf_RX3_136 dX3_readsOrder_223 rfl ?_
    refine x_iconst B (pc' := 227) (-1) dX3_readsOrder_226 (by decide) rfl ?_
    refine x_icmp_eq B 234 230 dX3_readsOrder_227 (by decide) rfl (fun hc53 => ?_) (fun hc53 => ?_)
    · replace h := ite_t hc53 h
      refine x_iconst B (pc' := 235) 0 dX3_readsOrder_234 (by decide) rfl ?_
      obtain ⟨h1, h2⟩ := some2 h
      subst h1
      subst h2
      exact ret rfl (by exact Nat.le_of_ble_eq_true rfl) (by exact Nat.le_of_ble_eq_true rfl) dX3_readsOrder_235
    · replace h := ite_f hc53 h
      refine x_iconst B (pc' := 231) 1 dX3_readsOrder_230 (by decide) rfl ?_
      refine x_goto B (pc' := 235) dX3_readsOrder_231 (by decide) ?_
      obtain ⟨h1, h2⟩ := some2 h
      subst h1
      subst h2
      exact ret rfl (by exact Nat.le_of_ble_eq_true rfl) (by exact Nat.le_of_ble_eq_true rfl) dX3_readsOrder_235
  have h208 : ∀ (S : MO), c_X3_readsOrder_208  S = some (r9, S9) → X Γ 1 0 0 208 [(0, .ref (a 0))] [.ref (a 0)] (wM Γ.cs.1 a S) := by
    intro  S h
    unfold c_X3_readsOrder_208 at h
    refine x_aload_n B (pc' := 209) 0 dX3_readsOrder_208 rfl rfl rfl ?_
    refine x_iconst B (pc' := 210) 0 dX3_readsOrder_209 (by decide) rfl ?_
    refine x_bipush B (pc' := 212) 9 dX3_readsOrder_210 (by decide) rfl ?_
    obtain ⟨r50, S51, er50, h⟩ := bd2_elim h
    refine x_selfVi B (pc' := 215) [.int (0 : Int32), .int (9 : Int32)] (k_X3_number _ _ _ a (0 : Int32) (9 : Int32) S er50) rfl rfl gv_RX3_130 rfl np_X3_number ⟨Nat.le_of_ble_eq_true rfl, Nat.le_of_ble_eq_true rfl⟩ ⟨by exact Nat.le_of_ble_eq_true rfl, by exact Nat.le_of_ble_eq_true rfl⟩ rfl (Nat.le_of_ble_eq_true rfl) dX3_readsOrder_212 rfl ?_
    refine x_goto B (pc' := 219) dX3_readsOrder_215 (by decide) ?_
    exact h219  _ _ h
  have h120 : ∀ (t0 : Int32) (S : MO), c_X3_readsOrder_120  t0 S = some (r9, S9) → X Γ 1 0 0 120 [(0, .ref (a 0))] [.int t0, .ref (a 0)] (wM Γ.cs.1 a S) := by
    intro  t0 S h
    unfold c_X3_readsOrder_120 at h
    obtain ⟨S54, eS54, h⟩ := nm_elim h
    refine m_put8 B (pc' := 123) wf_RX3_133 dX3_readsOrder_120 rfl ?_
    refine m_wd eS54 ?_
    refine x_aload_n B (pc' := 124) 0 dX3_readsOrder_123 rfl rfl rfl ?_
    refine m_get8 B (pc' := 127) wf_RX3_133 dX3_readsOrder_124 rfl ?_
    refine x_iconst B (pc' := 128) (-1) dX3_readsOrder_127 (by decide) rfl ?_
    refine x_icmp_eq B 135 131 dX3_readsOrder_128 (by decide) rfl (fun hc55 => ?_) (fun hc55 => ?_)
    · replace h := ite_t hc55 h
      refine x_iconst B (pc' := 136) 0 dX3_readsOrder_135 (by decide) rfl ?_
      obtain ⟨h1, h2⟩ := some2 h
      subst h1
      subst h2
      exact ret rfl (by exact Nat.le_of_ble_eq_true rfl) (by exact Nat.le_of_ble_eq_true rfl) dX3_readsOrder_136
    · replace h := ite_f hc55 h
      refine x_iconst B (pc' := 132) 1 dX3_readsOrder_131 (by decide) rfl ?_
      refine x_goto B (pc' := 136) dX3_readsOrder_132 (by decide) ?_
      obtain ⟨h1, h2⟩ := some2 h
      subst h1
      subst h2
      exact ret rfl (by exact Nat.le_of_ble_eq_true rfl) (by exact Nat.le_of_ble_eq_true rfl) dX3_readsOrder_136
  have h119 : ∀ (S : MO), c_X3_readsOrder_119  S = some (r9, S9) → X Γ 1 0 0 119 [(0, .ref (a 0))] [.ref (a 0)] (wM Γ.cs.1 a S) := by
    intro  S h
    unfold c_X3_readsOrder_119 at h
    refine x_iconst B (pc' := 120) (-1) dX3_readsOrder_119 (by decide) rfl ?_
    exact h120  _ _ h
  unfold f_X3_readsOrder at h
  refine x_aload_n B (pc' := 1) 0 dX3_readsOrder_0 rfl rfl rfl ?_
  refine x_aload_n B (pc' := 2) 0 dX3_readsOrder_1 rfl rfl rfl ?_
  obtain ⟨r1, er1, h⟩ := bd_elim h
  refine x_selfVi B (pc' := 5) [] (k_X3_sign _ _ _ a S er1) rfl rfl gv_RX3_121 rfl np_X3_sign ⟨Nat.le_of_ble_eq_true rfl, Nat.le_of_ble_eq_true rfl⟩ ⟨by exact Nat.le_of_ble_eq_true rfl, by exact Nat.le_of_ble_eq_true rfl⟩ rfl (Nat.le_of_ble_eq_true rfl) dX3_readsOrder_2 rfl ?_
  obtain ⟨S2, eS2, h⟩ := nm_elim h
  refine m_put6 B (pc' := 8) wf_RX3_124 dX3_readsOrder_5 rfl ?_
  refine m_wd eS2 ?_
  refine x_aload_n B (pc' := 9) 0 dX3_readsOrder_8 rfl rfl rfl ?_
  refine x_bipush B (pc' := 11) 98 dX3_readsOrder_9 (by decide) rfl ?_
  obtain ⟨r3, S4, er3, h⟩ := bd2_elim h
  refine x_selfVi B (pc' := 14) [.int (98 : Int32)] (k_X3_takes _ _ _ a (98 : Int32) S2 er3) rfl rfl gv_RX3_127 rfl np_X3_takes ⟨Nat.le_of_ble_eq_true rfl, Nat.le_of_ble_eq_true rfl⟩ ⟨by exact Nat.le_of_ble_eq_true rfl, by exact Nat.le_of_ble_eq_true rfl⟩ rfl (Nat.le_of_ble_eq_true rfl) dX3_readsOrder_11 rfl ?_
  refine x_if_ne B 35 17 dX3_readsOrder_14 (by decide) rfl (fun hc5 => ?_) (fun hc5 => ?_)
  · replace h := ite_f hc5 h
    refine x_iconst B (pc' := 36) 1 dX3_readsOrder_35 (by decide) rfl ?_
    obtain ⟨h1, h2⟩ := some2 h
    subst h1
    subst h2
    exact ret rfl (by exact Nat.le_of_ble_eq_true rfl) (by exact Nat.le_of_ble_eq_true rfl) dX3_readsOrder_36
  · replace h := ite_t hc5 h
    refine x_aload_n B (pc' := 18) 0 dX3_readsOrder_17 rfl rfl rfl ?_
    refine x_bipush B (pc' := 20) 104 dX3_readsOrder_18 (by decide) rfl ?_
    obtain ⟨r6, S7, er6, h⟩ := bd2_elim h
    refine x_selfVi B (pc' := 23) [.int (104 : Int32)] (k_X3_takes _ _ _ a (104 : Int32) S4 er6) rfl rfl gv_RX3_127 rfl np_X3_takes ⟨Nat.le_of_ble_eq_true rfl, Nat.le_of_ble_eq_true rfl⟩ ⟨by exact Nat.le_of_ble_eq_true rfl, by exact Nat.le_of_ble_eq_true rfl⟩ rfl (Nat.le_of_ble_eq_true rfl) dX3_readsOrder_20 rfl ?_
    refine x_if_ne B 35 26 dX3_readsOrder_23 (by decide) rfl (fun hc8 => ?_) (fun hc8 => ?_)
    · replace h := ite_f hc8 h
      refine x_iconst B (pc' := 36) 1 dX3_readsOrder_35 (by decide) rfl ?_
      obtain ⟨h1, h2⟩ := some2 h
      subst h1
      subst h2
      exact ret rfl (by exact Nat.le_of_ble_eq_true rfl) (by exact Nat.le_of_ble_eq_true rfl) dX3_readsOrder_36
    · replace h := ite_t hc8 h
      refine x_aload_n B (pc' := 27) 0 dX3_readsOrder_26 rfl rfl rfl ?_
      refine x_bipush B (pc' := 29) 112 dX3_readsOrder_27 (by decide) rfl ?_
      obtain ⟨r9, S10, er9, h⟩ := bd2_elim h
      refine x_selfVi B (pc' := 32) [.int (112 : Int32)] (k_X3_takes _ _ _ a (112 : Int32) S7 er9) rfl rfl gv_RX3_127 rfl np_X3_takes ⟨Nat.le_of_ble_eq_true rfl, Nat.le_of_ble_eq_true rfl⟩ ⟨by exact Nat.le_of_ble_eq_true rfl, by exact Nat.le_of_ble_eq_true rfl⟩ rfl (Nat.le_of_ble_eq_true rfl) dX3_readsOrder_29 rfl ?_
      refine x_if_eq B 37 35 dX3_readsOrder_32 (by decide) rfl (fun hc11 => ?_) (fun hc11 => ?_)
      · replace h := ite_t hc11 h
        refine x_aload_n B (pc' := 38) 0 dX3_readsOrder_37 rfl rfl rfl ?_
        refine x_bipush B (pc' := 40) 115 dX3_readsOrder_38 (by decide) rfl ?_
        obtain ⟨r12, S13, er12, h⟩ := bd2_elim h
        refine x_selfVi B (pc' := 43) [.int (115 : Int32)] (k_X3_takes _ _ _ a (115 : Int32) S10 er12) rfl rfl gv_RX3_127 rfl np_X3_takes ⟨Nat.le_of_ble_eq_true rfl, Nat.le_of_ble_eq_true rfl⟩ ⟨by exact Nat.le_of_ble_eq_true rfl, by exact Nat.le_of_ble_eq_true rfl⟩ rfl (Nat.le_of_ble_eq_true rfl) dX3_readsOrder_40 rfl ?_
        refine x_if_eq B 71 46 dX3_readsOrder_43 (by decide) rfl (fun hc14 => ?_) (fun hc14 => ?_)
        · replace h := ite_t hc14 h
          refine x_aload_n B (pc' := 72) 0 dX3_readsOrder_71 rfl rfl rfl ?_
          refine x_bipush B (pc' := 74) 114 dX3_readsOrder_72 (by decide) rfl ?_
          obtain ⟨r15, S16, er15, h⟩ := bd2_elim h
          refine x_selfVi B (pc' := 77) [.int (114 : Int32)] (k_X3_takes _ _ _ a (114 : Int32) S13 er15) rfl rfl gv_RX3_127 rfl np_X3_takes ⟨Nat.le_of_ble_eq_true rfl, Nat.le_of_ble_eq_true rfl⟩ ⟨by exact Nat.le_of_ble_eq_true rfl, by exact Nat.le_of_ble_eq_true rfl⟩ rfl (Nat.le_of_ble_eq_true rfl) dX3_readsOrder_74 rfl ?_
          refine x_if_eq B 137 80 dX3_readsOrder_77 (by decide) rfl (fun hc17 => ?_) (fun hc17 => ?_)
          · replace h := ite_t hc17 h
            refine x_aload_n B (pc' := 138) 0 dX3_readsOrder_137 rfl rfl rfl ?_
            refine x_bipush B (pc' := 140) 107 dX3_readsOrder_138 (by decide) rfl ?_
            obtain ⟨r18, S19, er18, h⟩ := bd2_elim h
            refine x_selfVi B (pc' := 143) [.int (107 : Int32)] (k_X3_takes _ _ _ a (107 : Int32) S16 er18) rfl rfl gv_RX3_127 rfl np_X3_takes ⟨Nat.le_of_ble_eq_true rfl, Nat.le_of_ble_eq_true rfl⟩ ⟨by exact Nat.le_of_ble_eq_true rfl, by exact Nat.le_of_ble_eq_true rfl⟩ rfl (Nat.le_of_ble_eq_true rfl) dX3_readsOrder_140 rfl ?_
            refine x_if_eq B 171 146 dX3_readsOrder_143 (by decide) rfl (fun hc20 => ?_) (fun hc20 => ?_)
            · replace h := ite_t hc20 h
              refine x_aload_n B (pc' := 172) 0 dX3_readsOrder_171 rfl rfl rfl ?_
              refine x_aload_n B (pc' := 173) 0 dX3_readsOrder_172 rfl rfl rfl ?_
              refine x_bipush B (pc' := 175) 102 dX3_readsOrder_173 (by decide) rfl ?_
              obtain ⟨r21, S22, er21, h⟩ := bd2_elim h
              refine x_selfVi B (pc' := 178) [.int (102 : Int32)] (k_X3_takes _ _ _ a (102 : Int32) S19 er21) rfl rfl gv_RX3_127 rfl np_X3_takes ⟨Nat.le_of_ble_eq_true rfl, Nat.le_of_ble_eq_true rfl⟩ ⟨by exact Nat.le_of_ble_eq_true rfl, by exact Nat.le_of_ble_eq_true rfl⟩ rfl (Nat.le_of_ble_eq_true rfl) dX3_readsOrder_175 rfl ?_
              refine x_if_ne B 208 181 dX3_readsOrder_178 (by decide) rfl (fun hc23 => ?_) (fun hc23 => ?_)
              · replace h := ite_f hc23 h
                exact h208  _ h
              · replace h := ite_t hc23 h
                refine x_aload_n B (pc' := 182) 0 dX3_readsOrder_181 rfl rfl rfl ?_
                refine x_bipush B (pc' := 184) 117 dX3_readsOrder_182 (by decide) rfl ?_
                obtain ⟨r24, S25, er24, h⟩ := bd2_elim h
                refine x_selfVi B (pc' := 187) [.int (117 : Int32)] (k_X3_takes _ _ _ a (117 : Int32) S22 er24) rfl rfl gv_RX3_127 rfl np_X3_takes ⟨Nat.le_of_ble_eq_true rfl, Nat.le_of_ble_eq_true rfl⟩ ⟨by exact Nat.le_of_ble_eq_true rfl, by exact Nat.le_of_ble_eq_true rfl⟩ rfl (Nat.le_of_ble_eq_true rfl) dX3_readsOrder_184 rfl ?_
                refine x_if_ne B 208 190 dX3_readsOrder_187 (by decide) rfl (fun hc26 => ?_) (fun hc26 => ?_)
                · replace h := ite_f hc26 h
                  exact h208  _ h
                · replace h := ite_t hc26 h
                  refine x_aload_n B (pc' := 191) 0 dX3_readsOrder_190 rfl rfl rfl ?_
                  refine x_bipush B (pc' := 193) 101 dX3_readsOrder_191 (by decide) rfl ?_
                  obtain ⟨r27, S28, er27, h⟩ := bd2_elim h
                  refine x_selfVi B (pc' := 196) [.int (101 : Int32)] (k_X3_takes _ _ _ a (101 : Int32) S25 er27) rfl rfl gv_RX3_127 rfl np_X3_takes ⟨Nat.le_of_ble_eq_true rfl, Nat.le_of_ble_eq_true rfl⟩ ⟨by exact Nat.le_of_ble_eq_true rfl, by exact Nat.le_of_ble_eq_true rfl⟩ rfl (Nat.le_of_ble_eq_true rfl) dX3_readsOrder_193 rfl ?_
                  refine x_if_ne B 208 199 dX3_readsOrder_196 (by decide) rfl (fun hc29 => ?_) (fun hc29 => ?_)
                  · replace h := ite_f hc29 h
                    exact h208  _ h
                  · replace h := ite_t hc29 h
                    refine x_aload_n B (pc' := 200) 0 dX3_readsOrder_199 rfl rfl rfl ?_
                    refine x_bipush B (pc' := 202) 103 dX3_readsOrder_200 (by decide) rfl ?_
                    obtain ⟨r30, S31, er30, h⟩ := bd2_elim h
                    refine x_selfVi B (pc' := 205) [.int (103 : Int32)] (k_X3_takes _ _ _ a (103 : Int32) S28 er30) rfl rfl gv_RX3_127 rfl np_X3_takes ⟨Nat.le_of_ble_eq_true rfl, Nat.le_of_ble_eq_true rfl⟩ ⟨by exact Nat.le_of_ble_eq_true rfl, by exact Nat.le_of_ble_eq_true rfl⟩ rfl (Nat.le_of_ble_eq_true rfl) dX3_readsOrder_202 rfl ?_
                    refine x_if_eq B 218 208 dX3_readsOrder_205 (by decide) rfl (fun hc32 => ?_) (fun hc32 => ?_)
                    · replace h := ite_t hc32 h
                      refine x_iconst B (pc' := 219) (-1) dX3_readsOrder_218 (by decide) rfl ?_
                      exact h219  _ _ h
                    · replace h := ite_f hc32 h
                      exact h208  _ h
            · replace h := ite_f hc20 h
              refine x_aload_n B (pc' := 147) 0 dX3_readsOrder_146 rfl rfl rfl ?_
              refine x_aload_n B (pc' := 148) 0 dX3_readsOrder_147 rfl rfl rfl ?_
              refine x_iconst B (pc' := 149) 1 dX3_readsOrder_148 (by decide) rfl ?_
              refine x_bipush B (pc' := 151) 9 dX3_readsOrder_149 (by decide) rfl ?_
              obtain ⟨r33, S34, er33, h⟩ := bd2_elim h
              refine x_selfVi B (pc' := 154) [.int (1 : Int32), .int (9 : Int32)] (k_X3_number _ _ _ a (1 : Int32) (9 : Int32) S19 er33) rfl rfl gv_RX3_130 rfl np_X3_number ⟨Nat.le_of_ble_eq_true rfl, Nat.le_of_ble_eq_true rfl⟩ ⟨by exact Nat.le_of_ble_eq_true rfl, by exact Nat.le_of_ble_eq_true rfl⟩ rfl (Nat.le_of_ble_eq_true rfl) dX3_readsOrder_151 rfl ?_
              obtain ⟨S35, eS35, h⟩ := nm_elim h
              refine m_put7 B (pc' := 157) wf_RX3_136 dX3_readsOrder_154 rfl ?_
              refine m_wd eS35 ?_
              refine x_aload_n B (pc' := 158) 0 dX3_readsOrder_157 rfl rfl rfl ?_
              refine m_get7 B (pc' := 161) wf_RX3_136 dX3_readsOrder_158 rfl ?_
              refine x_iconst B (pc' := 162) (-1) dX3_readsOrder_161 (by decide) rfl ?_
              refine x_icmp_eq B 169 165 dX3_readsOrder_162 (by decide) rfl (fun hc36 => ?_) (fun hc36 => ?_)
              · replace h := ite_t hc36 h
                refine x_iconst B (pc' := 170) 0 dX3_readsOrder_169 (by decide) rfl ?_
                obtain ⟨h1, h2⟩ := some2 h
                subst h1
                subst h2
                exact ret rfl (by exact Nat.le_of_ble_eq_true rfl) (by exact Nat.le_of_ble_eq_true rfl) dX3_readsOrder_170
              · replace h := ite_f hc36 h
                refine x_iconst B (pc' := 166) 1 dX3_readsOrder_165 (by decide) rfl ?_
                refine x_goto B (pc' := 170) dX3_readsOrder_166 (by decide) ?_
                obtain ⟨h1, h2⟩ := some2 h
                subst h1
                subst h2
                exact ret rfl (by exact Nat.le_of_ble_eq_true rfl) (by exact Nat.le_of_ble_eq_true rfl) dX3_readsOrder_170
          · replace h := ite_f hc17 h
            refine x_aload_n B (pc' := 81) 0 dX3_readsOrder_80 rfl rfl rfl ?_
            refine x_aload_n B (pc' := 82) 0 dX3_readsOrder_81 rfl rfl rfl ?_
            refine x_iconst B (pc' := 83) 1 dX3_readsOrder_82 (by decide) rfl ?_
            refine x_bipush B (pc' := 85) 32 dX3_readsOrder_83 (by decide) rfl ?_
            obtain ⟨r37, S38, er37, h⟩ := bd2_elim h
            refine x_selfVi B (pc' := 88) [.int (1 : Int32), .int (32 : Int32)] (k_X3_number _ _ _ a (1 : Int32) (32 : Int32) S16 er37) rfl rfl gv_RX3_130 rfl np_X3_number ⟨Nat.le_of_ble_eq_true rfl, Nat.le_of_ble_eq_true rfl⟩ ⟨by exact Nat.le_of_ble_eq_true rfl, by exact Nat.le_of_ble_eq_true rfl⟩ rfl (Nat.le_of_ble_eq_true rfl) dX3_readsOrder_85 rfl ?_
            obtain ⟨S39, eS39, h⟩ := nm_elim h
            refine m_put7 B (pc' := 91) wf_RX3_136 dX3_readsOrder_88 rfl ?_
            refine m_wd eS39 ?_
            refine x_aload_n B (pc' := 92) 0 dX3_readsOrder_91 rfl rfl rfl ?_
            refine x_aload_n B (pc' := 93) 0 dX3_readsOrder_92 rfl rfl rfl ?_
            refine m_get7 B (pc' := 96) wf_RX3_136 dX3_readsOrder_93 rfl ?_
            refine x_iconst B (pc' := 97) (-1) dX3_readsOrder_96 (by decide) rfl ?_
            refine x_icmp_eq B 119 100 dX3_readsOrder_97 (by decide) rfl (fun hc40 => ?_) (fun hc40 => ?_)
            · replace h := ite_t hc40 h
              exact h119  _ h
            · replace h := ite_f hc40 h
              refine x_aload_n B (pc' := 101) 0 dX3_readsOrder_100 rfl rfl rfl ?_
              refine x_bipush B (pc' := 103) 61 dX3_readsOrder_101 (by decide) rfl ?_
              obtain ⟨r41, S42, er41, h⟩ := bd2_elim h
              refine x_selfVi B (pc' := 106) [.int (61 : Int32)] (k_X3_takes _ _ _ a (61 : Int32) S39 er41) rfl rfl gv_RX3_127 rfl np_X3_takes ⟨Nat.le_of_ble_eq_true rfl, Nat.le_of_ble_eq_true rfl⟩ ⟨by exact Nat.le_of_ble_eq_true rfl, by exact Nat.le_of_ble_eq_true rfl⟩ rfl (Nat.le_of_ble_eq_true rfl) dX3_readsOrder_103 rfl ?_
              refine x_if_eq B 119 109 dX3_readsOrder_106 (by decide) rfl (fun hc43 => ?_) (fun hc43 => ?_)
              · replace h := ite_t hc43 h
                exact h119  _ h
              · replace h := ite_f hc43 h
                refine x_aload_n B (pc' := 110) 0 dX3_readsOrder_109 rfl rfl rfl ?_
                refine x_iconst B (pc' := 111) 0 dX3_readsOrder_110 (by decide) rfl ?_
                refine x_bipush B (pc' := 113) 99 dX3_readsOrder_111 (by decide) rfl ?_
                obtain ⟨r44, S45, er44, h⟩ := bd2_elim h
                refine x_selfVi B (pc' := 116) [.int (0 : Int32), .int (99 : Int32)] (k_X3_number _ _ _ a (0 : Int32) (99 : Int32) S42 er44) rfl rfl gv_RX3_130 rfl np_X3_number ⟨Nat.le_of_ble_eq_true rfl, Nat.le_of_ble_eq_true rfl⟩ ⟨by exact Nat.le_of_ble_eq_true rfl, by exact Nat.le_of_ble_eq_true rfl⟩ rfl (Nat.le_of_ble_eq_true rfl) dX3_readsOrder_113 rfl ?_
                refine x_goto B (pc' := 120) dX3_readsOrder_116 (by decide) ?_
                exact h120  _ _ h
        · replace h := ite_f hc14 h
          refine x_aload_n B (pc' := 47) 0 dX3_readsOrder_46 rfl rfl rfl ?_
          refine x_aload_n B (pc' := 48) 0 dX3_readsOrder_47 rfl rfl rfl ?_
          refine x_iconst B (pc' := 49) 0 dX3_readsOrder_48 (by decide) rfl ?_
          refine x_bipush B (pc' := 51) 99 dX3_readsOrder_49 (by decide) rfl ?_
          obtain ⟨r46, S47, er46, h⟩ := bd2_elim h
          refine x_selfVi B (pc' := 54) [.int (0 : Int32), .int (99 : Int32)] (k_X3_number _ _ _ a (0 : Int32) (99 : Int32) S13 er46) rfl rfl gv_RX3_130 rfl np_X3_number ⟨Nat.le_of_ble_eq_true rfl, Nat.le_of_ble_eq_true rfl⟩ ⟨by exact Nat.le_of_ble_eq_true rfl, by exact Nat.le_of_ble_eq_true rfl⟩ rfl (Nat.le_of_ble_eq_true rfl) dX3_readsOrder_51 rfl ?_
          obtain ⟨S48, eS48, h⟩ := nm_elim h
          refine m_put8 B (pc' := 57) wf_RX3_133 dX3_readsOrder_54 rfl ?_
          refine m_wd eS48 ?_
          refine x_aload_n B (pc' := 58) 0 dX3_readsOrder_57 rfl rfl rfl ?_
          refine m_get8 B (pc' := 61) wf_RX3_133 dX3_readsOrder_58 rfl ?_
          refine x_iconst B (pc' := 62) (-1) dX3_readsOrder_61 (by decide) rfl ?_
          refine x_icmp_eq B 69 65 dX3_readsOrder_62 (by decide) rfl (fun hc49 => ?_) (fun hc49 => ?_)
          · replace h := ite_t hc49 h
            refine x_iconst B (pc' := 70) 0 dX3_readsOrder_69 (by decide) rfl ?_
            obtain ⟨h1, h2⟩ := some2 h
            subst h1
            subst h2
            exact ret rfl (by exact Nat.le_of_ble_eq_true rfl) (by exact Nat.le_of_ble_eq_true rfl) dX3_readsOrder_70
          · replace h := ite_f hc49 h
            refine x_iconst B (pc' := 66) 1 dX3_readsOrder_65 (by decide) rfl ?_
            refine x_goto B (pc' := 70) dX3_readsOrder_66 (by decide) ?_
            obtain ⟨h1, h2⟩ := some2 h
            subst h1
            subst h2
            exact ret rfl (by exact Nat.le_of_ble_eq_true rfl) (by exact Nat.le_of_ble_eq_true rfl) dX3_readsOrder_70
      · replace h := ite_f hc11 h
        refine x_iconst B (pc' := 36) 1 dX3_readsOrder_35 (by decide) rfl ?_
        obtain ⟨h1, h2⟩ := some2 h
        subst h1
        subst h2
        exact ret rfl (by exact Nat.le_of_ble_eq_true rfl) (by exact Nat.le_of_ble_eq_true rfl) dX3_readsOrder_36
def b_X3_areOrders_5 (K5 : MO → Option (Int32 × MO)) (S : MO) : Option (Int32 × MO) :=
  bd2 (f_X3_readsOrder S) (fun (r2 : Int32) (S3 : MO) => if r2 = 0 then (some ((0 : Int32), S3)) else (if (S3.1 5) = (S3.1 4) then (some ((1 : Int32), S3)) else (bd2 (f_X3_takes (59 : Int32) S3) (fun (r6 : Int32) (S7 : MO) => if r6 = 0 then (some ((0 : Int32), S7)) else (K5 S7)))))
def f_X3_areOrders (S : MO) : Option (Int32 × MO) :=
  nm (fun (S1 : MO) => lpf1 (b_X3_areOrders_5) FU S1) (upd S.1 5 (0 : Int32), S.2)
abbrev rm_X3_areOrders : Room := { frames := 3, cells := 0, slots := 0, locals := 65 }
theorem np_X3_areOrders : yX3_areOrders.cls ≠ "java/lang/invoke/MethodHandle" ∧ yX3_areOrders.cls ≠ "java/lang/invoke/VarHandle" ∧ (parseMethodDescriptor yX3_areOrders.desc).map (fun d => d.parameters.length) = some 0 := by decide +kernel
set_option maxHeartbeats 4000000 in
set_option maxRecDepth 100000 in
theorem k_X3_areOrders (l : Launch) (D : va_G) (cs : CS) (a : Nat → Nat) (S : MO) {r9 : Int32} {S9 : MO} (h : f_X3_areOrders S = some (r9, S9)) : MI l D cs yX3_areOrders cX3_areOrders 1 .boolean rm_X3_areOrders [.ref (a 0)] (wM cs.1 a S) r9 (wM cs.1 a S9) := by
  refine MI_of (by decide) (Nat.le_of_ble_eq_true rfl) ?_
  rintro Γ rfl rfl rfl B ret
  show X Γ 1 0 0 0 [(0, .ref (a 0))] [] (wM Γ.cs.1 a S)
  have h5 : ∀ (n9 : Nat) (S : MO), lpf1 (b_X3_areOrders_5) n9 S = some (r9, S9) → X Γ 1 0 0 5 [(0, .ref (a 0))] [] (wM Γ.cs.1 a S) := by
    refine lpf1_ind (fun K5 hK5 S h => ?_)
    unfold b_X3_areOrders_5 at h
    refine x_aload_n B (pc' := 6) 0 dX3_areOrders_5 rfl rfl rfl ?_
    obtain ⟨r2, S3, er2, h⟩ := bd2_elim h
    refine x_selfVi B (pc' := 9) [] (k_X3_readsOrder _ _ _ a S er2) rfl rfl gv_RX3_139 rfl np_X3_readsOrder ⟨Nat.le_of_ble_eq_true rfl, Nat.le_of_ble_eq_true rfl⟩ ⟨by exact Nat.le_of_ble_eq_true rfl, by exact Nat.le_of_ble_eq_true rfl⟩ rfl (Nat.le_of_ble_eq_true rfl) dX3_areOrders_6 rfl ?_
    refine x_if_eq B 36 12 dX3_areOrders_9 (by decide) rfl (fun hc4 => ?_) (fun hc4 => ?_)
    · replace h := ite_t hc4 h
      refine x_iconst B (pc' := 37) 0 dX3_areOrders_36 (by decide) rfl ?_
      obtain ⟨h1, h2⟩ := some2 h
      subst h1
      subst h2
      exact ret rfl (by exact Nat.le_of_ble_eq_true rfl) (by exact Nat.le_of_ble_eq_true rfl) dX3_areOrders_37
    · replace h := ite_f hc4 h
      refine x_aload_n B (pc' := 13) 0 dX3_areOrders_12 rfl rfl rfl ?_
      refine m_get5 B (pc' := 16) wf_RX3_118 dX3_areOrders_13 rfl ?_
      refine x_aload_n B (pc' := 17) 0 dX3_areOrders_16 rfl rfl rfl ?_
      refine m_get4 B (pc' := 20) wf_RX3_115 dX3_areOrders_17 rfl ?_
      refine x_icmp_ne B 25 23 dX3_areOrders_20 (by decide) rfl (fun hc5 => ?_) (fun hc5 => ?_)
      · replace h := ite_f hc5 h
        refine x_aload_n B (pc' := 26) 0 dX3_areOrders_25 rfl rfl rfl ?_
        refine x_bipush B (pc' := 28) 59 dX3_areOrders_26 (by decide) rfl ?_
        obtain ⟨r6, S7, er6, h⟩ := bd2_elim h
        refine x_selfVi B (pc' := 31) [.int (59 : Int32)] (k_X3_takes _ _ _ a (59 : Int32) S3 er6) rfl rfl gv_RX3_127 rfl np_X3_takes ⟨Nat.le_of_ble_eq_true rfl, Nat.le_of_ble_eq_true rfl⟩ ⟨by exact Nat.le_of_ble_eq_true rfl, by exact Nat.le_of_ble_eq_true rfl⟩ rfl (Nat.le_of_ble_eq_true rfl) dX3_areOrders_28 rfl ?_
        refine x_if_ne B 5 34 dX3_areOrders_31 (by decide) rfl (fun hc8 => ?_) (fun hc8 => ?_)
        · replace h := ite_f hc8 h
          exact hK5 _ h
        · replace h := ite_t hc8 h
          refine x_iconst B (pc' := 35) 0 dX3_areOrders_34 (by decide) rfl ?_
          obtain ⟨h1, h2⟩ := some2 h
          subst h1
          subst h2
          exact ret rfl (by exact Nat.le_of_ble_eq_true rfl) (by exact Nat.le_of_ble_eq_true rfl) dX3_areOrders_35
      · replace h := ite_t hc5 h
        refine x_iconst B (pc' := 24) 1 dX3_areOrders_23 (by decide) rfl ?_
        obtain ⟨h1, h2⟩ := some2 h
        subst h1
        subst h2
        exact ret rfl (by exact Nat.le_of_ble_eq_true rfl) (by exact Nat.le_of_ble_eq_true rfl) dX3_areOrders_24
  unfold f_X3_areOrders at h
  refine x_aload_n B (pc' := 1) 0 dX3_areOrders_0 rfl rfl rfl ?_
  refine x_iconst B (pc' := 2) 0 dX3_areOrders_1 (by decide) rfl ?_
  obtain ⟨S1, eS1, h⟩ := nm_elim h
  refine m_put5 B (pc' := 5) wf_RX3_118 dX3_areOrders_2 rfl ?_
  refine m_wd eS1 ?_
  exact h5  _ _ h
def f_X3_firstError (S : MO) : Option (Int32 × MO) :=
  nm (fun (S1 : MO) => bd2 (f_X3_areOrders S1) (fun (r2 : Int32) (S3 : MO) => some ((S3.1 5), S3))) (upd S.1 0 (0 : Int32), S.2)
abbrev rm_X3_firstError : Room := { frames := 4, cells := 0, slots := 0, locals := 85 }
theorem np_X3_firstError : yX3_firstError.cls ≠ "java/lang/invoke/MethodHandle" ∧ yX3_firstError.cls ≠ "java/lang/invoke/VarHandle" ∧ (parseMethodDescriptor yX3_firstError.desc).map (fun d => d.parameters.length) = some 0 := by decide +kernel
set_option maxHeartbeats 4000000 in
set_option maxRecDepth 100000 in
theorem k_X3_firstError (l : Launch) (D : va_G) (cs : CS) (a : Nat → Nat) (S : MO) {r9 : Int32} {S9 : MO} (h : f_X3_firstError S = some (r9, S9)) : MI l D cs yX3_firstError cX3_firstError 1 .int rm_X3_firstError [.ref (a 0)] (wM cs.1 a S) r9 (wM cs.1 a S9) := by
  refine MI_of (by decide) (Nat.le_of_ble_eq_true rfl) ?_
  rintro Γ rfl rfl rfl B ret
  show X Γ 1 0 0 0 [(0, .ref (a 0))] [] (wM Γ.cs.1 a S)
  unfold f_X3_firstError at h
  refine x_aload_n B (pc' := 1) 0 dX3_firstError_0 rfl rfl rfl ?_
  refine x_iconst B (pc' := 2) 0 dX3_firstError_1 (by decide) rfl ?_
  obtain ⟨S1, eS1, h⟩ := nm_elim h
  refine m_put0 B (pc' := 5) wf_RX3_16 dX3_firstError_2 rfl ?_
  refine m_wd eS1 ?_
  refine x_aload_n B (pc' := 6) 0 dX3_firstError_5 rfl rfl rfl ?_
  obtain ⟨r2, S3, er2, h⟩ := bd2_elim h
  refine x_selfVi B (pc' := 9) [] (k_X3_areOrders _ _ _ a S1 er2) rfl rfl gv_RX3_142 rfl np_X3_areOrders ⟨Nat.le_of_ble_eq_true rfl, Nat.le_of_ble_eq_true rfl⟩ ⟨by exact Nat.le_of_ble_eq_true rfl, by exact Nat.le_of_ble_eq_true rfl⟩ rfl (Nat.le_of_ble_eq_true rfl) dX3_firstError_6 rfl ?_
  refine x_pop B (pc' := 10) dX3_firstError_9 rfl rfl ?_
  refine x_aload_n B (pc' := 11) 0 dX3_firstError_10 rfl rfl rfl ?_
  refine m_get5 B (pc' := 14) wf_RX3_118 dX3_firstError_11 rfl ?_
  obtain ⟨h1, h2⟩ := some2 h
  subst h1
  subst h2
  exact ret rfl (by exact Nat.le_of_ble_eq_true rfl) (by exact Nat.le_of_ble_eq_true rfl) dX3_firstError_14
def f_X3_can (S : MO) : Option Int32 :=
  if (S.1 6) = 98 then (bd (f_X3_canBegin S) (fun (r2 : Int32) => zb r2 (some r2))) else (if (S.1 6) = 101 then (bd (f_X3_isRecording (S.1 7) S) (fun (r7 : Int32) => if r7 = 0 then (some (0 : Int32)) else (gd ((7 : Int32) + (S.1 7)) 1085 (if ((S.2.1 1) (Int32.toNatClampNeg ((7 : Int32) + (S.1 7)))) = 0 then (some (1 : Int32)) else (some (0 : Int32)))))) else (if (S.1 6) = 104 then (gd (1 : Int32) 1085 (if ((S.2.1 1) (Int32.toNatClampNeg (1 : Int32))) = ((-1) : Int32) then (some (0 : Int32)) else (some (1 : Int32)))) else (if (S.1 6) = 107 then (gd (5 : Int32) 1085 (if ((S.2.1 1) (Int32.toNatClampNeg (5 : Int32))) = ((-1) : Int32) then (some (0 : Int32)) else (some (1 : Int32)))) else (if (S.1 6) = 112 then (gd (5 : Int32) 1085 (if ((S.2.1 1) (Int32.toNatClampNeg (5 : Int32))) = ((-1) : Int32) then (some (0 : Int32)) else (some (1 : Int32)))) else (if (S.1 6) = 114 then (bd (f_X3_canSpeak (S.1 7) S) (fun (r30 : Int32) => zb r30 (some r30))) else (if (S.1 6) = 115 then (bd (f_X3_canSpeak (1 : Int32) S) (fun (r33 : Int32) => zb r33 (some r33))) else (bd (f_X3_isRecording (S.1 7) S) (fun (r35 : Int32) => zb r35 (some r35)))))))))
abbrev rm_X3_can : Room := { frames := 3, cells := 0, slots := 0, locals := 65 }
theorem np_X3_can : yX3_can.cls ≠ "java/lang/invoke/MethodHandle" ∧ yX3_can.cls ≠ "java/lang/invoke/VarHandle" ∧ (parseMethodDescriptor yX3_can.desc).map (fun d => d.parameters.length) = some 0 := by decide +kernel
set_option maxHeartbeats 4000000 in
set_option maxRecDepth 100000 in
theorem k_X3_can (l : Launch) (D : va_G) (cs : CS) (a : Nat → Nat) (S : MO) {r9 : Int32} (h : f_X3_can S = some r9) : MI l D cs yX3_can cX3_can 1 .boolean rm_X3_can [.ref (a 0)] (wM cs.1 a S) r9 (wM cs.1 a S) := by
  refine MI_of (by decide) (Nat.le_of_ble_eq_true rfl) ?_
  rintro Γ rfl rfl rfl B ret
  show X Γ 1 0 0 0 [(0, .ref (a 0))] [] (wM Γ.cs.1 a S)
  unfold f_X3_can at h
  refine x_aload_n B (pc' := 1) 0 dX3_can_0 rfl rfl rfl ?_
  refine m_get6 B (pc' := 4) wf_RX3_124 dX3_can_1 rfl ?_
  by_cases hc1 : (S.1 6) = 98
  · replace h := ite_t hc1 h
    refine x_tableIn B (off := 88) (pc' := 92) dX3_can_4 (by rw [hc1]; decide) (by rw [hc1]; decide) (by rw [hc1]; rfl) (by decide) ?_
    refine x_aload_n B (pc' := 93) 0 dX3_can_92 rfl rfl rfl ?_
    obtain ⟨r2, er2, h⟩ := bd_elim h
    refine x_selfVi B (pc' := 96) [] (k_X3_canBegin _ _ _ a S er2) rfl rfl gv_RX3_60 rfl np_X3_canBegin ⟨Nat.le_of_ble_eq_true rfl, Nat.le_of_ble_eq_true rfl⟩ ⟨by exact Nat.le_of_ble_eq_true rfl, by exact Nat.le_of_ble_eq_true rfl⟩ rfl (Nat.le_of_ble_eq_true rfl) dX3_can_93 rfl ?_
    obtain ⟨hz3, h⟩ := zb_elim h
    have h1 := Option.some.inj h
    subst h1
    exact ret (zb_nar hz3) (by exact Nat.le_of_ble_eq_true rfl) (by exact Nat.le_of_ble_eq_true rfl) dX3_can_96
  replace h := ite_f hc1 h
  by_cases hc6 : (S.1 6) = 101
  · replace h := ite_t hc6 h
    refine x_tableIn B (off := 124) (pc' := 128) dX3_can_4 (by rw [hc6]; decide) (by rw [hc6]; decide) (by rw [hc6]; rfl) (by decide) ?_
    refine x_aload_n B (pc' := 129) 0 dX3_can_128 rfl rfl rfl ?_
    refine x_aload_n B (pc' := 130) 0 dX3_can_129 rfl rfl rfl ?_
    refine m_get7 B (pc' := 133) wf_RX3_136 dX3_can_130 rfl ?_
    obtain ⟨r7, er7, h⟩ := bd_elim h
    refine x_selfVi B (pc' := 136) [.int (S.1 7)] (k_X3_isRecording _ _ _ a (S.1 7) S er7) rfl rfl gv_RX3_82 rfl np_X3_isRecording ⟨Nat.le_of_ble_eq_true rfl, Nat.le_of_ble_eq_true rfl⟩ ⟨by exact Nat.le_of_ble_eq_true rfl, by exact Nat.le_of_ble_eq_true rfl⟩ rfl (Nat.le_of_ble_eq_true rfl) dX3_can_133 rfl ?_
    refine x_if_eq B 158 139 dX3_can_136 (by decide) rfl (fun hc8 => ?_) (fun hc8 => ?_)
    · replace h := ite_t hc8 h
      refine x_iconst B (pc' := 159) 0 dX3_can_158 (by decide) rfl ?_
      have h1 := Option.some.inj h
      subst h1
      exact ret rfl (by exact Nat.le_of_ble_eq_true rfl) (by exact Nat.le_of_ble_eq_true rfl) dX3_can_159
    · replace h := ite_f hc8 h
      refine x_aload_n B (pc' := 140) 0 dX3_can_139 rfl rfl rfl ?_
      refine m_ref1 B (pc' := 143) wf_RX3_7 dX3_can_140 rfl ?_
      refine x_bipush B (pc' := 145) 7 dX3_can_143 (by decide) rfl ?_
      refine x_aload_n B (pc' := 146) 0 dX3_can_145 rfl rfl rfl ?_
      refine m_get7 B (pc' := 149) wf_RX3_136 dX3_can_146 rfl ?_
      refine x_iadd B (pc' := 150) dX3_can_149 rfl ?_
      obtain ⟨hi9, h⟩ := gd_elim h
      refine m_ald1 B (pc' := 151) hi9 dX3_can_150 rfl ?_
      refine x_if_ne B 158 154 dX3_can_151 (by decide) rfl (fun hc10 => ?_) (fun hc10 => ?_)
      · replace h := ite_f hc10 h
        refine x_iconst B (pc' := 159) 0 dX3_can_158 (by decide) rfl ?_
        have h1 := Option.some.inj h
        subst h1
        exact ret rfl (by exact Nat.le_of_ble_eq_true rfl) (by exact Nat.le_of_ble_eq_true rfl) dX3_can_159
      · replace h := ite_t hc10 h
        refine x_iconst B (pc' := 155) 1 dX3_can_154 (by decide) rfl ?_
        refine x_goto B (pc' := 159) dX3_can_155 (by decide) ?_
        have h1 := Option.some.inj h
        subst h1
        exact ret rfl (by exact Nat.le_of_ble_eq_true rfl) (by exact Nat.le_of_ble_eq_true rfl) dX3_can_159
  replace h := ite_f hc6 h
  by_cases hc13 : (S.1 6) = 104
  · replace h := ite_t hc13 h
    refine x_tableIn B (off := 93) (pc' := 97) dX3_can_4 (by rw [hc13]; decide) (by rw [hc13]; decide) (by rw [hc13]; rfl) (by decide) ?_
    refine x_aload_n B (pc' := 98) 0 dX3_can_97 rfl rfl rfl ?_
    refine m_ref1 B (pc' := 101) wf_RX3_7 dX3_can_98 rfl ?_
    refine x_iconst B (pc' := 102) 1 dX3_can_101 (by decide) rfl ?_
    obtain ⟨hi14, h⟩ := gd_elim h
    refine m_ald1 B (pc' := 103) hi14 dX3_can_102 rfl ?_
    refine x_iconst B (pc' := 104) (-1) dX3_can_103 (by decide) rfl ?_
    refine x_icmp_eq B 111 107 dX3_can_104 (by decide) rfl (fun hc15 => ?_) (fun hc15 => ?_)
    · replace h := ite_t hc15 h
      refine x_iconst B (pc' := 112) 0 dX3_can_111 (by decide) rfl ?_
      have h1 := Option.some.inj h
      subst h1
      exact ret rfl (by exact Nat.le_of_ble_eq_true rfl) (by exact Nat.le_of_ble_eq_true rfl) dX3_can_112
    · replace h := ite_f hc15 h
      refine x_iconst B (pc' := 108) 1 dX3_can_107 (by decide) rfl ?_
      refine x_goto B (pc' := 112) dX3_can_108 (by decide) ?_
      have h1 := Option.some.inj h
      subst h1
      exact ret rfl (by exact Nat.le_of_ble_eq_true rfl) (by exact Nat.le_of_ble_eq_true rfl) dX3_can_112
  replace h := ite_f hc13 h
  by_cases hc18 : (S.1 6) = 107
  · replace h := ite_t hc18 h
    refine x_tableIn B (off := 156) (pc' := 160) dX3_can_4 (by rw [hc18]; decide) (by rw [hc18]; decide) (by rw [hc18]; rfl) (by decide) ?_
    refine x_aload_n B (pc' := 161) 0 dX3_can_160 rfl rfl rfl ?_
    refine m_ref1 B (pc' := 164) wf_RX3_7 dX3_can_161 rfl ?_
    refine x_iconst B (pc' := 165) 5 dX3_can_164 (by decide) rfl ?_
    obtain ⟨hi19, h⟩ := gd_elim h
    refine m_ald1 B (pc' := 166) hi19 dX3_can_165 rfl ?_
    refine x_iconst B (pc' := 167) (-1) dX3_can_166 (by decide) rfl ?_
    refine x_icmp_eq B 174 170 dX3_can_167 (by decide) rfl (fun hc20 => ?_) (fun hc20 => ?_)
    · replace h := ite_t hc20 h
      refine x_iconst B (pc' := 175) 0 dX3_can_174 (by decide) rfl ?_
      have h1 := Option.some.inj h
      subst h1
      exact ret rfl (by exact Nat.le_of_ble_eq_true rfl) (by exact Nat.le_of_ble_eq_true rfl) dX3_can_175
    · replace h := ite_f hc20 h
      refine x_iconst B (pc' := 171) 1 dX3_can_170 (by decide) rfl ?_
      refine x_goto B (pc' := 175) dX3_can_171 (by decide) ?_
      have h1 := Option.some.inj h
      subst h1
      exact ret rfl (by exact Nat.le_of_ble_eq_true rfl) (by exact Nat.le_of_ble_eq_true rfl) dX3_can_175
  replace h := ite_f hc18 h
  by_cases hc25 : (S.1 6) = 112
  · replace h := ite_t hc25 h
    refine x_tableIn B (off := 156) (pc' := 160) dX3_can_4 (by rw [hc25]; decide) (by rw [hc25]; decide) (by rw [hc25]; rfl) (by decide) ?_
    refine x_aload_n B (pc' := 161) 0 dX3_can_160 rfl rfl rfl ?_
    refine m_ref1 B (pc' := 164) wf_RX3_7 dX3_can_161 rfl ?_
    refine x_iconst B (pc' := 165) 5 dX3_can_164 (by decide) rfl ?_
    obtain ⟨hi26, h⟩ := gd_elim h
    refine m_ald1 B (pc' := 166) hi26 dX3_can_165 rfl ?_
    refine x_iconst B (pc' := 167) (-1) dX3_can_166 (by decide) rfl ?_
    refine x_icmp_eq B 174 170 dX3_can_167 (by decide) rfl (fun hc27 => ?_) (fun hc27 => ?_)
    · replace h := ite_t hc27 h
      refine x_iconst B (pc' := 175) 0 dX3_can_174 (by decide) rfl ?_
      have h1 := Option.some.inj h
      subst h1
      exact ret rfl (by exact Nat.le_of_ble_eq_true rfl) (by exact Nat.le_of_ble_eq_true rfl) dX3_can_175
    · replace h := ite_f hc27 h
      refine x_iconst B (pc' := 171) 1 dX3_can_170 (by decide) rfl ?_
      refine x_goto B (pc' := 175) dX3_can_171 (by decide) ?_
      have h1 := Option.some.inj h
      subst h1
      exact ret rfl (by exact Nat.le_of_ble_eq_true rfl) (by exact Nat.le_of_ble_eq_true rfl) dX3_can_175
  replace h := ite_f hc25 h
  by_cases hc29 : (S.1 6) = 114
  · replace h := ite_t hc29 h
    refine x_tableIn B (off := 115) (pc' := 119) dX3_can_4 (by rw [hc29]; decide) (by rw [hc29]; decide) (by rw [hc29]; rfl) (by decide) ?_
    refine x_aload_n B (pc' := 120) 0 dX3_can_119 rfl rfl rfl ?_
    refine x_aload_n B (pc' := 121) 0 dX3_can_120 rfl rfl rfl ?_
    refine m_get7 B (pc' := 124) wf_RX3_136 dX3_can_121 rfl ?_
    obtain ⟨r30, er30, h⟩ := bd_elim h
    refine x_selfVi B (pc' := 127) [.int (S.1 7)] (k_X3_canSpeak _ _ _ a (S.1 7) S er30) rfl rfl gv_RX3_76 rfl np_X3_canSpeak ⟨Nat.le_of_ble_eq_true rfl, Nat.le_of_ble_eq_true rfl⟩ ⟨by exact Nat.le_of_ble_eq_true rfl, by exact Nat.le_of_ble_eq_true rfl⟩ rfl (Nat.le_of_ble_eq_true rfl) dX3_can_124 rfl ?_
    obtain ⟨hz31, h⟩ := zb_elim h
    have h1 := Option.some.inj h
    subst h1
    exact ret (zb_nar hz31) (by exact Nat.le_of_ble_eq_true rfl) (by exact Nat.le_of_ble_eq_true rfl) dX3_can_127
  replace h := ite_f hc29 h
  by_cases hc32 : (S.1 6) = 115
  · replace h := ite_t hc32 h
    refine x_tableIn B (off := 109) (pc' := 113) dX3_can_4 (by rw [hc32]; decide) (by rw [hc32]; decide) (by rw [hc32]; rfl) (by decide) ?_
    refine x_aload_n B (pc' := 114) 0 dX3_can_113 rfl rfl rfl ?_
    refine x_iconst B (pc' := 115) 1 dX3_can_114 (by decide) rfl ?_
    obtain ⟨r33, er33, h⟩ := bd_elim h
    refine x_selfVi B (pc' := 118) [.int (1 : Int32)] (k_X3_canSpeak _ _ _ a (1 : Int32) S er33) rfl rfl gv_RX3_76 rfl np_X3_canSpeak ⟨Nat.le_of_ble_eq_true rfl, Nat.le_of_ble_eq_true rfl⟩ ⟨by exact Nat.le_of_ble_eq_true rfl, by exact Nat.le_of_ble_eq_true rfl⟩ rfl (Nat.le_of_ble_eq_true rfl) dX3_can_115 rfl ?_
    obtain ⟨hz34, h⟩ := zb_elim h
    have h1 := Option.some.inj h
    subst h1
    exact ret (zb_nar hz34) (by exact Nat.le_of_ble_eq_true rfl) (by exact Nat.le_of_ble_eq_true rfl) dX3_can_118
  replace h := ite_f hc32 h
  have kd : X Γ 1 0 0 176 [(0, .ref (a 0))] [] (wM Γ.cs.1 a S) := by
    refine x_aload_n B (pc' := 177) 0 dX3_can_176 rfl rfl rfl ?_
    refine x_aload_n B (pc' := 178) 0 dX3_can_177 rfl rfl rfl ?_
    refine m_get7 B (pc' := 181) wf_RX3_136 dX3_can_178 rfl ?_
    obtain ⟨r35, er35, h⟩ := bd_elim h
    refine x_selfVi B (pc' := 184) [.int (S.1 7)] (k_X3_isRecording _ _ _ a (S.1 7) S er35) rfl rfl gv_RX3_82 rfl np_X3_isRecording ⟨Nat.le_of_ble_eq_true rfl, Nat.le_of_ble_eq_true rfl⟩ ⟨by exact Nat.le_of_ble_eq_true rfl, by exact Nat.le_of_ble_eq_true rfl⟩ rfl (Nat.le_of_ble_eq_true rfl) dX3_can_181 rfl ?_
    obtain ⟨hz36, h⟩ := zb_elim h
    have h1 := Option.some.inj h
    subst h1
    exact ret (zb_nar hz36) (by exact Nat.le_of_ble_eq_true rfl) (by exact Nat.le_of_ble_eq_true rfl) dX3_can_184
  by_cases hlo : Int32.toInt (S.1 6) < 98 ∨ 115 < Int32.toInt (S.1 6)
  · exact x_tableOut B dX3_can_4 hlo (by decide) kd
  · have hg : ∀ j : Nat, j < 18 → (j ∈ [0, 3, 6, 9, 14, 16, 17] ∨ (#[88, 172, 172, 124, 172, 172, 93, 172, 172, 156, 172, 172, 172, 172, 156, 172, 115, 109] : Array Int)[j]? = some 172) := by decide
    have n0 := lv_neT hc1 (a := 98) (by decide)
    have n1 := lv_neT hc6 (a := 101) (by decide)
    have n2 := lv_neT hc13 (a := 104) (by decide)
    have n3 := lv_neT hc18 (a := 107) (by decide)
    have n4 := lv_neT hc25 (a := 112) (by decide)
    have n5 := lv_neT hc29 (a := 114) (by decide)
    have n6 := lv_neT hc32 (a := 115) (by decide)
    exact x_tableIn B dX3_can_4 (by omega) (by omega) ((hg (Int32.toInt (S.1 6) - 98).toNat (by omega)).elim (fun q => absurd q (by simp only [List.mem_cons, List.not_mem_nil, or_false]; omega)) id) (by decide) kd
def c_X3_does_216 (t0 : Int32) (t1 : Int32) (S : MO) : Option MO :=
  gd t1 1085 (nm (fun (S38 : MO) => some S38) (S.1, up2 S.2.1 1 (upd (S.2.1 1) (Int32.toNatClampNeg t1) t0), S.2.2))
def b_X3_does_122 (K122 : Int32 → MO → Option MO) (x1 : Int32) (S : MO) : Option MO :=
  if (S.1 7) ≤ x1 then (some S) else (bd2 (f_X3_speaks (S.1 8) S) (fun (r34 : Int32) (S35 : MO) => nm (fun (v36 : Int32) => K122 v36 S35) (x1 + 1)))
def f_X3_does (S : MO) : Option MO :=
  if (S.1 6) = 98 then (bd2 (f_X3_begins S) (fun (r2 : Int32) (S3 : MO) => some S3)) else (if (S.1 6) = 101 then (bd (f_X3_leaves (S.1 7) S) (fun (S7 : MO) => some S7)) else (if (S.1 6) = 103 then (bd2 (f_X3_goes (S.1 7) S) (fun (r10 : Int32) (S11 : MO) => some S11)) else (if (S.1 6) = 104 then (bd2 (f_X3_halts S) (fun (r13 : Int32) (S14 : MO) => some S14)) else (if (S.1 6) = 107 then (bd2 (f_X3_goesBack (S.1 7) S) (fun (r18 : Int32) (S19 : MO) => some S19)) else (if (S.1 6) = 112 then (bd2 (f_X3_plays S) (fun (r25 : Int32) (S26 : MO) => some S26)) else (if (S.1 6) = 114 then (lpf2 (b_X3_does_122) FU (0 : Int32) S) else (if (S.1 6) = 115 then (bd2 (f_X3_speaks (S.1 8) S) (fun (r30 : Int32) (S31 : MO) => some S31)) else (if (S.1 6) = (102 : Int32) then (c_X3_does_216 (1 : Int32) ((7 : Int32) + (S.1 7)) S) else (c_X3_does_216 (0 : Int32) ((7 : Int32) + (S.1 7)) S)))))))))
abbrev rm_X3_does : Room := { frames := 3, cells := 0, slots := 0, locals := 67 }
theorem np_X3_does : yX3_does.cls ≠ "java/lang/invoke/MethodHandle" ∧ yX3_does.cls ≠ "java/lang/invoke/VarHandle" ∧ (parseMethodDescriptor yX3_does.desc).map (fun d => d.parameters.length) = some 0 := by decide +kernel
set_option maxHeartbeats 4000000 in
set_option maxRecDepth 100000 in
theorem k_X3_does (l : Launch) (D : va_G) (cs : CS) (a : Nat → Nat) (S : MO) {S9 : MO} (h : f_X3_does S = some S9) : MV l D cs yX3_does cX3_does 2 rm_X3_does [.ref (a 0)] (wM cs.1 a S) (wM cs.1 a S9) := by
  refine MV_of (by decide) (Nat.le_of_ble_eq_true rfl) ?_
  rintro Γ rfl rfl rfl B ret
  show X Γ 2 0 0 0 [(0, .ref (a 0))] [] (wM Γ.cs.1 a S)
  have h216 : ∀ (t0 : Int32) (t1 : Int32) (S : MO), c_X3_does_216  t0 t1 S = some S9 → X Γ 2 0 0 216 [] [.int t0, .int t1, .ref (a 1)] (wM Γ.cs.1 a S) := by
    intro  t0 t1 S h
    unfold c_X3_does_216 at h
    obtain ⟨hi37, h⟩ := gd_elim h
    obtain ⟨S38, eS38, h⟩ := nm_elim h
    refine m_ast1 B (pc' := 217) hi37 dX3_does_216 rfl ?_
    refine m_wd eS38 ?_
    cases h
    exact ret (by exact Nat.le_of_ble_eq_true rfl) (by exact Nat.le_of_ble_eq_true rfl) dX3_does_217
  have h122 : ∀ (n9 : Nat) (x1 : Int32) (S : MO), lpf2 (b_X3_does_122) n9 x1 S = some S9 → X Γ 2 0 0 122 [(0, .ref (a 0)), (1, .int x1)] [] (wM Γ.cs.1 a S) := by
    refine lpf2_ind (fun K122 hK122 x1 S h => ?_)
    unfold b_X3_does_122 at h
    refine x_iload_n B (pc' := 123) 1 dX3_does_122 rfl rfl rfl ?_
    refine x_aload_n B (pc' := 124) 0 dX3_does_123 rfl rfl rfl ?_
    refine m_get7 B (pc' := 127) wf_RX3_136 dX3_does_124 rfl ?_
    refine x_icmp_ge B 145 130 dX3_does_127 (by decide) rfl (fun hc33 => ?_) (fun hc33 => ?_)
    · replace h := ite_t hc33 h
      refine x_goto B (pc' := 217) dX3_does_145 (by decide) ?_
      cases h
      exact ret (by exact Nat.le_of_ble_eq_true rfl) (by exact Nat.le_of_ble_eq_true rfl) dX3_does_217
    · replace h := ite_f hc33 h
      refine x_aload_n B (pc' := 131) 0 dX3_does_130 rfl rfl rfl ?_
      refine x_aload_n B (pc' := 132) 0 dX3_does_131 rfl rfl rfl ?_
      refine m_get8 B (pc' := 135) wf_RX3_133 dX3_does_132 rfl ?_
      obtain ⟨r34, S35, er34, h⟩ := bd2_elim h
      refine x_selfVi B (pc' := 138) [.int (S.1 8)] (k_X3_speaks _ _ _ a (S.1 8) S er34) rfl rfl gv_RX3_79 rfl np_X3_speaks ⟨Nat.le_of_ble_eq_true rfl, Nat.le_of_ble_eq_true rfl⟩ ⟨by exact Nat.le_of_ble_eq_true rfl, by exact Nat.le_of_ble_eq_true rfl⟩ rfl (Nat.le_of_ble_eq_true rfl) dX3_does_135 rfl ?_
      refine x_pop B (pc' := 139) dX3_does_138 rfl rfl ?_
      obtain ⟨v36, ev36, h⟩ := nm_elim h
      refine x_iinc B (pc' := 142) v36 1 [1, 0] [(0, .ref (a 0)), (1, .int v36)] dX3_does_139 rfl (by rw [ev36]; rfl) (by decide) rfl rfl ?_
      refine x_goto B (pc' := 122) dX3_does_142 (by decide) ?_
      exact hK122 _ _ h
  unfold f_X3_does at h
  refine x_aload_n B (pc' := 1) 0 dX3_does_0 rfl rfl rfl ?_
  refine m_get6 B (pc' := 4) wf_RX3_124 dX3_does_1 rfl ?_
  by_cases hc1 : (S.1 6) = 98
  · replace h := ite_t hc1 h
    refine x_tableIn B (off := 88) (pc' := 92) dX3_does_4 (by rw [hc1]; decide) (by rw [hc1]; decide) (by rw [hc1]; rfl) (by decide) ?_
    refine x_aload_n B (pc' := 93) 0 dX3_does_92 rfl rfl rfl ?_
    obtain ⟨r2, S3, er2, h⟩ := bd2_elim h
    refine x_selfVi B (pc' := 96) [] (k_X3_begins _ _ _ a S er2) rfl rfl gv_RX3_70 rfl np_X3_begins ⟨Nat.le_of_ble_eq_true rfl, Nat.le_of_ble_eq_true rfl⟩ ⟨by exact Nat.le_of_ble_eq_true rfl, by exact Nat.le_of_ble_eq_true rfl⟩ rfl (Nat.le_of_ble_eq_true rfl) dX3_does_93 rfl ?_
    refine x_pop B (pc' := 97) dX3_does_96 rfl rfl ?_
    refine x_goto B (pc' := 217) dX3_does_97 (by decide) ?_
    cases h
    exact ret (by exact Nat.le_of_ble_eq_true rfl) (by exact Nat.le_of_ble_eq_true rfl) dX3_does_217
  replace h := ite_f hc1 h
  by_cases hc6 : (S.1 6) = 101
  · replace h := ite_t hc6 h
    refine x_tableIn B (off := 144) (pc' := 148) dX3_does_4 (by rw [hc6]; decide) (by rw [hc6]; decide) (by rw [hc6]; rfl) (by decide) ?_
    refine x_aload_n B (pc' := 149) 0 dX3_does_148 rfl rfl rfl ?_
    refine x_aload_n B (pc' := 150) 0 dX3_does_149 rfl rfl rfl ?_
    refine m_get7 B (pc' := 153) wf_RX3_136 dX3_does_150 rfl ?_
    obtain ⟨S7, eS7, h⟩ := bd_elim h
    refine x_selfVv B (pc' := 156) [.int (S.1 7)] (k_X3_leaves _ _ _ a (S.1 7) S eS7) rfl rfl gv_RX3_35 rfl np_X3_leaves ⟨Nat.le_of_ble_eq_true rfl, Nat.le_of_ble_eq_true rfl⟩ ⟨by exact Nat.le_of_ble_eq_true rfl, by exact Nat.le_of_ble_eq_true rfl⟩ rfl (Nat.le_of_ble_eq_true rfl) dX3_does_153 rfl ?_
    refine x_goto B (pc' := 217) dX3_does_156 (by decide) ?_
    cases h
    exact ret (by exact Nat.le_of_ble_eq_true rfl) (by exact Nat.le_of_ble_eq_true rfl) dX3_does_217
  replace h := ite_f hc6 h
  by_cases hc9 : (S.1 6) = 103
  · replace h := ite_t hc9 h
    refine x_tableIn B (off := 175) (pc' := 179) dX3_does_4 (by rw [hc9]; decide) (by rw [hc9]; decide) (by rw [hc9]; rfl) (by decide) ?_
    refine x_aload_n B (pc' := 180) 0 dX3_does_179 rfl rfl rfl ?_
    refine x_aload_n B (pc' := 181) 0 dX3_does_180 rfl rfl rfl ?_
    refine m_get7 B (pc' := 184) wf_RX3_136 dX3_does_181 rfl ?_
    obtain ⟨r10, S11, er10, h⟩ := bd2_elim h
    refine x_selfVi B (pc' := 187) [.int (S.1 7)] (k_X3_goes _ _ _ a (S.1 7) S er10) rfl rfl gv_RX3_97 rfl np_X3_goes ⟨Nat.le_of_ble_eq_true rfl, Nat.le_of_ble_eq_true rfl⟩ ⟨by exact Nat.le_of_ble_eq_true rfl, by exact Nat.le_of_ble_eq_true rfl⟩ rfl (Nat.le_of_ble_eq_true rfl) dX3_does_184 rfl ?_
    refine x_pop B (pc' := 188) dX3_does_187 rfl rfl ?_
    refine x_goto B (pc' := 217) dX3_does_188 (by decide) ?_
    cases h
    exact ret (by exact Nat.le_of_ble_eq_true rfl) (by exact Nat.le_of_ble_eq_true rfl) dX3_does_217
  replace h := ite_f hc9 h
  by_cases hc12 : (S.1 6) = 104
  · replace h := ite_t hc12 h
    refine x_tableIn B (off := 96) (pc' := 100) dX3_does_4 (by rw [hc12]; decide) (by rw [hc12]; decide) (by rw [hc12]; rfl) (by decide) ?_
    refine x_aload_n B (pc' := 101) 0 dX3_does_100 rfl rfl rfl ?_
    obtain ⟨r13, S14, er13, h⟩ := bd2_elim h
    refine x_selfVi B (pc' := 104) [] (k_X3_halts _ _ _ a S er13) rfl rfl gv_RX3_42 rfl np_X3_halts ⟨Nat.le_of_ble_eq_true rfl, Nat.le_of_ble_eq_true rfl⟩ ⟨by exact Nat.le_of_ble_eq_true rfl, by exact Nat.le_of_ble_eq_true rfl⟩ rfl (Nat.le_of_ble_eq_true rfl) dX3_does_101 rfl ?_
    refine x_pop B (pc' := 105) dX3_does_104 rfl rfl ?_
    refine x_goto B (pc' := 217) dX3_does_105 (by decide) ?_
    cases h
    exact ret (by exact Nat.le_of_ble_eq_true rfl) (by exact Nat.le_of_ble_eq_true rfl) dX3_does_217
  replace h := ite_f hc12 h
  by_cases hc17 : (S.1 6) = 107
  · replace h := ite_t hc17 h
    refine x_tableIn B (off := 163) (pc' := 167) dX3_does_4 (by rw [hc17]; decide) (by rw [hc17]; decide) (by rw [hc17]; rfl) (by decide) ?_
    refine x_aload_n B (pc' := 168) 0 dX3_does_167 rfl rfl rfl ?_
    refine x_aload_n B (pc' := 169) 0 dX3_does_168 rfl rfl rfl ?_
    refine m_get7 B (pc' := 172) wf_RX3_136 dX3_does_169 rfl ?_
    obtain ⟨r18, S19, er18, h⟩ := bd2_elim h
    refine x_selfVi B (pc' := 175) [.int (S.1 7)] (k_X3_goesBack _ _ _ a (S.1 7) S er18) rfl rfl gv_RX3_103 rfl np_X3_goesBack ⟨Nat.le_of_ble_eq_true rfl, Nat.le_of_ble_eq_true rfl⟩ ⟨by exact Nat.le_of_ble_eq_true rfl, by exact Nat.le_of_ble_eq_true rfl⟩ rfl (Nat.le_of_ble_eq_true rfl) dX3_does_172 rfl ?_
    refine x_pop B (pc' := 176) dX3_does_175 rfl rfl ?_
    refine x_goto B (pc' := 217) dX3_does_176 (by decide) ?_
    cases h
    exact ret (by exact Nat.le_of_ble_eq_true rfl) (by exact Nat.le_of_ble_eq_true rfl) dX3_does_217
  replace h := ite_f hc17 h
  by_cases hc24 : (S.1 6) = 112
  · replace h := ite_t hc24 h
    refine x_tableIn B (off := 155) (pc' := 159) dX3_does_4 (by rw [hc24]; decide) (by rw [hc24]; decide) (by rw [hc24]; rfl) (by decide) ?_
    refine x_aload_n B (pc' := 160) 0 dX3_does_159 rfl rfl rfl ?_
    obtain ⟨r25, S26, er25, h⟩ := bd2_elim h
    refine x_selfVi B (pc' := 163) [] (k_X3_plays _ _ _ a S er25) rfl rfl gv_RX3_100 rfl np_X3_plays ⟨Nat.le_of_ble_eq_true rfl, Nat.le_of_ble_eq_true rfl⟩ ⟨by exact Nat.le_of_ble_eq_true rfl, by exact Nat.le_of_ble_eq_true rfl⟩ rfl (Nat.le_of_ble_eq_true rfl) dX3_does_160 rfl ?_
    refine x_pop B (pc' := 164) dX3_does_163 rfl rfl ?_
    refine x_goto B (pc' := 217) dX3_does_164 (by decide) ?_
    cases h
    exact ret (by exact Nat.le_of_ble_eq_true rfl) (by exact Nat.le_of_ble_eq_true rfl) dX3_does_217
  replace h := ite_f hc24 h
  by_cases hc28 : (S.1 6) = 114
  · replace h := ite_t hc28 h
    refine x_tableIn B (off := 116) (pc' := 120) dX3_does_4 (by rw [hc28]; decide) (by rw [hc28]; decide) (by rw [hc28]; rfl) (by decide) ?_
    refine x_iconst B (pc' := 121) 0 dX3_does_120 (by decide) rfl ?_
    refine x_istore_n B (pc' := 122) [1, 0] [(0, .ref (a 0)), (1, .int (0 : Int32))] dX3_does_121 rfl (by decide) rfl rfl ?_
    exact h122  _ _ _ h
  replace h := ite_f hc28 h
  by_cases hc29 : (S.1 6) = 115
  · replace h := ite_t hc29 h
    refine x_tableIn B (off := 104) (pc' := 108) dX3_does_4 (by rw [hc29]; decide) (by rw [hc29]; decide) (by rw [hc29]; rfl) (by decide) ?_
    refine x_aload_n B (pc' := 109) 0 dX3_does_108 rfl rfl rfl ?_
    refine x_aload_n B (pc' := 110) 0 dX3_does_109 rfl rfl rfl ?_
    refine m_get8 B (pc' := 113) wf_RX3_133 dX3_does_110 rfl ?_
    obtain ⟨r30, S31, er30, h⟩ := bd2_elim h
    refine x_selfVi B (pc' := 116) [.int (S.1 8)] (k_X3_speaks _ _ _ a (S.1 8) S er30) rfl rfl gv_RX3_79 rfl np_X3_speaks ⟨Nat.le_of_ble_eq_true rfl, Nat.le_of_ble_eq_true rfl⟩ ⟨by exact Nat.le_of_ble_eq_true rfl, by exact Nat.le_of_ble_eq_true rfl⟩ rfl (Nat.le_of_ble_eq_true rfl) dX3_does_113 rfl ?_
    refine x_pop B (pc' := 117) dX3_does_116 rfl rfl ?_
    refine x_goto B (pc' := 217) dX3_does_117 (by decide) ?_
    cases h
    exact ret (by exact Nat.le_of_ble_eq_true rfl) (by exact Nat.le_of_ble_eq_true rfl) dX3_does_217
  replace h := ite_f hc29 h
  have kd : X Γ 2 0 0 191 [(0, .ref (a 0))] [] (wM Γ.cs.1 a S) := by
    refine x_aload_n B (pc' := 192) 0 dX3_does_191 rfl rfl rfl ?_
    refine m_ref1 B (pc' := 195) wf_RX3_7 dX3_does_192 rfl ?_
    refine x_bipush B (pc' := 197) 7 dX3_does_195 (by decide) rfl ?_
    refine x_aload_n B (pc' := 198) 0 dX3_does_197 rfl rfl rfl ?_
    refine m_get7 B (pc' := 201) wf_RX3_136 dX3_does_198 rfl ?_
    refine x_iadd B (pc' := 202) dX3_does_201 rfl ?_
    refine x_aload_n B (pc' := 203) 0 dX3_does_202 rfl rfl rfl ?_
    refine m_get6 B (pc' := 206) wf_RX3_124 dX3_does_203 rfl ?_
    refine x_bipush B (pc' := 208) 102 dX3_does_206 (by decide) rfl ?_
    refine x_icmp_ne B 215 211 dX3_does_208 (by decide) rfl (fun hc32 => ?_) (fun hc32 => ?_)
    · replace h := ite_f hc32 h
      refine x_iconst B (pc' := 216) 0 dX3_does_215 (by decide) rfl ?_
      refine x_lv [] (lv' := []) rfl ?_
      exact h216  _ _ _ h
    · replace h := ite_t hc32 h
      refine x_iconst B (pc' := 212) 1 dX3_does_211 (by decide) rfl ?_
      refine x_goto B (pc' := 216) dX3_does_212 (by decide) ?_
      refine x_lv [] (lv' := []) rfl ?_
      exact h216  _ _ _ h
  by_cases hlo : Int32.toInt (S.1 6) < 98 ∨ 115 < Int32.toInt (S.1 6)
  · exact x_tableOut B dX3_does_4 hlo (by decide) kd
  · have hg : ∀ j : Nat, j < 18 → (j ∈ [0, 3, 5, 6, 9, 14, 16, 17] ∨ (#[88, 187, 187, 144, 187, 175, 96, 187, 187, 163, 187, 187, 187, 187, 155, 187, 116, 104] : Array Int)[j]? = some 187) := by decide
    have n0 := lv_neT hc1 (a := 98) (by decide)
    have n1 := lv_neT hc6 (a := 101) (by decide)
    have n2 := lv_neT hc9 (a := 103) (by decide)
    have n3 := lv_neT hc12 (a := 104) (by decide)
    have n4 := lv_neT hc17 (a := 107) (by decide)
    have n5 := lv_neT hc24 (a := 112) (by decide)
    have n6 := lv_neT hc28 (a := 114) (by decide)
    have n7 := lv_neT hc29 (a := 115) (by decide)
    exact x_tableIn B dX3_does_4 (by omega) (by omega) ((hg (Int32.toInt (S.1 6) - 98).toNat (by omega)).elim (fun q => absurd q (by simp only [List.mem_cons, List.not_mem_nil, or_false]; omega)) id) (by decide) kd
def c_X3_run_63 (x1 : Int32) (S : MO) : Option (Int32 × MO) :=
  nm (fun (S18 : MO) => some (x1, S18)) (upd S.1 4 (0 : Int32), S.2)
def b_X3_run_32 (K32 : Int32 → MO → Option (Int32 × MO)) (x1 : Int32) (S : MO) : Option (Int32 × MO) :=
  bd2 (f_X3_readsOrder S) (fun (r9 : Int32) (S10 : MO) => if r9 = 0 then (c_X3_run_63 x1 S10) else (bd (f_X3_can S10) (fun (r12 : Int32) => if r12 = 0 then (c_X3_run_63 x1 S10) else (bd (f_X3_does S10) (fun (S14 : MO) => nm (fun (v15 : Int32) => bd2 (f_X3_takes (59 : Int32) S14) (fun (r16 : Int32) (S17 : MO) => K32 v15 S17)) (x1 + 1))))))
def c_X3_run_13 (t0 : Int32) (S : MO) : Option (Int32 × MO) :=
  bd2 (f_X3_holds t0 S) (fun (r4 : Int32) (S5 : MO) => if r4 = 0 then (some ((0 : Int32), S5)) else (bd (f_X3_save S5) (fun (S7 : MO) => nm (fun (S8 : MO) => lpf2 (b_X3_run_32) FU (0 : Int32) S8) (upd S7.1 5 (0 : Int32), S7.2))))
def f_X3_run (S : MO) : Option (Int32 × MO) :=
  bd2 (f_X3_areOrders S) (fun (r1 : Int32) (S2 : MO) => if r1 = 0 then (c_X3_run_13 (1 : Int32) S2) else (c_X3_run_13 (0 : Int32) S2))
abbrev rm_X3_run : Room := { frames := 4, cells := 0, slots := 0, locals := 88 }
theorem np_X3_run : yX3_run.cls ≠ "java/lang/invoke/MethodHandle" ∧ yX3_run.cls ≠ "java/lang/invoke/VarHandle" ∧ (parseMethodDescriptor yX3_run.desc).map (fun d => d.parameters.length) = some 0 := by decide +kernel
set_option maxHeartbeats 4000000 in
set_option maxRecDepth 100000 in
theorem k_X3_run (l : Launch) (D : va_G) (cs : CS) (a : Nat → Nat) (S : MO) {r9 : Int32} {S9 : MO} (h : f_X3_run S = some (r9, S9)) : MI l D cs yX3_run cX3_run 2 .int rm_X3_run [.ref (a 0)] (wM cs.1 a S) r9 (wM cs.1 a S9) := by
  refine MI_of (by decide) (Nat.le_of_ble_eq_true rfl) ?_
  rintro Γ rfl rfl rfl B ret
  show X Γ 2 0 0 0 [(0, .ref (a 0))] [] (wM Γ.cs.1 a S)
  have h63 : ∀ (x1 : Int32) (S : MO), c_X3_run_63  x1 S = some (r9, S9) → X Γ 2 0 0 63 [(0, .ref (a 0)), (1, .int x1)] [] (wM Γ.cs.1 a S) := by
    intro  x1 S h
    unfold c_X3_run_63 at h
    refine x_aload_n B (pc' := 64) 0 dX3_run_63 rfl rfl rfl ?_
    refine x_iconst B (pc' := 65) 0 dX3_run_64 (by decide) rfl ?_
    obtain ⟨S18, eS18, h⟩ := nm_elim h
    refine m_put4 B (pc' := 68) wf_RX3_115 dX3_run_65 rfl ?_
    refine m_wd eS18 ?_
    refine x_iload_n B (pc' := 69) 1 dX3_run_68 rfl rfl rfl ?_
    obtain ⟨h1, h2⟩ := some2 h
    subst h1
    subst h2
    exact ret rfl (by exact Nat.le_of_ble_eq_true rfl) (by exact Nat.le_of_ble_eq_true rfl) dX3_run_69
  have h32 : ∀ (n9 : Nat) (x1 : Int32) (S : MO), lpf2 (b_X3_run_32) n9 x1 S = some (r9, S9) → X Γ 2 0 0 32 [(0, .ref (a 0)), (1, .int x1)] [] (wM Γ.cs.1 a S) := by
    refine lpf2_ind (fun K32 hK32 x1 S h => ?_)
    unfold b_X3_run_32 at h
    refine x_aload_n B (pc' := 33) 0 dX3_run_32 rfl rfl rfl ?_
    obtain ⟨r9, S10, er9, h⟩ := bd2_elim h
    refine x_selfVi B (pc' := 36) [] (k_X3_readsOrder _ _ _ a S er9) rfl rfl gv_RX3_139 rfl np_X3_readsOrder ⟨Nat.le_of_ble_eq_true rfl, Nat.le_of_ble_eq_true rfl⟩ ⟨by exact Nat.le_of_ble_eq_true rfl, by exact Nat.le_of_ble_eq_true rfl⟩ rfl (Nat.le_of_ble_eq_true rfl) dX3_run_33 rfl ?_
    refine x_if_eq B 63 39 dX3_run_36 (by decide) rfl (fun hc11 => ?_) (fun hc11 => ?_)
    · replace h := ite_t hc11 h
      exact h63  _ _ h
    · replace h := ite_f hc11 h
      refine x_aload_n B (pc' := 40) 0 dX3_run_39 rfl rfl rfl ?_
      obtain ⟨r12, er12, h⟩ := bd_elim h
      refine x_selfVi B (pc' := 43) [] (k_X3_can _ _ _ a S10 er12) rfl rfl gv_RX3_145 rfl np_X3_can ⟨Nat.le_of_ble_eq_true rfl, Nat.le_of_ble_eq_true rfl⟩ ⟨by exact Nat.le_of_ble_eq_true rfl, by exact Nat.le_of_ble_eq_true rfl⟩ rfl (Nat.le_of_ble_eq_true rfl) dX3_run_40 rfl ?_
      refine x_if_eq B 63 46 dX3_run_43 (by decide) rfl (fun hc13 => ?_) (fun hc13 => ?_)
      · replace h := ite_t hc13 h
        exact h63  _ _ h
      · replace h := ite_f hc13 h
        refine x_aload_n B (pc' := 47) 0 dX3_run_46 rfl rfl rfl ?_
        obtain ⟨S14, eS14, h⟩ := bd_elim h
        refine x_selfVv B (pc' := 50) [] (k_X3_does _ _ _ a S10 eS14) rfl rfl gv_RX3_148 rfl np_X3_does ⟨Nat.le_of_ble_eq_true rfl, Nat.le_of_ble_eq_true rfl⟩ ⟨by exact Nat.le_of_ble_eq_true rfl, by exact Nat.le_of_ble_eq_true rfl⟩ rfl (Nat.le_of_ble_eq_true rfl) dX3_run_47 rfl ?_
        obtain ⟨v15, ev15, h⟩ := nm_elim h
        refine x_iinc B (pc' := 53) v15 1 [1, 0] [(0, .ref (a 0)), (1, .int v15)] dX3_run_50 rfl (by rw [ev15]; rfl) (by decide) rfl rfl ?_
        refine x_aload_n B (pc' := 54) 0 dX3_run_53 rfl rfl rfl ?_
        refine x_bipush B (pc' := 56) 59 dX3_run_54 (by decide) rfl ?_
        obtain ⟨r16, S17, er16, h⟩ := bd2_elim h
        refine x_selfVi B (pc' := 59) [.int (59 : Int32)] (k_X3_takes _ _ _ a (59 : Int32) S14 er16) rfl rfl gv_RX3_127 rfl np_X3_takes ⟨Nat.le_of_ble_eq_true rfl, Nat.le_of_ble_eq_true rfl⟩ ⟨by exact Nat.le_of_ble_eq_true rfl, by exact Nat.le_of_ble_eq_true rfl⟩ rfl (Nat.le_of_ble_eq_true rfl) dX3_run_56 rfl ?_
        refine x_pop B (pc' := 60) dX3_run_59 rfl rfl ?_
        refine x_goto B (pc' := 32) dX3_run_60 (by decide) ?_
        exact hK32 _ _ h
  have h13 : ∀ (t0 : Int32) (S : MO), c_X3_run_13  t0 S = some (r9, S9) → X Γ 2 0 0 13 [(0, .ref (a 0))] [.int t0, .ref (a 0)] (wM Γ.cs.1 a S) := by
    intro  t0 S h
    unfold c_X3_run_13 at h
    obtain ⟨r4, S5, er4, h⟩ := bd2_elim h
    refine x_selfVi B (pc' := 16) [.int t0] (k_X3_holds _ _ _ a t0 S er4) rfl rfl gv_RX3_64 rfl np_X3_holds ⟨Nat.le_of_ble_eq_true rfl, Nat.le_of_ble_eq_true rfl⟩ ⟨by exact Nat.le_of_ble_eq_true rfl, by exact Nat.le_of_ble_eq_true rfl⟩ rfl (Nat.le_of_ble_eq_true rfl) dX3_run_13 rfl ?_
    refine x_if_ne B 21 19 dX3_run_16 (by decide) rfl (fun hc6 => ?_) (fun hc6 => ?_)
    · replace h := ite_f hc6 h
      refine x_aload_n B (pc' := 22) 0 dX3_run_21 rfl rfl rfl ?_
      obtain ⟨S7, eS7, h⟩ := bd_elim h
      refine x_selfVv B (pc' := 25) [] (k_X3_save _ _ _ a S5 eS7) rfl rfl gv_RX3_67 rfl np_X3_save ⟨Nat.le_of_ble_eq_true rfl, Nat.le_of_ble_eq_true rfl⟩ ⟨by exact Nat.le_of_ble_eq_true rfl, by exact Nat.le_of_ble_eq_true rfl⟩ rfl (Nat.le_of_ble_eq_true rfl) dX3_run_22 rfl ?_
      refine x_aload_n B (pc' := 26) 0 dX3_run_25 rfl rfl rfl ?_
      refine x_iconst B (pc' := 27) 0 dX3_run_26 (by decide) rfl ?_
      obtain ⟨S8, eS8, h⟩ := nm_elim h
      refine m_put5 B (pc' := 30) wf_RX3_118 dX3_run_27 rfl ?_
      refine m_wd eS8 ?_
      refine x_iconst B (pc' := 31) 0 dX3_run_30 (by decide) rfl ?_
      refine x_istore_n B (pc' := 32) [1, 0] [(0, .ref (a 0)), (1, .int (0 : Int32))] dX3_run_31 rfl (by decide) rfl rfl ?_
      exact h32  _ _ _ h
    · replace h := ite_t hc6 h
      refine x_iconst B (pc' := 20) 0 dX3_run_19 (by decide) rfl ?_
      obtain ⟨h1, h2⟩ := some2 h
      subst h1
      subst h2
      exact ret rfl (by exact Nat.le_of_ble_eq_true rfl) (by exact Nat.le_of_ble_eq_true rfl) dX3_run_20
  unfold f_X3_run at h
  refine x_aload_n B (pc' := 1) 0 dX3_run_0 rfl rfl rfl ?_
  refine x_aload_n B (pc' := 2) 0 dX3_run_1 rfl rfl rfl ?_
  obtain ⟨r1, S2, er1, h⟩ := bd2_elim h
  refine x_selfVi B (pc' := 5) [] (k_X3_areOrders _ _ _ a S er1) rfl rfl gv_RX3_142 rfl np_X3_areOrders ⟨Nat.le_of_ble_eq_true rfl, Nat.le_of_ble_eq_true rfl⟩ ⟨by exact Nat.le_of_ble_eq_true rfl, by exact Nat.le_of_ble_eq_true rfl⟩ rfl (Nat.le_of_ble_eq_true rfl) dX3_run_2 rfl ?_
  refine x_if_eq B 12 8 dX3_run_5 (by decide) rfl (fun hc3 => ?_) (fun hc3 => ?_)
  · replace h := ite_t hc3 h
    refine x_iconst B (pc' := 13) 1 dX3_run_12 (by decide) rfl ?_
    exact h13  _ _ h
  · replace h := ite_f hc3 h
    refine x_iconst B (pc' := 9) 0 dX3_run_8 (by decide) rfl ?_
    refine x_goto B (pc' := 13) dX3_run_9 (by decide) ?_
    exact h13  _ _ h
def c_X3_undo_13 (t0 : Int32) (S : MO) : Option (Int32 × MO) :=
  bd2 (f_X3_holds t0 S) (fun (r2 : Int32) (S3 : MO) => if r2 = 0 then (some ((0 : Int32), S3)) else (bd (f_X3_copies (S3.1 2) (0 : Int32) S3) (fun (S5 : MO) => nm (fun (S6 : MO) => some ((S6.1 2), S6)) (upd S5.1 2 ((S5.1 2) - (1 : Int32)), S5.2))))
def f_X3_undo (S : MO) : Option (Int32 × MO) :=
  if (S.1 2) ≤ 0 then (c_X3_undo_13 (1 : Int32) S) else (c_X3_undo_13 (0 : Int32) S)
abbrev rm_X3_undo : Room := { frames := 1, cells := 0, slots := 0, locals := 23 }
theorem np_X3_undo : yX3_undo.cls ≠ "java/lang/invoke/MethodHandle" ∧ yX3_undo.cls ≠ "java/lang/invoke/VarHandle" ∧ (parseMethodDescriptor yX3_undo.desc).map (fun d => d.parameters.length) = some 0 := by decide +kernel
set_option maxHeartbeats 4000000 in
set_option maxRecDepth 100000 in
theorem k_X3_undo (l : Launch) (D : va_G) (cs : CS) (a : Nat → Nat) (S : MO) {r9 : Int32} {S9 : MO} (h : f_X3_undo S = some (r9, S9)) : MI l D cs yX3_undo cX3_undo 1 .int rm_X3_undo [.ref (a 0)] (wM cs.1 a S) r9 (wM cs.1 a S9) := by
  refine MI_of (by decide) (Nat.le_of_ble_eq_true rfl) ?_
  rintro Γ rfl rfl rfl B ret
  show X Γ 1 0 0 0 [(0, .ref (a 0))] [] (wM Γ.cs.1 a S)
  have h13 : ∀ (t0 : Int32) (S : MO), c_X3_undo_13  t0 S = some (r9, S9) → X Γ 1 0 0 13 [(0, .ref (a 0))] [.int t0, .ref (a 0)] (wM Γ.cs.1 a S) := by
    intro  t0 S h
    unfold c_X3_undo_13 at h
    obtain ⟨r2, S3, er2, h⟩ := bd2_elim h
    refine x_selfVi B (pc' := 16) [.int t0] (k_X3_holds _ _ _ a t0 S er2) rfl rfl gv_RX3_64 rfl np_X3_holds ⟨Nat.le_of_ble_eq_true rfl, Nat.le_of_ble_eq_true rfl⟩ ⟨by exact Nat.le_of_ble_eq_true rfl, by exact Nat.le_of_ble_eq_true rfl⟩ rfl (Nat.le_of_ble_eq_true rfl) dX3_undo_13 rfl ?_
    refine x_if_ne B 21 19 dX3_undo_16 (by decide) rfl (fun hc4 => ?_) (fun hc4 => ?_)
    · replace h := ite_f hc4 h
      refine x_aload_n B (pc' := 22) 0 dX3_undo_21 rfl rfl rfl ?_
      refine x_aload_n B (pc' := 23) 0 dX3_undo_22 rfl rfl rfl ?_
      refine m_get2 B (pc' := 26) wf_RX3_53 dX3_undo_23 rfl ?_
      refine x_iconst B (pc' := 27) 0 dX3_undo_26 (by decide) rfl ?_
      obtain ⟨S5, eS5, h⟩ := bd_elim h
      refine x_selfVv B (pc' := 30) [.int (S3.1 2), .int (0 : Int32)] (k_X3_copies _ _ _ a (S3.1 2) (0 : Int32) S3 eS5) rfl rfl gv_RX3_56 rfl np_X3_copies ⟨Nat.le_of_ble_eq_true rfl, Nat.le_of_ble_eq_true rfl⟩ ⟨by exact Nat.le_of_ble_eq_true rfl, by exact Nat.le_of_ble_eq_true rfl⟩ rfl (Nat.le_of_ble_eq_true rfl) dX3_undo_27 rfl ?_
      refine x_aload_n B (pc' := 31) 0 dX3_undo_30 rfl rfl rfl ?_
      refine x_dup B (pc' := 32) dX3_undo_31 rfl rfl ?_
      refine m_get2 B (pc' := 35) wf_RX3_53 dX3_undo_32 rfl ?_
      refine x_iconst B (pc' := 36) 1 dX3_undo_35 (by decide) rfl ?_
      refine x_isub B (pc' := 37) dX3_undo_36 rfl ?_
      obtain ⟨S6, eS6, h⟩ := nm_elim h
      refine m_put2 B (pc' := 40) wf_RX3_53 dX3_undo_37 rfl ?_
      refine m_wd eS6 ?_
      refine x_aload_n B (pc' := 41) 0 dX3_undo_40 rfl rfl rfl ?_
      refine m_get2 B (pc' := 44) wf_RX3_53 dX3_undo_41 rfl ?_
      obtain ⟨h1, h2⟩ := some2 h
      subst h1
      subst h2
      exact ret rfl (by exact Nat.le_of_ble_eq_true rfl) (by exact Nat.le_of_ble_eq_true rfl) dX3_undo_44
    · replace h := ite_t hc4 h
      refine x_iconst B (pc' := 20) 0 dX3_undo_19 (by decide) rfl ?_
      obtain ⟨h1, h2⟩ := some2 h
      subst h1
      subst h2
      exact ret rfl (by exact Nat.le_of_ble_eq_true rfl) (by exact Nat.le_of_ble_eq_true rfl) dX3_undo_20
  unfold f_X3_undo at h
  refine x_aload_n B (pc' := 1) 0 dX3_undo_0 rfl rfl rfl ?_
  refine x_aload_n B (pc' := 2) 0 dX3_undo_1 rfl rfl rfl ?_
  refine m_get2 B (pc' := 5) wf_RX3_53 dX3_undo_2 rfl ?_
  refine x_if_le B 12 8 dX3_undo_5 (by decide) rfl (fun hc1 => ?_) (fun hc1 => ?_)
  · replace h := ite_t hc1 h
    refine x_iconst B (pc' := 13) 1 dX3_undo_12 (by decide) rfl ?_
    exact h13  _ _ h
  · replace h := ite_f hc1 h
    refine x_iconst B (pc' := 9) 0 dX3_undo_8 (by decide) rfl ?_
    refine x_goto B (pc' := 13) dX3_undo_9 (by decide) ?_
    exact h13  _ _ h
def f_X3_savedStates (S : MO) : Option (Int32 × MO) :=
  bd2 (f_X3_told (S.1 2) S) (fun (r1 : Int32) (S2 : MO) => some (r1, S2))
abbrev rm_X3_savedStates : Room := { frames := 1, cells := 0, slots := 0, locals := 21 }
theorem np_X3_savedStates : yX3_savedStates.cls ≠ "java/lang/invoke/MethodHandle" ∧ yX3_savedStates.cls ≠ "java/lang/invoke/VarHandle" ∧ (parseMethodDescriptor yX3_savedStates.desc).map (fun d => d.parameters.length) = some 0 := by decide +kernel
set_option maxHeartbeats 4000000 in
set_option maxRecDepth 100000 in
theorem k_X3_savedStates (l : Launch) (D : va_G) (cs : CS) (a : Nat → Nat) (S : MO) {r9 : Int32} {S9 : MO} (h : f_X3_savedStates S = some (r9, S9)) : MI l D cs yX3_savedStates cX3_savedStates 1 .int rm_X3_savedStates [.ref (a 0)] (wM cs.1 a S) r9 (wM cs.1 a S9) := by
  refine MI_of (by decide) (Nat.le_of_ble_eq_true rfl) ?_
  rintro Γ rfl rfl rfl B ret
  show X Γ 1 0 0 0 [(0, .ref (a 0))] [] (wM Γ.cs.1 a S)
  unfold f_X3_savedStates at h
  refine x_aload_n B (pc' := 1) 0 dX3_savedStates_0 rfl rfl rfl ?_
  refine x_aload_n B (pc' := 2) 0 dX3_savedStates_1 rfl rfl rfl ?_
  refine m_get2 B (pc' := 5) wf_RX3_53 dX3_savedStates_2 rfl ?_
  obtain ⟨r1, S2, er1, h⟩ := bd2_elim h
  refine x_selfVi B (pc' := 8) [.int (S.1 2)] (k_X3_told _ _ _ a (S.1 2) S er1) rfl rfl gv_RX3_88 rfl np_X3_told ⟨Nat.le_of_ble_eq_true rfl, Nat.le_of_ble_eq_true rfl⟩ ⟨by exact Nat.le_of_ble_eq_true rfl, by exact Nat.le_of_ble_eq_true rfl⟩ rfl (Nat.le_of_ble_eq_true rfl) dX3_savedStates_5 rfl ?_
  obtain ⟨h1, h2⟩ := some2 h
  subst h1
  subst h2
  exact ret rfl (by exact Nat.le_of_ble_eq_true rfl) (by exact Nat.le_of_ble_eq_true rfl) dX3_savedStates_8
def f_X3_mix (p0 : Int64) (S : MO) : Option MO :=
  nm (fun (S1 : MO) => some S1) (S.1, S.2.1, (((31 : Int64) * S.2.2) + p0))
abbrev rm_X3_mix : Room := { frames := 0, cells := 0, slots := 0, locals := 0 }
theorem np_X3_mix : yX3_mix.cls ≠ "java/lang/invoke/MethodHandle" ∧ yX3_mix.cls ≠ "java/lang/invoke/VarHandle" ∧ (parseMethodDescriptor yX3_mix.desc).map (fun d => d.parameters.length) = some 1 := by decide +kernel
set_option maxHeartbeats 4000000 in
set_option maxRecDepth 100000 in
theorem k_X3_mix (l : Launch) (D : va_G) (cs : CS) (a : Nat → Nat) (p0 : Int64) (S : MO) {S9 : MO} (h : f_X3_mix p0 S = some S9) : MV l D cs yX3_mix cX3_mix 3 rm_X3_mix [.ref (a 0), .long p0] (wM cs.1 a S) (wM cs.1 a S9) := by
  refine MV_of (by decide) (Nat.le_of_ble_eq_true rfl) ?_
  rintro Γ rfl rfl rfl B ret
  show X Γ 3 0 0 0 [(0, .ref (a 0)), (1, .long p0)] [] (wM Γ.cs.1 a S)
  unfold f_X3_mix at h
  refine x_aload_n B (pc' := 1) 0 dX3_mix_0 rfl rfl rfl ?_
  refine x_ldc2 B (pc' := 4) 31 wk_RX3_151 dX3_mix_1 rfl ?_
  refine x_aload_n B (pc' := 5) 0 dX3_mix_4 rfl rfl rfl ?_
  refine m_get9 B (pc' := 8) wf_RX3_153 dX3_mix_5 rfl ?_
  refine x_lmul B (pc' := 9) dX3_mix_8 rfl ?_
  refine x_lload_n B (pc' := 10) 1 dX3_mix_9 rfl rfl rfl ?_
  refine x_ladd B (pc' := 11) dX3_mix_10 rfl ?_
  obtain ⟨S1, eS1, h⟩ := nm_elim h
  refine m_put9 B (pc' := 14) wf_RX3_153 dX3_mix_11 rfl ?_
  refine m_wd eS1 ?_
  cases h
  exact ret (by exact Nat.le_of_ble_eq_true rfl) (by exact Nat.le_of_ble_eq_true rfl) dX3_mix_14
def b_X3_digest_245 (K245 : Int32 → MO → Option (Int64 × MO)) (x1 : Int32) (S : MO) : Option (Int64 × MO) :=
  if (32 : Int32) ≤ x1 then (some (S.2.2, S)) else (gd ((27 : Int32) + x1) 1085 (bd (f_X3_mix (Int32.toInt64 ((S.2.1 1) (Int32.toNatClampNeg ((27 : Int32) + x1)))) S) (fun (S35 : MO) => nm (fun (v36 : Int32) => K245 v36 S35) (x1 + 1))))
def b_X3_digest_181 (K129 : Int32 → MO → Option (Int64 × MO)) (K181 : Int32 → Int32 → Int32 → MO → Option (Int64 × MO)) (x1 : Int32) (x2 : Int32) (x3 : Int32) (S : MO) : Option (Int64 × MO) :=
  if x2 ≤ x3 then (nm (fun (v38 : Int32) => K129 v38 S) (x1 + 1)) else (bd (f_X3_cellAt x1 x3 S) (fun (r39 : Int32) => bd (f_X3_mix (Int32.toInt64 r39) S) (fun (S40 : MO) => gd ((59 : Int32) + r39) 1085 (bd (f_X3_mix (Int32.toInt64 ((S40.2.1 1) (Int32.toNatClampNeg ((59 : Int32) + r39)))) S40) (fun (S42 : MO) => gd ((91 : Int32) + r39) 1085 (bd (f_X3_mix (Int32.toInt64 ((S42.2.1 1) (Int32.toNatClampNeg ((91 : Int32) + r39)))) S42) (fun (S44 : MO) => nm (fun (v45 : Int32) => K181 x1 x2 v45 S44) (x3 + 1))))))))
def b_X3_digest_129 (K129 : Int32 → MO → Option (Int64 × MO)) (x1 : Int32) (S : MO) : Option (Int64 × MO) :=
  gd (0 : Int32) 1085 (if ((S.2.1 1) (Int32.toNatClampNeg (0 : Int32))) ≤ x1 then (lpf2 (b_X3_digest_245) FU (0 : Int32) S) else (bd (f_X3_cells x1 S) (fun (r27 : Int32) => bd (f_X3_mix (Int32.toInt64 r27) S) (fun (S28 : MO) => gd ((7 : Int32) + x1) 1085 (bd (f_X3_mix (Int32.toInt64 ((S28.2.1 1) (Int32.toNatClampNeg ((7 : Int32) + x1)))) S28) (fun (S30 : MO) => gd ((17 : Int32) + x1) 1085 (bd (f_X3_mix (Int32.toInt64 ((S30.2.1 1) (Int32.toNatClampNeg ((17 : Int32) + x1)))) S30) (fun (S32 : MO) => lpf4 (b_X3_digest_181 K129) FU x1 r27 (0 : Int32) S32))))))))
def f_X3_digest (S : MO) : Option (Int64 × MO) :=
  nm (fun (S1 : MO) => nm (fun (S2 : MO) => gd (0 : Int32) 1085 (bd (f_X3_mix (Int32.toInt64 ((S2.2.1 1) (Int32.toNatClampNeg (0 : Int32)))) S2) (fun (S4 : MO) => gd (1 : Int32) 1085 (bd (f_X3_mix (Int32.toInt64 ((S4.2.1 1) (Int32.toNatClampNeg (1 : Int32)))) S4) (fun (S6 : MO) => gd (2 : Int32) 1085 (bd (f_X3_mix (Int32.toInt64 ((S6.2.1 1) (Int32.toNatClampNeg (2 : Int32)))) S6) (fun (S8 : MO) => bd (f_X3_cells ((-1) : Int32) S8) (fun (r9 : Int32) => bd (f_X3_mix (Int32.toInt64 r9) S8) (fun (S10 : MO) => gd (3 : Int32) 1085 (bd (f_X3_mix (Int32.toInt64 ((S10.2.1 1) (Int32.toNatClampNeg (3 : Int32)))) S10) (fun (S12 : MO) => gd (4 : Int32) 1085 (bd (f_X3_mix (Int32.toInt64 ((S12.2.1 1) (Int32.toNatClampNeg (4 : Int32)))) S12) (fun (S14 : MO) => gd (5 : Int32) 1085 (bd (f_X3_mix (Int32.toInt64 ((S14.2.1 1) (Int32.toNatClampNeg (5 : Int32)))) S14) (fun (S16 : MO) => gd (6 : Int32) 1085 (bd (f_X3_mix (Int32.toInt64 ((S16.2.1 1) (Int32.toNatClampNeg (6 : Int32)))) S16) (fun (S18 : MO) => bd (f_X3_correctedCells S18) (fun (r19 : Int32) => bd (f_X3_mix (Int32.toInt64 r19) S18) (fun (S20 : MO) => bd (f_X3_writable S20) (fun (r21 : Int32) => bd (f_X3_mix (Int32.toInt64 r21) S20) (fun (S22 : MO) => bd (f_X3_loser S22) (fun (r23 : Int32) => bd (f_X3_mix (Int32.toInt64 r23) S22) (fun (S24 : MO) => lpf2 (b_X3_digest_129) FU (0 : Int32) S24))))))))))))))))))))))) (S1.1, S1.2.1, (4444 : Int64))) (upd S.1 0 (0 : Int32), S.2)
abbrev rm_X3_digest : Room := { frames := 2, cells := 0, slots := 0, locals := 46 }
theorem np_X3_digest : yX3_digest.cls ≠ "java/lang/invoke/MethodHandle" ∧ yX3_digest.cls ≠ "java/lang/invoke/VarHandle" ∧ (parseMethodDescriptor yX3_digest.desc).map (fun d => d.parameters.length) = some 0 := by decide +kernel
set_option maxHeartbeats 4000000 in
set_option maxRecDepth 100000 in
theorem k_X3_digest (l : Launch) (D : va_G) (cs : CS) (a : Nat → Nat) (S : MO) {r9 : Int64} {S9 : MO} (h : f_X3_digest S = some (r9, S9)) : ML l D cs yX3_digest cX3_digest 5 rm_X3_digest [.ref (a 0)] (wM cs.1 a S) r9 (wM cs.1 a S9) := by
  refine ML_of (by decide) (Nat.le_of_ble_eq_true rfl) ?_
  rintro Γ rfl rfl rfl B ret
  show X Γ 5 0 0 0 [(0, .ref (a 0))] [] (wM Γ.cs.1 a S)
  have h245 : ∀ (n9 : Nat) (x1 : Int32) (S : MO), lpf2 (b_X3_digest_245) n9 x1 S = some (r9, S9) → X Γ 5 0 0 245 [(0, .ref (a 0)), (1, .int x1)] [] (wM Γ.cs.1 a S) := by
    refine lpf2_ind (fun K245 hK245 x1 S h => ?_)
    unfold b_X3_digest_245 at h
    refine x_iload_n B (pc' := 246) 1 dX3_digest_245 rfl rfl rfl ?_
    refine x_bipush B (pc' := 248) 32 dX3_digest_246 (by decide) rfl ?_
    refine x_icmp_ge B 271 251 dX3_digest_248 (by decide) rfl (fun hc33 => ?_) (fun hc33 => ?_)
    · replace h := ite_t hc33 h
      refine x_aload_n B (pc' := 272) 0 dX3_digest_271 rfl rfl rfl ?_
      refine m_get9 B (pc' := 275) wf_RX3_153 dX3_digest_272 rfl ?_
      obtain ⟨h1, h2⟩ := some2 h
      subst h1
      subst h2
      exact ret (by exact Nat.le_of_ble_eq_true rfl) (by exact Nat.le_of_ble_eq_true rfl) dX3_digest_275
    · replace h := ite_f hc33 h
      refine x_aload_n B (pc' := 252) 0 dX3_digest_251 rfl rfl rfl ?_
      refine x_aload_n B (pc' := 253) 0 dX3_digest_252 rfl rfl rfl ?_
      refine m_ref1 B (pc' := 256) wf_RX3_7 dX3_digest_253 rfl ?_
      refine x_bipush B (pc' := 258) 27 dX3_digest_256 (by decide) rfl ?_
      refine x_iload_n B (pc' := 259) 1 dX3_digest_258 rfl rfl rfl ?_
      refine x_iadd B (pc' := 260) dX3_digest_259 rfl ?_
      obtain ⟨hi34, h⟩ := gd_elim h
      refine m_ald1 B (pc' := 261) hi34 dX3_digest_260 rfl ?_
      refine x_i2l B (pc' := 262) dX3_digest_261 rfl ?_
      obtain ⟨S35, eS35, h⟩ := bd_elim h
      refine x_selfVv B (pc' := 265) [.long (Int32.toInt64 ((S.2.1 1) (Int32.toNatClampNeg ((27 : Int32) + x1))))] (k_X3_mix _ _ _ a (Int32.toInt64 ((S.2.1 1) (Int32.toNatClampNeg ((27 : Int32) + x1)))) S eS35) rfl rfl gv_RX3_159 rfl np_X3_mix ⟨Nat.le_of_ble_eq_true rfl, Nat.le_of_ble_eq_true rfl⟩ ⟨by exact Nat.le_of_ble_eq_true rfl, by exact Nat.le_of_ble_eq_true rfl⟩ rfl (Nat.le_of_ble_eq_true rfl) dX3_digest_262 rfl ?_
      obtain ⟨v36, ev36, h⟩ := nm_elim h
      refine x_iinc B (pc' := 268) v36 1 [1, 0] [(0, .ref (a 0)), (1, .int v36)] dX3_digest_265 rfl (by rw [ev36]; rfl) (by decide) rfl rfl ?_
      refine x_goto B (pc' := 245) dX3_digest_268 (by decide) ?_
      exact hK245 _ _ h
  have h181 : ∀ (K129 : Int32 → MO → Option (Int64 × MO)) (_ : ∀ x1 S, K129 x1 S = some (r9, S9) → X Γ 5 0 0 129 [(0, .ref (a 0)), (1, .int x1)] [] (wM Γ.cs.1 a S)) (n9 : Nat) (x1 : Int32) (x2 : Int32) (x3 : Int32) (S : MO), lpf4 (b_X3_digest_181 K129) n9 x1 x2 x3 S = some (r9, S9) → X Γ 5 0 0 181 [(0, .ref (a 0)), (1, .int x1), (2, .int x2), (3, .int x3)] [] (wM Γ.cs.1 a S) := by
    intro K129 hK129
    refine lpf4_ind (fun K181 hK181 x1 x2 x3 S h => ?_)
    unfold b_X3_digest_181 at h
    refine x_iload_n B (pc' := 182) 3 dX3_digest_181 rfl rfl rfl ?_
    refine x_iload_n B (pc' := 183) 2 dX3_digest_182 rfl rfl rfl ?_
    refine x_icmp_ge B 237 186 dX3_digest_183 (by decide) rfl (fun hc37 => ?_) (fun hc37 => ?_)
    · replace h := ite_t hc37 h
      obtain ⟨v38, ev38, h⟩ := nm_elim h
      refine x_iinc B (pc' := 240) v38 1 [1, 0, 2, 3] [(0, .ref (a 0)), (1, .int v38), (2, .int x2), (3, .int x3)] dX3_digest_237 rfl (by rw [ev38]; rfl) (by decide) rfl rfl ?_
      refine x_goto B (pc' := 129) dX3_digest_240 (by decide) ?_
      refine x_lv [0, 1] (lv' := [(0, .ref (a 0)), (1, .int v38)]) rfl ?_
      exact hK129 _ _ h
    · replace h := ite_f hc37 h
      refine x_aload_n B (pc' := 187) 0 dX3_digest_186 rfl rfl rfl ?_
      refine x_iload_n B (pc' := 188) 1 dX3_digest_187 rfl rfl rfl ?_
      refine x_iload_n B (pc' := 189) 3 dX3_digest_188 rfl rfl rfl ?_
      obtain ⟨r39, er39, h⟩ := bd_elim h
      refine x_selfVi B (pc' := 192) [.int x1, .int x3] (k_X3_cellAt _ _ _ a x1 x3 S er39) rfl rfl gv_RX3_49 rfl np_X3_cellAt ⟨Nat.le_of_ble_eq_true rfl, Nat.le_of_ble_eq_true rfl⟩ ⟨by exact Nat.le_of_ble_eq_true rfl, by exact Nat.le_of_ble_eq_true rfl⟩ rfl (Nat.le_of_ble_eq_true rfl) dX3_digest_189 rfl ?_
      refine x_istore B (pc' := 194) [1, 2, 3, 4, 0] [(0, .ref (a 0)), (1, .int x1), (2, .int x2), (3, .int x3), (4, .int r39)] dX3_digest_192 (by decide) rfl rfl ?_
      refine x_aload_n B (pc' := 195) 0 dX3_digest_194 rfl rfl rfl ?_
      refine x_iload B (pc' := 197) 4 dX3_digest_195 rfl rfl ?_
      refine x_i2l B (pc' := 198) dX3_digest_197 rfl ?_
      obtain ⟨S40, eS40, h⟩ := bd_elim h
      refine x_selfVv B (pc' := 201) [.long (Int32.toInt64 r39)] (k_X3_mix _ _ _ a (Int32.toInt64 r39) S eS40) rfl rfl gv_RX3_159 rfl np_X3_mix ⟨Nat.le_of_ble_eq_true rfl, Nat.le_of_ble_eq_true rfl⟩ ⟨by exact Nat.le_of_ble_eq_true rfl, by exact Nat.le_of_ble_eq_true rfl⟩ rfl (Nat.le_of_ble_eq_true rfl) dX3_digest_198 rfl ?_
      refine x_aload_n B (pc' := 202) 0 dX3_digest_201 rfl rfl rfl ?_
      refine x_aload_n B (pc' := 203) 0 dX3_digest_202 rfl rfl rfl ?_
      refine m_ref1 B (pc' := 206) wf_RX3_7 dX3_digest_203 rfl ?_
      refine x_bipush B (pc' := 208) 59 dX3_digest_206 (by decide) rfl ?_
      refine x_iload B (pc' := 210) 4 dX3_digest_208 rfl rfl ?_
      refine x_iadd B (pc' := 211) dX3_digest_210 rfl ?_
      obtain ⟨hi41, h⟩ := gd_elim h
      refine m_ald1 B (pc' := 212) hi41 dX3_digest_211 rfl ?_
      refine x_i2l B (pc' := 213) dX3_digest_212 rfl ?_
      obtain ⟨S42, eS42, h⟩ := bd_elim h
      refine x_selfVv B (pc' := 216) [.long (Int32.toInt64 ((S40.2.1 1) (Int32.toNatClampNeg ((59 : Int32) + r39))))] (k_X3_mix _ _ _ a (Int32.toInt64 ((S40.2.1 1) (Int32.toNatClampNeg ((59 : Int32) + r39)))) S40 eS42) rfl rfl gv_RX3_159 rfl np_X3_mix ⟨Nat.le_of_ble_eq_true rfl, Nat.le_of_ble_eq_true rfl⟩ ⟨by exact Nat.le_of_ble_eq_true rfl, by exact Nat.le_of_ble_eq_true rfl⟩ rfl (Nat.le_of_ble_eq_true rfl) dX3_digest_213 rfl ?_
      refine x_aload_n B (pc' := 217) 0 dX3_digest_216 rfl rfl rfl ?_
      refine x_aload_n B (pc' := 218) 0 dX3_digest_217 rfl rfl rfl ?_
      refine m_ref1 B (pc' := 221) wf_RX3_7 dX3_digest_218 rfl ?_
      refine x_bipush B (pc' := 223) 91 dX3_digest_221 (by decide) rfl ?_
      refine x_iload B (pc' := 225) 4 dX3_digest_223 rfl rfl ?_
      refine x_iadd B (pc' := 226) dX3_digest_225 rfl ?_
      obtain ⟨hi43, h⟩ := gd_elim h
      refine m_ald1 B (pc' := 227) hi43 dX3_digest_226 rfl ?_
      refine x_i2l B (pc' := 228) dX3_digest_227 rfl ?_
      obtain ⟨S44, eS44, h⟩ := bd_elim h
      refine x_selfVv B (pc' := 231) [.long (Int32.toInt64 ((S42.2.1 1) (Int32.toNatClampNeg ((91 : Int32) + r39))))] (k_X3_mix _ _ _ a (Int32.toInt64 ((S42.2.1 1) (Int32.toNatClampNeg ((91 : Int32) + r39)))) S42 eS44) rfl rfl gv_RX3_159 rfl np_X3_mix ⟨Nat.le_of_ble_eq_true rfl, Nat.le_of_ble_eq_true rfl⟩ ⟨by exact Nat.le_of_ble_eq_true rfl, by exact Nat.le_of_ble_eq_true rfl⟩ rfl (Nat.le_of_ble_eq_true rfl) dX3_digest_228 rfl ?_
      obtain ⟨v45, ev45, h⟩ := nm_elim h
      refine x_iinc B (pc' := 234) v45 3 [1, 2, 3, 0, 4] [(0, .ref (a 0)), (1, .int x1), (2, .int x2), (3, .int v45), (4, .int r39)] dX3_digest_231 rfl (by rw [ev45]; rfl) (by decide) rfl rfl ?_
      refine x_goto B (pc' := 181) dX3_digest_234 (by decide) ?_
      refine x_lv [0, 1, 2, 3] (lv' := [(0, .ref (a 0)), (1, .int x1), (2, .int x2), (3, .int v45)]) rfl ?_
      exact hK181 _ _ _ _ h
  have h129 : ∀ (n9 : Nat) (x1 : Int32) (S : MO), lpf2 (b_X3_digest_129) n9 x1 S = some (r9, S9) → X Γ 5 0 0 129 [(0, .ref (a 0)), (1, .int x1)] [] (wM Γ.cs.1 a S) := by
    refine lpf2_ind (fun K129 hK129 x1 S h => ?_)
    unfold b_X3_digest_129 at h
    refine x_iload_n B (pc' := 130) 1 dX3_digest_129 rfl rfl rfl ?_
    refine x_aload_n B (pc' := 131) 0 dX3_digest_130 rfl rfl rfl ?_
    refine m_ref1 B (pc' := 134) wf_RX3_7 dX3_digest_131 rfl ?_
    refine x_iconst B (pc' := 135) 0 dX3_digest_134 (by decide) rfl ?_
    obtain ⟨hi25, h⟩ := gd_elim h
    refine m_ald1 B (pc' := 136) hi25 dX3_digest_135 rfl ?_
    refine x_icmp_ge B 243 139 dX3_digest_136 (by decide) rfl (fun hc26 => ?_) (fun hc26 => ?_)
    · replace h := ite_t hc26 h
      refine x_iconst B (pc' := 244) 0 dX3_digest_243 (by decide) rfl ?_
      refine x_istore_n B (pc' := 245) [1, 0] [(0, .ref (a 0)), (1, .int (0 : Int32))] dX3_digest_244 rfl (by decide) rfl rfl ?_
      exact h245  _ _ _ h
    · replace h := ite_f hc26 h
      refine x_aload_n B (pc' := 140) 0 dX3_digest_139 rfl rfl rfl ?_
      refine x_iload_n B (pc' := 141) 1 dX3_digest_140 rfl rfl rfl ?_
      obtain ⟨r27, er27, h⟩ := bd_elim h
      refine x_selfVi B (pc' := 144) [.int x1] (k_X3_cells _ _ _ a x1 S er27) rfl rfl gv_RX3_32 rfl np_X3_cells ⟨Nat.le_of_ble_eq_true rfl, Nat.le_of_ble_eq_true rfl⟩ ⟨by exact Nat.le_of_ble_eq_true rfl, by exact Nat.le_of_ble_eq_true rfl⟩ rfl (Nat.le_of_ble_eq_true rfl) dX3_digest_141 rfl ?_
      refine x_istore_n B (pc' := 145) [1, 2, 0] [(0, .ref (a 0)), (1, .int x1), (2, .int r27)] dX3_digest_144 rfl (by decide) rfl rfl ?_
      refine x_aload_n B (pc' := 146) 0 dX3_digest_145 rfl rfl rfl ?_
      refine x_iload_n B (pc' := 147) 2 dX3_digest_146 rfl rfl rfl ?_
      refine x_i2l B (pc' := 148) dX3_digest_147 rfl ?_
      obtain ⟨S28, eS28, h⟩ := bd_elim h
      refine x_selfVv B (pc' := 151) [.long (Int32.toInt64 r27)] (k_X3_mix _ _ _ a (Int32.toInt64 r27) S eS28) rfl rfl gv_RX3_159 rfl np_X3_mix ⟨Nat.le_of_ble_eq_true rfl, Nat.le_of_ble_eq_true rfl⟩ ⟨by exact Nat.le_of_ble_eq_true rfl, by exact Nat.le_of_ble_eq_true rfl⟩ rfl (Nat.le_of_ble_eq_true rfl) dX3_digest_148 rfl ?_
      refine x_aload_n B (pc' := 152) 0 dX3_digest_151 rfl rfl rfl ?_
      refine x_aload_n B (pc' := 153) 0 dX3_digest_152 rfl rfl rfl ?_
      refine m_ref1 B (pc' := 156) wf_RX3_7 dX3_digest_153 rfl ?_
      refine x_bipush B (pc' := 158) 7 dX3_digest_156 (by decide) rfl ?_
      refine x_iload_n B (pc' := 159) 1 dX3_digest_158 rfl rfl rfl ?_
      refine x_iadd B (pc' := 160) dX3_digest_159 rfl ?_
      obtain ⟨hi29, h⟩ := gd_elim h
      refine m_ald1 B (pc' := 161) hi29 dX3_digest_160 rfl ?_
      refine x_i2l B (pc' := 162) dX3_digest_161 rfl ?_
      obtain ⟨S30, eS30, h⟩ := bd_elim h
      refine x_selfVv B (pc' := 165) [.long (Int32.toInt64 ((S28.2.1 1) (Int32.toNatClampNeg ((7 : Int32) + x1))))] (k_X3_mix _ _ _ a (Int32.toInt64 ((S28.2.1 1) (Int32.toNatClampNeg ((7 : Int32) + x1)))) S28 eS30) rfl rfl gv_RX3_159 rfl np_X3_mix ⟨Nat.le_of_ble_eq_true rfl, Nat.le_of_ble_eq_true rfl⟩ ⟨by exact Nat.le_of_ble_eq_true rfl, by exact Nat.le_of_ble_eq_true rfl⟩ rfl (Nat.le_of_ble_eq_true rfl) dX3_digest_162 rfl ?_
      refine x_aload_n B (pc' := 166) 0 dX3_digest_165 rfl rfl rfl ?_
      refine x_aload_n B (pc' := 167) 0 dX3_digest_166 rfl rfl rfl ?_
      refine m_ref1 B (pc' := 170) wf_RX3_7 dX3_digest_167 rfl ?_
      refine x_bipush B (pc' := 172) 17 dX3_digest_170 (by decide) rfl ?_
      refine x_iload_n B (pc' := 173) 1 dX3_digest_172 rfl rfl rfl ?_
      refine x_iadd B (pc' := 174) dX3_digest_173 rfl ?_
      obtain ⟨hi31, h⟩ := gd_elim h
      refine m_ald1 B (pc' := 175) hi31 dX3_digest_174 rfl ?_
      refine x_i2l B (pc' := 176) dX3_digest_175 rfl ?_
      obtain ⟨S32, eS32, h⟩ := bd_elim h
      refine x_selfVv B (pc' := 179) [.long (Int32.toInt64 ((S30.2.1 1) (Int32.toNatClampNeg ((17 : Int32) + x1))))] (k_X3_mix _ _ _ a (Int32.toInt64 ((S30.2.1 1) (Int32.toNatClampNeg ((17 : Int32) + x1)))) S30 eS32) rfl rfl gv_RX3_159 rfl np_X3_mix ⟨Nat.le_of_ble_eq_true rfl, Nat.le_of_ble_eq_true rfl⟩ ⟨by exact Nat.le_of_ble_eq_true rfl, by exact Nat.le_of_ble_eq_true rfl⟩ rfl (Nat.le_of_ble_eq_true rfl) dX3_digest_176 rfl ?_
      refine x_iconst B (pc' := 180) 0 dX3_digest_179 (by decide) rfl ?_
      refine x_istore_n B (pc' := 181) [1, 2, 3, 0] [(0, .ref (a 0)), (1, .int x1), (2, .int r27), (3, .int (0 : Int32))] dX3_digest_180 rfl (by decide) rfl rfl ?_
      exact h181 K129 hK129 _ _ _ _ _ h
  unfold f_X3_digest at h
  refine x_aload_n B (pc' := 1) 0 dX3_digest_0 rfl rfl rfl ?_
  refine x_iconst B (pc' := 2) 0 dX3_digest_1 (by decide) rfl ?_
  obtain ⟨S1, eS1, h⟩ := nm_elim h
  refine m_put0 B (pc' := 5) wf_RX3_16 dX3_digest_2 rfl ?_
  refine m_wd eS1 ?_
  refine x_aload_n B (pc' := 6) 0 dX3_digest_5 rfl rfl rfl ?_
  refine x_ldc2 B (pc' := 9) 4444 wk_RX3_157 dX3_digest_6 rfl ?_
  obtain ⟨S2, eS2, h⟩ := nm_elim h
  refine m_put9 B (pc' := 12) wf_RX3_153 dX3_digest_9 rfl ?_
  refine m_wd eS2 ?_
  refine x_aload_n B (pc' := 13) 0 dX3_digest_12 rfl rfl rfl ?_
  refine x_aload_n B (pc' := 14) 0 dX3_digest_13 rfl rfl rfl ?_
  refine m_ref1 B (pc' := 17) wf_RX3_7 dX3_digest_14 rfl ?_
  refine x_iconst B (pc' := 18) 0 dX3_digest_17 (by decide) rfl ?_
  obtain ⟨hi3, h⟩ := gd_elim h
  refine m_ald1 B (pc' := 19) hi3 dX3_digest_18 rfl ?_
  refine x_i2l B (pc' := 20) dX3_digest_19 rfl ?_
  obtain ⟨S4, eS4, h⟩ := bd_elim h
  refine x_selfVv B (pc' := 23) [.long (Int32.toInt64 ((S2.2.1 1) (Int32.toNatClampNeg (0 : Int32))))] (k_X3_mix _ _ _ a (Int32.toInt64 ((S2.2.1 1) (Int32.toNatClampNeg (0 : Int32)))) S2 eS4) rfl rfl gv_RX3_159 rfl np_X3_mix ⟨Nat.le_of_ble_eq_true rfl, Nat.le_of_ble_eq_true rfl⟩ ⟨by exact Nat.le_of_ble_eq_true rfl, by exact Nat.le_of_ble_eq_true rfl⟩ rfl (Nat.le_of_ble_eq_true rfl) dX3_digest_20 rfl ?_
  refine x_aload_n B (pc' := 24) 0 dX3_digest_23 rfl rfl rfl ?_
  refine x_aload_n B (pc' := 25) 0 dX3_digest_24 rfl rfl rfl ?_
  refine m_ref1 B (pc' := 28) wf_RX3_7 dX3_digest_25 rfl ?_
  refine x_iconst B (pc' := 29) 1 dX3_digest_28 (by decide) rfl ?_
  obtain ⟨hi5, h⟩ := gd_elim h
  refine m_ald1 B (pc' := 30) hi5 dX3_digest_29 rfl ?_
  refine x_i2l B (pc' := 31) dX3_digest_30 rfl ?_
  obtain ⟨S6, eS6, h⟩ := bd_elim h
  refine x_selfVv B (pc' := 34) [.long (Int32.toInt64 ((S4.2.1 1) (Int32.toNatClampNeg (1 : Int32))))] (k_X3_mix _ _ _ a (Int32.toInt64 ((S4.2.1 1) (Int32.toNatClampNeg (1 : Int32)))) S4 eS6) rfl rfl gv_RX3_159 rfl np_X3_mix ⟨Nat.le_of_ble_eq_true rfl, Nat.le_of_ble_eq_true rfl⟩ ⟨by exact Nat.le_of_ble_eq_true rfl, by exact Nat.le_of_ble_eq_true rfl⟩ rfl (Nat.le_of_ble_eq_true rfl) dX3_digest_31 rfl ?_
  refine x_aload_n B (pc' := 35) 0 dX3_digest_34 rfl rfl rfl ?_
  refine x_aload_n B (pc' := 36) 0 dX3_digest_35 rfl rfl rfl ?_
  refine m_ref1 B (pc' := 39) wf_RX3_7 dX3_digest_36 rfl ?_
  refine x_iconst B (pc' := 40) 2 dX3_digest_39 (by decide) rfl ?_
  obtain ⟨hi7, h⟩ := gd_elim h
  refine m_ald1 B (pc' := 41) hi7 dX3_digest_40 rfl ?_
  refine x_i2l B (pc' := 42) dX3_digest_41 rfl ?_
  obtain ⟨S8, eS8, h⟩ := bd_elim h
  refine x_selfVv B (pc' := 45) [.long (Int32.toInt64 ((S6.2.1 1) (Int32.toNatClampNeg (2 : Int32))))] (k_X3_mix _ _ _ a (Int32.toInt64 ((S6.2.1 1) (Int32.toNatClampNeg (2 : Int32)))) S6 eS8) rfl rfl gv_RX3_159 rfl np_X3_mix ⟨Nat.le_of_ble_eq_true rfl, Nat.le_of_ble_eq_true rfl⟩ ⟨by exact Nat.le_of_ble_eq_true rfl, by exact Nat.le_of_ble_eq_true rfl⟩ rfl (Nat.le_of_ble_eq_true rfl) dX3_digest_42 rfl ?_
  refine x_aload_n B (pc' := 46) 0 dX3_digest_45 rfl rfl rfl ?_
  refine x_aload_n B (pc' := 47) 0 dX3_digest_46 rfl rfl rfl ?_
  refine x_iconst B (pc' := 48) (-1) dX3_digest_47 (by decide) rfl ?_
  obtain ⟨r9, er9, h⟩ := bd_elim h
  refine x_selfVi B (pc' := 51) [.int ((-1) : Int32)] (k_X3_cells _ _ _ a ((-1) : Int32) S8 er9) rfl rfl gv_RX3_32 rfl np_X3_cells ⟨Nat.le_of_ble_eq_true rfl, Nat.le_of_ble_eq_true rfl⟩ ⟨by exact Nat.le_of_ble_eq_true rfl, by exact Nat.le_of_ble_eq_true rfl⟩ rfl (Nat.le_of_ble_eq_true rfl) dX3_digest_48 rfl ?_
  refine x_i2l B (pc' := 52) dX3_digest_51 rfl ?_
  obtain ⟨S10, eS10, h⟩ := bd_elim h
  refine x_selfVv B (pc' := 55) [.long (Int32.toInt64 r9)] (k_X3_mix _ _ _ a (Int32.toInt64 r9) S8 eS10) rfl rfl gv_RX3_159 rfl np_X3_mix ⟨Nat.le_of_ble_eq_true rfl, Nat.le_of_ble_eq_true rfl⟩ ⟨by exact Nat.le_of_ble_eq_true rfl, by exact Nat.le_of_ble_eq_true rfl⟩ rfl (Nat.le_of_ble_eq_true rfl) dX3_digest_52 rfl ?_
  refine x_aload_n B (pc' := 56) 0 dX3_digest_55 rfl rfl rfl ?_
  refine x_aload_n B (pc' := 57) 0 dX3_digest_56 rfl rfl rfl ?_
  refine m_ref1 B (pc' := 60) wf_RX3_7 dX3_digest_57 rfl ?_
  refine x_iconst B (pc' := 61) 3 dX3_digest_60 (by decide) rfl ?_
  obtain ⟨hi11, h⟩ := gd_elim h
  refine m_ald1 B (pc' := 62) hi11 dX3_digest_61 rfl ?_
  refine x_i2l B (pc' := 63) dX3_digest_62 rfl ?_
  obtain ⟨S12, eS12, h⟩ := bd_elim h
  refine x_selfVv B (pc' := 66) [.long (Int32.toInt64 ((S10.2.1 1) (Int32.toNatClampNeg (3 : Int32))))] (k_X3_mix _ _ _ a (Int32.toInt64 ((S10.2.1 1) (Int32.toNatClampNeg (3 : Int32)))) S10 eS12) rfl rfl gv_RX3_159 rfl np_X3_mix ⟨Nat.le_of_ble_eq_true rfl, Nat.le_of_ble_eq_true rfl⟩ ⟨by exact Nat.le_of_ble_eq_true rfl, by exact Nat.le_of_ble_eq_true rfl⟩ rfl (Nat.le_of_ble_eq_true rfl) dX3_digest_63 rfl ?_
  refine x_aload_n B (pc' := 67) 0 dX3_digest_66 rfl rfl rfl ?_
  refine x_aload_n B (pc' := 68) 0 dX3_digest_67 rfl rfl rfl ?_
  refine m_ref1 B (pc' := 71) wf_RX3_7 dX3_digest_68 rfl ?_
  refine x_iconst B (pc' := 72) 4 dX3_digest_71 (by decide) rfl ?_
  obtain ⟨hi13, h⟩ := gd_elim h
  refine m_ald1 B (pc' := 73) hi13 dX3_digest_72 rfl ?_
  refine x_i2l B (pc' := 74) dX3_digest_73 rfl ?_
  obtain ⟨S14, eS14, h⟩ := bd_elim h
  refine x_selfVv B (pc' := 77) [.long (Int32.toInt64 ((S12.2.1 1) (Int32.toNatClampNeg (4 : Int32))))] (k_X3_mix _ _ _ a (Int32.toInt64 ((S12.2.1 1) (Int32.toNatClampNeg (4 : Int32)))) S12 eS14) rfl rfl gv_RX3_159 rfl np_X3_mix ⟨Nat.le_of_ble_eq_true rfl, Nat.le_of_ble_eq_true rfl⟩ ⟨by exact Nat.le_of_ble_eq_true rfl, by exact Nat.le_of_ble_eq_true rfl⟩ rfl (Nat.le_of_ble_eq_true rfl) dX3_digest_74 rfl ?_
  refine x_aload_n B (pc' := 78) 0 dX3_digest_77 rfl rfl rfl ?_
  refine x_aload_n B (pc' := 79) 0 dX3_digest_78 rfl rfl rfl ?_
  refine m_ref1 B (pc' := 82) wf_RX3_7 dX3_digest_79 rfl ?_
  refine x_iconst B (pc' := 83) 5 dX3_digest_82 (by decide) rfl ?_
  obtain ⟨hi15, h⟩ := gd_elim h
  refine m_ald1 B (pc' := 84) hi15 dX3_digest_83 rfl ?_
  refine x_i2l B (pc' := 85) dX3_digest_84 rfl ?_
  obtain ⟨S16, eS16, h⟩ := bd_elim h
  refine x_selfVv B (pc' := 88) [.long (Int32.toInt64 ((S14.2.1 1) (Int32.toNatClampNeg (5 : Int32))))] (k_X3_mix _ _ _ a (Int32.toInt64 ((S14.2.1 1) (Int32.toNatClampNeg (5 : Int32)))) S14 eS16) rfl rfl gv_RX3_159 rfl np_X3_mix ⟨Nat.le_of_ble_eq_true rfl, Nat.le_of_ble_eq_true rfl⟩ ⟨by exact Nat.le_of_ble_eq_true rfl, by exact Nat.le_of_ble_eq_true rfl⟩ rfl (Nat.le_of_ble_eq_true rfl) dX3_digest_85 rfl ?_
  refine x_aload_n B (pc' := 89) 0 dX3_digest_88 rfl rfl rfl ?_
  refine x_aload_n B (pc' := 90) 0 dX3_digest_89 rfl rfl rfl ?_
  refine m_ref1 B (pc' := 93) wf_RX3_7 dX3_digest_90 rfl ?_
  refine x_bipush B (pc' := 95) 6 dX3_digest_93 (by decide) rfl ?_
  obtain ⟨hi17, h⟩ := gd_elim h
  refine m_ald1 B (pc' := 96) hi17 dX3_digest_95 rfl ?_
  refine x_i2l B (pc' := 97) dX3_digest_96 rfl ?_
  obtain ⟨S18, eS18, h⟩ := bd_elim h
  refine x_selfVv B (pc' := 100) [.long (Int32.toInt64 ((S16.2.1 1) (Int32.toNatClampNeg (6 : Int32))))] (k_X3_mix _ _ _ a (Int32.toInt64 ((S16.2.1 1) (Int32.toNatClampNeg (6 : Int32)))) S16 eS18) rfl rfl gv_RX3_159 rfl np_X3_mix ⟨Nat.le_of_ble_eq_true rfl, Nat.le_of_ble_eq_true rfl⟩ ⟨by exact Nat.le_of_ble_eq_true rfl, by exact Nat.le_of_ble_eq_true rfl⟩ rfl (Nat.le_of_ble_eq_true rfl) dX3_digest_97 rfl ?_
  refine x_aload_n B (pc' := 101) 0 dX3_digest_100 rfl rfl rfl ?_
  refine x_aload_n B (pc' := 102) 0 dX3_digest_101 rfl rfl rfl ?_
  obtain ⟨r19, er19, h⟩ := bd_elim h
  refine x_selfVi B (pc' := 105) [] (k_X3_correctedCells _ _ _ a S18 er19) rfl rfl gv_RX3_106 rfl np_X3_correctedCells ⟨Nat.le_of_ble_eq_true rfl, Nat.le_of_ble_eq_true rfl⟩ ⟨by exact Nat.le_of_ble_eq_true rfl, by exact Nat.le_of_ble_eq_true rfl⟩ rfl (Nat.le_of_ble_eq_true rfl) dX3_digest_102 rfl ?_
  refine x_i2l B (pc' := 106) dX3_digest_105 rfl ?_
  obtain ⟨S20, eS20, h⟩ := bd_elim h
  refine x_selfVv B (pc' := 109) [.long (Int32.toInt64 r19)] (k_X3_mix _ _ _ a (Int32.toInt64 r19) S18 eS20) rfl rfl gv_RX3_159 rfl np_X3_mix ⟨Nat.le_of_ble_eq_true rfl, Nat.le_of_ble_eq_true rfl⟩ ⟨by exact Nat.le_of_ble_eq_true rfl, by exact Nat.le_of_ble_eq_true rfl⟩ rfl (Nat.le_of_ble_eq_true rfl) dX3_digest_106 rfl ?_
  refine x_aload_n B (pc' := 110) 0 dX3_digest_109 rfl rfl rfl ?_
  refine x_aload_n B (pc' := 111) 0 dX3_digest_110 rfl rfl rfl ?_
  obtain ⟨r21, er21, h⟩ := bd_elim h
  refine x_selfVi B (pc' := 114) [] (k_X3_writable _ _ _ a S20 er21) rfl rfl gv_RX3_46 rfl np_X3_writable ⟨Nat.le_of_ble_eq_true rfl, Nat.le_of_ble_eq_true rfl⟩ ⟨by exact Nat.le_of_ble_eq_true rfl, by exact Nat.le_of_ble_eq_true rfl⟩ rfl (Nat.le_of_ble_eq_true rfl) dX3_digest_111 rfl ?_
  refine x_i2l B (pc' := 115) dX3_digest_114 rfl ?_
  obtain ⟨S22, eS22, h⟩ := bd_elim h
  refine x_selfVv B (pc' := 118) [.long (Int32.toInt64 r21)] (k_X3_mix _ _ _ a (Int32.toInt64 r21) S20 eS22) rfl rfl gv_RX3_159 rfl np_X3_mix ⟨Nat.le_of_ble_eq_true rfl, Nat.le_of_ble_eq_true rfl⟩ ⟨by exact Nat.le_of_ble_eq_true rfl, by exact Nat.le_of_ble_eq_true rfl⟩ rfl (Nat.le_of_ble_eq_true rfl) dX3_digest_115 rfl ?_
  refine x_aload_n B (pc' := 119) 0 dX3_digest_118 rfl rfl rfl ?_
  refine x_aload_n B (pc' := 120) 0 dX3_digest_119 rfl rfl rfl ?_
  obtain ⟨r23, er23, h⟩ := bd_elim h
  refine x_selfVi B (pc' := 123) [] (k_X3_loser _ _ _ a S22 er23) rfl rfl gv_RX3_109 rfl np_X3_loser ⟨Nat.le_of_ble_eq_true rfl, Nat.le_of_ble_eq_true rfl⟩ ⟨by exact Nat.le_of_ble_eq_true rfl, by exact Nat.le_of_ble_eq_true rfl⟩ rfl (Nat.le_of_ble_eq_true rfl) dX3_digest_120 rfl ?_
  refine x_i2l B (pc' := 124) dX3_digest_123 rfl ?_
  obtain ⟨S24, eS24, h⟩ := bd_elim h
  refine x_selfVv B (pc' := 127) [.long (Int32.toInt64 r23)] (k_X3_mix _ _ _ a (Int32.toInt64 r23) S22 eS24) rfl rfl gv_RX3_159 rfl np_X3_mix ⟨Nat.le_of_ble_eq_true rfl, Nat.le_of_ble_eq_true rfl⟩ ⟨by exact Nat.le_of_ble_eq_true rfl, by exact Nat.le_of_ble_eq_true rfl⟩ rfl (Nat.le_of_ble_eq_true rfl) dX3_digest_124 rfl ?_
  refine x_iconst B (pc' := 128) 0 dX3_digest_127 (by decide) rfl ?_
  refine x_istore_n B (pc' := 129) [1, 0] [(0, .ref (a 0)), (1, .int (0 : Int32))] dX3_digest_128 rfl (by decide) rfl rfl ?_
  exact h129  _ _ _ h
