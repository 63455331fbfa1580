def f_L_up (p0 : Int32) (p1 : Int32) : Option Int32 :=
  nz p1 (some ((p0 &&& (2147483647 : Int32)) - (p0 &&& (2147483647 : Int32)) / p1 * p1))
abbrev rm_L_up : Room := { frames := 0, cells := 0, slots := 0, locals := 0 }
theorem np_L_up : yL_up.cls ≠ "java/lang/invoke/MethodHandle" ∧ yL_up.cls ≠ "java/lang/invoke/VarHandle" ∧ (parseMethodDescriptor yL_up.desc).map (fun d => d.parameters.length) = some 2 := by decide +kernel
set_option maxHeartbeats 4000000 in
set_option maxRecDepth 100000 in
theorem k_L_up (l : Launch) (D : va_G) (cs : CS)  (p0 : Int32) (p1 : Int32) {r9 : Int32} (h : f_L_up p0 p1 = some r9) : MI l D cs yL_up cL_up 2 .int rm_L_up [.int p0, .int p1] ([]) r9 ([]) := by
  refine MI_of (by decide) (Nat.le_of_ble_eq_true rfl) ?_
  rintro Γ rfl rfl rfl B ret
  show X Γ 2 0 0 0 [(0, .int p0), (1, .int p1)] [] ([])
  unfold f_L_up at h
  refine x_iload_n B (pc' := 1) 0 dL_up_0 rfl rfl rfl ?_
  refine x_ldc B (pc' := 3) 2147483647 wk_RL_8 dL_up_1 rfl ?_
  refine x_iand B (pc' := 4) dL_up_3 rfl ?_
  refine x_iload_n B (pc' := 5) 1 dL_up_4 rfl rfl rfl ?_
  obtain ⟨hz1, h⟩ := nz_elim h
  refine x_irem B (pc' := 6) dL_up_5 hz1 rfl ?_
  have h1 := (Option.some.inj h)
  subst h1
  exact ret rfl (by exact Nat.le_of_ble_eq_true rfl) (by exact Nat.le_of_ble_eq_true rfl) dL_up_6
def b_L_talk_21 (S : BO) (K21 : Int32 → Int64 → Int32 → Option Int64) (x1 : Int32) (x2 : Int64) (x4 : Int32) : Option Int64 :=
  bn (f_X2_length x1 S) (fun (r4 : Int32) => if r4 ≤ x4 then (some x2) else (bn (f_X2_cellOf x1 x4 S) (fun (r6 : Int32) => bn (f_X2_sound x1 x4 S) (fun (r7 : Int32) => bn (f_X2_carbon x1 x4 S) (fun (r8 : Int32) => nm (fun (v9 : Int64) => nm (fun (v10 : Int32) => K21 x1 v9 v10) (x4 + 1)) (((31 : Int64) * (((31 : Int64) * (((31 : Int64) * x2) + (Int32.toInt64 r6))) + (Int32.toInt64 r7))) + (Int32.toInt64 r8)))))))
def f_L_talk (p1 : Int32) (S : BO) : Option Int64 :=
  bn (f_X2_length p1 S) (fun (r1 : Int32) => bn (f_X2_lost p1 S) (fun (r2 : Int32) => nm (fun (v3 : Int64) => lpf3 (b_L_talk_21 S) FU p1 v3 (0 : Int32)) (((31 : Int64) * (Int32.toInt64 r1)) + (Int32.toInt64 r2))))
abbrev rm_L_talk : Room := { frames := 3, cells := 0, slots := 0, locals := 69 }
theorem np_L_talk : yL_talk.cls ≠ "java/lang/invoke/MethodHandle" ∧ yL_talk.cls ≠ "java/lang/invoke/VarHandle" ∧ (parseMethodDescriptor yL_talk.desc).map (fun d => d.parameters.length) = some 2 := by decide +kernel
set_option maxHeartbeats 4000000 in
set_option maxRecDepth 100000 in
theorem k_L_talk (l : Launch) (D : va_G) (cs : CS) (a : Nat → Nat → Nat) (p1 : Int32) (S : BO) {r9 : Int64} (h : f_L_talk p1 S = some r9) : ML l D cs yL_talk cL_talk 5 rm_L_talk [.ref (a 0 0), .int p1] (wB cs a S) r9 (wB cs a S) := by
  refine ML_of (by decide) (Nat.le_of_ble_eq_true rfl) ?_
  rintro Γ rfl rfl rfl B ret
  show X Γ 5 0 0 0 [(0, .ref (a 0 0)), (1, .int p1)] [] (wB Γ.cs a S)
  have h21 : ∀ (n9 : Nat) (x1 : Int32) (x2 : Int64) (x4 : Int32), lpf3 (b_L_talk_21 S) n9 x1 x2 x4 = some r9 → X Γ 5 0 0 21 [(0, .ref (a 0 0)), (1, .int x1), (2, .long x2), (4, .int x4)] [] (wB Γ.cs a S) := by
    refine lpf3_ind (fun K21 hK21 x1 x2 x4 h => ?_)
    unfold b_L_talk_21 at h
    refine x_iload B (pc' := 23) 3 dL_talk_21 rfl rfl ?_
    refine x_aload_n B (pc' := 24) 0 dL_talk_23 rfl rfl rfl ?_
    refine x_iload_n B (pc' := 25) 1 dL_talk_24 rfl rfl rfl ?_
    obtain ⟨r4, er4, h⟩ := bn_elim h
    refine n_belVi B (pc' := 28) [.int x1] (k_X2_length _ _ _ a x1 S er4) gv_RL_11 rfl np_X2_length ⟨Nat.le_of_ble_eq_true rfl, Nat.le_of_ble_eq_true rfl⟩ ⟨by exact Nat.le_of_ble_eq_true rfl, by exact Nat.le_of_ble_eq_true rfl⟩ rfl (Nat.le_of_ble_eq_true rfl) dL_talk_25 rfl ?_
    refine x_icmp_ge B 78 31 dL_talk_28 (by decide) rfl (fun hc5 => ?_) (fun hc5 => ?_)
    · replace h := ite_t hc5 h
      refine x_lload_n B (pc' := 79) 2 dL_talk_78 rfl rfl rfl ?_
      have h1 := (Option.some.inj h)
      subst h1
      exact ret (by exact Nat.le_of_ble_eq_true rfl) (by exact Nat.le_of_ble_eq_true rfl) dL_talk_79
    · replace h := ite_f hc5 h
      refine x_ldc2 B (pc' := 34) 31 wk_RL_9 dL_talk_31 rfl ?_
      refine x_ldc2 B (pc' := 37) 31 wk_RL_9 dL_talk_34 rfl ?_
      refine x_ldc2 B (pc' := 40) 31 wk_RL_9 dL_talk_37 rfl ?_
      refine x_lload_n B (pc' := 41) 2 dL_talk_40 rfl rfl rfl ?_
      refine x_lmul B (pc' := 42) dL_talk_41 rfl ?_
      refine x_aload_n B (pc' := 43) 0 dL_talk_42 rfl rfl rfl ?_
      refine x_iload_n B (pc' := 44) 1 dL_talk_43 rfl rfl rfl ?_
      refine x_iload B (pc' := 46) 3 dL_talk_44 rfl rfl ?_
      obtain ⟨r6, er6, h⟩ := bn_elim h
      refine n_belVi B (pc' := 49) [.int x1, .int x4] (k_X2_cellOf _ _ _ a x1 x4 S er6) gv_RL_20 rfl np_X2_cellOf ⟨Nat.le_of_ble_eq_true rfl, Nat.le_of_ble_eq_true rfl⟩ ⟨by exact Nat.le_of_ble_eq_true rfl, by exact Nat.le_of_ble_eq_true rfl⟩ rfl (Nat.le_of_ble_eq_true rfl) dL_talk_46 rfl ?_
      refine x_i2l B (pc' := 50) dL_talk_49 rfl ?_
      refine x_ladd B (pc' := 51) dL_talk_50 rfl ?_
      refine x_lmul B (pc' := 52) dL_talk_51 rfl ?_
      refine x_aload_n B (pc' := 53) 0 dL_talk_52 rfl rfl rfl ?_
      refine x_iload_n B (pc' := 54) 1 dL_talk_53 rfl rfl rfl ?_
      refine x_iload B (pc' := 56) 3 dL_talk_54 rfl rfl ?_
      obtain ⟨r7, er7, h⟩ := bn_elim h
      refine n_belVi B (pc' := 59) [.int x1, .int x4] (k_X2_sound _ _ _ a x1 x4 S er7) gv_RL_24 rfl np_X2_sound ⟨Nat.le_of_ble_eq_true rfl, Nat.le_of_ble_eq_true rfl⟩ ⟨by exact Nat.le_of_ble_eq_true rfl, by exact Nat.le_of_ble_eq_true rfl⟩ rfl (Nat.le_of_ble_eq_true rfl) dL_talk_56 rfl ?_
      refine x_i2l B (pc' := 60) dL_talk_59 rfl ?_
      refine x_ladd B (pc' := 61) dL_talk_60 rfl ?_
      refine x_lmul B (pc' := 62) dL_talk_61 rfl ?_
      refine x_aload_n B (pc' := 63) 0 dL_talk_62 rfl rfl rfl ?_
      refine x_iload_n B (pc' := 64) 1 dL_talk_63 rfl rfl rfl ?_
      refine x_iload B (pc' := 66) 3 dL_talk_64 rfl rfl ?_
      obtain ⟨r8, er8, h⟩ := bn_elim h
      refine n_belVi B (pc' := 69) [.int x1, .int x4] (k_X2_carbon _ _ _ a x1 x4 S er8) gv_RL_27 rfl np_X2_carbon ⟨Nat.le_of_ble_eq_true rfl, Nat.le_of_ble_eq_true rfl⟩ ⟨by exact Nat.le_of_ble_eq_true rfl, by exact Nat.le_of_ble_eq_true rfl⟩ rfl (Nat.le_of_ble_eq_true rfl) dL_talk_66 rfl ?_
      refine x_i2l B (pc' := 70) dL_talk_69 rfl ?_
      refine x_ladd B (pc' := 71) dL_talk_70 rfl ?_
      obtain ⟨v9, ev9, h⟩ := nm_elim h
      refine x_topl ev9 ?_
      refine x_lstore_n B (pc' := 72) [1, 2, 0, 3] [(0, .ref (a 0 0)), (1, .int x1), (2, .long v9), (4, .int x4)] dL_talk_71 rfl (by decide) rfl rfl ?_
      obtain ⟨v10, ev10, h⟩ := nm_elim h
      refine x_iinc B (pc' := 75) v10 3 [1, 2, 3, 0] [(0, .ref (a 0 0)), (1, .int x1), (2, .long v9), (4, .int v10)] dL_talk_72 rfl (by rw [ev10]; rfl) (by decide) rfl rfl ?_
      refine x_goto B (pc' := 21) dL_talk_75 (by decide) ?_
      exact hK21 _ _ _ h
  unfold f_L_talk at h
  refine x_ldc2 B (pc' := 3) 31 wk_RL_9 dL_talk_0 rfl ?_
  refine x_aload_n B (pc' := 4) 0 dL_talk_3 rfl rfl rfl ?_
  refine x_iload_n B (pc' := 5) 1 dL_talk_4 rfl rfl rfl ?_
  obtain ⟨r1, er1, h⟩ := bn_elim h
  refine n_belVi B (pc' := 8) [.int p1] (k_X2_length _ _ _ a p1 S er1) gv_RL_11 rfl np_X2_length ⟨Nat.le_of_ble_eq_true rfl, Nat.le_of_ble_eq_true rfl⟩ ⟨by exact Nat.le_of_ble_eq_true rfl, by exact Nat.le_of_ble_eq_true rfl⟩ rfl (Nat.le_of_ble_eq_true rfl) dL_talk_5 rfl ?_
  refine x_i2l B (pc' := 9) dL_talk_8 rfl ?_
  refine x_lmul B (pc' := 10) dL_talk_9 rfl ?_
  refine x_aload_n B (pc' := 11) 0 dL_talk_10 rfl rfl rfl ?_
  refine x_iload_n B (pc' := 12) 1 dL_talk_11 rfl rfl rfl ?_
  obtain ⟨r2, er2, h⟩ := bn_elim h
  refine n_belVi B (pc' := 15) [.int p1] (k_X2_lost _ _ _ a p1 S er2) gv_RL_17 rfl np_X2_lost ⟨Nat.le_of_ble_eq_true rfl, Nat.le_of_ble_eq_true rfl⟩ ⟨by exact Nat.le_of_ble_eq_true rfl, by exact Nat.le_of_ble_eq_true rfl⟩ rfl (Nat.le_of_ble_eq_true rfl) dL_talk_12 rfl ?_
  refine x_i2l B (pc' := 16) dL_talk_15 rfl ?_
  refine x_ladd B (pc' := 17) dL_talk_16 rfl ?_
  obtain ⟨v3, ev3, h⟩ := nm_elim h
  refine x_topl ev3 ?_
  refine x_lstore_n B (pc' := 18) [1, 2, 0] [(0, .ref (a 0 0)), (1, .int p1), (2, .long v3)] dL_talk_17 rfl (by decide) rfl rfl ?_
  refine x_iconst B (pc' := 19) 0 dL_talk_18 (by decide) rfl ?_
  refine x_istore B (pc' := 21) [1, 2, 3, 0] [(0, .ref (a 0 0)), (1, .int p1), (2, .long v3), (4, .int (0 : Int32))] dL_talk_19 (by decide) rfl rfl ?_
  exact h21  _ _ _ _ h
def f_L_isWritable (p1 : Int32) (S : BO) : Option Int32 :=
  bn (f_X2_owner p1 S) (fun (r1 : Int32) => if r1 = ((-1) : Int32) then (some (1 : Int32)) else (bd (f_X2_running S) (fun (r3 : Int32) => if r1 = r3 then (some (0 : Int32)) else (bn (f_X2_hasFlag r1 S) (fun (r5 : Int32) => if r5 = 0 then (some (1 : Int32)) else (some (0 : Int32)))))))
abbrev rm_L_isWritable : Room := { frames := 3, cells := 0, slots := 0, locals := 64 }
theorem np_L_isWritable : yL_isWritable.cls ≠ "java/lang/invoke/MethodHandle" ∧ yL_isWritable.cls ≠ "java/lang/invoke/VarHandle" ∧ (parseMethodDescriptor yL_isWritable.desc).map (fun d => d.parameters.length) = some 2 := by decide +kernel
set_option maxHeartbeats 4000000 in
set_option maxRecDepth 100000 in
theorem k_L_isWritable (l : Launch) (D : va_G) (cs : CS) (a : Nat → Nat → Nat) (p1 : Int32) (S : BO) {r9 : Int32} (h : f_L_isWritable p1 S = some r9) : MI l D cs yL_isWritable cL_isWritable 3 .boolean rm_L_isWritable [.ref (a 0 0), .int p1] (wB cs a S) r9 (wB cs a S) := by
  refine MI_of (by decide) (Nat.le_of_ble_eq_true rfl) ?_
  rintro Γ rfl rfl rfl B ret
  show X Γ 3 0 0 0 [(0, .ref (a 0 0)), (1, .int p1)] [] (wB Γ.cs a S)
  unfold f_L_isWritable at h
  refine x_aload_n B (pc' := 1) 0 dL_isWritable_0 rfl rfl rfl ?_
  refine x_iload_n B (pc' := 2) 1 dL_isWritable_1 rfl rfl rfl ?_
  obtain ⟨r1, er1, h⟩ := bn_elim h
  refine n_belVi B (pc' := 5) [.int p1] (k_X2_owner _ _ _ a p1 S er1) gv_RL_30 rfl np_X2_owner ⟨Nat.le_of_ble_eq_true rfl, Nat.le_of_ble_eq_true rfl⟩ ⟨by exact Nat.le_of_ble_eq_true rfl, by exact Nat.le_of_ble_eq_true rfl⟩ rfl (Nat.le_of_ble_eq_true rfl) dL_isWritable_2 rfl ?_
  refine x_istore_n B (pc' := 6) [1, 2, 0] [(0, .ref (a 0 0)), (1, .int p1), (2, .int r1)] dL_isWritable_5 rfl (by decide) rfl rfl ?_
  refine x_iload_n B (pc' := 7) 2 dL_isWritable_6 rfl rfl rfl ?_
  refine x_iconst B (pc' := 8) (-1) dL_isWritable_7 (by decide) rfl ?_
  refine x_icmp_eq B 27 11 dL_isWritable_8 (by decide) rfl (fun hc2 => ?_) (fun hc2 => ?_)
  · replace h := ite_t hc2 h
    refine x_iconst B (pc' := 28) 1 dL_isWritable_27 (by decide) rfl ?_
    refine x_goto B (pc' := 32) dL_isWritable_28 (by decide) ?_
    have h1 := (Option.some.inj h)
    subst h1
    exact ret rfl (by exact Nat.le_of_ble_eq_true rfl) (by exact Nat.le_of_ble_eq_true rfl) dL_isWritable_32
  · replace h := ite_f hc2 h
    refine x_iload_n B (pc' := 12) 2 dL_isWritable_11 rfl rfl rfl ?_
    refine x_aload_n B (pc' := 13) 0 dL_isWritable_12 rfl rfl rfl ?_
    obtain ⟨r3, er3, h⟩ := bd_elim h
    refine n_belVi B (pc' := 16) [] (k_X2_running _ _ _ a S er3) gv_RL_33 rfl np_X2_running ⟨Nat.le_of_ble_eq_true rfl, Nat.le_of_ble_eq_true rfl⟩ ⟨by exact Nat.le_of_ble_eq_true rfl, by exact Nat.le_of_ble_eq_true rfl⟩ rfl (Nat.le_of_ble_eq_true rfl) dL_isWritable_13 rfl ?_
    refine x_icmp_eq B 31 19 dL_isWritable_16 (by decide) rfl (fun hc4 => ?_) (fun hc4 => ?_)
    · replace h := ite_t hc4 h
      refine x_iconst B (pc' := 32) 0 dL_isWritable_31 (by decide) rfl ?_
      have h1 := (Option.some.inj h)
      subst h1
      exact ret rfl (by exact Nat.le_of_ble_eq_true rfl) (by exact Nat.le_of_ble_eq_true rfl) dL_isWritable_32
    · replace h := ite_f hc4 h
      refine x_aload_n B (pc' := 20) 0 dL_isWritable_19 rfl rfl rfl ?_
      refine x_iload_n B (pc' := 21) 2 dL_isWritable_20 rfl rfl rfl ?_
      obtain ⟨r5, er5, h⟩ := bn_elim h
      refine n_belVi B (pc' := 24) [.int r1] (k_X2_hasFlag _ _ _ a r1 S er5) gv_RL_37 rfl np_X2_hasFlag ⟨Nat.le_of_ble_eq_true rfl, Nat.le_of_ble_eq_true rfl⟩ ⟨by exact Nat.le_of_ble_eq_true rfl, by exact Nat.le_of_ble_eq_true rfl⟩ rfl (Nat.le_of_ble_eq_true rfl) dL_isWritable_21 rfl ?_
      refine x_if_ne B 31 27 dL_isWritable_24 (by decide) rfl (fun hc6 => ?_) (fun hc6 => ?_)
      · replace h := ite_f hc6 h
        refine x_iconst B (pc' := 32) 0 dL_isWritable_31 (by decide) rfl ?_
        have h1 := (Option.some.inj h)
        subst h1
        exact ret rfl (by exact Nat.le_of_ble_eq_true rfl) (by exact Nat.le_of_ble_eq_true rfl) dL_isWritable_32
      · replace h := ite_t hc6 h
        refine x_iconst B (pc' := 28) 1 dL_isWritable_27 (by decide) rfl ?_
        refine x_goto B (pc' := 32) dL_isWritable_28 (by decide) ?_
        have h1 := (Option.some.inj h)
        subst h1
        exact ret rfl (by exact Nat.le_of_ble_eq_true rfl) (by exact Nat.le_of_ble_eq_true rfl) dL_isWritable_32
