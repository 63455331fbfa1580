def f_X2_begin (S : BO) : Option ((String ⊕ Int32) × BO) :=
  bd (f_X1_mayBegin S.2.1) (fun (r1 : Int32) => if r1 = 0 then (some (.inl "java/lang/IllegalStateException", S)) else (bd (f_X2_save S) (fun (S3 : BO) => bd2 (f_X1_beginRecording S3.2.1) (fun (r6 : Int32) (S4 : OB) => nm (fun (S5 : BO) => some (.inr r6, S5)) (S3.1, S4, S3.2.2)))))
abbrev rm_X2_begin : Room := { frames := 4, cells := 0, slots := 0, locals := 106 }
theorem np_X2_begin : yX2_begin.cls ≠ "java/lang/invoke/MethodHandle" ∧ yX2_begin.cls ≠ "java/lang/invoke/VarHandle" ∧ (parseMethodDescriptor yX2_begin.desc).map (fun d => d.parameters.length) = some 0 := by decide +kernel
set_option maxHeartbeats 4000000 in
set_option maxRecDepth 100000 in
theorem k_X2_begin (l : Launch) (D : va_G) (cs : CS) (a : Nat → Nat → Nat) (S : BO) {r9 : Int32} {S9 : BO} (h : f_X2_begin S = some (.inr r9, S9)) : MI l D cs yX2_begin cX2_begin 1 .int rm_X2_begin [.ref (a 0 0)] (wB cs a S) r9 (wB cs a S9) := by
  refine MI_of (by decide) (Nat.le_of_ble_eq_true rfl) ?_
  rintro Γ rfl rfl rfl B ret
  show X Γ 1 0 0 0 [(0, .ref (a 0 0))] [] (wB Γ.cs a S)
  unfold f_X2_begin at h
  refine x_aload_n B (pc' := 1) 0 dX2_begin_0 rfl rfl rfl ?_
  refine b_ref0 B (pc' := 4) wf_RX2_10 dX2_begin_1 rfl ?_
  obtain ⟨r1, er1, h⟩ := bd_elim h
  refine b_nowRi B (pc' := 7) [] (k_X1_mayBegin _ _ _ (a 1) S.2.1 er1) gv_RX2_34 rfl np_X1_mayBegin ⟨Nat.le_of_ble_eq_true rfl, Nat.le_of_ble_eq_true rfl⟩ ⟨by exact Nat.le_of_ble_eq_true rfl, by exact Nat.le_of_ble_eq_true rfl⟩ rfl (Nat.le_of_ble_eq_true rfl) dX2_begin_4 rfl ?_
  refine x_if_ne B 20 10 dX2_begin_7 (by decide) rfl (fun hc2 => ?_) (fun hc2 => ?_)
  · replace h := ite_f hc2 h
    refine x_aload_n B (pc' := 21) 0 dX2_begin_20 rfl rfl rfl ?_
    obtain ⟨S3, eS3, h⟩ := bd_elim h
    refine x_selfVv B (pc' := 24) [] (k_X2_save _ _ _ a S eS3) rfl rfl gv_RX2_45 rfl np_X2_save ⟨Nat.le_of_ble_eq_true rfl, Nat.le_of_ble_eq_true rfl⟩ ⟨by exact Nat.le_of_ble_eq_true rfl, by exact Nat.le_of_ble_eq_true rfl⟩ rfl (Nat.le_of_ble_eq_true rfl) dX2_begin_21 rfl ?_
    refine x_aload_n B (pc' := 25) 0 dX2_begin_24 rfl rfl rfl ?_
    refine b_ref0 B (pc' := 28) wf_RX2_10 dX2_begin_25 rfl ?_
    obtain ⟨r6, S4, er6, h⟩ := bd2_elim h
    obtain ⟨S5, eS5, h⟩ := nm_elim h
    refine b_nowVi B (pc' := 31) [] (k_X1_beginRecording _ _ _ (a 1) S3.2.1 er6) gv_RX2_48 rfl np_X1_beginRecording ⟨Nat.le_of_ble_eq_true rfl, Nat.le_of_ble_eq_true rfl⟩ ⟨by exact Nat.le_of_ble_eq_true rfl, by exact Nat.le_of_ble_eq_true rfl⟩ rfl (Nat.le_of_ble_eq_true rfl) dX2_begin_28 rfl ?_
    refine b_wd eS5 ?_
    obtain ⟨h1, h2⟩ := some2 h
    replace h1 := Sum.inr.inj h1
    subst h1
    subst h2
    exact ret rfl (by exact Nat.le_of_ble_eq_true rfl) (by exact Nat.le_of_ble_eq_true rfl) dX2_begin_31
  · replace h := ite_t hc2 h
    cases h
def f_X2_halt (S : BO) : Option ((String ⊕ Int32) × BO) :=
  if (S.2.1.1 8) = 0 then (some (.inl "java/lang/IllegalStateException", S)) else (bd (f_X2_save S) (fun (S2 : BO) => bd2 (f_X1_stopRecording S2.2.1) (fun (r5 : Int32) (S3 : OB) => nm (fun (S4 : BO) => some (.inr r5, S4)) (S2.1, S3, S2.2.2))))
abbrev rm_X2_halt : Room := { frames := 3, cells := 0, slots := 0, locals := 106 }
theorem np_X2_halt : yX2_halt.cls ≠ "java/lang/invoke/MethodHandle" ∧ yX2_halt.cls ≠ "java/lang/invoke/VarHandle" ∧ (parseMethodDescriptor yX2_halt.desc).map (fun d => d.parameters.length) = some 0 := by decide +kernel
set_option maxHeartbeats 4000000 in
set_option maxRecDepth 100000 in
theorem k_X2_halt (l : Launch) (D : va_G) (cs : CS) (a : Nat → Nat → Nat) (S : BO) {r9 : Int32} {S9 : BO} (h : f_X2_halt S = some (.inr r9, S9)) : MI l D cs yX2_halt cX2_halt 1 .int rm_X2_halt [.ref (a 0 0)] (wB cs a S) r9 (wB cs a S9) := by
  refine MI_of (by decide) (Nat.le_of_ble_eq_true rfl) ?_
  rintro Γ rfl rfl rfl B ret
  show X Γ 1 0 0 0 [(0, .ref (a 0 0))] [] (wB Γ.cs a S)
  unfold f_X2_halt at h
  refine x_aload_n B (pc' := 1) 0 dX2_halt_0 rfl rfl rfl ?_
  refine b_ref0 B (pc' := 4) wf_RX2_10 dX2_halt_1 rfl ?_
  refine bn_get8 B (pc' := 7) wf_RX2_52 dX2_halt_4 rfl ?_
  refine x_if_ne B 20 10 dX2_halt_7 (by decide) rfl (fun hc1 => ?_) (fun hc1 => ?_)
  · replace h := ite_f hc1 h
    refine x_aload_n B (pc' := 21) 0 dX2_halt_20 rfl rfl rfl ?_
    obtain ⟨S2, eS2, h⟩ := bd_elim h
    refine x_selfVv B (pc' := 24) [] (k_X2_save _ _ _ a S eS2) rfl rfl gv_RX2_45 rfl np_X2_save ⟨Nat.le_of_ble_eq_true rfl, Nat.le_of_ble_eq_true rfl⟩ ⟨by exact Nat.le_of_ble_eq_true rfl, by exact Nat.le_of_ble_eq_true rfl⟩ rfl (Nat.le_of_ble_eq_true rfl) dX2_halt_21 rfl ?_
    refine x_aload_n B (pc' := 25) 0 dX2_halt_24 rfl rfl rfl ?_
    refine b_ref0 B (pc' := 28) wf_RX2_10 dX2_halt_25 rfl ?_
    obtain ⟨r5, S3, er5, h⟩ := bd2_elim h
    obtain ⟨S4, eS4, h⟩ := nm_elim h
    refine b_nowVi B (pc' := 31) [] (k_X1_stopRecording _ _ _ (a 1) S2.2.1 er5) gv_RX2_58 rfl np_X1_stopRecording ⟨Nat.le_of_ble_eq_true rfl, Nat.le_of_ble_eq_true rfl⟩ ⟨by exact Nat.le_of_ble_eq_true rfl, by exact Nat.le_of_ble_eq_true rfl⟩ rfl (Nat.le_of_ble_eq_true rfl) dX2_halt_28 rfl ?_
    refine b_wd eS4 ?_
    obtain ⟨h1, h2⟩ := some2 h
    replace h1 := Sum.inr.inj h1
    subst h1
    subst h2
    exact ret rfl (by exact Nat.le_of_ble_eq_true rfl) (by exact Nat.le_of_ble_eq_true rfl) dX2_halt_31
  · replace h := ite_t hc1 h
    cases h
def c_X2_requireSound_10 : Option (String ⊕ Unit) :=
  some (.inl "java/lang/IllegalArgumentException")
def f_X2_requireSound (p0 : Int32) : Option (String ⊕ Unit) :=
  if p0 < 0 then (c_X2_requireSound_10 ) else (if p0 ≤ (99 : Int32) then (some (.inr ())) else (c_X2_requireSound_10 ))
abbrev rm_X2_requireSound : Room := { frames := 0, cells := 0, slots := 0, locals := 0 }
theorem np_X2_requireSound : yX2_requireSound.cls ≠ "java/lang/invoke/MethodHandle" ∧ yX2_requireSound.cls ≠ "java/lang/invoke/VarHandle" ∧ (parseMethodDescriptor yX2_requireSound.desc).map (fun d => d.parameters.length) = some 1 := by decide +kernel
set_option maxHeartbeats 4000000 in
set_option maxRecDepth 100000 in
theorem k_X2_requireSound (l : Launch) (D : va_G) (cs : CS)  (p0 : Int32) (h : f_X2_requireSound p0 = some (.inr ())) : MV l D cs yX2_requireSound cX2_requireSound 1 rm_X2_requireSound [.int p0] ([]) ([]) := by
  refine MV_of (by decide) (Nat.le_of_ble_eq_true rfl) ?_
  rintro Γ rfl rfl rfl B ret
  show X Γ 1 0 0 0 [(0, .int p0)] [] ([])
  have h10 : c_X2_requireSound_10   = some (.inr ()) → X Γ 1 0 0 10 [] [] ([]) := by
    intro   h
    unfold c_X2_requireSound_10 at h
    cases h
  unfold f_X2_requireSound at h
  refine x_iload_n B (pc' := 1) 0 dX2_requireSound_0 rfl rfl rfl ?_
  refine x_if_lt B 10 4 dX2_requireSound_1 (by decide) rfl (fun hc1 => ?_) (fun hc1 => ?_)
  · replace h := ite_t hc1 h
    refine x_lv [] (lv' := []) rfl ?_
    exact h10   h
  · replace h := ite_f hc1 h
    refine x_iload_n B (pc' := 5) 0 dX2_requireSound_4 rfl rfl rfl ?_
    refine x_bipush B (pc' := 7) 99 dX2_requireSound_5 (by decide) rfl ?_
    refine x_icmp_le B 21 10 dX2_requireSound_7 (by decide) rfl (fun hc2 => ?_) (fun hc2 => ?_)
    · replace h := ite_t hc2 h
      exact ret (by exact Nat.le_of_ble_eq_true rfl) (by exact Nat.le_of_ble_eq_true rfl) dX2_requireSound_21
    · replace h := ite_f hc2 h
      refine x_lv [] (lv' := []) rfl ?_
      exact h10   h
def f_X2_speak (p0 : Int32) (S : BO) : Option ((String ⊕ Int32) × BO) :=
  bxw S (f_X2_requireSound p0) (fun (_ : Unit) => bd (f_X1_maySpeak (1 : Int32) S.2.1) (fun (r2 : Int32) => if r2 = 0 then (some (.inl "java/lang/IllegalStateException", S)) else (bd (f_X2_save S) (fun (S4 : BO) => bd2 (f_X1_speakTimes (1 : Int32) p0 S4.2.1) (fun (r7 : Int32) (S5 : OB) => nm (fun (S6 : BO) => some (.inr r7, S6)) (S4.1, S5, S4.2.2))))))
abbrev rm_X2_speak : Room := { frames := 4, cells := 0, slots := 0, locals := 106 }
theorem np_X2_speak : yX2_speak.cls ≠ "java/lang/invoke/MethodHandle" ∧ yX2_speak.cls ≠ "java/lang/invoke/VarHandle" ∧ (parseMethodDescriptor yX2_speak.desc).map (fun d => d.parameters.length) = some 1 := by decide +kernel
set_option maxHeartbeats 4000000 in
set_option maxRecDepth 100000 in
theorem k_X2_speak (l : Launch) (D : va_G) (cs : CS) (a : Nat → Nat → Nat) (p0 : Int32) (S : BO) {r9 : Int32} {S9 : BO} (h : f_X2_speak p0 S = some (.inr r9, S9)) : MI l D cs yX2_speak cX2_speak 2 .int rm_X2_speak [.ref (a 0 0), .int p0] (wB cs a S) r9 (wB cs a S9) := by
  refine MI_of (by decide) (Nat.le_of_ble_eq_true rfl) ?_
  rintro Γ rfl rfl rfl B ret
  show X Γ 2 0 0 0 [(0, .ref (a 0 0)), (1, .int p0)] [] (wB Γ.cs a S)
  unfold f_X2_speak at h
  refine x_iload_n B (pc' := 1) 1 dX2_speak_0 rfl rfl rfl ?_
  obtain ⟨_, eo1, h⟩ := bxw_in h
  refine x_pureSv B (pc' := 4) [.int p0] (k_X2_requireSound _ _ _ p0 eo1) gv_RX2_61 np_X2_requireSound ⟨Nat.le_of_ble_eq_true rfl, Nat.le_of_ble_eq_true rfl⟩ ⟨by exact Nat.le_of_ble_eq_true rfl, by exact Nat.le_of_ble_eq_true rfl⟩ rfl (Nat.le_of_ble_eq_true rfl) dX2_speak_1 rfl ?_
  refine x_aload_n B (pc' := 5) 0 dX2_speak_4 rfl rfl rfl ?_
  refine b_ref0 B (pc' := 8) wf_RX2_10 dX2_speak_5 rfl ?_
  refine x_iconst B (pc' := 9) 1 dX2_speak_8 (by decide) rfl ?_
  obtain ⟨r2, er2, h⟩ := bd_elim h
  refine b_nowRi B (pc' := 12) [.int (1 : Int32)] (k_X1_maySpeak _ _ _ (a 1) (1 : Int32) S.2.1 er2) gv_RX2_65 rfl np_X1_maySpeak ⟨Nat.le_of_ble_eq_true rfl, Nat.le_of_ble_eq_true rfl⟩ ⟨by exact Nat.le_of_ble_eq_true rfl, by exact Nat.le_of_ble_eq_true rfl⟩ rfl (Nat.le_of_ble_eq_true rfl) dX2_speak_9 rfl ?_
  refine x_if_ne B 25 15 dX2_speak_12 (by decide) rfl (fun hc3 => ?_) (fun hc3 => ?_)
  · replace h := ite_f hc3 h
    refine x_aload_n B (pc' := 26) 0 dX2_speak_25 rfl rfl rfl ?_
    obtain ⟨S4, eS4, h⟩ := bd_elim h
    refine x_selfVv B (pc' := 29) [] (k_X2_save _ _ _ a S eS4) rfl rfl gv_RX2_45 rfl np_X2_save ⟨Nat.le_of_ble_eq_true rfl, Nat.le_of_ble_eq_true rfl⟩ ⟨by exact Nat.le_of_ble_eq_true rfl, by exact Nat.le_of_ble_eq_true rfl⟩ rfl (Nat.le_of_ble_eq_true rfl) dX2_speak_26 rfl ?_
    refine x_aload_n B (pc' := 30) 0 dX2_speak_29 rfl rfl rfl ?_
    refine b_ref0 B (pc' := 33) wf_RX2_10 dX2_speak_30 rfl ?_
    refine x_iconst B (pc' := 34) 1 dX2_speak_33 (by decide) rfl ?_
    refine x_iload_n B (pc' := 35) 1 dX2_speak_34 rfl rfl rfl ?_
    obtain ⟨r7, S5, er7, h⟩ := bd2_elim h
    obtain ⟨S6, eS6, h⟩ := nm_elim h
    refine b_nowVi B (pc' := 38) [.int (1 : Int32), .int p0] (k_X1_speakTimes _ _ _ (a 1) (1 : Int32) p0 S4.2.1 er7) gv_RX2_71 rfl np_X1_speakTimes ⟨Nat.le_of_ble_eq_true rfl, Nat.le_of_ble_eq_true rfl⟩ ⟨by exact Nat.le_of_ble_eq_true rfl, by exact Nat.le_of_ble_eq_true rfl⟩ rfl (Nat.le_of_ble_eq_true rfl) dX2_speak_35 rfl ?_
    refine b_wd eS6 ?_
    obtain ⟨h1, h2⟩ := some2 h
    replace h1 := Sum.inr.inj h1
    subst h1
    subst h2
    exact ret rfl (by exact Nat.le_of_ble_eq_true rfl) (by exact Nat.le_of_ble_eq_true rfl) dX2_speak_38
  · replace h := ite_t hc3 h
    cases h
def f_X2_requireRecording (p0 : Int32) (S : BO) : Option (String ⊕ Unit) :=
  bd (f_X1_isRecording p0 S.2.1) (fun (r1 : Int32) => if r1 = 0 then (some (.inl "java/lang/IndexOutOfBoundsException")) else (some (.inr ())))
abbrev rm_X2_requireRecording : Room := { frames := 1, cells := 0, slots := 0, locals := 21 }
theorem np_X2_requireRecording : yX2_requireRecording.cls ≠ "java/lang/invoke/MethodHandle" ∧ yX2_requireRecording.cls ≠ "java/lang/invoke/VarHandle" ∧ (parseMethodDescriptor yX2_requireRecording.desc).map (fun d => d.parameters.length) = some 1 := by decide +kernel
set_option maxHeartbeats 4000000 in
set_option maxRecDepth 100000 in
theorem k_X2_requireRecording (l : Launch) (D : va_G) (cs : CS) (a : Nat → Nat → Nat) (p0 : Int32) (S : BO) (h : f_X2_requireRecording p0 S = some (.inr ())) : MV l D cs yX2_requireRecording cX2_requireRecording 2 rm_X2_requireRecording [.ref (a 0 0), .int p0] (wB cs a S) (wB cs a S) := by
  refine MV_of (by decide) (Nat.le_of_ble_eq_true rfl) ?_
  rintro Γ rfl rfl rfl B ret
  show X Γ 2 0 0 0 [(0, .ref (a 0 0)), (1, .int p0)] [] (wB Γ.cs a S)
  unfold f_X2_requireRecording at h
  refine x_aload_n B (pc' := 1) 0 dX2_requireRecording_0 rfl rfl rfl ?_
  refine b_ref0 B (pc' := 4) wf_RX2_10 dX2_requireRecording_1 rfl ?_
  refine x_iload_n B (pc' := 5) 1 dX2_requireRecording_4 rfl rfl rfl ?_
  obtain ⟨r1, er1, h⟩ := bd_elim h
  refine b_nowRi B (pc' := 8) [.int p0] (k_X1_isRecording _ _ _ (a 1) p0 S.2.1 er1) gv_RX2_276 rfl np_X1_isRecording ⟨Nat.le_of_ble_eq_true rfl, Nat.le_of_ble_eq_true rfl⟩ ⟨by exact Nat.le_of_ble_eq_true rfl, by exact Nat.le_of_ble_eq_true rfl⟩ rfl (Nat.le_of_ble_eq_true rfl) dX2_requireRecording_5 rfl ?_
  refine x_if_ne B 22 11 dX2_requireRecording_8 (by decide) rfl (fun hc2 => ?_) (fun hc2 => ?_)
  · replace h := ite_f hc2 h
    exact ret (by exact Nat.le_of_ble_eq_true rfl) (by exact Nat.le_of_ble_eq_true rfl) dX2_requireRecording_22
  · replace h := ite_t hc2 h
    cases h
def f_X2_setFlag (p0 : Int32) (p1 : Int32) (S : BO) : Option ((String ⊕ Int32) × BO) :=
  bxw S (f_X2_requireRecording p0 S) (fun (_ : Unit) => bd (f_X2_save S) (fun (S2 : BO) => bd (f_X1_isFlagged p0 S2.2.1) (fun (r3 : Int32) => bd (f_X1_putFlag p0 p1 S2.2.1) (fun (S4 : OB) => nm (fun (S5 : BO) => zb r3 (some (.inr r3, S5))) (S2.1, S4, S2.2.2)))))
abbrev rm_X2_setFlag : Room := { frames := 3, cells := 0, slots := 0, locals := 106 }
theorem np_X2_setFlag : yX2_setFlag.cls ≠ "java/lang/invoke/MethodHandle" ∧ yX2_setFlag.cls ≠ "java/lang/invoke/VarHandle" ∧ (parseMethodDescriptor yX2_setFlag.desc).map (fun d => d.parameters.length) = some 2 := by decide +kernel
set_option maxHeartbeats 4000000 in
set_option maxRecDepth 100000 in
theorem k_X2_setFlag (l : Launch) (D : va_G) (cs : CS) (a : Nat → Nat → Nat) (p0 : Int32) (p1 : Int32) (S : BO) {r9 : Int32} {S9 : BO} (h : f_X2_setFlag p0 p1 S = some (.inr r9, S9)) : MI l D cs yX2_setFlag cX2_setFlag 4 .boolean rm_X2_setFlag [.ref (a 0 0), .int p0, .int p1] (wB cs a S) r9 (wB cs a S9) := by
  refine MI_of (by decide) (Nat.le_of_ble_eq_true rfl) ?_
  rintro Γ rfl rfl rfl B ret
  show X Γ 4 0 0 0 [(0, .ref (a 0 0)), (1, .int p0), (2, .int p1)] [] (wB Γ.cs a S)
  unfold f_X2_setFlag at h
  refine x_aload_n B (pc' := 1) 0 dX2_setFlag_0 rfl rfl rfl ?_
  refine x_iload_n B (pc' := 2) 1 dX2_setFlag_1 rfl rfl rfl ?_
  obtain ⟨_, eo1, h⟩ := bxw_in h
  refine x_selfVv B (pc' := 5) [.int p0] (k_X2_requireRecording _ _ _ a p0 S eo1) rfl rfl gv_RX2_75 rfl np_X2_requireRecording ⟨Nat.le_of_ble_eq_true rfl, Nat.le_of_ble_eq_true rfl⟩ ⟨by exact Nat.le_of_ble_eq_true rfl, by exact Nat.le_of_ble_eq_true rfl⟩ rfl (Nat.le_of_ble_eq_true rfl) dX2_setFlag_2 rfl ?_
  refine x_aload_n B (pc' := 6) 0 dX2_setFlag_5 rfl rfl rfl ?_
  obtain ⟨S2, eS2, h⟩ := bd_elim h
  refine x_selfVv B (pc' := 9) [] (k_X2_save _ _ _ a S eS2) rfl rfl gv_RX2_45 rfl np_X2_save ⟨Nat.le_of_ble_eq_true rfl, Nat.le_of_ble_eq_true rfl⟩ ⟨by exact Nat.le_of_ble_eq_true rfl, by exact Nat.le_of_ble_eq_true rfl⟩ rfl (Nat.le_of_ble_eq_true rfl) dX2_setFlag_6 rfl ?_
  refine x_aload_n B (pc' := 10) 0 dX2_setFlag_9 rfl rfl rfl ?_
  refine b_ref0 B (pc' := 13) wf_RX2_10 dX2_setFlag_10 rfl ?_
  refine x_iload_n B (pc' := 14) 1 dX2_setFlag_13 rfl rfl rfl ?_
  obtain ⟨r3, er3, h⟩ := bd_elim h
  refine b_nowRi B (pc' := 17) [.int p0] (k_X1_isFlagged _ _ _ (a 1) p0 S2.2.1 er3) gv_RX2_78 rfl np_X1_isFlagged ⟨Nat.le_of_ble_eq_true rfl, Nat.le_of_ble_eq_true rfl⟩ ⟨by exact Nat.le_of_ble_eq_true rfl, by exact Nat.le_of_ble_eq_true rfl⟩ rfl (Nat.le_of_ble_eq_true rfl) dX2_setFlag_14 rfl ?_
  refine x_istore_n B (pc' := 18) [1, 2, 3, 0] [(0, .ref (a 0 0)), (1, .int p0), (2, .int p1), (3, .int r3)] dX2_setFlag_17 rfl (by decide) rfl rfl ?_
  refine x_aload_n B (pc' := 19) 0 dX2_setFlag_18 rfl rfl rfl ?_
  refine b_ref0 B (pc' := 22) wf_RX2_10 dX2_setFlag_19 rfl ?_
  refine x_iload_n B (pc' := 23) 1 dX2_setFlag_22 rfl rfl rfl ?_
  refine x_iload_n B (pc' := 24) 2 dX2_setFlag_23 rfl rfl rfl ?_
  obtain ⟨S4, eS4, h⟩ := bd_elim h
  obtain ⟨S5, eS5, h⟩ := nm_elim h
  refine b_nowVv B (pc' := 27) [.int p0, .int p1] (k_X1_putFlag _ _ _ (a 1) p0 p1 S2.2.1 eS4) gv_RX2_81 rfl np_X1_putFlag ⟨Nat.le_of_ble_eq_true rfl, Nat.le_of_ble_eq_true rfl⟩ ⟨by exact Nat.le_of_ble_eq_true rfl, by exact Nat.le_of_ble_eq_true rfl⟩ rfl (Nat.le_of_ble_eq_true rfl) dX2_setFlag_24 rfl ?_
  refine b_wd eS5 ?_
  refine x_iload_n B (pc' := 28) 3 dX2_setFlag_27 rfl rfl rfl ?_
  obtain ⟨hz6, h⟩ := zb_elim h
  obtain ⟨h1, h2⟩ := some2 h
  replace h1 := Sum.inr.inj h1
  subst h1
  subst h2
  exact ret (zb_nar hz6) (by exact Nat.le_of_ble_eq_true rfl) (by exact Nat.le_of_ble_eq_true rfl) dX2_setFlag_28
def f_X2_erase (p0 : Int32) (S : BO) : Option ((String ⊕ Int32) × BO) :=
  bxw S (f_X2_requireRecording p0 S) (fun (_ : Unit) => bd (f_X1_isFlagged p0 S.2.1) (fun (r2 : Int32) => if r2 = 0 then (bd (f_X2_save S) (fun (S4 : BO) => bd2 (f_X1_eraseRecording p0 S4.2.1) (fun (r7 : Int32) (S5 : OB) => nm (fun (S6 : BO) => some (.inr r7, S6)) (S4.1, S5, S4.2.2)))) else (some (.inl "java/lang/IllegalStateException", S))))
abbrev rm_X2_erase : Room := { frames := 3, cells := 0, slots := 0, locals := 106 }
theorem np_X2_erase : yX2_erase.cls ≠ "java/lang/invoke/MethodHandle" ∧ yX2_erase.cls ≠ "java/lang/invoke/VarHandle" ∧ (parseMethodDescriptor yX2_erase.desc).map (fun d => d.parameters.length) = some 1 := by decide +kernel
set_option maxHeartbeats 4000000 in
set_option maxRecDepth 100000 in
theorem k_X2_erase (l : Launch) (D : va_G) (cs : CS) (a : Nat → Nat → Nat) (p0 : Int32) (S : BO) {r9 : Int32} {S9 : BO} (h : f_X2_erase p0 S = some (.inr r9, S9)) : MI l D cs yX2_erase cX2_erase 2 .int rm_X2_erase [.ref (a 0 0), .int p0] (wB cs a S) r9 (wB cs a S9) := by
  refine MI_of (by decide) (Nat.le_of_ble_eq_true rfl) ?_
  rintro Γ rfl rfl rfl B ret
  show X Γ 2 0 0 0 [(0, .ref (a 0 0)), (1, .int p0)] [] (wB Γ.cs a S)
  unfold f_X2_erase at h
  refine x_aload_n B (pc' := 1) 0 dX2_erase_0 rfl rfl rfl ?_
  refine x_iload_n B (pc' := 2) 1 dX2_erase_1 rfl rfl rfl ?_
  obtain ⟨_, eo1, h⟩ := bxw_in h
  refine x_selfVv B (pc' := 5) [.int p0] (k_X2_requireRecording _ _ _ a p0 S eo1) rfl rfl gv_RX2_75 rfl np_X2_requireRecording ⟨Nat.le_of_ble_eq_true rfl, Nat.le_of_ble_eq_true rfl⟩ ⟨by exact Nat.le_of_ble_eq_true rfl, by exact Nat.le_of_ble_eq_true rfl⟩ rfl (Nat.le_of_ble_eq_true rfl) dX2_erase_2 rfl ?_
  refine x_aload_n B (pc' := 6) 0 dX2_erase_5 rfl rfl rfl ?_
  refine b_ref0 B (pc' := 9) wf_RX2_10 dX2_erase_6 rfl ?_
  refine x_iload_n B (pc' := 10) 1 dX2_erase_9 rfl rfl rfl ?_
  obtain ⟨r2, er2, h⟩ := bd_elim h
  refine b_nowRi B (pc' := 13) [.int p0] (k_X1_isFlagged _ _ _ (a 1) p0 S.2.1 er2) gv_RX2_78 rfl np_X1_isFlagged ⟨Nat.le_of_ble_eq_true rfl, Nat.le_of_ble_eq_true rfl⟩ ⟨by exact Nat.le_of_ble_eq_true rfl, by exact Nat.le_of_ble_eq_true rfl⟩ rfl (Nat.le_of_ble_eq_true rfl) dX2_erase_10 rfl ?_
  refine x_if_eq B 26 16 dX2_erase_13 (by decide) rfl (fun hc3 => ?_) (fun hc3 => ?_)
  · replace h := ite_t hc3 h
    refine x_aload_n B (pc' := 27) 0 dX2_erase_26 rfl rfl rfl ?_
    obtain ⟨S4, eS4, h⟩ := bd_elim h
    refine x_selfVv B (pc' := 30) [] (k_X2_save _ _ _ a S eS4) rfl rfl gv_RX2_45 rfl np_X2_save ⟨Nat.le_of_ble_eq_true rfl, Nat.le_of_ble_eq_true rfl⟩ ⟨by exact Nat.le_of_ble_eq_true rfl, by exact Nat.le_of_ble_eq_true rfl⟩ rfl (Nat.le_of_ble_eq_true rfl) dX2_erase_27 rfl ?_
    refine x_aload_n B (pc' := 31) 0 dX2_erase_30 rfl rfl rfl ?_
    refine b_ref0 B (pc' := 34) wf_RX2_10 dX2_erase_31 rfl ?_
    refine x_iload_n B (pc' := 35) 1 dX2_erase_34 rfl rfl rfl ?_
    obtain ⟨r7, S5, er7, h⟩ := bd2_elim h
    obtain ⟨S6, eS6, h⟩ := nm_elim h
    refine b_nowVi B (pc' := 38) [.int p0] (k_X1_eraseRecording _ _ _ (a 1) p0 S4.2.1 er7) gv_RX2_87 rfl np_X1_eraseRecording ⟨Nat.le_of_ble_eq_true rfl, Nat.le_of_ble_eq_true rfl⟩ ⟨by exact Nat.le_of_ble_eq_true rfl, by exact Nat.le_of_ble_eq_true rfl⟩ rfl (Nat.le_of_ble_eq_true rfl) dX2_erase_35 rfl ?_
    refine b_wd eS6 ?_
    obtain ⟨h1, h2⟩ := some2 h
    replace h1 := Sum.inr.inj h1
    subst h1
    subst h2
    exact ret rfl (by exact Nat.le_of_ble_eq_true rfl) (by exact Nat.le_of_ble_eq_true rfl) dX2_erase_38
  · replace h := ite_f hc3 h
    cases h
def c_X2_requireCell_10 : Option (String ⊕ Unit) :=
  some (.inl "java/lang/IndexOutOfBoundsException")
def f_X2_requireCell (p0 : Int32) : Option (String ⊕ Unit) :=
  if p0 < 0 then (c_X2_requireCell_10 ) else (if p0 < (32 : Int32) then (some (.inr ())) else (c_X2_requireCell_10 ))
abbrev rm_X2_requireCell : Room := { frames := 0, cells := 0, slots := 0, locals := 0 }
theorem np_X2_requireCell : yX2_requireCell.cls ≠ "java/lang/invoke/MethodHandle" ∧ yX2_requireCell.cls ≠ "java/lang/invoke/VarHandle" ∧ (parseMethodDescriptor yX2_requireCell.desc).map (fun d => d.parameters.length) = some 1 := by decide +kernel
set_option maxHeartbeats 4000000 in
set_option maxRecDepth 100000 in
theorem k_X2_requireCell (l : Launch) (D : va_G) (cs : CS)  (p0 : Int32) (h : f_X2_requireCell p0 = some (.inr ())) : MV l D cs yX2_requireCell cX2_requireCell 1 rm_X2_requireCell [.int p0] ([]) ([]) := by
  refine MV_of (by decide) (Nat.le_of_ble_eq_true rfl) ?_
  rintro Γ rfl rfl rfl B ret
  show X Γ 1 0 0 0 [(0, .int p0)] [] ([])
  have h10 : c_X2_requireCell_10   = some (.inr ()) → X Γ 1 0 0 10 [] [] ([]) := by
    intro   h
    unfold c_X2_requireCell_10 at h
    cases h
  unfold f_X2_requireCell at h
  refine x_iload_n B (pc' := 1) 0 dX2_requireCell_0 rfl rfl rfl ?_
  refine x_if_lt B 10 4 dX2_requireCell_1 (by decide) rfl (fun hc1 => ?_) (fun hc1 => ?_)
  · replace h := ite_t hc1 h
    refine x_lv [] (lv' := []) rfl ?_
    exact h10   h
  · replace h := ite_f hc1 h
    refine x_iload_n B (pc' := 5) 0 dX2_requireCell_4 rfl rfl rfl ?_
    refine x_bipush B (pc' := 7) 32 dX2_requireCell_5 (by decide) rfl ?_
    refine x_icmp_lt B 21 10 dX2_requireCell_7 (by decide) rfl (fun hc2 => ?_) (fun hc2 => ?_)
    · replace h := ite_t hc2 h
      exact ret (by exact Nat.le_of_ble_eq_true rfl) (by exact Nat.le_of_ble_eq_true rfl) dX2_requireCell_21
    · replace h := ite_f hc2 h
      refine x_lv [] (lv' := []) rfl ?_
      exact h10   h
def f_X2_moveHead (p0 : Int32) (S : BO) : Option ((String ⊕ Int32) × BO) :=
  bxw S (f_X2_requireCell p0) (fun (_ : Unit) => if (S.2.1.1 8) = 0 then (bd (f_X2_save S) (fun (S3 : BO) => nm (fun (v4 : Int32) => nm (fun (S5 : BO) => some (.inr v4, S5)) (S3.1, (upd S3.2.1.1 9 p0, S3.2.1.2), S3.2.2)) (S3.2.1.1 9))) else (some (.inl "java/lang/IllegalStateException", S)))
abbrev rm_X2_moveHead : Room := { frames := 3, cells := 0, slots := 0, locals := 106 }
theorem np_X2_moveHead : yX2_moveHead.cls ≠ "java/lang/invoke/MethodHandle" ∧ yX2_moveHead.cls ≠ "java/lang/invoke/VarHandle" ∧ (parseMethodDescriptor yX2_moveHead.desc).map (fun d => d.parameters.length) = some 1 := by decide +kernel
set_option maxHeartbeats 4000000 in
set_option maxRecDepth 100000 in
theorem k_X2_moveHead (l : Launch) (D : va_G) (cs : CS) (a : Nat → Nat → Nat) (p0 : Int32) (S : BO) {r9 : Int32} {S9 : BO} (h : f_X2_moveHead p0 S = some (.inr r9, S9)) : MI l D cs yX2_moveHead cX2_moveHead 3 .int rm_X2_moveHead [.ref (a 0 0), .int p0] (wB cs a S) r9 (wB cs a S9) := by
  refine MI_of (by decide) (Nat.le_of_ble_eq_true rfl) ?_
  rintro Γ rfl rfl rfl B ret
  show X Γ 3 0 0 0 [(0, .ref (a 0 0)), (1, .int p0)] [] (wB Γ.cs a S)
  unfold f_X2_moveHead at h
  refine x_iload_n B (pc' := 1) 1 dX2_moveHead_0 rfl rfl rfl ?_
  obtain ⟨_, eo1, h⟩ := bxw_in h
  refine x_pureSv B (pc' := 4) [.int p0] (k_X2_requireCell _ _ _ p0 eo1) gv_RX2_91 np_X2_requireCell ⟨Nat.le_of_ble_eq_true rfl, Nat.le_of_ble_eq_true rfl⟩ ⟨by exact Nat.le_of_ble_eq_true rfl, by exact Nat.le_of_ble_eq_true rfl⟩ rfl (Nat.le_of_ble_eq_true rfl) dX2_moveHead_1 rfl ?_
  refine x_aload_n B (pc' := 5) 0 dX2_moveHead_4 rfl rfl rfl ?_
  refine b_ref0 B (pc' := 8) wf_RX2_10 dX2_moveHead_5 rfl ?_
  refine bn_get8 B (pc' := 11) wf_RX2_52 dX2_moveHead_8 rfl ?_
  refine x_if_eq B 24 14 dX2_moveHead_11 (by decide) rfl (fun hc2 => ?_) (fun hc2 => ?_)
  · replace h := ite_t hc2 h
    refine x_aload_n B (pc' := 25) 0 dX2_moveHead_24 rfl rfl rfl ?_
    obtain ⟨S3, eS3, h⟩ := bd_elim h
    refine x_selfVv B (pc' := 28) [] (k_X2_save _ _ _ a S eS3) rfl rfl gv_RX2_45 rfl np_X2_save ⟨Nat.le_of_ble_eq_true rfl, Nat.le_of_ble_eq_true rfl⟩ ⟨by exact Nat.le_of_ble_eq_true rfl, by exact Nat.le_of_ble_eq_true rfl⟩ rfl (Nat.le_of_ble_eq_true rfl) dX2_moveHead_25 rfl ?_
    refine x_aload_n B (pc' := 29) 0 dX2_moveHead_28 rfl rfl rfl ?_
    refine b_ref0 B (pc' := 32) wf_RX2_10 dX2_moveHead_29 rfl ?_
    refine bn_get9 B (pc' := 35) wf_RX2_96 dX2_moveHead_32 rfl ?_
    obtain ⟨v4, ev4, h⟩ := nm_elim h
    refine x_topi ev4 ?_
    refine x_istore_n B (pc' := 36) [1, 2, 0] [(0, .ref (a 0 0)), (1, .int p0), (2, .int v4)] dX2_moveHead_35 rfl (by decide) rfl rfl ?_
    refine x_aload_n B (pc' := 37) 0 dX2_moveHead_36 rfl rfl rfl ?_
    refine b_ref0 B (pc' := 40) wf_RX2_10 dX2_moveHead_37 rfl ?_
    refine x_iload_n B (pc' := 41) 1 dX2_moveHead_40 rfl rfl rfl ?_
    obtain ⟨S5, eS5, h⟩ := nm_elim h
    refine bn_put9 B (pc' := 44) wf_RX2_96 dX2_moveHead_41 rfl ?_
    refine b_wd eS5 ?_
    refine x_iload_n B (pc' := 45) 2 dX2_moveHead_44 rfl rfl rfl ?_
    obtain ⟨h1, h2⟩ := some2 h
    replace h1 := Sum.inr.inj h1
    subst h1
    subst h2
    exact ret rfl (by exact Nat.le_of_ble_eq_true rfl) (by exact Nat.le_of_ble_eq_true rfl) dX2_moveHead_45
  · replace h := ite_f hc2 h
    cases h
def f_X2_length (p0 : Int32) (S : BO) : Option (String ⊕ Int32) :=
  bxr (f_X2_requireRecording p0 S) (fun (_ : Unit) => bd (f_X1_cellCount p0 S.2.1) (fun (r2 : Int32) => some (.inr r2)))
abbrev rm_X2_length : Room := { frames := 2, cells := 0, slots := 0, locals := 45 }
theorem np_X2_length : yX2_length.cls ≠ "java/lang/invoke/MethodHandle" ∧ yX2_length.cls ≠ "java/lang/invoke/VarHandle" ∧ (parseMethodDescriptor yX2_length.desc).map (fun d => d.parameters.length) = some 1 := by decide +kernel
set_option maxHeartbeats 4000000 in
set_option maxRecDepth 100000 in
theorem k_X2_length (l : Launch) (D : va_G) (cs : CS) (a : Nat → Nat → Nat) (p0 : Int32) (S : BO) {r9 : Int32} (h : f_X2_length p0 S = some (.inr r9)) : MI l D cs yX2_length cX2_length 2 .int rm_X2_length [.ref (a 0 0), .int p0] (wB cs a S) r9 (wB cs a S) := by
  refine MI_of (by decide) (Nat.le_of_ble_eq_true rfl) ?_
  rintro Γ rfl rfl rfl B ret
  show X Γ 2 0 0 0 [(0, .ref (a 0 0)), (1, .int p0)] [] (wB Γ.cs a S)
  unfold f_X2_length at h
  refine x_aload_n B (pc' := 1) 0 dX2_length_0 rfl rfl rfl ?_
  refine x_iload_n B (pc' := 2) 1 dX2_length_1 rfl rfl rfl ?_
  obtain ⟨_, eo1, h⟩ := bxr_in h
  refine x_selfVv B (pc' := 5) [.int p0] (k_X2_requireRecording _ _ _ a p0 S eo1) rfl rfl gv_RX2_75 rfl np_X2_requireRecording ⟨Nat.le_of_ble_eq_true rfl, Nat.le_of_ble_eq_true rfl⟩ ⟨by exact Nat.le_of_ble_eq_true rfl, by exact Nat.le_of_ble_eq_true rfl⟩ rfl (Nat.le_of_ble_eq_true rfl) dX2_length_2 rfl ?_
  refine x_aload_n B (pc' := 6) 0 dX2_length_5 rfl rfl rfl ?_
  refine b_ref0 B (pc' := 9) wf_RX2_10 dX2_length_6 rfl ?_
  refine x_iload_n B (pc' := 10) 1 dX2_length_9 rfl rfl rfl ?_
  obtain ⟨r2, er2, h⟩ := bd_elim h
  refine b_nowRi B (pc' := 13) [.int p0] (k_X1_cellCount _ _ _ (a 1) p0 S.2.1 er2) gv_RX2_105 rfl np_X1_cellCount ⟨Nat.le_of_ble_eq_true rfl, Nat.le_of_ble_eq_true rfl⟩ ⟨by exact Nat.le_of_ble_eq_true rfl, by exact Nat.le_of_ble_eq_true rfl⟩ rfl (Nat.le_of_ble_eq_true rfl) dX2_length_10 rfl ?_
  have h1 := Sum.inr.inj (Option.some.inj h)
  subst h1
  exact ret rfl (by exact Nat.le_of_ble_eq_true rfl) (by exact Nat.le_of_ble_eq_true rfl) dX2_length_13
def c_X2_requirePlace_15 (S : BO) : Option (String ⊕ Unit) :=
  some (.inl "java/lang/IndexOutOfBoundsException")
def f_X2_requirePlace (p0 : Int32) (p1 : Int32) (S : BO) : Option (String ⊕ Unit) :=
  bd (f_X1_isRecording p0 S.2.1) (fun (r1 : Int32) => if r1 = 0 then (c_X2_requirePlace_15 S ) else (if 0 ≤ p1 then (some (.inr ())) else (c_X2_requirePlace_15 S )))
abbrev rm_X2_requirePlace : Room := { frames := 1, cells := 0, slots := 0, locals := 21 }
theorem np_X2_requirePlace : yX2_requirePlace.cls ≠ "java/lang/invoke/MethodHandle" ∧ yX2_requirePlace.cls ≠ "java/lang/invoke/VarHandle" ∧ (parseMethodDescriptor yX2_requirePlace.desc).map (fun d => d.parameters.length) = some 2 := by decide +kernel
set_option maxHeartbeats 4000000 in
set_option maxRecDepth 100000 in
theorem k_X2_requirePlace (l : Launch) (D : va_G) (cs : CS) (a : Nat → Nat → Nat) (p0 : Int32) (p1 : Int32) (S : BO) (h : f_X2_requirePlace p0 p1 S = some (.inr ())) : MV l D cs yX2_requirePlace cX2_requirePlace 3 rm_X2_requirePlace [.ref (a 0 0), .int p0, .int p1] (wB cs a S) (wB cs a S) := by
  refine MV_of (by decide) (Nat.le_of_ble_eq_true rfl) ?_
  rintro Γ rfl rfl rfl B ret
  show X Γ 3 0 0 0 [(0, .ref (a 0 0)), (1, .int p0), (2, .int p1)] [] (wB Γ.cs a S)
  have h15 : c_X2_requirePlace_15 S   = some (.inr ()) → X Γ 3 0 0 15 [] [] (wB Γ.cs a S) := by
    intro   h
    unfold c_X2_requirePlace_15 at h
    cases h
  unfold f_X2_requirePlace at h
  refine x_aload_n B (pc' := 1) 0 dX2_requirePlace_0 rfl rfl rfl ?_
  refine b_ref0 B (pc' := 4) wf_RX2_10 dX2_requirePlace_1 rfl ?_
  refine x_iload_n B (pc' := 5) 1 dX2_requirePlace_4 rfl rfl rfl ?_
  obtain ⟨r1, er1, h⟩ := bd_elim h
  refine b_nowRi B (pc' := 8) [.int p0] (k_X1_isRecording _ _ _ (a 1) p0 S.2.1 er1) gv_RX2_276 rfl np_X1_isRecording ⟨Nat.le_of_ble_eq_true rfl, Nat.le_of_ble_eq_true rfl⟩ ⟨by exact Nat.le_of_ble_eq_true rfl, by exact Nat.le_of_ble_eq_true rfl⟩ rfl (Nat.le_of_ble_eq_true rfl) dX2_requirePlace_5 rfl ?_
  refine x_if_eq B 15 11 dX2_requirePlace_8 (by decide) rfl (fun hc2 => ?_) (fun hc2 => ?_)
  · replace h := ite_t hc2 h
    refine x_lv [] (lv' := []) rfl ?_
    exact h15   h
  · replace h := ite_f hc2 h
    refine x_iload_n B (pc' := 12) 2 dX2_requirePlace_11 rfl rfl rfl ?_
    refine x_if_ge B 26 15 dX2_requirePlace_12 (by decide) rfl (fun hc3 => ?_) (fun hc3 => ?_)
    · replace h := ite_t hc3 h
      exact ret (by exact Nat.le_of_ble_eq_true rfl) (by exact Nat.le_of_ble_eq_true rfl) dX2_requirePlace_26
    · replace h := ite_f hc3 h
      refine x_lv [] (lv' := []) rfl ?_
      exact h15   h
def f_X2_sound (p0 : Int32) (p1 : Int32) (S : BO) : Option (String ⊕ Int32) :=
  bxr (f_X2_requirePlace p0 p1 S) (fun (_ : Unit) => bd (f_X1_cellAt p0 p1 S.2.1) (fun (r2 : Int32) => some (.inr (vAt 32 (S.2.1.2 1) r2))))
abbrev rm_X2_sound : Room := { frames := 2, cells := 0, slots := 0, locals := 47 }
theorem np_X2_sound : yX2_sound.cls ≠ "java/lang/invoke/MethodHandle" ∧ yX2_sound.cls ≠ "java/lang/invoke/VarHandle" ∧ (parseMethodDescriptor yX2_sound.desc).map (fun d => d.parameters.length) = some 2 := by decide +kernel
set_option maxHeartbeats 4000000 in
set_option maxRecDepth 100000 in
theorem k_X2_sound (l : Launch) (D : va_G) (cs : CS) (a : Nat → Nat → Nat) (p0 : Int32) (p1 : Int32) (S : BO) {r9 : Int32} (h : f_X2_sound p0 p1 S = some (.inr r9)) : MI l D cs yX2_sound cX2_sound 3 .int rm_X2_sound [.ref (a 0 0), .int p0, .int p1] (wB cs a S) r9 (wB cs a S) := by
  refine MI_of (by decide) (Nat.le_of_ble_eq_true rfl) ?_
  rintro Γ rfl rfl rfl B ret
  show X Γ 3 0 0 0 [(0, .ref (a 0 0)), (1, .int p0), (2, .int p1)] [] (wB Γ.cs a S)
  unfold f_X2_sound at h
  refine x_aload_n B (pc' := 1) 0 dX2_sound_0 rfl rfl rfl ?_
  refine x_iload_n B (pc' := 2) 1 dX2_sound_1 rfl rfl rfl ?_
  refine x_iload_n B (pc' := 3) 2 dX2_sound_2 rfl rfl rfl ?_
  obtain ⟨_, eo1, h⟩ := bxr_in h
  refine x_selfVv B (pc' := 6) [.int p0, .int p1] (k_X2_requirePlace _ _ _ a p0 p1 S eo1) rfl rfl gv_RX2_108 rfl np_X2_requirePlace ⟨Nat.le_of_ble_eq_true rfl, Nat.le_of_ble_eq_true rfl⟩ ⟨by exact Nat.le_of_ble_eq_true rfl, by exact Nat.le_of_ble_eq_true rfl⟩ rfl (Nat.le_of_ble_eq_true rfl) dX2_sound_3 rfl ?_
  refine x_aload_n B (pc' := 7) 0 dX2_sound_6 rfl rfl rfl ?_
  refine b_ref0 B (pc' := 10) wf_RX2_10 dX2_sound_7 rfl ?_
  refine bn_ref1 B (pc' := 13) wf_RX2_112 dX2_sound_10 rfl ?_
  refine x_aload_n B (pc' := 14) 0 dX2_sound_13 rfl rfl rfl ?_
  refine b_ref0 B (pc' := 17) wf_RX2_10 dX2_sound_14 rfl ?_
  refine x_iload_n B (pc' := 18) 1 dX2_sound_17 rfl rfl rfl ?_
  refine x_iload_n B (pc' := 19) 2 dX2_sound_18 rfl rfl rfl ?_
  obtain ⟨r2, er2, h⟩ := bd_elim h
  refine b_nowRi B (pc' := 22) [.int p0, .int p1] (k_X1_cellAt _ _ _ (a 1) p0 p1 S.2.1 er2) gv_RX2_116 rfl np_X1_cellAt ⟨Nat.le_of_ble_eq_true rfl, Nat.le_of_ble_eq_true rfl⟩ ⟨by exact Nat.le_of_ble_eq_true rfl, by exact Nat.le_of_ble_eq_true rfl⟩ rfl (Nat.le_of_ble_eq_true rfl) dX2_sound_19 rfl ?_
  refine bn_vAt1 B (pc' := 25) ⟨Nat.le_of_ble_eq_true rfl, Nat.le_of_ble_eq_true rfl⟩ ⟨Nat.le_of_ble_eq_true rfl, Nat.le_of_ble_eq_true rfl⟩ (Nat.le_of_ble_eq_true rfl) rfl dX2_sound_22 rfl ?_
  have h1 := Sum.inr.inj (Option.some.inj h)
  subst h1
  exact ret rfl (by exact Nat.le_of_ble_eq_true rfl) (by exact Nat.le_of_ble_eq_true rfl) dX2_sound_25
def f_X2_cellOf (p0 : Int32) (p1 : Int32) (S : BO) : Option (String ⊕ Int32) :=
  bxr (f_X2_requirePlace p0 p1 S) (fun (_ : Unit) => bd (f_X1_cellAt p0 p1 S.2.1) (fun (r2 : Int32) => some (.inr r2)))
abbrev rm_X2_cellOf : Room := { frames := 2, cells := 0, slots := 0, locals := 47 }
theorem np_X2_cellOf : yX2_cellOf.cls ≠ "java/lang/invoke/MethodHandle" ∧ yX2_cellOf.cls ≠ "java/lang/invoke/VarHandle" ∧ (parseMethodDescriptor yX2_cellOf.desc).map (fun d => d.parameters.length) = some 2 := by decide +kernel
set_option maxHeartbeats 4000000 in
set_option maxRecDepth 100000 in
theorem k_X2_cellOf (l : Launch) (D : va_G) (cs : CS) (a : Nat → Nat → Nat) (p0 : Int32) (p1 : Int32) (S : BO) {r9 : Int32} (h : f_X2_cellOf p0 p1 S = some (.inr r9)) : MI l D cs yX2_cellOf cX2_cellOf 3 .int rm_X2_cellOf [.ref (a 0 0), .int p0, .int p1] (wB cs a S) r9 (wB cs a S) := by
  refine MI_of (by decide) (Nat.le_of_ble_eq_true rfl) ?_
  rintro Γ rfl rfl rfl B ret
  show X Γ 3 0 0 0 [(0, .ref (a 0 0)), (1, .int p0), (2, .int p1)] [] (wB Γ.cs a S)
  unfold f_X2_cellOf at h
  refine x_aload_n B (pc' := 1) 0 dX2_cellOf_0 rfl rfl rfl ?_
  refine x_iload_n B (pc' := 2) 1 dX2_cellOf_1 rfl rfl rfl ?_
  refine x_iload_n B (pc' := 3) 2 dX2_cellOf_2 rfl rfl rfl ?_
  obtain ⟨_, eo1, h⟩ := bxr_in h
  refine x_selfVv B (pc' := 6) [.int p0, .int p1] (k_X2_requirePlace _ _ _ a p0 p1 S eo1) rfl rfl gv_RX2_108 rfl np_X2_requirePlace ⟨Nat.le_of_ble_eq_true rfl, Nat.le_of_ble_eq_true rfl⟩ ⟨by exact Nat.le_of_ble_eq_true rfl, by exact Nat.le_of_ble_eq_true rfl⟩ rfl (Nat.le_of_ble_eq_true rfl) dX2_cellOf_3 rfl ?_
  refine x_aload_n B (pc' := 7) 0 dX2_cellOf_6 rfl rfl rfl ?_
  refine b_ref0 B (pc' := 10) wf_RX2_10 dX2_cellOf_7 rfl ?_
  refine x_iload_n B (pc' := 11) 1 dX2_cellOf_10 rfl rfl rfl ?_
  refine x_iload_n B (pc' := 12) 2 dX2_cellOf_11 rfl rfl rfl ?_
  obtain ⟨r2, er2, h⟩ := bd_elim h
  refine b_nowRi B (pc' := 15) [.int p0, .int p1] (k_X1_cellAt _ _ _ (a 1) p0 p1 S.2.1 er2) gv_RX2_116 rfl np_X1_cellAt ⟨Nat.le_of_ble_eq_true rfl, Nat.le_of_ble_eq_true rfl⟩ ⟨by exact Nat.le_of_ble_eq_true rfl, by exact Nat.le_of_ble_eq_true rfl⟩ rfl (Nat.le_of_ble_eq_true rfl) dX2_cellOf_12 rfl ?_
  have h1 := Sum.inr.inj (Option.some.inj h)
  subst h1
  exact ret rfl (by exact Nat.le_of_ble_eq_true rfl) (by exact Nat.le_of_ble_eq_true rfl) dX2_cellOf_15
def f_X2_hasFlag (p0 : Int32) (S : BO) : Option (String ⊕ Int32) :=
  bxr (f_X2_requireRecording p0 S) (fun (_ : Unit) => bd (f_X1_isFlagged p0 S.2.1) (fun (r2 : Int32) => zb r2 (some (.inr r2))))
abbrev rm_X2_hasFlag : Room := { frames := 2, cells := 0, slots := 0, locals := 43 }
theorem np_X2_hasFlag : yX2_hasFlag.cls ≠ "java/lang/invoke/MethodHandle" ∧ yX2_hasFlag.cls ≠ "java/lang/invoke/VarHandle" ∧ (parseMethodDescriptor yX2_hasFlag.desc).map (fun d => d.parameters.length) = some 1 := by decide +kernel
set_option maxHeartbeats 4000000 in
set_option maxRecDepth 100000 in
theorem k_X2_hasFlag (l : Launch) (D : va_G) (cs : CS) (a : Nat → Nat → Nat) (p0 : Int32) (S : BO) {r9 : Int32} (h : f_X2_hasFlag p0 S = some (.inr r9)) : MI l D cs yX2_hasFlag cX2_hasFlag 2 .boolean rm_X2_hasFlag [.ref (a 0 0), .int p0] (wB cs a S) r9 (wB cs a S) := by
  refine MI_of (by decide) (Nat.le_of_ble_eq_true rfl) ?_
  rintro Γ rfl rfl rfl B ret
  show X Γ 2 0 0 0 [(0, .ref (a 0 0)), (1, .int p0)] [] (wB Γ.cs a S)
  unfold f_X2_hasFlag at h
  refine x_aload_n B (pc' := 1) 0 dX2_hasFlag_0 rfl rfl rfl ?_
  refine x_iload_n B (pc' := 2) 1 dX2_hasFlag_1 rfl rfl rfl ?_
  obtain ⟨_, eo1, h⟩ := bxr_in h
  refine x_selfVv B (pc' := 5) [.int p0] (k_X2_requireRecording _ _ _ a p0 S eo1) rfl rfl gv_RX2_75 rfl np_X2_requireRecording ⟨Nat.le_of_ble_eq_true rfl, Nat.le_of_ble_eq_true rfl⟩ ⟨by exact Nat.le_of_ble_eq_true rfl, by exact Nat.le_of_ble_eq_true rfl⟩ rfl (Nat.le_of_ble_eq_true rfl) dX2_hasFlag_2 rfl ?_
  refine x_aload_n B (pc' := 6) 0 dX2_hasFlag_5 rfl rfl rfl ?_
  refine b_ref0 B (pc' := 9) wf_RX2_10 dX2_hasFlag_6 rfl ?_
  refine x_iload_n B (pc' := 10) 1 dX2_hasFlag_9 rfl rfl rfl ?_
  obtain ⟨r2, er2, h⟩ := bd_elim h
  refine b_nowRi B (pc' := 13) [.int p0] (k_X1_isFlagged _ _ _ (a 1) p0 S.2.1 er2) gv_RX2_78 rfl np_X1_isFlagged ⟨Nat.le_of_ble_eq_true rfl, Nat.le_of_ble_eq_true rfl⟩ ⟨by exact Nat.le_of_ble_eq_true rfl, by exact Nat.le_of_ble_eq_true rfl⟩ rfl (Nat.le_of_ble_eq_true rfl) dX2_hasFlag_10 rfl ?_
  obtain ⟨hz3, h⟩ := zb_elim h
  have h1 := Sum.inr.inj (Option.some.inj h)
  subst h1
  exact ret (zb_nar hz3) (by exact Nat.le_of_ble_eq_true rfl) (by exact Nat.le_of_ble_eq_true rfl) dX2_hasFlag_13
def f_X2_lost (p0 : Int32) (S : BO) : Option (String ⊕ Int32) :=
  bxr (f_X2_requireRecording p0 S) (fun (_ : Unit) => some (.inr (vAt 10 (S.2.1.2 6) p0)))
abbrev rm_X2_lost : Room := { frames := 2, cells := 0, slots := 0, locals := 42 }
theorem np_X2_lost : yX2_lost.cls ≠ "java/lang/invoke/MethodHandle" ∧ yX2_lost.cls ≠ "java/lang/invoke/VarHandle" ∧ (parseMethodDescriptor yX2_lost.desc).map (fun d => d.parameters.length) = some 1 := by decide +kernel
set_option maxHeartbeats 4000000 in
set_option maxRecDepth 100000 in
theorem k_X2_lost (l : Launch) (D : va_G) (cs : CS) (a : Nat → Nat → Nat) (p0 : Int32) (S : BO) {r9 : Int32} (h : f_X2_lost p0 S = some (.inr r9)) : MI l D cs yX2_lost cX2_lost 2 .int rm_X2_lost [.ref (a 0 0), .int p0] (wB cs a S) r9 (wB cs a S) := by
  refine MI_of (by decide) (Nat.le_of_ble_eq_true rfl) ?_
  rintro Γ rfl rfl rfl B ret
  show X Γ 2 0 0 0 [(0, .ref (a 0 0)), (1, .int p0)] [] (wB Γ.cs a S)
  unfold f_X2_lost at h
  refine x_aload_n B (pc' := 1) 0 dX2_lost_0 rfl rfl rfl ?_
  refine x_iload_n B (pc' := 2) 1 dX2_lost_1 rfl rfl rfl ?_
  obtain ⟨_, eo1, h⟩ := bxr_in h
  refine x_selfVv B (pc' := 5) [.int p0] (k_X2_requireRecording _ _ _ a p0 S eo1) rfl rfl gv_RX2_75 rfl np_X2_requireRecording ⟨Nat.le_of_ble_eq_true rfl, Nat.le_of_ble_eq_true rfl⟩ ⟨by exact Nat.le_of_ble_eq_true rfl, by exact Nat.le_of_ble_eq_true rfl⟩ rfl (Nat.le_of_ble_eq_true rfl) dX2_lost_2 rfl ?_
  refine x_aload_n B (pc' := 6) 0 dX2_lost_5 rfl rfl rfl ?_
  refine b_ref0 B (pc' := 9) wf_RX2_10 dX2_lost_6 rfl ?_
  refine bn_ref6 B (pc' := 12) wf_RX2_123 dX2_lost_9 rfl ?_
  refine x_iload_n B (pc' := 13) 1 dX2_lost_12 rfl rfl rfl ?_
  refine bn_vAt6 B (pc' := 16) ⟨Nat.le_of_ble_eq_true rfl, Nat.le_of_ble_eq_true rfl⟩ ⟨Nat.le_of_ble_eq_true rfl, Nat.le_of_ble_eq_true rfl⟩ (Nat.le_of_ble_eq_true rfl) rfl dX2_lost_13 rfl ?_
  have h1 := Sum.inr.inj (Option.some.inj h)
  subst h1
  exact ret rfl (by exact Nat.le_of_ble_eq_true rfl) (by exact Nat.le_of_ble_eq_true rfl) dX2_lost_16
def f_X2_owner (p0 : Int32) (S : BO) : Option (String ⊕ Int32) :=
  bxr (f_X2_requireCell p0) (fun (_ : Unit) => some (.inr (vAt 32 (S.2.1.2 0) p0)))
abbrev rm_X2_owner : Room := { frames := 1, cells := 0, slots := 0, locals := 22 }
theorem np_X2_owner : yX2_owner.cls ≠ "java/lang/invoke/MethodHandle" ∧ yX2_owner.cls ≠ "java/lang/invoke/VarHandle" ∧ (parseMethodDescriptor yX2_owner.desc).map (fun d => d.parameters.length) = some 1 := by decide +kernel
set_option maxHeartbeats 4000000 in
set_option maxRecDepth 100000 in
theorem k_X2_owner (l : Launch) (D : va_G) (cs : CS) (a : Nat → Nat → Nat) (p0 : Int32) (S : BO) {r9 : Int32} (h : f_X2_owner p0 S = some (.inr r9)) : MI l D cs yX2_owner cX2_owner 2 .int rm_X2_owner [.ref (a 0 0), .int p0] (wB cs a S) r9 (wB cs a S) := by
  refine MI_of (by decide) (Nat.le_of_ble_eq_true rfl) ?_
  rintro Γ rfl rfl rfl B ret
  show X Γ 2 0 0 0 [(0, .ref (a 0 0)), (1, .int p0)] [] (wB Γ.cs a S)
  unfold f_X2_owner at h
  refine x_iload_n B (pc' := 1) 1 dX2_owner_0 rfl rfl rfl ?_
  obtain ⟨_, eo1, h⟩ := bxr_in h
  refine x_pureSv B (pc' := 4) [.int p0] (k_X2_requireCell _ _ _ p0 eo1) gv_RX2_91 np_X2_requireCell ⟨Nat.le_of_ble_eq_true rfl, Nat.le_of_ble_eq_true rfl⟩ ⟨by exact Nat.le_of_ble_eq_true rfl, by exact Nat.le_of_ble_eq_true rfl⟩ rfl (Nat.le_of_ble_eq_true rfl) dX2_owner_1 rfl ?_
  refine x_aload_n B (pc' := 5) 0 dX2_owner_4 rfl rfl rfl ?_
  refine b_ref0 B (pc' := 8) wf_RX2_10 dX2_owner_5 rfl ?_
  refine bn_ref0 B (pc' := 11) wf_RX2_126 dX2_owner_8 rfl ?_
  refine x_iload_n B (pc' := 12) 1 dX2_owner_11 rfl rfl rfl ?_
  refine bn_vAt0 B (pc' := 15) ⟨Nat.le_of_ble_eq_true rfl, Nat.le_of_ble_eq_true rfl⟩ ⟨Nat.le_of_ble_eq_true rfl, Nat.le_of_ble_eq_true rfl⟩ (Nat.le_of_ble_eq_true rfl) rfl dX2_owner_12 rfl ?_
  have h1 := Sum.inr.inj (Option.some.inj h)
  subst h1
  exact ret rfl (by exact Nat.le_of_ble_eq_true rfl) (by exact Nat.le_of_ble_eq_true rfl) dX2_owner_15
def f_X2_go (p0 : Int32) (S : BO) : Option ((String ⊕ Int32) × BO) :=
  bxw S (f_X2_requireRecording p0 S) (fun (_ : Unit) => bd (f_X2_save S) (fun (S2 : BO) => bd (f_X1_bringPlayer p0 S2.2.1) (fun (S3 : OB) => nm (fun (S4 : BO) => bd (f_X1_cellCount p0 S4.2.1) (fun (r5 : Int32) => some (.inr r5, S4))) (S2.1, S3, S2.2.2))))
abbrev rm_X2_go : Room := { frames := 3, cells := 0, slots := 0, locals := 106 }
theorem np_X2_go : yX2_go.cls ≠ "java/lang/invoke/MethodHandle" ∧ yX2_go.cls ≠ "java/lang/invoke/VarHandle" ∧ (parseMethodDescriptor yX2_go.desc).map (fun d => d.parameters.length) = some 1 := by decide +kernel
set_option maxHeartbeats 4000000 in
set_option maxRecDepth 100000 in
theorem k_X2_go (l : Launch) (D : va_G) (cs : CS) (a : Nat → Nat → Nat) (p0 : Int32) (S : BO) {r9 : Int32} {S9 : BO} (h : f_X2_go p0 S = some (.inr r9, S9)) : MI l D cs yX2_go cX2_go 2 .int rm_X2_go [.ref (a 0 0), .int p0] (wB cs a S) r9 (wB cs a S9) := by
  refine MI_of (by decide) (Nat.le_of_ble_eq_true rfl) ?_
  rintro Γ rfl rfl rfl B ret
  show X Γ 2 0 0 0 [(0, .ref (a 0 0)), (1, .int p0)] [] (wB Γ.cs a S)
  unfold f_X2_go at h
  refine x_aload_n B (pc' := 1) 0 dX2_go_0 rfl rfl rfl ?_
  refine x_iload_n B (pc' := 2) 1 dX2_go_1 rfl rfl rfl ?_
  obtain ⟨_, eo1, h⟩ := bxw_in h
  refine x_selfVv B (pc' := 5) [.int p0] (k_X2_requireRecording _ _ _ a p0 S eo1) rfl rfl gv_RX2_75 rfl np_X2_requireRecording ⟨Nat.le_of_ble_eq_true rfl, Nat.le_of_ble_eq_true rfl⟩ ⟨by exact Nat.le_of_ble_eq_true rfl, by exact Nat.le_of_ble_eq_true rfl⟩ rfl (Nat.le_of_ble_eq_true rfl) dX2_go_2 rfl ?_
  refine x_aload_n B (pc' := 6) 0 dX2_go_5 rfl rfl rfl ?_
  obtain ⟨S2, eS2, h⟩ := bd_elim h
  refine x_selfVv B (pc' := 9) [] (k_X2_save _ _ _ a S eS2) rfl rfl gv_RX2_45 rfl np_X2_save ⟨Nat.le_of_ble_eq_true rfl, Nat.le_of_ble_eq_true rfl⟩ ⟨by exact Nat.le_of_ble_eq_true rfl, by exact Nat.le_of_ble_eq_true rfl⟩ rfl (Nat.le_of_ble_eq_true rfl) dX2_go_6 rfl ?_
  refine x_aload_n B (pc' := 10) 0 dX2_go_9 rfl rfl rfl ?_
  refine b_ref0 B (pc' := 13) wf_RX2_10 dX2_go_10 rfl ?_
  refine x_iload_n B (pc' := 14) 1 dX2_go_13 rfl rfl rfl ?_
  obtain ⟨S3, eS3, h⟩ := bd_elim h
  obtain ⟨S4, eS4, h⟩ := nm_elim h
  refine b_nowVv B (pc' := 17) [.int p0] (k_X1_bringPlayer _ _ _ (a 1) p0 S2.2.1 eS3) gv_RX2_140 rfl np_X1_bringPlayer ⟨Nat.le_of_ble_eq_true rfl, Nat.le_of_ble_eq_true rfl⟩ ⟨by exact Nat.le_of_ble_eq_true rfl, by exact Nat.le_of_ble_eq_true rfl⟩ rfl (Nat.le_of_ble_eq_true rfl) dX2_go_14 rfl ?_
  refine b_wd eS4 ?_
  refine x_aload_n B (pc' := 18) 0 dX2_go_17 rfl rfl rfl ?_
  refine b_ref0 B (pc' := 21) wf_RX2_10 dX2_go_18 rfl ?_
  refine x_iload_n B (pc' := 22) 1 dX2_go_21 rfl rfl rfl ?_
  obtain ⟨r5, er5, h⟩ := bd_elim h
  refine b_nowRi B (pc' := 25) [.int p0] (k_X1_cellCount _ _ _ (a 1) p0 S4.2.1 er5) gv_RX2_105 rfl np_X1_cellCount ⟨Nat.le_of_ble_eq_true rfl, Nat.le_of_ble_eq_true rfl⟩ ⟨by exact Nat.le_of_ble_eq_true rfl, by exact Nat.le_of_ble_eq_true rfl⟩ rfl (Nat.le_of_ble_eq_true rfl) dX2_go_22 rfl ?_
  obtain ⟨h1, h2⟩ := some2 h
  replace h1 := Sum.inr.inj h1
  subst h1
  subst h2
  exact ret rfl (by exact Nat.le_of_ble_eq_true rfl) (by exact Nat.le_of_ble_eq_true rfl) dX2_go_25
def f_X2_requirePlayer (S : BO) : Option (String ⊕ Unit) :=
  if (S.2.1.1 12) = ((-1) : Int32) then (some (.inl "java/lang/IllegalStateException")) else (some (.inr ()))
abbrev rm_X2_requirePlayer : Room := { frames := 0, cells := 0, slots := 0, locals := 0 }
theorem np_X2_requirePlayer : yX2_requirePlayer.cls ≠ "java/lang/invoke/MethodHandle" ∧ yX2_requirePlayer.cls ≠ "java/lang/invoke/VarHandle" ∧ (parseMethodDescriptor yX2_requirePlayer.desc).map (fun d => d.parameters.length) = some 0 := by decide +kernel
set_option maxHeartbeats 4000000 in
set_option maxRecDepth 100000 in
theorem k_X2_requirePlayer (l : Launch) (D : va_G) (cs : CS) (a : Nat → Nat → Nat) (S : BO) (h : f_X2_requirePlayer S = some (.inr ())) : MV l D cs yX2_requirePlayer cX2_requirePlayer 1 rm_X2_requirePlayer [.ref (a 0 0)] (wB cs a S) (wB cs a S) := by
  refine MV_of (by decide) (Nat.le_of_ble_eq_true rfl) ?_
  rintro Γ rfl rfl rfl B ret
  show X Γ 1 0 0 0 [(0, .ref (a 0 0))] [] (wB Γ.cs a S)
  unfold f_X2_requirePlayer at h
  refine x_aload_n B (pc' := 1) 0 dX2_requirePlayer_0 rfl rfl rfl ?_
  refine b_ref0 B (pc' := 4) wf_RX2_10 dX2_requirePlayer_1 rfl ?_
  refine bn_get12 B (pc' := 7) wf_RX2_157 dX2_requirePlayer_4 rfl ?_
  refine x_iconst B (pc' := 8) (-1) dX2_requirePlayer_7 (by decide) rfl ?_
  refine x_icmp_ne B 22 11 dX2_requirePlayer_8 (by decide) rfl (fun hc1 => ?_) (fun hc1 => ?_)
  · replace h := ite_f hc1 h
    exact ret (by exact Nat.le_of_ble_eq_true rfl) (by exact Nat.le_of_ble_eq_true rfl) dX2_requirePlayer_22
  · replace h := ite_t hc1 h
    cases h
def f_X2_play (S : BO) : Option ((String ⊕ Int32) × BO) :=
  bxw S (f_X2_requirePlayer S) (fun (_ : Unit) => bd (f_X2_save S) (fun (S2 : BO) => bd2 (f_X1_playCell S2.2.1) (fun (r5 : Int32) (S3 : OB) => nm (fun (S4 : BO) => some (.inr r5, S4)) (S2.1, S3, S2.2.2))))
abbrev rm_X2_play : Room := { frames := 3, cells := 0, slots := 0, locals := 106 }
theorem np_X2_play : yX2_play.cls ≠ "java/lang/invoke/MethodHandle" ∧ yX2_play.cls ≠ "java/lang/invoke/VarHandle" ∧ (parseMethodDescriptor yX2_play.desc).map (fun d => d.parameters.length) = some 0 := by decide +kernel
set_option maxHeartbeats 4000000 in
set_option maxRecDepth 100000 in
theorem k_X2_play (l : Launch) (D : va_G) (cs : CS) (a : Nat → Nat → Nat) (S : BO) {r9 : Int32} {S9 : BO} (h : f_X2_play S = some (.inr r9, S9)) : MI l D cs yX2_play cX2_play 1 .int rm_X2_play [.ref (a 0 0)] (wB cs a S) r9 (wB cs a S9) := by
  refine MI_of (by decide) (Nat.le_of_ble_eq_true rfl) ?_
  rintro Γ rfl rfl rfl B ret
  show X Γ 1 0 0 0 [(0, .ref (a 0 0))] [] (wB Γ.cs a S)
  unfold f_X2_play at h
  refine x_aload_n B (pc' := 1) 0 dX2_play_0 rfl rfl rfl ?_
  obtain ⟨_, eo1, h⟩ := bxw_in h
  refine x_selfVv B (pc' := 4) [] (k_X2_requirePlayer _ _ _ a S eo1) rfl rfl gv_RX2_143 rfl np_X2_requirePlayer ⟨Nat.le_of_ble_eq_true rfl, Nat.le_of_ble_eq_true rfl⟩ ⟨by exact Nat.le_of_ble_eq_true rfl, by exact Nat.le_of_ble_eq_true rfl⟩ rfl (Nat.le_of_ble_eq_true rfl) dX2_play_1 rfl ?_
  refine x_aload_n B (pc' := 5) 0 dX2_play_4 rfl rfl rfl ?_
  obtain ⟨S2, eS2, h⟩ := bd_elim h
  refine x_selfVv B (pc' := 8) [] (k_X2_save _ _ _ a S eS2) rfl rfl gv_RX2_45 rfl np_X2_save ⟨Nat.le_of_ble_eq_true rfl, Nat.le_of_ble_eq_true rfl⟩ ⟨by exact Nat.le_of_ble_eq_true rfl, by exact Nat.le_of_ble_eq_true rfl⟩ rfl (Nat.le_of_ble_eq_true rfl) dX2_play_5 rfl ?_
  refine x_aload_n B (pc' := 9) 0 dX2_play_8 rfl rfl rfl ?_
  refine b_ref0 B (pc' := 12) wf_RX2_10 dX2_play_9 rfl ?_
  obtain ⟨r5, S3, er5, h⟩ := bd2_elim h
  obtain ⟨S4, eS4, h⟩ := nm_elim h
  refine b_nowVi B (pc' := 15) [] (k_X1_playCell _ _ _ (a 1) S2.2.1 er5) gv_RX2_146 rfl np_X1_playCell ⟨Nat.le_of_ble_eq_true rfl, Nat.le_of_ble_eq_true rfl⟩ ⟨by exact Nat.le_of_ble_eq_true rfl, by exact Nat.le_of_ble_eq_true rfl⟩ rfl (Nat.le_of_ble_eq_true rfl) dX2_play_12 rfl ?_
  refine b_wd eS4 ?_
  obtain ⟨h1, h2⟩ := some2 h
  replace h1 := Sum.inr.inj h1
  subst h1
  subst h2
  exact ret rfl (by exact Nat.le_of_ble_eq_true rfl) (by exact Nat.le_of_ble_eq_true rfl) dX2_play_15
def c_X2_back_11 (S : BO) : Option ((String ⊕ Int32) × BO) :=
  some (.inl "java/lang/IllegalArgumentException", S)
def f_X2_back (p0 : Int32) (S : BO) : Option ((String ⊕ Int32) × BO) :=
  if p0 < (1 : Int32) then (c_X2_back_11 S) else (if p0 ≤ (9 : Int32) then (bxw S (f_X2_requirePlayer S) (fun (_ : Unit) => bd (f_X2_save S) (fun (S4 : BO) => bd2 (f_X1_stepBack p0 S4.2.1) (fun (r7 : Int32) (S5 : OB) => nm (fun (S6 : BO) => some (.inr r7, S6)) (S4.1, S5, S4.2.2))))) else (c_X2_back_11 S))
abbrev rm_X2_back : Room := { frames := 3, cells := 0, slots := 0, locals := 106 }
theorem np_X2_back : yX2_back.cls ≠ "java/lang/invoke/MethodHandle" ∧ yX2_back.cls ≠ "java/lang/invoke/VarHandle" ∧ (parseMethodDescriptor yX2_back.desc).map (fun d => d.parameters.length) = some 1 := by decide +kernel
set_option maxHeartbeats 4000000 in
set_option maxRecDepth 100000 in
theorem k_X2_back (l : Launch) (D : va_G) (cs : CS) (a : Nat → Nat → Nat) (p0 : Int32) (S : BO) {r9 : Int32} {S9 : BO} (h : f_X2_back p0 S = some (.inr r9, S9)) : MI l D cs yX2_back cX2_back 2 .int rm_X2_back [.ref (a 0 0), .int p0] (wB cs a S) r9 (wB cs a S9) := by
  refine MI_of (by decide) (Nat.le_of_ble_eq_true rfl) ?_
  rintro Γ rfl rfl rfl B ret
  show X Γ 2 0 0 0 [(0, .ref (a 0 0)), (1, .int p0)] [] (wB Γ.cs a S)
  have h11 : ∀ (S : BO), c_X2_back_11  S = some (.inr r9, S9) → X Γ 2 0 0 11 [] [] (wB Γ.cs a S) := by
    intro  S h
    unfold c_X2_back_11 at h
    cases h
  unfold f_X2_back at h
  refine x_iload_n B (pc' := 1) 1 dX2_back_0 rfl rfl rfl ?_
  refine x_iconst B (pc' := 2) 1 dX2_back_1 (by decide) rfl ?_
  refine x_icmp_lt B 11 5 dX2_back_2 (by decide) rfl (fun hc1 => ?_) (fun hc1 => ?_)
  · replace h := ite_t hc1 h
    refine x_lv [] (lv' := []) rfl ?_
    exact h11  _ h
  · replace h := ite_f hc1 h
    refine x_iload_n B (pc' := 6) 1 dX2_back_5 rfl rfl rfl ?_
    refine x_bipush B (pc' := 8) 9 dX2_back_6 (by decide) rfl ?_
    refine x_icmp_le B 21 11 dX2_back_8 (by decide) rfl (fun hc2 => ?_) (fun hc2 => ?_)
    · replace h := ite_t hc2 h
      refine x_aload_n B (pc' := 22) 0 dX2_back_21 rfl rfl rfl ?_
      obtain ⟨_, eo3, h⟩ := bxw_in h
      refine x_selfVv B (pc' := 25) [] (k_X2_requirePlayer _ _ _ a S eo3) rfl rfl gv_RX2_143 rfl np_X2_requirePlayer ⟨Nat.le_of_ble_eq_true rfl, Nat.le_of_ble_eq_true rfl⟩ ⟨by exact Nat.le_of_ble_eq_true rfl, by exact Nat.le_of_ble_eq_true rfl⟩ rfl (Nat.le_of_ble_eq_true rfl) dX2_back_22 rfl ?_
      refine x_aload_n B (pc' := 26) 0 dX2_back_25 rfl rfl rfl ?_
      obtain ⟨S4, eS4, h⟩ := bd_elim h
      refine x_selfVv B (pc' := 29) [] (k_X2_save _ _ _ a S eS4) rfl rfl gv_RX2_45 rfl np_X2_save ⟨Nat.le_of_ble_eq_true rfl, Nat.le_of_ble_eq_true rfl⟩ ⟨by exact Nat.le_of_ble_eq_true rfl, by exact Nat.le_of_ble_eq_true rfl⟩ rfl (Nat.le_of_ble_eq_true rfl) dX2_back_26 rfl ?_
      refine x_aload_n B (pc' := 30) 0 dX2_back_29 rfl rfl rfl ?_
      refine b_ref0 B (pc' := 33) wf_RX2_10 dX2_back_30 rfl ?_
      refine x_iload_n B (pc' := 34) 1 dX2_back_33 rfl rfl rfl ?_
      obtain ⟨r7, S5, er7, h⟩ := bd2_elim h
      obtain ⟨S6, eS6, h⟩ := nm_elim h
      refine b_nowVi B (pc' := 37) [.int p0] (k_X1_stepBack _ _ _ (a 1) p0 S4.2.1 er7) gv_RX2_154 rfl np_X1_stepBack ⟨Nat.le_of_ble_eq_true rfl, Nat.le_of_ble_eq_true rfl⟩ ⟨by exact Nat.le_of_ble_eq_true rfl, by exact Nat.le_of_ble_eq_true rfl⟩ rfl (Nat.le_of_ble_eq_true rfl) dX2_back_34 rfl ?_
      refine b_wd eS6 ?_
      obtain ⟨h1, h2⟩ := some2 h
      replace h1 := Sum.inr.inj h1
      subst h1
      subst h2
      exact ret rfl (by exact Nat.le_of_ble_eq_true rfl) (by exact Nat.le_of_ble_eq_true rfl) dX2_back_37
    · replace h := ite_f hc2 h
      refine x_lv [] (lv' := []) rfl ?_
      exact h11  _ h
def f_X2_correct (p0 : Int32) (p1 : Int32) (p2 : Int32) (S : BO) : Option ((String ⊕ Int32) × BO) :=
  bxw S (f_X2_requirePlace p0 p1 S) (fun (_ : Unit) => bd (f_X1_cellAt p0 p1 S.2.1) (fun (r2 : Int32) => bxw S (f_X2_requireCell r2) (fun (_ : Unit) => bxw S (f_X2_requireSound p2) (fun (_ : Unit) => bd (f_X1_isFlagged p0 S.2.1) (fun (r5 : Int32) => if r5 = 0 then (bd (f_X2_save S) (fun (S7 : BO) => nm (fun (v8 : Int32) => nm (fun (S9 : BO) => some (.inr v8, S9)) (S7.1, (S7.2.1.1, up2 S7.2.1.2 1 (pAt 32 (S7.2.1.2 1) r2 p2)), S7.2.2)) (vAt 32 (S7.2.1.2 1) r2))) else (some (.inl "java/lang/IllegalStateException", S)))))))
abbrev rm_X2_correct : Room := { frames := 3, cells := 0, slots := 0, locals := 106 }
theorem np_X2_correct : yX2_correct.cls ≠ "java/lang/invoke/MethodHandle" ∧ yX2_correct.cls ≠ "java/lang/invoke/VarHandle" ∧ (parseMethodDescriptor yX2_correct.desc).map (fun d => d.parameters.length) = some 3 := by decide +kernel
set_option maxHeartbeats 4000000 in
set_option maxRecDepth 100000 in
theorem k_X2_correct (l : Launch) (D : va_G) (cs : CS) (a : Nat → Nat → Nat) (p0 : Int32) (p1 : Int32) (p2 : Int32) (S : BO) {r9 : Int32} {S9 : BO} (h : f_X2_correct p0 p1 p2 S = some (.inr r9, S9)) : MI l D cs yX2_correct cX2_correct 6 .int rm_X2_correct [.ref (a 0 0), .int p0, .int p1, .int p2] (wB cs a S) r9 (wB cs a S9) := by
  refine MI_of (by decide) (Nat.le_of_ble_eq_true rfl) ?_
  rintro Γ rfl rfl rfl B ret
  show X Γ 6 0 0 0 [(0, .ref (a 0 0)), (1, .int p0), (2, .int p1), (3, .int p2)] [] (wB Γ.cs a S)
  unfold f_X2_correct at h
  refine x_aload_n B (pc' := 1) 0 dX2_correct_0 rfl rfl rfl ?_
  refine x_iload_n B (pc' := 2) 1 dX2_correct_1 rfl rfl rfl ?_
  refine x_iload_n B (pc' := 3) 2 dX2_correct_2 rfl rfl rfl ?_
  obtain ⟨_, eo1, h⟩ := bxw_in h
  refine x_selfVv B (pc' := 6) [.int p0, .int p1] (k_X2_requirePlace _ _ _ a p0 p1 S eo1) rfl rfl gv_RX2_108 rfl np_X2_requirePlace ⟨Nat.le_of_ble_eq_true rfl, Nat.le_of_ble_eq_true rfl⟩ ⟨by exact Nat.le_of_ble_eq_true rfl, by exact Nat.le_of_ble_eq_true rfl⟩ rfl (Nat.le_of_ble_eq_true rfl) dX2_correct_3 rfl ?_
  refine x_aload_n B (pc' := 7) 0 dX2_correct_6 rfl rfl rfl ?_
  refine b_ref0 B (pc' := 10) wf_RX2_10 dX2_correct_7 rfl ?_
  refine x_iload_n B (pc' := 11) 1 dX2_correct_10 rfl rfl rfl ?_
  refine x_iload_n B (pc' := 12) 2 dX2_correct_11 rfl rfl rfl ?_
  obtain ⟨r2, er2, h⟩ := bd_elim h
  refine b_nowRi B (pc' := 15) [.int p0, .int p1] (k_X1_cellAt _ _ _ (a 1) p0 p1 S.2.1 er2) gv_RX2_116 rfl np_X1_cellAt ⟨Nat.le_of_ble_eq_true rfl, Nat.le_of_ble_eq_true rfl⟩ ⟨by exact Nat.le_of_ble_eq_true rfl, by exact Nat.le_of_ble_eq_true rfl⟩ rfl (Nat.le_of_ble_eq_true rfl) dX2_correct_12 rfl ?_
  refine x_istore B (pc' := 17) [1, 2, 3, 4, 0] [(0, .ref (a 0 0)), (1, .int p0), (2, .int p1), (3, .int p2), (4, .int r2)] dX2_correct_15 (by decide) rfl rfl ?_
  refine x_iload B (pc' := 19) 4 dX2_correct_17 rfl rfl ?_
  obtain ⟨_, eo3, h⟩ := bxw_in h
  refine x_pureSv B (pc' := 22) [.int r2] (k_X2_requireCell _ _ _ r2 eo3) gv_RX2_91 np_X2_requireCell ⟨Nat.le_of_ble_eq_true rfl, Nat.le_of_ble_eq_true rfl⟩ ⟨by exact Nat.le_of_ble_eq_true rfl, by exact Nat.le_of_ble_eq_true rfl⟩ rfl (Nat.le_of_ble_eq_true rfl) dX2_correct_19 rfl ?_
  refine x_iload_n B (pc' := 23) 3 dX2_correct_22 rfl rfl rfl ?_
  obtain ⟨_, eo4, h⟩ := bxw_in h
  refine x_pureSv B (pc' := 26) [.int p2] (k_X2_requireSound _ _ _ p2 eo4) gv_RX2_61 np_X2_requireSound ⟨Nat.le_of_ble_eq_true rfl, Nat.le_of_ble_eq_true rfl⟩ ⟨by exact Nat.le_of_ble_eq_true rfl, by exact Nat.le_of_ble_eq_true rfl⟩ rfl (Nat.le_of_ble_eq_true rfl) dX2_correct_23 rfl ?_
  refine x_aload_n B (pc' := 27) 0 dX2_correct_26 rfl rfl rfl ?_
  refine b_ref0 B (pc' := 30) wf_RX2_10 dX2_correct_27 rfl ?_
  refine x_iload_n B (pc' := 31) 1 dX2_correct_30 rfl rfl rfl ?_
  obtain ⟨r5, er5, h⟩ := bd_elim h
  refine b_nowRi B (pc' := 34) [.int p0] (k_X1_isFlagged _ _ _ (a 1) p0 S.2.1 er5) gv_RX2_78 rfl np_X1_isFlagged ⟨Nat.le_of_ble_eq_true rfl, Nat.le_of_ble_eq_true rfl⟩ ⟨by exact Nat.le_of_ble_eq_true rfl, by exact Nat.le_of_ble_eq_true rfl⟩ rfl (Nat.le_of_ble_eq_true rfl) dX2_correct_31 rfl ?_
  refine x_if_eq B 47 37 dX2_correct_34 (by decide) rfl (fun hc6 => ?_) (fun hc6 => ?_)
  · replace h := ite_t hc6 h
    refine x_aload_n B (pc' := 48) 0 dX2_correct_47 rfl rfl rfl ?_
    obtain ⟨S7, eS7, h⟩ := bd_elim h
    refine x_selfVv B (pc' := 51) [] (k_X2_save _ _ _ a S eS7) rfl rfl gv_RX2_45 rfl np_X2_save ⟨Nat.le_of_ble_eq_true rfl, Nat.le_of_ble_eq_true rfl⟩ ⟨by exact Nat.le_of_ble_eq_true rfl, by exact Nat.le_of_ble_eq_true rfl⟩ rfl (Nat.le_of_ble_eq_true rfl) dX2_correct_48 rfl ?_
    refine x_aload_n B (pc' := 52) 0 dX2_correct_51 rfl rfl rfl ?_
    refine b_ref0 B (pc' := 55) wf_RX2_10 dX2_correct_52 rfl ?_
    refine bn_ref1 B (pc' := 58) wf_RX2_112 dX2_correct_55 rfl ?_
    refine x_iload B (pc' := 60) 4 dX2_correct_58 rfl rfl ?_
    refine bn_vAt1 B (pc' := 63) ⟨Nat.le_of_ble_eq_true rfl, Nat.le_of_ble_eq_true rfl⟩ ⟨Nat.le_of_ble_eq_true rfl, Nat.le_of_ble_eq_true rfl⟩ (Nat.le_of_ble_eq_true rfl) rfl dX2_correct_60 rfl ?_
    obtain ⟨v8, ev8, h⟩ := nm_elim h
    refine x_topi ev8 ?_
    refine x_istore B (pc' := 65) [1, 2, 3, 4, 5, 0] [(0, .ref (a 0 0)), (1, .int p0), (2, .int p1), (3, .int p2), (4, .int r2), (5, .int v8)] dX2_correct_63 (by decide) rfl rfl ?_
    refine x_aload_n B (pc' := 66) 0 dX2_correct_65 rfl rfl rfl ?_
    refine b_ref0 B (pc' := 69) wf_RX2_10 dX2_correct_66 rfl ?_
    refine bn_ref1 B (pc' := 72) wf_RX2_112 dX2_correct_69 rfl ?_
    refine x_iload B (pc' := 74) 4 dX2_correct_72 rfl rfl ?_
    refine x_iload_n B (pc' := 75) 3 dX2_correct_74 rfl rfl rfl ?_
    obtain ⟨S9, eS9, h⟩ := nm_elim h
    refine bn_pAt1 B (pc' := 78) ⟨Nat.le_of_ble_eq_true rfl, Nat.le_of_ble_eq_true rfl⟩ ⟨Nat.le_of_ble_eq_true rfl, Nat.le_of_ble_eq_true rfl⟩ (Nat.le_of_ble_eq_true rfl) rfl dX2_correct_75 rfl ?_
    refine b_wd eS9 ?_
    refine x_iload B (pc' := 80) 5 dX2_correct_78 rfl rfl ?_
    obtain ⟨h1, h2⟩ := some2 h
    replace h1 := Sum.inr.inj h1
    subst h1
    subst h2
    exact ret rfl (by exact Nat.le_of_ble_eq_true rfl) (by exact Nat.le_of_ble_eq_true rfl) dX2_correct_80
  · replace h := ite_f hc6 h
    cases h
def f_X2_carbon (p0 : Int32) (p1 : Int32) (S : BO) : Option (String ⊕ Int32) :=
  bxr (f_X2_requirePlace p0 p1 S) (fun (_ : Unit) => bd (f_X1_cellAt p0 p1 S.2.1) (fun (r2 : Int32) => some (.inr (vAt 32 (S.2.1.2 2) r2))))
abbrev rm_X2_carbon : Room := { frames := 2, cells := 0, slots := 0, locals := 47 }
theorem np_X2_carbon : yX2_carbon.cls ≠ "java/lang/invoke/MethodHandle" ∧ yX2_carbon.cls ≠ "java/lang/invoke/VarHandle" ∧ (parseMethodDescriptor yX2_carbon.desc).map (fun d => d.parameters.length) = some 2 := by decide +kernel
set_option maxHeartbeats 4000000 in
set_option maxRecDepth 100000 in
theorem k_X2_carbon (l : Launch) (D : va_G) (cs : CS) (a : Nat → Nat → Nat) (p0 : Int32) (p1 : Int32) (S : BO) {r9 : Int32} (h : f_X2_carbon p0 p1 S = some (.inr r9)) : MI l D cs yX2_carbon cX2_carbon 3 .int rm_X2_carbon [.ref (a 0 0), .int p0, .int p1] (wB cs a S) r9 (wB cs a S) := by
  refine MI_of (by decide) (Nat.le_of_ble_eq_true rfl) ?_
  rintro Γ rfl rfl rfl B ret
  show X Γ 3 0 0 0 [(0, .ref (a 0 0)), (1, .int p0), (2, .int p1)] [] (wB Γ.cs a S)
  unfold f_X2_carbon at h
  refine x_aload_n B (pc' := 1) 0 dX2_carbon_0 rfl rfl rfl ?_
  refine x_iload_n B (pc' := 2) 1 dX2_carbon_1 rfl rfl rfl ?_
  refine x_iload_n B (pc' := 3) 2 dX2_carbon_2 rfl rfl rfl ?_
  obtain ⟨_, eo1, h⟩ := bxr_in h
  refine x_selfVv B (pc' := 6) [.int p0, .int p1] (k_X2_requirePlace _ _ _ a p0 p1 S eo1) rfl rfl gv_RX2_108 rfl np_X2_requirePlace ⟨Nat.le_of_ble_eq_true rfl, Nat.le_of_ble_eq_true rfl⟩ ⟨by exact Nat.le_of_ble_eq_true rfl, by exact Nat.le_of_ble_eq_true rfl⟩ rfl (Nat.le_of_ble_eq_true rfl) dX2_carbon_3 rfl ?_
  refine x_aload_n B (pc' := 7) 0 dX2_carbon_6 rfl rfl rfl ?_
  refine b_ref0 B (pc' := 10) wf_RX2_10 dX2_carbon_7 rfl ?_
  refine bn_ref2 B (pc' := 13) wf_RX2_167 dX2_carbon_10 rfl ?_
  refine x_aload_n B (pc' := 14) 0 dX2_carbon_13 rfl rfl rfl ?_
  refine b_ref0 B (pc' := 17) wf_RX2_10 dX2_carbon_14 rfl ?_
  refine x_iload_n B (pc' := 18) 1 dX2_carbon_17 rfl rfl rfl ?_
  refine x_iload_n B (pc' := 19) 2 dX2_carbon_18 rfl rfl rfl ?_
  obtain ⟨r2, er2, h⟩ := bd_elim h
  refine b_nowRi B (pc' := 22) [.int p0, .int p1] (k_X1_cellAt _ _ _ (a 1) p0 p1 S.2.1 er2) gv_RX2_116 rfl np_X1_cellAt ⟨Nat.le_of_ble_eq_true rfl, Nat.le_of_ble_eq_true rfl⟩ ⟨by exact Nat.le_of_ble_eq_true rfl, by exact Nat.le_of_ble_eq_true rfl⟩ rfl (Nat.le_of_ble_eq_true rfl) dX2_carbon_19 rfl ?_
  refine bn_vAt2 B (pc' := 25) ⟨Nat.le_of_ble_eq_true rfl, Nat.le_of_ble_eq_true rfl⟩ ⟨Nat.le_of_ble_eq_true rfl, Nat.le_of_ble_eq_true rfl⟩ (Nat.le_of_ble_eq_true rfl) rfl dX2_carbon_22 rfl ?_
  have h1 := Sum.inr.inj (Option.some.inj h)
  subst h1
  exact ret rfl (by exact Nat.le_of_ble_eq_true rfl) (by exact Nat.le_of_ble_eq_true rfl) dX2_carbon_25
def c_X2_requireForecast_11 : Option (String ⊕ Unit) :=
  some (.inl "java/lang/IllegalArgumentException")
def f_X2_requireForecast (p0 : Int32) : Option (String ⊕ Unit) :=
  if p0 < (1 : Int32) then (c_X2_requireForecast_11 ) else (if p0 ≤ (32 : Int32) then (some (.inr ())) else (c_X2_requireForecast_11 ))
abbrev rm_X2_requireForecast : Room := { frames := 0, cells := 0, slots := 0, locals := 0 }
theorem np_X2_requireForecast : yX2_requireForecast.cls ≠ "java/lang/invoke/MethodHandle" ∧ yX2_requireForecast.cls ≠ "java/lang/invoke/VarHandle" ∧ (parseMethodDescriptor yX2_requireForecast.desc).map (fun d => d.parameters.length) = some 1 := by decide +kernel
set_option maxHeartbeats 4000000 in
set_option maxRecDepth 100000 in
theorem k_X2_requireForecast (l : Launch) (D : va_G) (cs : CS)  (p0 : Int32) (h : f_X2_requireForecast p0 = some (.inr ())) : MV l D cs yX2_requireForecast cX2_requireForecast 1 rm_X2_requireForecast [.int p0] ([]) ([]) := by
  refine MV_of (by decide) (Nat.le_of_ble_eq_true rfl) ?_
  rintro Γ rfl rfl rfl B ret
  show X Γ 1 0 0 0 [(0, .int p0)] [] ([])
  have h11 : c_X2_requireForecast_11   = some (.inr ()) → X Γ 1 0 0 11 [] [] ([]) := by
    intro   h
    unfold c_X2_requireForecast_11 at h
    cases h
  unfold f_X2_requireForecast at h
  refine x_iload_n B (pc' := 1) 0 dX2_requireForecast_0 rfl rfl rfl ?_
  refine x_iconst B (pc' := 2) 1 dX2_requireForecast_1 (by decide) rfl ?_
  refine x_icmp_lt B 11 5 dX2_requireForecast_2 (by decide) rfl (fun hc1 => ?_) (fun hc1 => ?_)
  · replace h := ite_t hc1 h
    refine x_lv [] (lv' := []) rfl ?_
    exact h11   h
  · replace h := ite_f hc1 h
    refine x_iload_n B (pc' := 6) 0 dX2_requireForecast_5 rfl rfl rfl ?_
    refine x_bipush B (pc' := 8) 32 dX2_requireForecast_6 (by decide) rfl ?_
    refine x_icmp_le B 22 11 dX2_requireForecast_8 (by decide) rfl (fun hc2 => ?_) (fun hc2 => ?_)
    · replace h := ite_t hc2 h
      exact ret (by exact Nat.le_of_ble_eq_true rfl) (by exact Nat.le_of_ble_eq_true rfl) dX2_requireForecast_22
    · replace h := ite_f hc2 h
      refine x_lv [] (lv' := []) rfl ?_
      exact h11   h
def f_X2_lossOf (p0 : Int32) (p1 : Int32) (S : BO) : Option (String ⊕ Int32) :=
  bxr (f_X2_requireRecording p0 S) (fun (_ : Unit) => bxr (f_X2_requireForecast p1) (fun (_ : Unit) => bd (f_X1_lossAfter p0 p1 S.2.1) (fun (r3 : Int32) => some (.inr r3))))
abbrev rm_X2_lossOf : Room := { frames := 3, cells := 0, slots := 0, locals := 70 }
theorem np_X2_lossOf : yX2_lossOf.cls ≠ "java/lang/invoke/MethodHandle" ∧ yX2_lossOf.cls ≠ "java/lang/invoke/VarHandle" ∧ (parseMethodDescriptor yX2_lossOf.desc).map (fun d => d.parameters.length) = some 2 := by decide +kernel
set_option maxHeartbeats 4000000 in
set_option maxRecDepth 100000 in
theorem k_X2_lossOf (l : Launch) (D : va_G) (cs : CS) (a : Nat → Nat → Nat) (p0 : Int32) (p1 : Int32) (S : BO) {r9 : Int32} (h : f_X2_lossOf p0 p1 S = some (.inr r9)) : MI l D cs yX2_lossOf cX2_lossOf 3 .int rm_X2_lossOf [.ref (a 0 0), .int p0, .int p1] (wB cs a S) r9 (wB cs a S) := by
  refine MI_of (by decide) (Nat.le_of_ble_eq_true rfl) ?_
  rintro Γ rfl rfl rfl B ret
  show X Γ 3 0 0 0 [(0, .ref (a 0 0)), (1, .int p0), (2, .int p1)] [] (wB Γ.cs a S)
  unfold f_X2_lossOf at h
  refine x_aload_n B (pc' := 1) 0 dX2_lossOf_0 rfl rfl rfl ?_
  refine x_iload_n B (pc' := 2) 1 dX2_lossOf_1 rfl rfl rfl ?_
  obtain ⟨_, eo1, h⟩ := bxr_in h
  refine x_selfVv B (pc' := 5) [.int p0] (k_X2_requireRecording _ _ _ a p0 S eo1) rfl rfl gv_RX2_75 rfl np_X2_requireRecording ⟨Nat.le_of_ble_eq_true rfl, Nat.le_of_ble_eq_true rfl⟩ ⟨by exact Nat.le_of_ble_eq_true rfl, by exact Nat.le_of_ble_eq_true rfl⟩ rfl (Nat.le_of_ble_eq_true rfl) dX2_lossOf_2 rfl ?_
  refine x_iload_n B (pc' := 6) 2 dX2_lossOf_5 rfl rfl rfl ?_
  obtain ⟨_, eo2, h⟩ := bxr_in h
  refine x_pureSv B (pc' := 9) [.int p1] (k_X2_requireForecast _ _ _ p1 eo2) gv_RX2_179 np_X2_requireForecast ⟨Nat.le_of_ble_eq_true rfl, Nat.le_of_ble_eq_true rfl⟩ ⟨by exact Nat.le_of_ble_eq_true rfl, by exact Nat.le_of_ble_eq_true rfl⟩ rfl (Nat.le_of_ble_eq_true rfl) dX2_lossOf_6 rfl ?_
  refine x_aload_n B (pc' := 10) 0 dX2_lossOf_9 rfl rfl rfl ?_
  refine b_ref0 B (pc' := 13) wf_RX2_10 dX2_lossOf_10 rfl ?_
  refine x_iload_n B (pc' := 14) 1 dX2_lossOf_13 rfl rfl rfl ?_
  refine x_iload_n B (pc' := 15) 2 dX2_lossOf_14 rfl rfl rfl ?_
  obtain ⟨r3, er3, h⟩ := bd_elim h
  refine b_nowRi B (pc' := 18) [.int p0, .int p1] (k_X1_lossAfter _ _ _ (a 1) p0 p1 S.2.1 er3) gv_RX2_182 rfl np_X1_lossAfter ⟨Nat.le_of_ble_eq_true rfl, Nat.le_of_ble_eq_true rfl⟩ ⟨by exact Nat.le_of_ble_eq_true rfl, by exact Nat.le_of_ble_eq_true rfl⟩ rfl (Nat.le_of_ble_eq_true rfl) dX2_lossOf_15 rfl ?_
  have h1 := Sum.inr.inj (Option.some.inj h)
  subst h1
  exact ret rfl (by exact Nat.le_of_ble_eq_true rfl) (by exact Nat.le_of_ble_eq_true rfl) dX2_lossOf_18
def b_X2_goneAfter_8 (S : BO) (K8 : Int32 → Int32 → Int32 → Option (String ⊕ Int32)) (x1 : Int32) (x2 : Int32) (x3 : Int32) : Option (String ⊕ Int32) :=
  if (S.2.1.1 7) ≤ x3 then (some (.inr x2)) else (bd (f_X1_lossAfter x3 x1 S.2.1) (fun (r3 : Int32) => if r3 ≤ 0 then (nm (fun (v5 : Int32) => K8 x1 x2 v5) (x3 + 1)) else (bd (f_X1_cellCount x3 S.2.1) (fun (r6 : Int32) => if r3 = r6 then (nm (fun (v9 : Int32) => nm (fun (v10 : Int32) => K8 x1 v9 v10) (x3 + 1)) (x2 + 1)) else (nm (fun (v8 : Int32) => K8 x1 x2 v8) (x3 + 1))))))
def f_X2_goneAfter (p0 : Int32) (S : BO) : Option (String ⊕ Int32) :=
  bxr (f_X2_requireForecast p0) (fun (_ : Unit) => lpf3 (b_X2_goneAfter_8 S) FU p0 (0 : Int32) (0 : Int32))
abbrev rm_X2_goneAfter : Room := { frames := 3, cells := 0, slots := 0, locals := 70 }
theorem np_X2_goneAfter : yX2_goneAfter.cls ≠ "java/lang/invoke/MethodHandle" ∧ yX2_goneAfter.cls ≠ "java/lang/invoke/VarHandle" ∧ (parseMethodDescriptor yX2_goneAfter.desc).map (fun d => d.parameters.length) = some 1 := by decide +kernel
set_option maxHeartbeats 4000000 in
set_option maxRecDepth 100000 in
theorem k_X2_goneAfter (l : Launch) (D : va_G) (cs : CS) (a : Nat → Nat → Nat) (p0 : Int32) (S : BO) {r9 : Int32} (h : f_X2_goneAfter p0 S = some (.inr r9)) : MI l D cs yX2_goneAfter cX2_goneAfter 5 .int rm_X2_goneAfter [.ref (a 0 0), .int p0] (wB cs a S) r9 (wB cs a S) := by
  refine MI_of (by decide) (Nat.le_of_ble_eq_true rfl) ?_
  rintro Γ rfl rfl rfl B ret
  show X Γ 5 0 0 0 [(0, .ref (a 0 0)), (1, .int p0)] [] (wB Γ.cs a S)
  have h8 : ∀ (n9 : Nat) (x1 : Int32) (x2 : Int32) (x3 : Int32), lpf3 (b_X2_goneAfter_8 S) n9 x1 x2 x3 = some (.inr r9) → X Γ 5 0 0 8 [(0, .ref (a 0 0)), (1, .int x1), (2, .int x2), (3, .int x3)] [] (wB Γ.cs a S) := by
    refine lpf3_ind (fun K8 hK8 x1 x2 x3 h => ?_)
    unfold b_X2_goneAfter_8 at h
    refine x_iload_n B (pc' := 9) 3 dX2_goneAfter_8 rfl rfl rfl ?_
    refine x_aload_n B (pc' := 10) 0 dX2_goneAfter_9 rfl rfl rfl ?_
    refine b_ref0 B (pc' := 13) wf_RX2_10 dX2_goneAfter_10 rfl ?_
    refine bn_get7 B (pc' := 16) wf_RX2_99 dX2_goneAfter_13 rfl ?_
    refine x_icmp_ge B 57 19 dX2_goneAfter_16 (by decide) rfl (fun hc2 => ?_) (fun hc2 => ?_)
    · replace h := ite_t hc2 h
      refine x_iload_n B (pc' := 58) 2 dX2_goneAfter_57 rfl rfl rfl ?_
      have h1 := Sum.inr.inj (Option.some.inj h)
      subst h1
      exact ret rfl (by exact Nat.le_of_ble_eq_true rfl) (by exact Nat.le_of_ble_eq_true rfl) dX2_goneAfter_58
    · replace h := ite_f hc2 h
      refine x_aload_n B (pc' := 20) 0 dX2_goneAfter_19 rfl rfl rfl ?_
      refine b_ref0 B (pc' := 23) wf_RX2_10 dX2_goneAfter_20 rfl ?_
      refine x_iload_n B (pc' := 24) 3 dX2_goneAfter_23 rfl rfl rfl ?_
      refine x_iload_n B (pc' := 25) 1 dX2_goneAfter_24 rfl rfl rfl ?_
      obtain ⟨r3, er3, h⟩ := bd_elim h
      refine b_nowRi B (pc' := 28) [.int x3, .int x1] (k_X1_lossAfter _ _ _ (a 1) x3 x1 S.2.1 er3) gv_RX2_182 rfl np_X1_lossAfter ⟨Nat.le_of_ble_eq_true rfl, Nat.le_of_ble_eq_true rfl⟩ ⟨by exact Nat.le_of_ble_eq_true rfl, by exact Nat.le_of_ble_eq_true rfl⟩ rfl (Nat.le_of_ble_eq_true rfl) dX2_goneAfter_25 rfl ?_
      refine x_istore B (pc' := 30) [1, 2, 3, 4, 0] [(0, .ref (a 0 0)), (1, .int x1), (2, .int x2), (3, .int x3), (4, .int r3)] dX2_goneAfter_28 (by decide) rfl rfl ?_
      refine x_iload B (pc' := 32) 4 dX2_goneAfter_30 rfl rfl ?_
      refine x_if_le B 51 35 dX2_goneAfter_32 (by decide) rfl (fun hc4 => ?_) (fun hc4 => ?_)
      · replace h := ite_t hc4 h
        obtain ⟨v5, ev5, h⟩ := nm_elim h
        refine x_iinc B (pc' := 54) v5 3 [1, 2, 3, 0, 4] [(0, .ref (a 0 0)), (1, .int x1), (2, .int x2), (3, .int v5), (4, .int r3)] dX2_goneAfter_51 rfl (by rw [ev5]; rfl) (by decide) rfl rfl ?_
        refine x_goto B (pc' := 8) dX2_goneAfter_54 (by decide) ?_
        refine x_lv [0, 1, 2, 3] (lv' := [(0, .ref (a 0 0)), (1, .int x1), (2, .int x2), (3, .int v5)]) rfl ?_
        exact hK8 _ _ _ h
      · replace h := ite_f hc4 h
        refine x_iload B (pc' := 37) 4 dX2_goneAfter_35 rfl rfl ?_
        refine x_aload_n B (pc' := 38) 0 dX2_goneAfter_37 rfl rfl rfl ?_
        refine b_ref0 B (pc' := 41) wf_RX2_10 dX2_goneAfter_38 rfl ?_
        refine x_iload_n B (pc' := 42) 3 dX2_goneAfter_41 rfl rfl rfl ?_
        obtain ⟨r6, er6, h⟩ := bd_elim h
        refine b_nowRi B (pc' := 45) [.int x3] (k_X1_cellCount _ _ _ (a 1) x3 S.2.1 er6) gv_RX2_105 rfl np_X1_cellCount ⟨Nat.le_of_ble_eq_true rfl, Nat.le_of_ble_eq_true rfl⟩ ⟨by exact Nat.le_of_ble_eq_true rfl, by exact Nat.le_of_ble_eq_true rfl⟩ rfl (Nat.le_of_ble_eq_true rfl) dX2_goneAfter_42 rfl ?_
        refine x_icmp_ne B 51 48 dX2_goneAfter_45 (by decide) rfl (fun hc7 => ?_) (fun hc7 => ?_)
        · replace h := ite_f hc7 h
          obtain ⟨v8, ev8, h⟩ := nm_elim h
          refine x_iinc B (pc' := 54) v8 3 [1, 2, 3, 0, 4] [(0, .ref (a 0 0)), (1, .int x1), (2, .int x2), (3, .int v8), (4, .int r3)] dX2_goneAfter_51 rfl (by rw [ev8]; rfl) (by decide) rfl rfl ?_
          refine x_goto B (pc' := 8) dX2_goneAfter_54 (by decide) ?_
          refine x_lv [0, 1, 2, 3] (lv' := [(0, .ref (a 0 0)), (1, .int x1), (2, .int x2), (3, .int v8)]) rfl ?_
          exact hK8 _ _ _ h
        · replace h := ite_t hc7 h
          obtain ⟨v9, ev9, h⟩ := nm_elim h
          refine x_iinc B (pc' := 51) v9 2 [1, 2, 0, 3, 4] [(0, .ref (a 0 0)), (1, .int x1), (2, .int v9), (3, .int x3), (4, .int r3)] dX2_goneAfter_48 rfl (by rw [ev9]; rfl) (by decide) rfl rfl ?_
          obtain ⟨v10, ev10, h⟩ := nm_elim h
          refine x_iinc B (pc' := 54) v10 3 [1, 2, 3, 0, 4] [(0, .ref (a 0 0)), (1, .int x1), (2, .int v9), (3, .int v10), (4, .int r3)] dX2_goneAfter_51 rfl (by rw [ev10]; rfl) (by decide) rfl rfl ?_
          refine x_goto B (pc' := 8) dX2_goneAfter_54 (by decide) ?_
          refine x_lv [0, 1, 2, 3] (lv' := [(0, .ref (a 0 0)), (1, .int x1), (2, .int v9), (3, .int v10)]) rfl ?_
          exact hK8 _ _ _ h
  unfold f_X2_goneAfter at h
  refine x_iload_n B (pc' := 1) 1 dX2_goneAfter_0 rfl rfl rfl ?_
  obtain ⟨_, eo1, h⟩ := bxr_in h
  refine x_pureSv B (pc' := 4) [.int p0] (k_X2_requireForecast _ _ _ p0 eo1) gv_RX2_179 np_X2_requireForecast ⟨Nat.le_of_ble_eq_true rfl, Nat.le_of_ble_eq_true rfl⟩ ⟨by exact Nat.le_of_ble_eq_true rfl, by exact Nat.le_of_ble_eq_true rfl⟩ rfl (Nat.le_of_ble_eq_true rfl) dX2_goneAfter_1 rfl ?_
  refine x_iconst B (pc' := 5) 0 dX2_goneAfter_4 (by decide) rfl ?_
  refine x_istore_n B (pc' := 6) [1, 2, 0] [(0, .ref (a 0 0)), (1, .int p0), (2, .int (0 : Int32))] dX2_goneAfter_5 rfl (by decide) rfl rfl ?_
  refine x_iconst B (pc' := 7) 0 dX2_goneAfter_6 (by decide) rfl ?_
  refine x_istore_n B (pc' := 8) [1, 2, 3, 0] [(0, .ref (a 0 0)), (1, .int p0), (2, .int (0 : Int32)), (3, .int (0 : Int32))] dX2_goneAfter_7 rfl (by decide) rfl rfl ?_
  exact h8  _ _ _ _ h
def c_X2_undo_35 (t0 : Int32) (S : BO) : Option ((String ⊕ Int32) × BO) :=
  nm (fun (S3 : BO) => nm (fun (S4 : BO) => gd (S4.1 2) 6 (nm (fun (j6 : Nat) => bd (f_X1_copyFrom S4.2.1 (S4.2.2.1 j6)) (fun (S7 : OB) => nm (fun (S8 : BO) => some (.inr (S8.1 3), S8)) (S4.1, S7, S4.2.2))) (Int32.toNatClampNeg (S4.1 2)))) (upd S3.1 3 ((S3.1 3) - (1 : Int32)), S3.2)) (upd S.1 2 t0, S.2)
def f_X2_undo (S : BO) : Option ((String ⊕ Int32) × BO) :=
  if (S.1 3) = 0 then (some (.inl "java/lang/IllegalStateException", S)) else (if (S.1 2) = 0 then (c_X2_undo_35 (5 : Int32) S) else (c_X2_undo_35 ((S.1 2) - (1 : Int32)) S))
abbrev rm_X2_undo : Room := { frames := 2, cells := 0, slots := 0, locals := 85 }
theorem np_X2_undo : yX2_undo.cls ≠ "java/lang/invoke/MethodHandle" ∧ yX2_undo.cls ≠ "java/lang/invoke/VarHandle" ∧ (parseMethodDescriptor yX2_undo.desc).map (fun d => d.parameters.length) = some 0 := by decide +kernel
set_option maxHeartbeats 4000000 in
set_option maxRecDepth 100000 in
theorem k_X2_undo (l : Launch) (D : va_G) (cs : CS) (a : Nat → Nat → Nat) (S : BO) {r9 : Int32} {S9 : BO} (h : f_X2_undo S = some (.inr r9, S9)) : MI l D cs yX2_undo cX2_undo 2 .int rm_X2_undo [.ref (a 0 0)] (wB cs a S) r9 (wB cs a S9) := by
  refine MI_of (by decide) (Nat.le_of_ble_eq_true rfl) ?_
  rintro Γ rfl rfl rfl B ret
  show X Γ 2 0 0 0 [(0, .ref (a 0 0))] [] (wB Γ.cs a S)
  have h35 : ∀ (t0 : Int32) (S : BO), c_X2_undo_35  t0 S = some (.inr r9, S9) → X Γ 2 0 0 35 [(0, .ref (a 0 0))] [.int t0, .ref (a 0 0)] (wB Γ.cs a S) := by
    intro  t0 S h
    unfold c_X2_undo_35 at h
    obtain ⟨S3, eS3, h⟩ := nm_elim h
    refine b_put2 B (pc' := 38) wf_RX2_20 dX2_undo_35 rfl ?_
    refine b_wd eS3 ?_
    refine x_aload_n B (pc' := 39) 0 dX2_undo_38 rfl rfl rfl ?_
    refine x_dup B (pc' := 40) dX2_undo_39 rfl rfl ?_
    refine b_get3 B (pc' := 43) wf_RX2_24 dX2_undo_40 rfl ?_
    refine x_iconst B (pc' := 44) 1 dX2_undo_43 (by decide) rfl ?_
    refine x_isub B (pc' := 45) dX2_undo_44 rfl ?_
    obtain ⟨S4, eS4, h⟩ := nm_elim h
    refine b_put3 B (pc' := 48) wf_RX2_24 dX2_undo_45 rfl ?_
    refine b_wd eS4 ?_
    refine x_aload_n B (pc' := 49) 0 dX2_undo_48 rfl rfl rfl ?_
    refine x_aload_n B (pc' := 50) 0 dX2_undo_49 rfl rfl rfl ?_
    refine b_get2 B (pc' := 53) wf_RX2_20 dX2_undo_50 rfl ?_
    obtain ⟨hi5, h⟩ := gd_elim h
    obtain ⟨j6, ej6, h⟩ := nm_elim h
    have hj6 : j6 < 6 := by rw [ej6]; exact Nat.not_le.mp fun q => hi5 (Or.inr q)
    refine b_slotAt B (pc' := 56) hi5 ej6 ⟨Nat.le_of_ble_eq_true rfl, Nat.le_of_ble_eq_true rfl⟩ ⟨by exact Nat.le_of_ble_eq_true rfl, by exact Nat.le_of_ble_eq_true rfl⟩ (Nat.le_of_ble_eq_true rfl) dX2_undo_53 rfl ?_
    refine x_astore_n B (pc' := 57) [1, 0] [(0, .ref (a 0 0)), (1, .ref (a (3 + j6) 0))] dX2_undo_56 rfl (by decide) rfl rfl ?_
    refine x_aload_n B (pc' := 58) 1 dX2_undo_57 rfl rfl rfl ?_
    refine x_ifnull B (pc' := 61) dX2_undo_58 rfl ?_
    refine x_aload_n B (pc' := 62) 0 dX2_undo_61 rfl rfl rfl ?_
    refine b_ref0 B (pc' := 65) wf_RX2_10 dX2_undo_62 rfl ?_
    refine x_aload_n B (pc' := 66) 1 dX2_undo_65 rfl rfl rfl ?_
    obtain ⟨S7, eS7, h⟩ := bd_elim h
    obtain ⟨S8, eS8, h⟩ := nm_elim h
    refine b_cpyU hj6 B (pc' := 69) eS7 ⟨Nat.le_of_ble_eq_true rfl, Nat.le_of_ble_eq_true rfl⟩ ⟨by exact Nat.le_of_ble_eq_true rfl, by exact Nat.le_of_ble_eq_true rfl⟩ (Nat.le_of_ble_eq_true rfl) dX2_undo_66 rfl ?_
    refine b_wd eS8 ?_
    refine x_aload_n B (pc' := 70) 0 dX2_undo_69 rfl rfl rfl ?_
    refine b_get3 B (pc' := 73) wf_RX2_24 dX2_undo_70 rfl ?_
    obtain ⟨h1, h2⟩ := some2 h
    replace h1 := Sum.inr.inj h1
    subst h1
    subst h2
    exact ret rfl (by exact Nat.le_of_ble_eq_true rfl) (by exact Nat.le_of_ble_eq_true rfl) dX2_undo_73
  unfold f_X2_undo at h
  refine x_aload_n B (pc' := 1) 0 dX2_undo_0 rfl rfl rfl ?_
  refine b_get3 B (pc' := 4) wf_RX2_24 dX2_undo_1 rfl ?_
  refine x_if_ne B 17 7 dX2_undo_4 (by decide) rfl (fun hc1 => ?_) (fun hc1 => ?_)
  · replace h := ite_f hc1 h
    refine x_aload_n B (pc' := 18) 0 dX2_undo_17 rfl rfl rfl ?_
    refine x_aload_n B (pc' := 19) 0 dX2_undo_18 rfl rfl rfl ?_
    refine b_get2 B (pc' := 22) wf_RX2_20 dX2_undo_19 rfl ?_
    refine x_if_ne B 29 25 dX2_undo_22 (by decide) rfl (fun hc2 => ?_) (fun hc2 => ?_)
    · replace h := ite_f hc2 h
      refine x_aload_n B (pc' := 30) 0 dX2_undo_29 rfl rfl rfl ?_
      refine b_get2 B (pc' := 33) wf_RX2_20 dX2_undo_30 rfl ?_
      refine x_iconst B (pc' := 34) 1 dX2_undo_33 (by decide) rfl ?_
      refine x_isub B (pc' := 35) dX2_undo_34 rfl ?_
      exact h35  _ _ h
    · replace h := ite_t hc2 h
      refine x_iconst B (pc' := 26) 5 dX2_undo_25 (by decide) rfl ?_
      refine x_goto B (pc' := 35) dX2_undo_26 (by decide) ?_
      exact h35  _ _ h
  · replace h := ite_t hc1 h
    cases h
