def c_X2_save_43 (t0 : Int32) (S : BO) : Option BO :=
  nm (fun (S6 : BO) => if (6 : Int32) ≤ (S6.1 3) then (some S6) else (nm (fun (S8 : BO) => some S8) (upd S6.1 3 ((S6.1 3) + (1 : Int32)), S6.2))) (upd S.1 2 t0, S.2)
def f_X2_save (S : BO) : Option BO :=
  gd (S.1 2) 6 (nm (fun (j2 : Nat) => bd (f_X1_copyFrom (S.2.2.1 j2) S.2.1) (fun (S3 : OB) => nm (fun (S4 : BO) => if (6 : Int32) ≤ ((S4.1 2) + (1 : Int32)) then (c_X2_save_43 (0 : Int32) S4) else (c_X2_save_43 ((S4.1 2) + (1 : Int32)) S4)) (S.1, S.2.1, (fun i => if i = j2 then S3 else S.2.2.1 i), S.2.2.2))) (Int32.toNatClampNeg (S.1 2)))
abbrev rm_X2_save : Room := { frames := 2, cells := 0, slots := 0, locals := 85 }
theorem np_X2_save : yX2_save.cls ≠ "java/lang/invoke/MethodHandle" ∧ yX2_save.cls ≠ "java/lang/invoke/VarHandle" ∧ (parseMethodDescriptor yX2_save.desc).map (fun d => d.parameters.length) = some 0 := by decide +kernel
set_option maxHeartbeats 4000000 in
set_option maxRecDepth 100000 in
theorem k_X2_save (l : Launch) (D : va_G) (cs : CS) (a : Nat → Nat → Nat) (S : BO) {S9 : BO} (h : f_X2_save S = some S9) : MV l D cs yX2_save cX2_save 2 rm_X2_save [.ref (a 0 0)] (wB cs a S) (wB cs a S9) := by
  refine MV_of (by decide) (Nat.le_of_ble_eq_true rfl) ?_
  rintro Γ rfl rfl rfl B ret
  show X Γ 2 0 0 0 [(0, .ref (a 0 0))] [] (wB Γ.cs a S)
  have h43 : ∀ (t0 : Int32) (S : BO), c_X2_save_43  t0 S = some S9 → X Γ 2 0 0 43 [(0, .ref (a 0 0))] [.int t0, .ref (a 0 0)] (wB Γ.cs a S) := by
    intro  t0 S h
    unfold c_X2_save_43 at h
    obtain ⟨S6, eS6, h⟩ := nm_elim h
    refine b_put2 B (pc' := 46) wf_RX2_20 dX2_save_43 rfl ?_
    refine b_wd eS6 ?_
    refine x_aload_n B (pc' := 47) 0 dX2_save_46 rfl rfl rfl ?_
    refine b_get3 B (pc' := 50) wf_RX2_24 dX2_save_47 rfl ?_
    refine x_bipush B (pc' := 52) 6 dX2_save_50 (by decide) rfl ?_
    refine x_icmp_ge B 65 55 dX2_save_52 (by decide) rfl (fun hc7 => ?_) (fun hc7 => ?_)
    · replace h := ite_t hc7 h
      cases h
      exact ret (by exact Nat.le_of_ble_eq_true rfl) (by exact Nat.le_of_ble_eq_true rfl) dX2_save_65
    · replace h := ite_f hc7 h
      refine x_aload_n B (pc' := 56) 0 dX2_save_55 rfl rfl rfl ?_
      refine x_dup B (pc' := 57) dX2_save_56 rfl rfl ?_
      refine b_get3 B (pc' := 60) wf_RX2_24 dX2_save_57 rfl ?_
      refine x_iconst B (pc' := 61) 1 dX2_save_60 (by decide) rfl ?_
      refine x_iadd B (pc' := 62) dX2_save_61 rfl ?_
      obtain ⟨S8, eS8, h⟩ := nm_elim h
      refine b_put3 B (pc' := 65) wf_RX2_24 dX2_save_62 rfl ?_
      refine b_wd eS8 ?_
      cases h
      exact ret (by exact Nat.le_of_ble_eq_true rfl) (by exact Nat.le_of_ble_eq_true rfl) dX2_save_65
  unfold f_X2_save at h
  refine x_aload_n B (pc' := 1) 0 dX2_save_0 rfl rfl rfl ?_
  refine x_aload_n B (pc' := 2) 0 dX2_save_1 rfl rfl rfl ?_
  refine b_get2 B (pc' := 5) wf_RX2_20 dX2_save_2 rfl ?_
  obtain ⟨hi1, h⟩ := gd_elim h
  obtain ⟨j2, ej2, h⟩ := nm_elim h
  have hj2 : j2 < 6 := by rw [ej2]; exact Nat.not_le.mp fun q => hi1 (Or.inr q)
  refine b_slotAt B (pc' := 8) hi1 ej2 ⟨Nat.le_of_ble_eq_true rfl, Nat.le_of_ble_eq_true rfl⟩ ⟨by exact Nat.le_of_ble_eq_true rfl, by exact Nat.le_of_ble_eq_true rfl⟩ (Nat.le_of_ble_eq_true rfl) dX2_save_5 rfl ?_
  refine x_astore_n B (pc' := 9) [1, 0] [(0, .ref (a 0 0)), (1, .ref (a (3 + j2) 0))] dX2_save_8 rfl (by decide) rfl rfl ?_
  refine x_aload_n B (pc' := 10) 1 dX2_save_9 rfl rfl rfl ?_
  refine x_ifnull B (pc' := 13) dX2_save_10 rfl ?_
  refine x_aload_n B (pc' := 14) 1 dX2_save_13 rfl rfl rfl ?_
  refine x_aload_n B (pc' := 15) 0 dX2_save_14 rfl rfl rfl ?_
  refine b_ref0 B (pc' := 18) wf_RX2_10 dX2_save_15 rfl ?_
  obtain ⟨S3, eS3, h⟩ := bd_elim h
  obtain ⟨S4, eS4, h⟩ := nm_elim h
  refine b_cpyS hj2 B (pc' := 21) eS3 ⟨Nat.le_of_ble_eq_true rfl, Nat.le_of_ble_eq_true rfl⟩ ⟨by exact Nat.le_of_ble_eq_true rfl, by exact Nat.le_of_ble_eq_true rfl⟩ (Nat.le_of_ble_eq_true rfl) dX2_save_18 rfl ?_
  refine b_wd eS4 ?_
  refine x_aload_n B (pc' := 22) 0 dX2_save_21 rfl rfl rfl ?_
  refine x_aload_n B (pc' := 23) 0 dX2_save_22 rfl rfl rfl ?_
  refine b_get2 B (pc' := 26) wf_RX2_20 dX2_save_23 rfl ?_
  refine x_iconst B (pc' := 27) 1 dX2_save_26 (by decide) rfl ?_
  refine x_iadd B (pc' := 28) dX2_save_27 rfl ?_
  refine x_bipush B (pc' := 30) 6 dX2_save_28 (by decide) rfl ?_
  refine x_icmp_ge B 42 33 dX2_save_30 (by decide) rfl (fun hc5 => ?_) (fun hc5 => ?_)
  · replace h := ite_t hc5 h
    refine x_iconst B (pc' := 43) 0 dX2_save_42 (by decide) rfl ?_
    refine x_lv [0] (lv' := [(0, .ref (a 0 0))]) rfl ?_
    exact h43  _ _ h
  · replace h := ite_f hc5 h
    refine x_aload_n B (pc' := 34) 0 dX2_save_33 rfl rfl rfl ?_
    refine b_get2 B (pc' := 37) wf_RX2_20 dX2_save_34 rfl ?_
    refine x_iconst B (pc' := 38) 1 dX2_save_37 (by decide) rfl ?_
    refine x_iadd B (pc' := 39) dX2_save_38 rfl ?_
    refine x_goto B (pc' := 43) dX2_save_39 (by decide) ?_
    refine x_lv [0] (lv' := [(0, .ref (a 0 0))]) rfl ?_
    exact h43  _ _ h
def f_X2_recordings (S : BO) : Option Int32 :=
  some (S.2.1.1 7)
abbrev rm_X2_recordings : Room := { frames := 0, cells := 0, slots := 0, locals := 0 }
theorem np_X2_recordings : yX2_recordings.cls ≠ "java/lang/invoke/MethodHandle" ∧ yX2_recordings.cls ≠ "java/lang/invoke/VarHandle" ∧ (parseMethodDescriptor yX2_recordings.desc).map (fun d => d.parameters.length) = some 0 := by decide +kernel
set_option maxHeartbeats 4000000 in
set_option maxRecDepth 100000 in
theorem k_X2_recordings (l : Launch) (D : va_G) (cs : CS) (a : Nat → Nat → Nat) (S : BO) {r9 : Int32} (h : f_X2_recordings S = some r9) : MI l D cs yX2_recordings cX2_recordings 1 .int rm_X2_recordings [.ref (a 0 0)] (wB cs a S) r9 (wB cs a S) := by
  refine MI_of (by decide) (Nat.le_of_ble_eq_true rfl) ?_
  rintro Γ rfl rfl rfl B ret
  show X Γ 1 0 0 0 [(0, .ref (a 0 0))] [] (wB Γ.cs a S)
  unfold f_X2_recordings at h
  refine x_aload_n B (pc' := 1) 0 dX2_recordings_0 rfl rfl rfl ?_
  refine b_ref0 B (pc' := 4) wf_RX2_10 dX2_recordings_1 rfl ?_
  refine bn_get7 B (pc' := 7) wf_RX2_99 dX2_recordings_4 rfl ?_
  have h1 := Option.some.inj h
  subst h1
  exact ret rfl (by exact Nat.le_of_ble_eq_true rfl) (by exact Nat.le_of_ble_eq_true rfl) dX2_recordings_7
def f_X2_running (S : BO) : Option Int32 :=
  bd (f_X1_runningNumber S.2.1) (fun (r1 : Int32) => some r1)
abbrev rm_X2_running : Room := { frames := 1, cells := 0, slots := 0, locals := 20 }
theorem np_X2_running : yX2_running.cls ≠ "java/lang/invoke/MethodHandle" ∧ yX2_running.cls ≠ "java/lang/invoke/VarHandle" ∧ (parseMethodDescriptor yX2_running.desc).map (fun d => d.parameters.length) = some 0 := by decide +kernel
set_option maxHeartbeats 4000000 in
set_option maxRecDepth 100000 in
theorem k_X2_running (l : Launch) (D : va_G) (cs : CS) (a : Nat → Nat → Nat) (S : BO) {r9 : Int32} (h : f_X2_running S = some r9) : MI l D cs yX2_running cX2_running 1 .int rm_X2_running [.ref (a 0 0)] (wB cs a S) r9 (wB cs a S) := by
  refine MI_of (by decide) (Nat.le_of_ble_eq_true rfl) ?_
  rintro Γ rfl rfl rfl B ret
  show X Γ 1 0 0 0 [(0, .ref (a 0 0))] [] (wB Γ.cs a S)
  unfold f_X2_running at h
  refine x_aload_n B (pc' := 1) 0 dX2_running_0 rfl rfl rfl ?_
  refine b_ref0 B (pc' := 4) wf_RX2_10 dX2_running_1 rfl ?_
  obtain ⟨r1, er1, h⟩ := bd_elim h
  refine b_nowRi B (pc' := 7) [] (k_X1_runningNumber _ _ _ (a 1) S.2.1 er1) gv_RX2_102 rfl np_X1_runningNumber ⟨Nat.le_of_ble_eq_true rfl, Nat.le_of_ble_eq_true rfl⟩ ⟨by exact Nat.le_of_ble_eq_true rfl, by exact Nat.le_of_ble_eq_true rfl⟩ rfl (Nat.le_of_ble_eq_true rfl) dX2_running_4 rfl ?_
  have h1 := Option.some.inj h
  subst h1
  exact ret rfl (by exact Nat.le_of_ble_eq_true rfl) (by exact Nat.le_of_ble_eq_true rfl) dX2_running_7
def f_X2_head (S : BO) : Option Int32 :=
  some (S.2.1.1 9)
abbrev rm_X2_head : Room := { frames := 0, cells := 0, slots := 0, locals := 0 }
theorem np_X2_head : yX2_head.cls ≠ "java/lang/invoke/MethodHandle" ∧ yX2_head.cls ≠ "java/lang/invoke/VarHandle" ∧ (parseMethodDescriptor yX2_head.desc).map (fun d => d.parameters.length) = some 0 := by decide +kernel
set_option maxHeartbeats 4000000 in
set_option maxRecDepth 100000 in
theorem k_X2_head (l : Launch) (D : va_G) (cs : CS) (a : Nat → Nat → Nat) (S : BO) {r9 : Int32} (h : f_X2_head S = some r9) : MI l D cs yX2_head cX2_head 1 .int rm_X2_head [.ref (a 0 0)] (wB cs a S) r9 (wB cs a S) := by
  refine MI_of (by decide) (Nat.le_of_ble_eq_true rfl) ?_
  rintro Γ rfl rfl rfl B ret
  show X Γ 1 0 0 0 [(0, .ref (a 0 0))] [] (wB Γ.cs a S)
  unfold f_X2_head at h
  refine x_aload_n B (pc' := 1) 0 dX2_head_0 rfl rfl rfl ?_
  refine b_ref0 B (pc' := 4) wf_RX2_10 dX2_head_1 rfl ?_
  refine bn_get9 B (pc' := 7) wf_RX2_96 dX2_head_4 rfl ?_
  have h1 := Option.some.inj h
  subst h1
  exact ret rfl (by exact Nat.le_of_ble_eq_true rfl) (by exact Nat.le_of_ble_eq_true rfl) dX2_head_7
def f_X2_free (S : BO) : Option Int32 :=
  some ((32 : Int32) - (S.2.1.1 4))
abbrev rm_X2_free : Room := { frames := 0, cells := 0, slots := 0, locals := 0 }
theorem np_X2_free : yX2_free.cls ≠ "java/lang/invoke/MethodHandle" ∧ yX2_free.cls ≠ "java/lang/invoke/VarHandle" ∧ (parseMethodDescriptor yX2_free.desc).map (fun d => d.parameters.length) = some 0 := by decide +kernel
set_option maxHeartbeats 4000000 in
set_option maxRecDepth 100000 in
theorem k_X2_free (l : Launch) (D : va_G) (cs : CS) (a : Nat → Nat → Nat) (S : BO) {r9 : Int32} (h : f_X2_free S = some r9) : MI l D cs yX2_free cX2_free 1 .int rm_X2_free [.ref (a 0 0)] (wB cs a S) r9 (wB cs a S) := by
  refine MI_of (by decide) (Nat.le_of_ble_eq_true rfl) ?_
  rintro Γ rfl rfl rfl B ret
  show X Γ 1 0 0 0 [(0, .ref (a 0 0))] [] (wB Γ.cs a S)
  unfold f_X2_free at h
  refine x_bipush B (pc' := 2) 32 dX2_free_0 (by decide) rfl ?_
  refine x_aload_n B (pc' := 3) 0 dX2_free_2 rfl rfl rfl ?_
  refine b_ref0 B (pc' := 6) wf_RX2_10 dX2_free_3 rfl ?_
  refine bn_get4 B (pc' := 9) wf_RX2_129 dX2_free_6 rfl ?_
  refine x_isub B (pc' := 10) dX2_free_9 rfl ?_
  have h1 := Option.some.inj h
  subst h1
  exact ret rfl (by exact Nat.le_of_ble_eq_true rfl) (by exact Nat.le_of_ble_eq_true rfl) dX2_free_10
def f_X2_spoken (S : BO) : Option Int32 :=
  some (S.2.1.1 10)
abbrev rm_X2_spoken : Room := { frames := 0, cells := 0, slots := 0, locals := 0 }
theorem np_X2_spoken : yX2_spoken.cls ≠ "java/lang/invoke/MethodHandle" ∧ yX2_spoken.cls ≠ "java/lang/invoke/VarHandle" ∧ (parseMethodDescriptor yX2_spoken.desc).map (fun d => d.parameters.length) = some 0 := by decide +kernel
set_option maxHeartbeats 4000000 in
set_option maxRecDepth 100000 in
theorem k_X2_spoken (l : Launch) (D : va_G) (cs : CS) (a : Nat → Nat → Nat) (S : BO) {r9 : Int32} (h : f_X2_spoken S = some r9) : MI l D cs yX2_spoken cX2_spoken 1 .int rm_X2_spoken [.ref (a 0 0)] (wB cs a S) r9 (wB cs a S) := by
  refine MI_of (by decide) (Nat.le_of_ble_eq_true rfl) ?_
  rintro Γ rfl rfl rfl B ret
  show X Γ 1 0 0 0 [(0, .ref (a 0 0))] [] (wB Γ.cs a S)
  unfold f_X2_spoken at h
  refine x_aload_n B (pc' := 1) 0 dX2_spoken_0 rfl rfl rfl ?_
  refine b_ref0 B (pc' := 4) wf_RX2_10 dX2_spoken_1 rfl ?_
  refine bn_get10 B (pc' := 7) wf_RX2_132 dX2_spoken_4 rfl ?_
  have h1 := Option.some.inj h
  subst h1
  exact ret rfl (by exact Nat.le_of_ble_eq_true rfl) (by exact Nat.le_of_ble_eq_true rfl) dX2_spoken_7
def f_X2_gone (S : BO) : Option Int32 :=
  some (S.2.1.1 11)
abbrev rm_X2_gone : Room := { frames := 0, cells := 0, slots := 0, locals := 0 }
theorem np_X2_gone : yX2_gone.cls ≠ "java/lang/invoke/MethodHandle" ∧ yX2_gone.cls ≠ "java/lang/invoke/VarHandle" ∧ (parseMethodDescriptor yX2_gone.desc).map (fun d => d.parameters.length) = some 0 := by decide +kernel
set_option maxHeartbeats 4000000 in
set_option maxRecDepth 100000 in
theorem k_X2_gone (l : Launch) (D : va_G) (cs : CS) (a : Nat → Nat → Nat) (S : BO) {r9 : Int32} (h : f_X2_gone S = some r9) : MI l D cs yX2_gone cX2_gone 1 .int rm_X2_gone [.ref (a 0 0)] (wB cs a S) r9 (wB cs a S) := by
  refine MI_of (by decide) (Nat.le_of_ble_eq_true rfl) ?_
  rintro Γ rfl rfl rfl B ret
  show X Γ 1 0 0 0 [(0, .ref (a 0 0))] [] (wB Γ.cs a S)
  unfold f_X2_gone at h
  refine x_aload_n B (pc' := 1) 0 dX2_gone_0 rfl rfl rfl ?_
  refine b_ref0 B (pc' := 4) wf_RX2_10 dX2_gone_1 rfl ?_
  refine bn_get11 B (pc' := 7) wf_RX2_135 dX2_gone_4 rfl ?_
  have h1 := Option.some.inj h
  subst h1
  exact ret rfl (by exact Nat.le_of_ble_eq_true rfl) (by exact Nat.le_of_ble_eq_true rfl) dX2_gone_7
def f_X2_playing (S : BO) : Option Int32 :=
  some (S.2.1.1 12)
abbrev rm_X2_playing : Room := { frames := 0, cells := 0, slots := 0, locals := 0 }
theorem np_X2_playing : yX2_playing.cls ≠ "java/lang/invoke/MethodHandle" ∧ yX2_playing.cls ≠ "java/lang/invoke/VarHandle" ∧ (parseMethodDescriptor yX2_playing.desc).map (fun d => d.parameters.length) = some 0 := by decide +kernel
set_option maxHeartbeats 4000000 in
set_option maxRecDepth 100000 in
theorem k_X2_playing (l : Launch) (D : va_G) (cs : CS) (a : Nat → Nat → Nat) (S : BO) {r9 : Int32} (h : f_X2_playing S = some r9) : MI l D cs yX2_playing cX2_playing 1 .int rm_X2_playing [.ref (a 0 0)] (wB cs a S) r9 (wB cs a S) := by
  refine MI_of (by decide) (Nat.le_of_ble_eq_true rfl) ?_
  rintro Γ rfl rfl rfl B ret
  show X Γ 1 0 0 0 [(0, .ref (a 0 0))] [] (wB Γ.cs a S)
  unfold f_X2_playing at h
  refine x_aload_n B (pc' := 1) 0 dX2_playing_0 rfl rfl rfl ?_
  refine b_ref0 B (pc' := 4) wf_RX2_10 dX2_playing_1 rfl ?_
  refine bn_get12 B (pc' := 7) wf_RX2_157 dX2_playing_4 rfl ?_
  have h1 := Option.some.inj h
  subst h1
  exact ret rfl (by exact Nat.le_of_ble_eq_true rfl) (by exact Nat.le_of_ble_eq_true rfl) dX2_playing_7
def f_X2_place (S : BO) : Option Int32 :=
  some (S.2.1.1 13)
abbrev rm_X2_place : Room := { frames := 0, cells := 0, slots := 0, locals := 0 }
theorem np_X2_place : yX2_place.cls ≠ "java/lang/invoke/MethodHandle" ∧ yX2_place.cls ≠ "java/lang/invoke/VarHandle" ∧ (parseMethodDescriptor yX2_place.desc).map (fun d => d.parameters.length) = some 0 := by decide +kernel
set_option maxHeartbeats 4000000 in
set_option maxRecDepth 100000 in
theorem k_X2_place (l : Launch) (D : va_G) (cs : CS) (a : Nat → Nat → Nat) (S : BO) {r9 : Int32} (h : f_X2_place S = some r9) : MI l D cs yX2_place cX2_place 1 .int rm_X2_place [.ref (a 0 0)] (wB cs a S) r9 (wB cs a S) := by
  refine MI_of (by decide) (Nat.le_of_ble_eq_true rfl) ?_
  rintro Γ rfl rfl rfl B ret
  show X Γ 1 0 0 0 [(0, .ref (a 0 0))] [] (wB Γ.cs a S)
  unfold f_X2_place at h
  refine x_aload_n B (pc' := 1) 0 dX2_place_0 rfl rfl rfl ?_
  refine b_ref0 B (pc' := 4) wf_RX2_10 dX2_place_1 rfl ?_
  refine bn_get13 B (pc' := 7) wf_RX2_160 dX2_place_4 rfl ?_
  have h1 := Option.some.inj h
  subst h1
  exact ret rfl (by exact Nat.le_of_ble_eq_true rfl) (by exact Nat.le_of_ble_eq_true rfl) dX2_place_7
def f_X2_corrected (S : BO) : Option Int32 :=
  bd (f_X1_correctedCells S.2.1) (fun (r1 : Int32) => some r1)
abbrev rm_X2_corrected : Room := { frames := 2, cells := 0, slots := 0, locals := 44 }
theorem np_X2_corrected : yX2_corrected.cls ≠ "java/lang/invoke/MethodHandle" ∧ yX2_corrected.cls ≠ "java/lang/invoke/VarHandle" ∧ (parseMethodDescriptor yX2_corrected.desc).map (fun d => d.parameters.length) = some 0 := by decide +kernel
set_option maxHeartbeats 4000000 in
set_option maxRecDepth 100000 in
theorem k_X2_corrected (l : Launch) (D : va_G) (cs : CS) (a : Nat → Nat → Nat) (S : BO) {r9 : Int32} (h : f_X2_corrected S = some r9) : MI l D cs yX2_corrected cX2_corrected 1 .int rm_X2_corrected [.ref (a 0 0)] (wB cs a S) r9 (wB cs a S) := by
  refine MI_of (by decide) (Nat.le_of_ble_eq_true rfl) ?_
  rintro Γ rfl rfl rfl B ret
  show X Γ 1 0 0 0 [(0, .ref (a 0 0))] [] (wB Γ.cs a S)
  unfold f_X2_corrected at h
  refine x_aload_n B (pc' := 1) 0 dX2_corrected_0 rfl rfl rfl ?_
  refine b_ref0 B (pc' := 4) wf_RX2_10 dX2_corrected_1 rfl ?_
  obtain ⟨r1, er1, h⟩ := bd_elim h
  refine b_nowRi B (pc' := 7) [] (k_X1_correctedCells _ _ _ (a 1) S.2.1 er1) gv_RX2_170 rfl np_X1_correctedCells ⟨Nat.le_of_ble_eq_true rfl, Nat.le_of_ble_eq_true rfl⟩ ⟨by exact Nat.le_of_ble_eq_true rfl, by exact Nat.le_of_ble_eq_true rfl⟩ rfl (Nat.le_of_ble_eq_true rfl) dX2_corrected_4 rfl ?_
  have h1 := Option.some.inj h
  subst h1
  exact ret rfl (by exact Nat.le_of_ble_eq_true rfl) (by exact Nat.le_of_ble_eq_true rfl) dX2_corrected_7
def f_X2_room (S : BO) : Option Int32 :=
  bd (f_X1_writableCells S.2.1) (fun (r1 : Int32) => some r1)
abbrev rm_X2_room : Room := { frames := 3, cells := 0, slots := 0, locals := 66 }
theorem np_X2_room : yX2_room.cls ≠ "java/lang/invoke/MethodHandle" ∧ yX2_room.cls ≠ "java/lang/invoke/VarHandle" ∧ (parseMethodDescriptor yX2_room.desc).map (fun d => d.parameters.length) = some 0 := by decide +kernel
set_option maxHeartbeats 4000000 in
set_option maxRecDepth 100000 in
theorem k_X2_room (l : Launch) (D : va_G) (cs : CS) (a : Nat → Nat → Nat) (S : BO) {r9 : Int32} (h : f_X2_room S = some r9) : MI l D cs yX2_room cX2_room 1 .int rm_X2_room [.ref (a 0 0)] (wB cs a S) r9 (wB cs a S) := by
  refine MI_of (by decide) (Nat.le_of_ble_eq_true rfl) ?_
  rintro Γ rfl rfl rfl B ret
  show X Γ 1 0 0 0 [(0, .ref (a 0 0))] [] (wB Γ.cs a S)
  unfold f_X2_room at h
  refine x_aload_n B (pc' := 1) 0 dX2_room_0 rfl rfl rfl ?_
  refine b_ref0 B (pc' := 4) wf_RX2_10 dX2_room_1 rfl ?_
  obtain ⟨r1, er1, h⟩ := bd_elim h
  refine b_nowRi B (pc' := 7) [] (k_X1_writableCells _ _ _ (a 1) S.2.1 er1) gv_RX2_173 rfl np_X1_writableCells ⟨Nat.le_of_ble_eq_true rfl, Nat.le_of_ble_eq_true rfl⟩ ⟨by exact Nat.le_of_ble_eq_true rfl, by exact Nat.le_of_ble_eq_true rfl⟩ rfl (Nat.le_of_ble_eq_true rfl) dX2_room_4 rfl ?_
  have h1 := Option.some.inj h
  subst h1
  exact ret rfl (by exact Nat.le_of_ble_eq_true rfl) (by exact Nat.le_of_ble_eq_true rfl) dX2_room_7
def f_X2_nextLoser (S : BO) : Option Int32 :=
  bd (f_X1_firstLoser S.2.1) (fun (r1 : Int32) => some r1)
abbrev rm_X2_nextLoser : Room := { frames := 3, cells := 0, slots := 0, locals := 67 }
theorem np_X2_nextLoser : yX2_nextLoser.cls ≠ "java/lang/invoke/MethodHandle" ∧ yX2_nextLoser.cls ≠ "java/lang/invoke/VarHandle" ∧ (parseMethodDescriptor yX2_nextLoser.desc).map (fun d => d.parameters.length) = some 0 := by decide +kernel
set_option maxHeartbeats 4000000 in
set_option maxRecDepth 100000 in
theorem k_X2_nextLoser (l : Launch) (D : va_G) (cs : CS) (a : Nat → Nat → Nat) (S : BO) {r9 : Int32} (h : f_X2_nextLoser S = some r9) : MI l D cs yX2_nextLoser cX2_nextLoser 1 .int rm_X2_nextLoser [.ref (a 0 0)] (wB cs a S) r9 (wB cs a S) := by
  refine MI_of (by decide) (Nat.le_of_ble_eq_true rfl) ?_
  rintro Γ rfl rfl rfl B ret
  show X Γ 1 0 0 0 [(0, .ref (a 0 0))] [] (wB Γ.cs a S)
  unfold f_X2_nextLoser at h
  refine x_aload_n B (pc' := 1) 0 dX2_nextLoser_0 rfl rfl rfl ?_
  refine b_ref0 B (pc' := 4) wf_RX2_10 dX2_nextLoser_1 rfl ?_
  obtain ⟨r1, er1, h⟩ := bd_elim h
  refine b_nowRi B (pc' := 7) [] (k_X1_firstLoser _ _ _ (a 1) S.2.1 er1) gv_RX2_176 rfl np_X1_firstLoser ⟨Nat.le_of_ble_eq_true rfl, Nat.le_of_ble_eq_true rfl⟩ ⟨by exact Nat.le_of_ble_eq_true rfl, by exact Nat.le_of_ble_eq_true rfl⟩ rfl (Nat.le_of_ble_eq_true rfl) dX2_nextLoser_4 rfl ?_
  have h1 := Option.some.inj h
  subst h1
  exact ret rfl (by exact Nat.le_of_ble_eq_true rfl) (by exact Nat.le_of_ble_eq_true rfl) dX2_nextLoser_7
def f_X2_clearText (S : BO) : Option (Int32 × BO) :=
  nm (fun (v1 : Int32) => nm (fun (S2 : BO) => some (v1, S2)) (S.1, S.2.1, S.2.2.1, (upd S.2.2.2.1 1 (0 : Int32), S.2.2.2.2))) (S.2.2.2.1 1)
abbrev rm_X2_clearText : Room := { frames := 0, cells := 0, slots := 0, locals := 0 }
theorem np_X2_clearText : yX2_clearText.cls ≠ "java/lang/invoke/MethodHandle" ∧ yX2_clearText.cls ≠ "java/lang/invoke/VarHandle" ∧ (parseMethodDescriptor yX2_clearText.desc).map (fun d => d.parameters.length) = some 0 := by decide +kernel
set_option maxHeartbeats 4000000 in
set_option maxRecDepth 100000 in
theorem k_X2_clearText (l : Launch) (D : va_G) (cs : CS) (a : Nat → Nat → Nat) (S : BO) {r9 : Int32} {S9 : BO} (h : f_X2_clearText S = some (r9, S9)) : MI l D cs yX2_clearText cX2_clearText 2 .int rm_X2_clearText [.ref (a 0 0)] (wB cs a S) r9 (wB cs a S9) := by
  refine MI_of (by decide) (Nat.le_of_ble_eq_true rfl) ?_
  rintro Γ rfl rfl rfl B ret
  show X Γ 2 0 0 0 [(0, .ref (a 0 0))] [] (wB Γ.cs a S)
  unfold f_X2_clearText at h
  refine x_aload_n B (pc' := 1) 0 dX2_clearText_0 rfl rfl rfl ?_
  refine b_ref4 B (pc' := 4) wf_RX2_30 dX2_clearText_1 rfl ?_
  refine bt_get1 B (pc' := 7) wf_RX2_187 dX2_clearText_4 rfl ?_
  obtain ⟨v1, ev1, h⟩ := nm_elim h
  refine x_topi ev1 ?_
  refine x_istore_n B (pc' := 8) [1, 0] [(0, .ref (a 0 0)), (1, .int v1)] dX2_clearText_7 rfl (by decide) rfl rfl ?_
  refine x_aload_n B (pc' := 9) 0 dX2_clearText_8 rfl rfl rfl ?_
  refine b_ref4 B (pc' := 12) wf_RX2_30 dX2_clearText_9 rfl ?_
  refine x_iconst B (pc' := 13) 0 dX2_clearText_12 (by decide) rfl ?_
  obtain ⟨S2, eS2, h⟩ := nm_elim h
  refine bt_put1 B (pc' := 16) wf_RX2_187 dX2_clearText_13 rfl ?_
  refine b_wd eS2 ?_
  refine x_iload_n B (pc' := 17) 1 dX2_clearText_16 rfl rfl rfl ?_
  obtain ⟨h1, h2⟩ := some2 h
  subst h1
  subst h2
  exact ret rfl (by exact Nat.le_of_ble_eq_true rfl) (by exact Nat.le_of_ble_eq_true rfl) dX2_clearText_17
def f_X2_firstError (S : BO) : Option Int32 :=
  bd (f_X0_errorIndex S.2.2.2) (fun (r1 : Int32) => some r1)
abbrev rm_X2_firstError : Room := { frames := 4, cells := 0, slots := 0, locals := 85 }
theorem np_X2_firstError : yX2_firstError.cls ≠ "java/lang/invoke/MethodHandle" ∧ yX2_firstError.cls ≠ "java/lang/invoke/VarHandle" ∧ (parseMethodDescriptor yX2_firstError.desc).map (fun d => d.parameters.length) = some 0 := by decide +kernel
set_option maxHeartbeats 4000000 in
set_option maxRecDepth 100000 in
theorem k_X2_firstError (l : Launch) (D : va_G) (cs : CS) (a : Nat → Nat → Nat) (S : BO) {r9 : Int32} (h : f_X2_firstError S = some r9) : MI l D cs yX2_firstError cX2_firstError 1 .int rm_X2_firstError [.ref (a 0 0)] (wB cs a S) r9 (wB cs a S) := by
  refine MI_of (by decide) (Nat.le_of_ble_eq_true rfl) ?_
  rintro Γ rfl rfl rfl B ret
  show X Γ 1 0 0 0 [(0, .ref (a 0 0))] [] (wB Γ.cs a S)
  unfold f_X2_firstError at h
  refine x_aload_n B (pc' := 1) 0 dX2_firstError_0 rfl rfl rfl ?_
  refine b_ref4 B (pc' := 4) wf_RX2_30 dX2_firstError_1 rfl ?_
  obtain ⟨r1, er1, h⟩ := bd_elim h
  refine b_txtRi B (pc' := 7) [] (k_X0_errorIndex _ _ _ (a 2) S.2.2.2 er1) gv_RX2_195 rfl np_X0_errorIndex ⟨Nat.le_of_ble_eq_true rfl, Nat.le_of_ble_eq_true rfl⟩ ⟨by exact Nat.le_of_ble_eq_true rfl, by exact Nat.le_of_ble_eq_true rfl⟩ rfl (Nat.le_of_ble_eq_true rfl) dX2_firstError_4 rfl ?_
  have h1 := Option.some.inj h
  subst h1
  exact ret rfl (by exact Nat.le_of_ble_eq_true rfl) (by exact Nat.le_of_ble_eq_true rfl) dX2_firstError_7
def f_X2_mayObey (p0 : Int32) (p1 : Int32) (p2 : Int32) (S : BO) : Option Int32 :=
  if p0 = 98 then (bd (f_X1_mayBegin S.2.1) (fun (r2 : Int32) => zb r2 (some r2))) else (if p0 = 101 then (bd (f_X1_isRecording p2 S.2.1) (fun (r7 : Int32) => if r7 = 0 then (some (0 : Int32)) else (bd (f_X1_isFlagged p2 S.2.1) (fun (r9 : Int32) => if r9 = 0 then (some (1 : Int32)) else (some (0 : Int32)))))) else (if p0 = 102 then (bd (f_X1_isRecording p2 S.2.1) (fun (r12 : Int32) => zb r12 (some r12))) else (if p0 = 103 then (bd (f_X1_isRecording p2 S.2.1) (fun (r15 : Int32) => zb r15 (some r15))) else (if p0 = 104 then (zb (S.2.1.1 8) (some (S.2.1.1 8))) else (if p0 = 107 then (if (S.2.1.1 12) = ((-1) : Int32) then (some (0 : Int32)) else (some (1 : Int32))) else (if p0 = 112 then (if (S.2.1.1 12) = ((-1) : Int32) then (some (0 : Int32)) else (some (1 : Int32))) else (if p0 = 114 then (bd (f_X1_maySpeak p1 S.2.1) (fun (r31 : Int32) => zb r31 (some r31))) else (if p0 = 115 then (bd (f_X1_maySpeak (1 : Int32) S.2.1) (fun (r34 : Int32) => zb r34 (some r34))) else (if p0 = 117 then (bd (f_X1_isRecording p2 S.2.1) (fun (r38 : Int32) => zb r38 (some r38))) else (some (0 : Int32)))))))))))
abbrev rm_X2_mayObey : Room := { frames := 4, cells := 0, slots := 0, locals := 87 }
theorem np_X2_mayObey : yX2_mayObey.cls ≠ "java/lang/invoke/MethodHandle" ∧ yX2_mayObey.cls ≠ "java/lang/invoke/VarHandle" ∧ (parseMethodDescriptor yX2_mayObey.desc).map (fun d => d.parameters.length) = some 3 := by decide +kernel
set_option maxHeartbeats 4000000 in
set_option maxRecDepth 100000 in
theorem k_X2_mayObey (l : Launch) (D : va_G) (cs : CS) (a : Nat → Nat → Nat) (p0 : Int32) (p1 : Int32) (p2 : Int32) (S : BO) {r9 : Int32} (h : f_X2_mayObey p0 p1 p2 S = some r9) : MI l D cs yX2_mayObey cX2_mayObey 4 .boolean rm_X2_mayObey [.ref (a 0 0), .int p0, .int p1, .int p2] (wB cs a S) r9 (wB cs a S) := by
  refine MI_of (by decide) (Nat.le_of_ble_eq_true rfl) ?_
  rintro Γ rfl rfl rfl B ret
  show X Γ 4 0 0 0 [(0, .ref (a 0 0)), (1, .int p0), (2, .int p1), (3, .int p2)] [] (wB Γ.cs a S)
  unfold f_X2_mayObey at h
  refine x_iload_n B (pc' := 1) 1 dX2_mayObey_0 rfl rfl rfl ?_
  by_cases hc1 : p0 = 98
  · replace h := ite_t hc1 h
    refine x_tableIn B (off := 95) (pc' := 96) dX2_mayObey_1 (by rw [hc1]; decide) (by rw [hc1]; decide) (by rw [hc1]; rfl) (by decide) ?_
    refine x_aload_n B (pc' := 97) 0 dX2_mayObey_96 rfl rfl rfl ?_
    refine b_ref0 B (pc' := 100) wf_RX2_10 dX2_mayObey_97 rfl ?_
    obtain ⟨r2, er2, h⟩ := bd_elim h
    refine b_nowRi B (pc' := 103) [] (k_X1_mayBegin _ _ _ (a 1) S.2.1 er2) gv_RX2_34 rfl np_X1_mayBegin ⟨Nat.le_of_ble_eq_true rfl, Nat.le_of_ble_eq_true rfl⟩ ⟨by exact Nat.le_of_ble_eq_true rfl, by exact Nat.le_of_ble_eq_true rfl⟩ rfl (Nat.le_of_ble_eq_true rfl) dX2_mayObey_100 rfl ?_
    obtain ⟨hz3, h⟩ := zb_elim h
    have h1 := Option.some.inj h
    subst h1
    exact ret (zb_nar hz3) (by exact Nat.le_of_ble_eq_true rfl) (by exact Nat.le_of_ble_eq_true rfl) dX2_mayObey_103
  replace h := ite_f hc1 h
  by_cases hc6 : p0 = 101
  · replace h := ite_t hc6 h
    refine x_tableIn B (off := 138) (pc' := 139) dX2_mayObey_1 (by rw [hc6]; decide) (by rw [hc6]; decide) (by rw [hc6]; rfl) (by decide) ?_
    refine x_aload_n B (pc' := 140) 0 dX2_mayObey_139 rfl rfl rfl ?_
    refine b_ref0 B (pc' := 143) wf_RX2_10 dX2_mayObey_140 rfl ?_
    refine x_iload_n B (pc' := 144) 3 dX2_mayObey_143 rfl rfl rfl ?_
    obtain ⟨r7, er7, h⟩ := bd_elim h
    refine b_nowRi B (pc' := 147) [.int p2] (k_X1_isRecording _ _ _ (a 1) p2 S.2.1 er7) gv_RX2_276 rfl np_X1_isRecording ⟨Nat.le_of_ble_eq_true rfl, Nat.le_of_ble_eq_true rfl⟩ ⟨by exact Nat.le_of_ble_eq_true rfl, by exact Nat.le_of_ble_eq_true rfl⟩ rfl (Nat.le_of_ble_eq_true rfl) dX2_mayObey_144 rfl ?_
    refine x_if_eq B 165 150 dX2_mayObey_147 (by decide) rfl (fun hc8 => ?_) (fun hc8 => ?_)
    · replace h := ite_t hc8 h
      refine x_iconst B (pc' := 166) 0 dX2_mayObey_165 (by decide) rfl ?_
      have h1 := Option.some.inj h
      subst h1
      exact ret rfl (by exact Nat.le_of_ble_eq_true rfl) (by exact Nat.le_of_ble_eq_true rfl) dX2_mayObey_166
    · replace h := ite_f hc8 h
      refine x_aload_n B (pc' := 151) 0 dX2_mayObey_150 rfl rfl rfl ?_
      refine b_ref0 B (pc' := 154) wf_RX2_10 dX2_mayObey_151 rfl ?_
      refine x_iload_n B (pc' := 155) 3 dX2_mayObey_154 rfl rfl rfl ?_
      obtain ⟨r9, er9, h⟩ := bd_elim h
      refine b_nowRi B (pc' := 158) [.int p2] (k_X1_isFlagged _ _ _ (a 1) p2 S.2.1 er9) gv_RX2_78 rfl np_X1_isFlagged ⟨Nat.le_of_ble_eq_true rfl, Nat.le_of_ble_eq_true rfl⟩ ⟨by exact Nat.le_of_ble_eq_true rfl, by exact Nat.le_of_ble_eq_true rfl⟩ rfl (Nat.le_of_ble_eq_true rfl) dX2_mayObey_155 rfl ?_
      refine x_if_ne B 165 161 dX2_mayObey_158 (by decide) rfl (fun hc10 => ?_) (fun hc10 => ?_)
      · replace h := ite_f hc10 h
        refine x_iconst B (pc' := 166) 0 dX2_mayObey_165 (by decide) rfl ?_
        have h1 := Option.some.inj h
        subst h1
        exact ret rfl (by exact Nat.le_of_ble_eq_true rfl) (by exact Nat.le_of_ble_eq_true rfl) dX2_mayObey_166
      · replace h := ite_t hc10 h
        refine x_iconst B (pc' := 162) 1 dX2_mayObey_161 (by decide) rfl ?_
        refine x_goto B (pc' := 166) dX2_mayObey_162 (by decide) ?_
        have h1 := Option.some.inj h
        subst h1
        exact ret rfl (by exact Nat.le_of_ble_eq_true rfl) (by exact Nat.le_of_ble_eq_true rfl) dX2_mayObey_166
  replace h := ite_f hc6 h
  by_cases hc11 : p0 = 102
  · replace h := ite_t hc11 h
    refine x_tableIn B (off := 129) (pc' := 130) dX2_mayObey_1 (by rw [hc11]; decide) (by rw [hc11]; decide) (by rw [hc11]; rfl) (by decide) ?_
    refine x_aload_n B (pc' := 131) 0 dX2_mayObey_130 rfl rfl rfl ?_
    refine b_ref0 B (pc' := 134) wf_RX2_10 dX2_mayObey_131 rfl ?_
    refine x_iload_n B (pc' := 135) 3 dX2_mayObey_134 rfl rfl rfl ?_
    obtain ⟨r12, er12, h⟩ := bd_elim h
    refine b_nowRi B (pc' := 138) [.int p2] (k_X1_isRecording _ _ _ (a 1) p2 S.2.1 er12) gv_RX2_276 rfl np_X1_isRecording ⟨Nat.le_of_ble_eq_true rfl, Nat.le_of_ble_eq_true rfl⟩ ⟨by exact Nat.le_of_ble_eq_true rfl, by exact Nat.le_of_ble_eq_true rfl⟩ rfl (Nat.le_of_ble_eq_true rfl) dX2_mayObey_135 rfl ?_
    obtain ⟨hz13, h⟩ := zb_elim h
    have h1 := Option.some.inj h
    subst h1
    exact ret (zb_nar hz13) (by exact Nat.le_of_ble_eq_true rfl) (by exact Nat.le_of_ble_eq_true rfl) dX2_mayObey_138
  replace h := ite_f hc11 h
  by_cases hc14 : p0 = 103
  · replace h := ite_t hc14 h
    refine x_tableIn B (off := 129) (pc' := 130) dX2_mayObey_1 (by rw [hc14]; decide) (by rw [hc14]; decide) (by rw [hc14]; rfl) (by decide) ?_
    refine x_aload_n B (pc' := 131) 0 dX2_mayObey_130 rfl rfl rfl ?_
    refine b_ref0 B (pc' := 134) wf_RX2_10 dX2_mayObey_131 rfl ?_
    refine x_iload_n B (pc' := 135) 3 dX2_mayObey_134 rfl rfl rfl ?_
    obtain ⟨r15, er15, h⟩ := bd_elim h
    refine b_nowRi B (pc' := 138) [.int p2] (k_X1_isRecording _ _ _ (a 1) p2 S.2.1 er15) gv_RX2_276 rfl np_X1_isRecording ⟨Nat.le_of_ble_eq_true rfl, Nat.le_of_ble_eq_true rfl⟩ ⟨by exact Nat.le_of_ble_eq_true rfl, by exact Nat.le_of_ble_eq_true rfl⟩ rfl (Nat.le_of_ble_eq_true rfl) dX2_mayObey_135 rfl ?_
    obtain ⟨hz16, h⟩ := zb_elim h
    have h1 := Option.some.inj h
    subst h1
    exact ret (zb_nar hz16) (by exact Nat.le_of_ble_eq_true rfl) (by exact Nat.le_of_ble_eq_true rfl) dX2_mayObey_138
  replace h := ite_f hc14 h
  by_cases hc17 : p0 = 104
  · replace h := ite_t hc17 h
    refine x_tableIn B (off := 103) (pc' := 104) dX2_mayObey_1 (by rw [hc17]; decide) (by rw [hc17]; decide) (by rw [hc17]; rfl) (by decide) ?_
    refine x_aload_n B (pc' := 105) 0 dX2_mayObey_104 rfl rfl rfl ?_
    refine b_ref0 B (pc' := 108) wf_RX2_10 dX2_mayObey_105 rfl ?_
    refine bn_get8 B (pc' := 111) wf_RX2_52 dX2_mayObey_108 rfl ?_
    obtain ⟨hz18, h⟩ := zb_elim h
    have h1 := Option.some.inj h
    subst h1
    exact ret (zb_nar hz18) (by exact Nat.le_of_ble_eq_true rfl) (by exact Nat.le_of_ble_eq_true rfl) dX2_mayObey_111
  replace h := ite_f hc17 h
  by_cases hc21 : p0 = 107
  · replace h := ite_t hc21 h
    refine x_tableIn B (off := 166) (pc' := 167) dX2_mayObey_1 (by rw [hc21]; decide) (by rw [hc21]; decide) (by rw [hc21]; rfl) (by decide) ?_
    refine x_aload_n B (pc' := 168) 0 dX2_mayObey_167 rfl rfl rfl ?_
    refine b_ref0 B (pc' := 171) wf_RX2_10 dX2_mayObey_168 rfl ?_
    refine bn_get12 B (pc' := 174) wf_RX2_157 dX2_mayObey_171 rfl ?_
    refine x_iconst B (pc' := 175) (-1) dX2_mayObey_174 (by decide) rfl ?_
    refine x_icmp_eq B 182 178 dX2_mayObey_175 (by decide) rfl (fun hc22 => ?_) (fun hc22 => ?_)
    · replace h := ite_t hc22 h
      refine x_iconst B (pc' := 183) 0 dX2_mayObey_182 (by decide) rfl ?_
      have h1 := Option.some.inj h
      subst h1
      exact ret rfl (by exact Nat.le_of_ble_eq_true rfl) (by exact Nat.le_of_ble_eq_true rfl) dX2_mayObey_183
    · replace h := ite_f hc22 h
      refine x_iconst B (pc' := 179) 1 dX2_mayObey_178 (by decide) rfl ?_
      refine x_goto B (pc' := 183) dX2_mayObey_179 (by decide) ?_
      have h1 := Option.some.inj h
      subst h1
      exact ret rfl (by exact Nat.le_of_ble_eq_true rfl) (by exact Nat.le_of_ble_eq_true rfl) dX2_mayObey_183
  replace h := ite_f hc21 h
  by_cases hc27 : p0 = 112
  · replace h := ite_t hc27 h
    refine x_tableIn B (off := 166) (pc' := 167) dX2_mayObey_1 (by rw [hc27]; decide) (by rw [hc27]; decide) (by rw [hc27]; rfl) (by decide) ?_
    refine x_aload_n B (pc' := 168) 0 dX2_mayObey_167 rfl rfl rfl ?_
    refine b_ref0 B (pc' := 171) wf_RX2_10 dX2_mayObey_168 rfl ?_
    refine bn_get12 B (pc' := 174) wf_RX2_157 dX2_mayObey_171 rfl ?_
    refine x_iconst B (pc' := 175) (-1) dX2_mayObey_174 (by decide) rfl ?_
    refine x_icmp_eq B 182 178 dX2_mayObey_175 (by decide) rfl (fun hc28 => ?_) (fun hc28 => ?_)
    · replace h := ite_t hc28 h
      refine x_iconst B (pc' := 183) 0 dX2_mayObey_182 (by decide) rfl ?_
      have h1 := Option.some.inj h
      subst h1
      exact ret rfl (by exact Nat.le_of_ble_eq_true rfl) (by exact Nat.le_of_ble_eq_true rfl) dX2_mayObey_183
    · replace h := ite_f hc28 h
      refine x_iconst B (pc' := 179) 1 dX2_mayObey_178 (by decide) rfl ?_
      refine x_goto B (pc' := 183) dX2_mayObey_179 (by decide) ?_
      have h1 := Option.some.inj h
      subst h1
      exact ret rfl (by exact Nat.le_of_ble_eq_true rfl) (by exact Nat.le_of_ble_eq_true rfl) dX2_mayObey_183
  replace h := ite_f hc27 h
  by_cases hc30 : p0 = 114
  · replace h := ite_t hc30 h
    refine x_tableIn B (off := 120) (pc' := 121) dX2_mayObey_1 (by rw [hc30]; decide) (by rw [hc30]; decide) (by rw [hc30]; rfl) (by decide) ?_
    refine x_aload_n B (pc' := 122) 0 dX2_mayObey_121 rfl rfl rfl ?_
    refine b_ref0 B (pc' := 125) wf_RX2_10 dX2_mayObey_122 rfl ?_
    refine x_iload_n B (pc' := 126) 2 dX2_mayObey_125 rfl rfl rfl ?_
    obtain ⟨r31, er31, h⟩ := bd_elim h
    refine b_nowRi B (pc' := 129) [.int p1] (k_X1_maySpeak _ _ _ (a 1) p1 S.2.1 er31) gv_RX2_65 rfl np_X1_maySpeak ⟨Nat.le_of_ble_eq_true rfl, Nat.le_of_ble_eq_true rfl⟩ ⟨by exact Nat.le_of_ble_eq_true rfl, by exact Nat.le_of_ble_eq_true rfl⟩ rfl (Nat.le_of_ble_eq_true rfl) dX2_mayObey_126 rfl ?_
    obtain ⟨hz32, h⟩ := zb_elim h
    have h1 := Option.some.inj h
    subst h1
    exact ret (zb_nar hz32) (by exact Nat.le_of_ble_eq_true rfl) (by exact Nat.le_of_ble_eq_true rfl) dX2_mayObey_129
  replace h := ite_f hc30 h
  by_cases hc33 : p0 = 115
  · replace h := ite_t hc33 h
    refine x_tableIn B (off := 111) (pc' := 112) dX2_mayObey_1 (by rw [hc33]; decide) (by rw [hc33]; decide) (by rw [hc33]; rfl) (by decide) ?_
    refine x_aload_n B (pc' := 113) 0 dX2_mayObey_112 rfl rfl rfl ?_
    refine b_ref0 B (pc' := 116) wf_RX2_10 dX2_mayObey_113 rfl ?_
    refine x_iconst B (pc' := 117) 1 dX2_mayObey_116 (by decide) rfl ?_
    obtain ⟨r34, er34, h⟩ := bd_elim h
    refine b_nowRi B (pc' := 120) [.int (1 : Int32)] (k_X1_maySpeak _ _ _ (a 1) (1 : Int32) S.2.1 er34) gv_RX2_65 rfl np_X1_maySpeak ⟨Nat.le_of_ble_eq_true rfl, Nat.le_of_ble_eq_true rfl⟩ ⟨by exact Nat.le_of_ble_eq_true rfl, by exact Nat.le_of_ble_eq_true rfl⟩ rfl (Nat.le_of_ble_eq_true rfl) dX2_mayObey_117 rfl ?_
    obtain ⟨hz35, h⟩ := zb_elim h
    have h1 := Option.some.inj h
    subst h1
    exact ret (zb_nar hz35) (by exact Nat.le_of_ble_eq_true rfl) (by exact Nat.le_of_ble_eq_true rfl) dX2_mayObey_120
  replace h := ite_f hc33 h
  by_cases hc37 : p0 = 117
  · replace h := ite_t hc37 h
    refine x_tableIn B (off := 129) (pc' := 130) dX2_mayObey_1 (by rw [hc37]; decide) (by rw [hc37]; decide) (by rw [hc37]; rfl) (by decide) ?_
    refine x_aload_n B (pc' := 131) 0 dX2_mayObey_130 rfl rfl rfl ?_
    refine b_ref0 B (pc' := 134) wf_RX2_10 dX2_mayObey_131 rfl ?_
    refine x_iload_n B (pc' := 135) 3 dX2_mayObey_134 rfl rfl rfl ?_
    obtain ⟨r38, er38, h⟩ := bd_elim h
    refine b_nowRi B (pc' := 138) [.int p2] (k_X1_isRecording _ _ _ (a 1) p2 S.2.1 er38) gv_RX2_276 rfl np_X1_isRecording ⟨Nat.le_of_ble_eq_true rfl, Nat.le_of_ble_eq_true rfl⟩ ⟨by exact Nat.le_of_ble_eq_true rfl, by exact Nat.le_of_ble_eq_true rfl⟩ rfl (Nat.le_of_ble_eq_true rfl) dX2_mayObey_135 rfl ?_
    obtain ⟨hz39, h⟩ := zb_elim h
    have h1 := Option.some.inj h
    subst h1
    exact ret (zb_nar hz39) (by exact Nat.le_of_ble_eq_true rfl) (by exact Nat.le_of_ble_eq_true rfl) dX2_mayObey_138
  replace h := ite_f hc37 h
  have kd : X Γ 4 0 0 184 [(0, .ref (a 0 0)), (1, .int p0), (2, .int p1), (3, .int p2)] [] (wB Γ.cs a S) := by
    refine x_iconst B (pc' := 185) 0 dX2_mayObey_184 (by decide) rfl ?_
    have h1 := Option.some.inj h
    subst h1
    exact ret rfl (by exact Nat.le_of_ble_eq_true rfl) (by exact Nat.le_of_ble_eq_true rfl) dX2_mayObey_185
  by_cases hlo : Int32.toInt p0 < 98 ∨ 117 < Int32.toInt p0
  · exact x_tableOut B dX2_mayObey_1 hlo (by decide) kd
  · have hg : ∀ j : Nat, j < 20 → (j ∈ [0, 3, 4, 5, 6, 9, 14, 16, 17, 19] ∨ (#[95, 183, 183, 138, 129, 129, 103, 183, 183, 166, 183, 183, 183, 183, 166, 183, 120, 111, 183, 129] : Array Int)[j]? = some 183) := by decide
    have n0 := lv_neT hc1 (a := 98) (by decide)
    have n1 := lv_neT hc6 (a := 101) (by decide)
    have n2 := lv_neT hc11 (a := 102) (by decide)
    have n3 := lv_neT hc14 (a := 103) (by decide)
    have n4 := lv_neT hc17 (a := 104) (by decide)
    have n5 := lv_neT hc21 (a := 107) (by decide)
    have n6 := lv_neT hc27 (a := 112) (by decide)
    have n7 := lv_neT hc30 (a := 114) (by decide)
    have n8 := lv_neT hc33 (a := 115) (by decide)
    have n9 := lv_neT hc37 (a := 117) (by decide)
    exact x_tableIn B dX2_mayObey_1 (by omega) (by omega) ((hg (Int32.toInt p0 - 98).toNat (by omega)).elim (fun q => absurd q (by simp only [List.mem_cons, List.not_mem_nil, or_false]; omega)) id) (by decide) kd
def f_X2_obey (p0 : Int32) (p1 : Int32) (p2 : Int32) (S : BO) : Option BO :=
  if p0 = 98 then (bd2 (f_X1_beginRecording S.2.1) (fun (r4 : Int32) (S2 : OB) => nm (fun (S3 : BO) => some S3) (S.1, S2, S.2.2))) else (if p0 = 101 then (bd2 (f_X1_eraseRecording p2 S.2.1) (fun (r10 : Int32) (S8 : OB) => nm (fun (S9 : BO) => some S9) (S.1, S8, S.2.2))) else (if p0 = 102 then (bd (f_X1_putFlag p2 (1 : Int32) S.2.1) (fun (S12 : OB) => nm (fun (S13 : BO) => some S13) (S.1, S12, S.2.2))) else (if p0 = 103 then (bd (f_X1_bringPlayer p2 S.2.1) (fun (S15 : OB) => nm (fun (S16 : BO) => some S16) (S.1, S15, S.2.2))) else (if p0 = 104 then (bd2 (f_X1_stopRecording S.2.1) (fun (r20 : Int32) (S18 : OB) => nm (fun (S19 : BO) => some S19) (S.1, S18, S.2.2))) else (if p0 = 107 then (bd2 (f_X1_stepBack p2 S.2.1) (fun (r26 : Int32) (S24 : OB) => nm (fun (S25 : BO) => some S25) (S.1, S24, S.2.2))) else (if p0 = 112 then (bd2 (f_X1_playCell S.2.1) (fun (r34 : Int32) (S32 : OB) => nm (fun (S33 : BO) => some S33) (S.1, S32, S.2.2))) else (if p0 = 114 then (bd2 (f_X1_speakTimes p1 p2 S.2.1) (fun (r39 : Int32) (S37 : OB) => nm (fun (S38 : BO) => some S38) (S.1, S37, S.2.2))) else (if p0 = 115 then (bd2 (f_X1_speakTimes (1 : Int32) p2 S.2.1) (fun (r43 : Int32) (S41 : OB) => nm (fun (S42 : BO) => some S42) (S.1, S41, S.2.2))) else (if p0 = 117 then (bd (f_X1_putFlag p2 (0 : Int32) S.2.1) (fun (S46 : OB) => nm (fun (S47 : BO) => some S47) (S.1, S46, S.2.2))) else (some S))))))))))
abbrev rm_X2_obey : Room := { frames := 4, cells := 0, slots := 0, locals := 93 }
theorem np_X2_obey : yX2_obey.cls ≠ "java/lang/invoke/MethodHandle" ∧ yX2_obey.cls ≠ "java/lang/invoke/VarHandle" ∧ (parseMethodDescriptor yX2_obey.desc).map (fun d => d.parameters.length) = some 3 := by decide +kernel
set_option maxHeartbeats 4000000 in
set_option maxRecDepth 100000 in
theorem k_X2_obey (l : Launch) (D : va_G) (cs : CS) (a : Nat → Nat → Nat) (p0 : Int32) (p1 : Int32) (p2 : Int32) (S : BO) {S9 : BO} (h : f_X2_obey p0 p1 p2 S = some S9) : MV l D cs yX2_obey cX2_obey 4 rm_X2_obey [.ref (a 0 0), .int p0, .int p1, .int p2] (wB cs a S) (wB cs a S9) := by
  refine MV_of (by decide) (Nat.le_of_ble_eq_true rfl) ?_
  rintro Γ rfl rfl rfl B ret
  show X Γ 4 0 0 0 [(0, .ref (a 0 0)), (1, .int p0), (2, .int p1), (3, .int p2)] [] (wB Γ.cs a S)
  unfold f_X2_obey at h
  refine x_iload_n B (pc' := 1) 1 dX2_obey_0 rfl rfl rfl ?_
  by_cases hc1 : p0 = 98
  · replace h := ite_t hc1 h
    refine x_tableIn B (off := 95) (pc' := 96) dX2_obey_1 (by rw [hc1]; decide) (by rw [hc1]; decide) (by rw [hc1]; rfl) (by decide) ?_
    refine x_aload_n B (pc' := 97) 0 dX2_obey_96 rfl rfl rfl ?_
    refine b_ref0 B (pc' := 100) wf_RX2_10 dX2_obey_97 rfl ?_
    obtain ⟨r4, S2, er4, h⟩ := bd2_elim h
    obtain ⟨S3, eS3, h⟩ := nm_elim h
    refine b_nowVi B (pc' := 103) [] (k_X1_beginRecording _ _ _ (a 1) S.2.1 er4) gv_RX2_48 rfl np_X1_beginRecording ⟨Nat.le_of_ble_eq_true rfl, Nat.le_of_ble_eq_true rfl⟩ ⟨by exact Nat.le_of_ble_eq_true rfl, by exact Nat.le_of_ble_eq_true rfl⟩ rfl (Nat.le_of_ble_eq_true rfl) dX2_obey_100 rfl ?_
    refine b_wd eS3 ?_
    refine x_pop B (pc' := 104) dX2_obey_103 rfl rfl ?_
    refine x_goto B (pc' := 214) dX2_obey_104 (by decide) ?_
    cases h
    exact ret (by exact Nat.le_of_ble_eq_true rfl) (by exact Nat.le_of_ble_eq_true rfl) dX2_obey_214
  replace h := ite_f hc1 h
  by_cases hc7 : p0 = 101
  · replace h := ite_t hc7 h
    refine x_tableIn B (off := 167) (pc' := 168) dX2_obey_1 (by rw [hc7]; decide) (by rw [hc7]; decide) (by rw [hc7]; rfl) (by decide) ?_
    refine x_aload_n B (pc' := 169) 0 dX2_obey_168 rfl rfl rfl ?_
    refine b_ref0 B (pc' := 172) wf_RX2_10 dX2_obey_169 rfl ?_
    refine x_iload_n B (pc' := 173) 3 dX2_obey_172 rfl rfl rfl ?_
    obtain ⟨r10, S8, er10, h⟩ := bd2_elim h
    obtain ⟨S9, eS9, h⟩ := nm_elim h
    refine b_nowVi B (pc' := 176) [.int p2] (k_X1_eraseRecording _ _ _ (a 1) p2 S.2.1 er10) gv_RX2_87 rfl np_X1_eraseRecording ⟨Nat.le_of_ble_eq_true rfl, Nat.le_of_ble_eq_true rfl⟩ ⟨by exact Nat.le_of_ble_eq_true rfl, by exact Nat.le_of_ble_eq_true rfl⟩ rfl (Nat.le_of_ble_eq_true rfl) dX2_obey_173 rfl ?_
    refine b_wd eS9 ?_
    refine x_pop B (pc' := 177) dX2_obey_176 rfl rfl ?_
    refine x_goto B (pc' := 214) dX2_obey_177 (by decide) ?_
    cases h
    exact ret (by exact Nat.le_of_ble_eq_true rfl) (by exact Nat.le_of_ble_eq_true rfl) dX2_obey_214
  replace h := ite_f hc7 h
  by_cases hc11 : p0 = 102
  · replace h := ite_t hc11 h
    refine x_tableIn B (off := 143) (pc' := 144) dX2_obey_1 (by rw [hc11]; decide) (by rw [hc11]; decide) (by rw [hc11]; rfl) (by decide) ?_
    refine x_aload_n B (pc' := 145) 0 dX2_obey_144 rfl rfl rfl ?_
    refine b_ref0 B (pc' := 148) wf_RX2_10 dX2_obey_145 rfl ?_
    refine x_iload_n B (pc' := 149) 3 dX2_obey_148 rfl rfl rfl ?_
    refine x_iconst B (pc' := 150) 1 dX2_obey_149 (by decide) rfl ?_
    obtain ⟨S12, eS12, h⟩ := bd_elim h
    obtain ⟨S13, eS13, h⟩ := nm_elim h
    refine b_nowVv B (pc' := 153) [.int p2, .int (1 : Int32)] (k_X1_putFlag _ _ _ (a 1) p2 (1 : Int32) S.2.1 eS12) gv_RX2_81 rfl np_X1_putFlag ⟨Nat.le_of_ble_eq_true rfl, Nat.le_of_ble_eq_true rfl⟩ ⟨by exact Nat.le_of_ble_eq_true rfl, by exact Nat.le_of_ble_eq_true rfl⟩ rfl (Nat.le_of_ble_eq_true rfl) dX2_obey_150 rfl ?_
    refine b_wd eS13 ?_
    refine x_goto B (pc' := 214) dX2_obey_153 (by decide) ?_
    cases h
    exact ret (by exact Nat.le_of_ble_eq_true rfl) (by exact Nat.le_of_ble_eq_true rfl) dX2_obey_214
  replace h := ite_f hc11 h
  by_cases hc14 : p0 = 103
  · replace h := ite_t hc14 h
    refine x_tableIn B (off := 179) (pc' := 180) dX2_obey_1 (by rw [hc14]; decide) (by rw [hc14]; decide) (by rw [hc14]; rfl) (by decide) ?_
    refine x_aload_n B (pc' := 181) 0 dX2_obey_180 rfl rfl rfl ?_
    refine b_ref0 B (pc' := 184) wf_RX2_10 dX2_obey_181 rfl ?_
    refine x_iload_n B (pc' := 185) 3 dX2_obey_184 rfl rfl rfl ?_
    obtain ⟨S15, eS15, h⟩ := bd_elim h
    obtain ⟨S16, eS16, h⟩ := nm_elim h
    refine b_nowVv B (pc' := 188) [.int p2] (k_X1_bringPlayer _ _ _ (a 1) p2 S.2.1 eS15) gv_RX2_140 rfl np_X1_bringPlayer ⟨Nat.le_of_ble_eq_true rfl, Nat.le_of_ble_eq_true rfl⟩ ⟨by exact Nat.le_of_ble_eq_true rfl, by exact Nat.le_of_ble_eq_true rfl⟩ rfl (Nat.le_of_ble_eq_true rfl) dX2_obey_185 rfl ?_
    refine b_wd eS16 ?_
    refine x_goto B (pc' := 214) dX2_obey_188 (by decide) ?_
    cases h
    exact ret (by exact Nat.le_of_ble_eq_true rfl) (by exact Nat.le_of_ble_eq_true rfl) dX2_obey_214
  replace h := ite_f hc14 h
  by_cases hc17 : p0 = 104
  · replace h := ite_t hc17 h
    refine x_tableIn B (off := 106) (pc' := 107) dX2_obey_1 (by rw [hc17]; decide) (by rw [hc17]; decide) (by rw [hc17]; rfl) (by decide) ?_
    refine x_aload_n B (pc' := 108) 0 dX2_obey_107 rfl rfl rfl ?_
    refine b_ref0 B (pc' := 111) wf_RX2_10 dX2_obey_108 rfl ?_
    obtain ⟨r20, S18, er20, h⟩ := bd2_elim h
    obtain ⟨S19, eS19, h⟩ := nm_elim h
    refine b_nowVi B (pc' := 114) [] (k_X1_stopRecording _ _ _ (a 1) S.2.1 er20) gv_RX2_58 rfl np_X1_stopRecording ⟨Nat.le_of_ble_eq_true rfl, Nat.le_of_ble_eq_true rfl⟩ ⟨by exact Nat.le_of_ble_eq_true rfl, by exact Nat.le_of_ble_eq_true rfl⟩ rfl (Nat.le_of_ble_eq_true rfl) dX2_obey_111 rfl ?_
    refine b_wd eS19 ?_
    refine x_pop B (pc' := 115) dX2_obey_114 rfl rfl ?_
    refine x_goto B (pc' := 214) dX2_obey_115 (by decide) ?_
    cases h
    exact ret (by exact Nat.le_of_ble_eq_true rfl) (by exact Nat.le_of_ble_eq_true rfl) dX2_obey_214
  replace h := ite_f hc17 h
  by_cases hc23 : p0 = 107
  · replace h := ite_t hc23 h
    refine x_tableIn B (off := 201) (pc' := 202) dX2_obey_1 (by rw [hc23]; decide) (by rw [hc23]; decide) (by rw [hc23]; rfl) (by decide) ?_
    refine x_aload_n B (pc' := 203) 0 dX2_obey_202 rfl rfl rfl ?_
    refine b_ref0 B (pc' := 206) wf_RX2_10 dX2_obey_203 rfl ?_
    refine x_iload_n B (pc' := 207) 3 dX2_obey_206 rfl rfl rfl ?_
    obtain ⟨r26, S24, er26, h⟩ := bd2_elim h
    obtain ⟨S25, eS25, h⟩ := nm_elim h
    refine b_nowVi B (pc' := 210) [.int p2] (k_X1_stepBack _ _ _ (a 1) p2 S.2.1 er26) gv_RX2_154 rfl np_X1_stepBack ⟨Nat.le_of_ble_eq_true rfl, Nat.le_of_ble_eq_true rfl⟩ ⟨by exact Nat.le_of_ble_eq_true rfl, by exact Nat.le_of_ble_eq_true rfl⟩ rfl (Nat.le_of_ble_eq_true rfl) dX2_obey_207 rfl ?_
    refine b_wd eS25 ?_
    refine x_pop B (pc' := 211) dX2_obey_210 rfl rfl ?_
    refine x_goto B (pc' := 214) dX2_obey_211 (by decide) ?_
    cases h
    exact ret (by exact Nat.le_of_ble_eq_true rfl) (by exact Nat.le_of_ble_eq_true rfl) dX2_obey_214
  replace h := ite_f hc23 h
  by_cases hc31 : p0 = 112
  · replace h := ite_t hc31 h
    refine x_tableIn B (off := 190) (pc' := 191) dX2_obey_1 (by rw [hc31]; decide) (by rw [hc31]; decide) (by rw [hc31]; rfl) (by decide) ?_
    refine x_aload_n B (pc' := 192) 0 dX2_obey_191 rfl rfl rfl ?_
    refine b_ref0 B (pc' := 195) wf_RX2_10 dX2_obey_192 rfl ?_
    obtain ⟨r34, S32, er34, h⟩ := bd2_elim h
    obtain ⟨S33, eS33, h⟩ := nm_elim h
    refine b_nowVi B (pc' := 198) [] (k_X1_playCell _ _ _ (a 1) S.2.1 er34) gv_RX2_146 rfl np_X1_playCell ⟨Nat.le_of_ble_eq_true rfl, Nat.le_of_ble_eq_true rfl⟩ ⟨by exact Nat.le_of_ble_eq_true rfl, by exact Nat.le_of_ble_eq_true rfl⟩ rfl (Nat.le_of_ble_eq_true rfl) dX2_obey_195 rfl ?_
    refine b_wd eS33 ?_
    refine x_pop B (pc' := 199) dX2_obey_198 rfl rfl ?_
    refine x_goto B (pc' := 214) dX2_obey_199 (by decide) ?_
    cases h
    exact ret (by exact Nat.le_of_ble_eq_true rfl) (by exact Nat.le_of_ble_eq_true rfl) dX2_obey_214
  replace h := ite_f hc31 h
  by_cases hc36 : p0 = 114
  · replace h := ite_t hc36 h
    refine x_tableIn B (off := 130) (pc' := 131) dX2_obey_1 (by rw [hc36]; decide) (by rw [hc36]; decide) (by rw [hc36]; rfl) (by decide) ?_
    refine x_aload_n B (pc' := 132) 0 dX2_obey_131 rfl rfl rfl ?_
    refine b_ref0 B (pc' := 135) wf_RX2_10 dX2_obey_132 rfl ?_
    refine x_iload_n B (pc' := 136) 2 dX2_obey_135 rfl rfl rfl ?_
    refine x_iload_n B (pc' := 137) 3 dX2_obey_136 rfl rfl rfl ?_
    obtain ⟨r39, S37, er39, h⟩ := bd2_elim h
    obtain ⟨S38, eS38, h⟩ := nm_elim h
    refine b_nowVi B (pc' := 140) [.int p1, .int p2] (k_X1_speakTimes _ _ _ (a 1) p1 p2 S.2.1 er39) gv_RX2_71 rfl np_X1_speakTimes ⟨Nat.le_of_ble_eq_true rfl, Nat.le_of_ble_eq_true rfl⟩ ⟨by exact Nat.le_of_ble_eq_true rfl, by exact Nat.le_of_ble_eq_true rfl⟩ rfl (Nat.le_of_ble_eq_true rfl) dX2_obey_137 rfl ?_
    refine b_wd eS38 ?_
    refine x_pop B (pc' := 141) dX2_obey_140 rfl rfl ?_
    refine x_goto B (pc' := 214) dX2_obey_141 (by decide) ?_
    cases h
    exact ret (by exact Nat.le_of_ble_eq_true rfl) (by exact Nat.le_of_ble_eq_true rfl) dX2_obey_214
  replace h := ite_f hc36 h
  by_cases hc40 : p0 = 115
  · replace h := ite_t hc40 h
    refine x_tableIn B (off := 117) (pc' := 118) dX2_obey_1 (by rw [hc40]; decide) (by rw [hc40]; decide) (by rw [hc40]; rfl) (by decide) ?_
    refine x_aload_n B (pc' := 119) 0 dX2_obey_118 rfl rfl rfl ?_
    refine b_ref0 B (pc' := 122) wf_RX2_10 dX2_obey_119 rfl ?_
    refine x_iconst B (pc' := 123) 1 dX2_obey_122 (by decide) rfl ?_
    refine x_iload_n B (pc' := 124) 3 dX2_obey_123 rfl rfl rfl ?_
    obtain ⟨r43, S41, er43, h⟩ := bd2_elim h
    obtain ⟨S42, eS42, h⟩ := nm_elim h
    refine b_nowVi B (pc' := 127) [.int (1 : Int32), .int p2] (k_X1_speakTimes _ _ _ (a 1) (1 : Int32) p2 S.2.1 er43) gv_RX2_71 rfl np_X1_speakTimes ⟨Nat.le_of_ble_eq_true rfl, Nat.le_of_ble_eq_true rfl⟩ ⟨by exact Nat.le_of_ble_eq_true rfl, by exact Nat.le_of_ble_eq_true rfl⟩ rfl (Nat.le_of_ble_eq_true rfl) dX2_obey_124 rfl ?_
    refine b_wd eS42 ?_
    refine x_pop B (pc' := 128) dX2_obey_127 rfl rfl ?_
    refine x_goto B (pc' := 214) dX2_obey_128 (by decide) ?_
    cases h
    exact ret (by exact Nat.le_of_ble_eq_true rfl) (by exact Nat.le_of_ble_eq_true rfl) dX2_obey_214
  replace h := ite_f hc40 h
  by_cases hc45 : p0 = 117
  · replace h := ite_t hc45 h
    refine x_tableIn B (off := 155) (pc' := 156) dX2_obey_1 (by rw [hc45]; decide) (by rw [hc45]; decide) (by rw [hc45]; rfl) (by decide) ?_
    refine x_aload_n B (pc' := 157) 0 dX2_obey_156 rfl rfl rfl ?_
    refine b_ref0 B (pc' := 160) wf_RX2_10 dX2_obey_157 rfl ?_
    refine x_iload_n B (pc' := 161) 3 dX2_obey_160 rfl rfl rfl ?_
    refine x_iconst B (pc' := 162) 0 dX2_obey_161 (by decide) rfl ?_
    obtain ⟨S46, eS46, h⟩ := bd_elim h
    obtain ⟨S47, eS47, h⟩ := nm_elim h
    refine b_nowVv B (pc' := 165) [.int p2, .int (0 : Int32)] (k_X1_putFlag _ _ _ (a 1) p2 (0 : Int32) S.2.1 eS46) gv_RX2_81 rfl np_X1_putFlag ⟨Nat.le_of_ble_eq_true rfl, Nat.le_of_ble_eq_true rfl⟩ ⟨by exact Nat.le_of_ble_eq_true rfl, by exact Nat.le_of_ble_eq_true rfl⟩ rfl (Nat.le_of_ble_eq_true rfl) dX2_obey_162 rfl ?_
    refine b_wd eS47 ?_
    refine x_goto B (pc' := 214) dX2_obey_165 (by decide) ?_
    cases h
    exact ret (by exact Nat.le_of_ble_eq_true rfl) (by exact Nat.le_of_ble_eq_true rfl) dX2_obey_214
  replace h := ite_f hc45 h
  have kd : X Γ 4 0 0 214 [(0, .ref (a 0 0)), (1, .int p0), (2, .int p1), (3, .int p2)] [] (wB Γ.cs a S) := by
    cases h
    exact ret (by exact Nat.le_of_ble_eq_true rfl) (by exact Nat.le_of_ble_eq_true rfl) dX2_obey_214
  by_cases hlo : Int32.toInt p0 < 98 ∨ 117 < Int32.toInt p0
  · exact x_tableOut B dX2_obey_1 hlo (by decide) kd
  · have hg : ∀ j : Nat, j < 20 → (j ∈ [0, 3, 4, 5, 6, 9, 14, 16, 17, 19] ∨ (#[95, 213, 213, 167, 143, 179, 106, 213, 213, 201, 213, 213, 213, 213, 190, 213, 130, 117, 213, 155] : Array Int)[j]? = some 213) := by decide
    have n0 := lv_neT hc1 (a := 98) (by decide)
    have n1 := lv_neT hc7 (a := 101) (by decide)
    have n2 := lv_neT hc11 (a := 102) (by decide)
    have n3 := lv_neT hc14 (a := 103) (by decide)
    have n4 := lv_neT hc17 (a := 104) (by decide)
    have n5 := lv_neT hc23 (a := 107) (by decide)
    have n6 := lv_neT hc31 (a := 112) (by decide)
    have n7 := lv_neT hc36 (a := 114) (by decide)
    have n8 := lv_neT hc40 (a := 115) (by decide)
    have n9 := lv_neT hc45 (a := 117) (by decide)
    exact x_tableIn B dX2_obey_1 (by omega) (by omega) ((hg (Int32.toInt p0 - 98).toNat (by omega)).elim (fun q => absurd q (by simp only [List.mem_cons, List.not_mem_nil, or_false]; omega)) id) (by decide) kd
def c_X2_obeyOrders_57 (K26 : Int32 → Int32 → Int32 → Int32 → Int32 → Int32 → BO → Option (Int32 × BO)) (x1 : Int32) (x2 : Int32) (x3 : Int32) (x4 : Int32) (x5 : Int32) (x6 : Int32) (t0 : Int32) (S : BO) : Option (Int32 × BO) :=
  if t0 = (59 : Int32) then (bd (f_X2_mayObey x2 x3 x4 S) (fun (r11 : Int32) => if r11 = 0 then (some (x1, S)) else (bd (f_X2_obey x2 x3 x4 S) (fun (S13 : BO) => nm (fun (v14 : Int32) => nm (fun (v15 : Int32) => K26 v14 ((-1) : Int32) (0 : Int32) (0 : Int32) x5 v15 S13) (x6 + 1)) (x1 + 1))))) else (if t0 = (61 : Int32) then (nm (fun (v10 : Int32) => K26 x1 x2 x4 (0 : Int32) x5 v10 S) (x6 + 1)) else (if x2 = ((-1) : Int32) then (nm (fun (v9 : Int32) => K26 x1 t0 x3 x4 x5 v9 S) (x6 + 1)) else (nm (fun (v7 : Int32) => nm (fun (v8 : Int32) => K26 x1 x2 x3 v7 x5 v8 S) (x6 + 1)) (((10 : Int32) * x4) + (t0 - (48 : Int32))))))
def b_X2_obeyOrders_26 (K26 : Int32 → Int32 → Int32 → Int32 → Int32 → Int32 → BO → Option (Int32 × BO)) (x1 : Int32) (x2 : Int32) (x3 : Int32) (x4 : Int32) (x5 : Int32) (x6 : Int32) (S : BO) : Option (Int32 × BO) :=
  if x5 < x6 then (some (x1, S)) else (if x5 ≤ x6 then (c_X2_obeyOrders_57 K26 x1 x2 x3 x4 x5 x6 (59 : Int32) S) else (c_X2_obeyOrders_57 K26 x1 x2 x3 x4 x5 x6 (vAt 60 (S.2.2.2.2 0) x6) S))
def f_X2_obeyOrders (S : BO) : Option (Int32 × BO) :=
  nm (fun (v1 : Int32) => lpf7 (b_X2_obeyOrders_26) FU (0 : Int32) ((-1) : Int32) (0 : Int32) (0 : Int32) v1 (0 : Int32) S) (if (60 : Int32) < (S.2.2.2.1 1) then (60 : Int32) else (S.2.2.2.1 1))
abbrev rm_X2_obeyOrders : Room := { frames := 5, cells := 0, slots := 0, locals := 116 }
theorem np_X2_obeyOrders : yX2_obeyOrders.cls ≠ "java/lang/invoke/MethodHandle" ∧ yX2_obeyOrders.cls ≠ "java/lang/invoke/VarHandle" ∧ (parseMethodDescriptor yX2_obeyOrders.desc).map (fun d => d.parameters.length) = some 0 := by decide +kernel
set_option maxHeartbeats 4000000 in
set_option maxRecDepth 100000 in
theorem k_X2_obeyOrders (l : Launch) (D : va_G) (cs : CS) (a : Nat → Nat → Nat) (S : BO) {r9 : Int32} {S9 : BO} (h : f_X2_obeyOrders S = some (r9, S9)) : MI l D cs yX2_obeyOrders cX2_obeyOrders 8 .int rm_X2_obeyOrders [.ref (a 0 0)] (wB cs a S) r9 (wB cs a S9) := by
  refine MI_of (by decide) (Nat.le_of_ble_eq_true rfl) ?_
  rintro Γ rfl rfl rfl B ret
  show X Γ 8 0 0 0 [(0, .ref (a 0 0))] [] (wB Γ.cs a S)
  have h57 : ∀ (K26 : Int32 → Int32 → Int32 → Int32 → Int32 → Int32 → BO → Option (Int32 × BO)) (_ : ∀ x1 x2 x3 x4 x5 x6 S, K26 x1 x2 x3 x4 x5 x6 S = some (r9, S9) → X Γ 8 0 0 26 [(0, .ref (a 0 0)), (1, .int x1), (2, .int x2), (3, .int x3), (4, .int x4), (5, .int x5), (6, .int x6)] [] (wB Γ.cs a S)) (x1 : Int32) (x2 : Int32) (x3 : Int32) (x4 : Int32) (x5 : Int32) (x6 : Int32) (t0 : Int32) (S : BO), c_X2_obeyOrders_57 K26 x1 x2 x3 x4 x5 x6 t0 S = some (r9, S9) → X Γ 8 0 0 57 [(0, .ref (a 0 0)), (1, .int x1), (2, .int x2), (3, .int x3), (4, .int x4), (5, .int x5), (6, .int x6)] [.int t0] (wB Γ.cs a S) := by
    intro K26 hK26 x1 x2 x3 x4 x5 x6 t0 S h
    unfold c_X2_obeyOrders_57 at h
    refine x_istore B (pc' := 59) [1, 2, 3, 4, 5, 6, 7, 0] [(0, .ref (a 0 0)), (1, .int x1), (2, .int x2), (3, .int x3), (4, .int x4), (5, .int x5), (6, .int x6), (7, .int t0)] dX2_obeyOrders_57 (by decide) rfl rfl ?_
    refine x_iload B (pc' := 61) 7 dX2_obeyOrders_59 rfl rfl ?_
    refine x_bipush B (pc' := 63) 59 dX2_obeyOrders_61 (by decide) rfl ?_
    refine x_icmp_ne B 100 66 dX2_obeyOrders_63 (by decide) rfl (fun hc4 => ?_) (fun hc4 => ?_)
    · replace h := ite_f hc4 h
      refine x_iload B (pc' := 102) 7 dX2_obeyOrders_100 rfl rfl ?_
      refine x_bipush B (pc' := 104) 61 dX2_obeyOrders_102 (by decide) rfl ?_
      refine x_icmp_ne B 116 107 dX2_obeyOrders_104 (by decide) rfl (fun hc5 => ?_) (fun hc5 => ?_)
      · replace h := ite_f hc5 h
        refine x_iload_n B (pc' := 117) 2 dX2_obeyOrders_116 rfl rfl rfl ?_
        refine x_iconst B (pc' := 118) (-1) dX2_obeyOrders_117 (by decide) rfl ?_
        refine x_icmp_ne B 127 121 dX2_obeyOrders_118 (by decide) rfl (fun hc6 => ?_) (fun hc6 => ?_)
        · replace h := ite_f hc6 h
          refine x_bipush B (pc' := 129) 10 dX2_obeyOrders_127 (by decide) rfl ?_
          refine x_iload B (pc' := 131) 4 dX2_obeyOrders_129 rfl rfl ?_
          refine x_imul B (pc' := 132) dX2_obeyOrders_131 rfl ?_
          refine x_iload B (pc' := 134) 7 dX2_obeyOrders_132 rfl rfl ?_
          refine x_bipush B (pc' := 136) 48 dX2_obeyOrders_134 (by decide) rfl ?_
          refine x_isub B (pc' := 137) dX2_obeyOrders_136 rfl ?_
          refine x_iadd B (pc' := 138) dX2_obeyOrders_137 rfl ?_
          obtain ⟨v7, ev7, h⟩ := nm_elim h
          refine x_topi ev7 ?_
          refine x_istore B (pc' := 140) [1, 2, 3, 4, 0, 5, 6, 7] [(0, .ref (a 0 0)), (1, .int x1), (2, .int x2), (3, .int x3), (4, .int v7), (5, .int x5), (6, .int x6), (7, .int t0)] dX2_obeyOrders_138 (by decide) rfl rfl ?_
          obtain ⟨v8, ev8, h⟩ := nm_elim h
          refine x_iinc B (pc' := 143) v8 6 [1, 2, 3, 4, 5, 6, 0, 7] [(0, .ref (a 0 0)), (1, .int x1), (2, .int x2), (3, .int x3), (4, .int v7), (5, .int x5), (6, .int v8), (7, .int t0)] dX2_obeyOrders_140 rfl (by rw [ev8]; rfl) (by decide) rfl rfl ?_
          refine x_goto B (pc' := 26) dX2_obeyOrders_143 (by decide) ?_
          refine x_lv [0, 1, 2, 3, 4, 5, 6] (lv' := [(0, .ref (a 0 0)), (1, .int x1), (2, .int x2), (3, .int x3), (4, .int v7), (5, .int x5), (6, .int v8)]) rfl ?_
          exact hK26 _ _ _ _ _ _ _ h
        · replace h := ite_t hc6 h
          refine x_iload B (pc' := 123) 7 dX2_obeyOrders_121 rfl rfl ?_
          refine x_istore_n B (pc' := 124) [1, 2, 0, 3, 4, 5, 6, 7] [(0, .ref (a 0 0)), (1, .int x1), (2, .int t0), (3, .int x3), (4, .int x4), (5, .int x5), (6, .int x6), (7, .int t0)] dX2_obeyOrders_123 rfl (by decide) rfl rfl ?_
          refine x_goto B (pc' := 140) dX2_obeyOrders_124 (by decide) ?_
          obtain ⟨v9, ev9, h⟩ := nm_elim h
          refine x_iinc B (pc' := 143) v9 6 [1, 2, 3, 4, 5, 6, 0, 7] [(0, .ref (a 0 0)), (1, .int x1), (2, .int t0), (3, .int x3), (4, .int x4), (5, .int x5), (6, .int v9), (7, .int t0)] dX2_obeyOrders_140 rfl (by rw [ev9]; rfl) (by decide) rfl rfl ?_
          refine x_goto B (pc' := 26) dX2_obeyOrders_143 (by decide) ?_
          refine x_lv [0, 1, 2, 3, 4, 5, 6] (lv' := [(0, .ref (a 0 0)), (1, .int x1), (2, .int t0), (3, .int x3), (4, .int x4), (5, .int x5), (6, .int v9)]) rfl ?_
          exact hK26 _ _ _ _ _ _ _ h
      · replace h := ite_t hc5 h
        refine x_iload B (pc' := 109) 4 dX2_obeyOrders_107 rfl rfl ?_
        refine x_istore_n B (pc' := 110) [1, 2, 3, 0, 4, 5, 6, 7] [(0, .ref (a 0 0)), (1, .int x1), (2, .int x2), (3, .int x4), (4, .int x4), (5, .int x5), (6, .int x6), (7, .int t0)] dX2_obeyOrders_109 rfl (by decide) rfl rfl ?_
        refine x_iconst B (pc' := 111) 0 dX2_obeyOrders_110 (by decide) rfl ?_
        refine x_istore B (pc' := 113) [1, 2, 3, 4, 0, 5, 6, 7] [(0, .ref (a 0 0)), (1, .int x1), (2, .int x2), (3, .int x4), (4, .int (0 : Int32)), (5, .int x5), (6, .int x6), (7, .int t0)] dX2_obeyOrders_111 (by decide) rfl rfl ?_
        refine x_goto B (pc' := 140) dX2_obeyOrders_113 (by decide) ?_
        obtain ⟨v10, ev10, h⟩ := nm_elim h
        refine x_iinc B (pc' := 143) v10 6 [1, 2, 3, 4, 5, 6, 0, 7] [(0, .ref (a 0 0)), (1, .int x1), (2, .int x2), (3, .int x4), (4, .int (0 : Int32)), (5, .int x5), (6, .int v10), (7, .int t0)] dX2_obeyOrders_140 rfl (by rw [ev10]; rfl) (by decide) rfl rfl ?_
        refine x_goto B (pc' := 26) dX2_obeyOrders_143 (by decide) ?_
        refine x_lv [0, 1, 2, 3, 4, 5, 6] (lv' := [(0, .ref (a 0 0)), (1, .int x1), (2, .int x2), (3, .int x4), (4, .int (0 : Int32)), (5, .int x5), (6, .int v10)]) rfl ?_
        exact hK26 _ _ _ _ _ _ _ h
    · replace h := ite_t hc4 h
      refine x_aload_n B (pc' := 67) 0 dX2_obeyOrders_66 rfl rfl rfl ?_
      refine x_iload_n B (pc' := 68) 2 dX2_obeyOrders_67 rfl rfl rfl ?_
      refine x_iload_n B (pc' := 69) 3 dX2_obeyOrders_68 rfl rfl rfl ?_
      refine x_iload B (pc' := 71) 4 dX2_obeyOrders_69 rfl rfl ?_
      obtain ⟨r11, er11, h⟩ := bd_elim h
      refine x_selfVi B (pc' := 74) [.int x2, .int x3, .int x4] (k_X2_mayObey _ _ _ a x2 x3 x4 S er11) rfl rfl gv_RX2_268 rfl np_X2_mayObey ⟨Nat.le_of_ble_eq_true rfl, Nat.le_of_ble_eq_true rfl⟩ ⟨by exact Nat.le_of_ble_eq_true rfl, by exact Nat.le_of_ble_eq_true rfl⟩ rfl (Nat.le_of_ble_eq_true rfl) dX2_obeyOrders_71 rfl ?_
      refine x_if_ne B 79 77 dX2_obeyOrders_74 (by decide) rfl (fun hc12 => ?_) (fun hc12 => ?_)
      · replace h := ite_f hc12 h
        refine x_aload_n B (pc' := 80) 0 dX2_obeyOrders_79 rfl rfl rfl ?_
        refine x_iload_n B (pc' := 81) 2 dX2_obeyOrders_80 rfl rfl rfl ?_
        refine x_iload_n B (pc' := 82) 3 dX2_obeyOrders_81 rfl rfl rfl ?_
        refine x_iload B (pc' := 84) 4 dX2_obeyOrders_82 rfl rfl ?_
        obtain ⟨S13, eS13, h⟩ := bd_elim h
        refine x_selfVv B (pc' := 87) [.int x2, .int x3, .int x4] (k_X2_obey _ _ _ a x2 x3 x4 S eS13) rfl rfl gv_RX2_272 rfl np_X2_obey ⟨Nat.le_of_ble_eq_true rfl, Nat.le_of_ble_eq_true rfl⟩ ⟨by exact Nat.le_of_ble_eq_true rfl, by exact Nat.le_of_ble_eq_true rfl⟩ rfl (Nat.le_of_ble_eq_true rfl) dX2_obeyOrders_84 rfl ?_
        obtain ⟨v14, ev14, h⟩ := nm_elim h
        refine x_iinc B (pc' := 90) v14 1 [1, 0, 2, 3, 4, 5, 6, 7] [(0, .ref (a 0 0)), (1, .int v14), (2, .int x2), (3, .int x3), (4, .int x4), (5, .int x5), (6, .int x6), (7, .int t0)] dX2_obeyOrders_87 rfl (by rw [ev14]; rfl) (by decide) rfl rfl ?_
        refine x_iconst B (pc' := 91) (-1) dX2_obeyOrders_90 (by decide) rfl ?_
        refine x_istore_n B (pc' := 92) [1, 2, 0, 3, 4, 5, 6, 7] [(0, .ref (a 0 0)), (1, .int v14), (2, .int ((-1) : Int32)), (3, .int x3), (4, .int x4), (5, .int x5), (6, .int x6), (7, .int t0)] dX2_obeyOrders_91 rfl (by decide) rfl rfl ?_
        refine x_iconst B (pc' := 93) 0 dX2_obeyOrders_92 (by decide) rfl ?_
        refine x_istore_n B (pc' := 94) [1, 2, 3, 0, 4, 5, 6, 7] [(0, .ref (a 0 0)), (1, .int v14), (2, .int ((-1) : Int32)), (3, .int (0 : Int32)), (4, .int x4), (5, .int x5), (6, .int x6), (7, .int t0)] dX2_obeyOrders_93 rfl (by decide) rfl rfl ?_
        refine x_iconst B (pc' := 95) 0 dX2_obeyOrders_94 (by decide) rfl ?_
        refine x_istore B (pc' := 97) [1, 2, 3, 4, 0, 5, 6, 7] [(0, .ref (a 0 0)), (1, .int v14), (2, .int ((-1) : Int32)), (3, .int (0 : Int32)), (4, .int (0 : Int32)), (5, .int x5), (6, .int x6), (7, .int t0)] dX2_obeyOrders_95 (by decide) rfl rfl ?_
        refine x_goto B (pc' := 140) dX2_obeyOrders_97 (by decide) ?_
        obtain ⟨v15, ev15, h⟩ := nm_elim h
        refine x_iinc B (pc' := 143) v15 6 [1, 2, 3, 4, 5, 6, 0, 7] [(0, .ref (a 0 0)), (1, .int v14), (2, .int ((-1) : Int32)), (3, .int (0 : Int32)), (4, .int (0 : Int32)), (5, .int x5), (6, .int v15), (7, .int t0)] dX2_obeyOrders_140 rfl (by rw [ev15]; rfl) (by decide) rfl rfl ?_
        refine x_goto B (pc' := 26) dX2_obeyOrders_143 (by decide) ?_
        refine x_lv [0, 1, 2, 3, 4, 5, 6] (lv' := [(0, .ref (a 0 0)), (1, .int v14), (2, .int ((-1) : Int32)), (3, .int (0 : Int32)), (4, .int (0 : Int32)), (5, .int x5), (6, .int v15)]) rfl ?_
        exact hK26 _ _ _ _ _ _ _ h
      · replace h := ite_t hc12 h
        refine x_iload_n B (pc' := 78) 1 dX2_obeyOrders_77 rfl rfl rfl ?_
        obtain ⟨h1, h2⟩ := some2 h
        subst h1
        subst h2
        exact ret rfl (by exact Nat.le_of_ble_eq_true rfl) (by exact Nat.le_of_ble_eq_true rfl) dX2_obeyOrders_78
  have h26 : ∀ (n9 : Nat) (x1 : Int32) (x2 : Int32) (x3 : Int32) (x4 : Int32) (x5 : Int32) (x6 : Int32) (S : BO), lpf7 (b_X2_obeyOrders_26) n9 x1 x2 x3 x4 x5 x6 S = some (r9, S9) → X Γ 8 0 0 26 [(0, .ref (a 0 0)), (1, .int x1), (2, .int x2), (3, .int x3), (4, .int x4), (5, .int x5), (6, .int x6)] [] (wB Γ.cs a S) := by
    refine lpf7_ind (fun K26 hK26 x1 x2 x3 x4 x5 x6 S h => ?_)
    unfold b_X2_obeyOrders_26 at h
    refine x_iload B (pc' := 28) 6 dX2_obeyOrders_26 rfl rfl ?_
    refine x_iload B (pc' := 30) 5 dX2_obeyOrders_28 rfl rfl ?_
    refine x_icmp_gt B 146 33 dX2_obeyOrders_30 (by decide) rfl (fun hc2 => ?_) (fun hc2 => ?_)
    · replace h := ite_t hc2 h
      refine x_iload_n B (pc' := 147) 1 dX2_obeyOrders_146 rfl rfl rfl ?_
      obtain ⟨h1, h2⟩ := some2 h
      subst h1
      subst h2
      exact ret rfl (by exact Nat.le_of_ble_eq_true rfl) (by exact Nat.le_of_ble_eq_true rfl) dX2_obeyOrders_147
    · replace h := ite_f hc2 h
      refine x_iload B (pc' := 35) 6 dX2_obeyOrders_33 rfl rfl ?_
      refine x_iload B (pc' := 37) 5 dX2_obeyOrders_35 rfl rfl ?_
      refine x_icmp_ge B 55 40 dX2_obeyOrders_37 (by decide) rfl (fun hc3 => ?_) (fun hc3 => ?_)
      · replace h := ite_t hc3 h
        refine x_bipush B (pc' := 57) 59 dX2_obeyOrders_55 (by decide) rfl ?_
        exact h57 K26 hK26 _ _ _ _ _ _ _ _ h
      · replace h := ite_f hc3 h
        refine x_aload_n B (pc' := 41) 0 dX2_obeyOrders_40 rfl rfl rfl ?_
        refine b_ref4 B (pc' := 44) wf_RX2_30 dX2_obeyOrders_41 rfl ?_
        refine bt_ref0 B (pc' := 47) wf_RX2_265 dX2_obeyOrders_44 rfl ?_
        refine x_iload B (pc' := 49) 6 dX2_obeyOrders_47 rfl rfl ?_
        refine bt_vAt0 B (pc' := 52) ⟨Nat.le_of_ble_eq_true rfl, Nat.le_of_ble_eq_true rfl⟩ ⟨Nat.le_of_ble_eq_true rfl, Nat.le_of_ble_eq_true rfl⟩ (Nat.le_of_ble_eq_true rfl) rfl dX2_obeyOrders_49 rfl ?_
        refine x_goto B (pc' := 57) dX2_obeyOrders_52 (by decide) ?_
        exact h57 K26 hK26 _ _ _ _ _ _ _ _ h
  unfold f_X2_obeyOrders at h
  refine x_iconst B (pc' := 1) 0 dX2_obeyOrders_0 (by decide) rfl ?_
  refine x_istore_n B (pc' := 2) [1, 0] [(0, .ref (a 0 0)), (1, .int (0 : Int32))] dX2_obeyOrders_1 rfl (by decide) rfl rfl ?_
  refine x_iconst B (pc' := 3) (-1) dX2_obeyOrders_2 (by decide) rfl ?_
  refine x_istore_n B (pc' := 4) [1, 2, 0] [(0, .ref (a 0 0)), (1, .int (0 : Int32)), (2, .int ((-1) : Int32))] dX2_obeyOrders_3 rfl (by decide) rfl rfl ?_
  refine x_iconst B (pc' := 5) 0 dX2_obeyOrders_4 (by decide) rfl ?_
  refine x_istore_n B (pc' := 6) [1, 2, 3, 0] [(0, .ref (a 0 0)), (1, .int (0 : Int32)), (2, .int ((-1) : Int32)), (3, .int (0 : Int32))] dX2_obeyOrders_5 rfl (by decide) rfl rfl ?_
  refine x_iconst B (pc' := 7) 0 dX2_obeyOrders_6 (by decide) rfl ?_
  refine x_istore B (pc' := 9) [1, 2, 3, 4, 0] [(0, .ref (a 0 0)), (1, .int (0 : Int32)), (2, .int ((-1) : Int32)), (3, .int (0 : Int32)), (4, .int (0 : Int32))] dX2_obeyOrders_7 (by decide) rfl rfl ?_
  refine x_aload_n B (pc' := 10) 0 dX2_obeyOrders_9 rfl rfl rfl ?_
  refine b_ref4 B (pc' := 13) wf_RX2_30 dX2_obeyOrders_10 rfl ?_
  refine bt_get1 B (pc' := 16) wf_RX2_187 dX2_obeyOrders_13 rfl ?_
  refine x_bipush B (pc' := 18) 60 dX2_obeyOrders_16 (by decide) rfl ?_
  refine x_mmin B (pc' := 21) mw_RX2_260 mw_min1 mw_min2 mw_min3 ⟨Nat.le_of_ble_eq_true rfl, Nat.le_of_ble_eq_true rfl⟩ ⟨Nat.le_of_ble_eq_true rfl, Nat.le_of_ble_eq_true rfl⟩ dX2_obeyOrders_18 rfl ?_
  obtain ⟨v1, ev1, h⟩ := nm_elim h
  refine x_topi ev1 ?_
  refine x_istore B (pc' := 23) [1, 2, 3, 4, 5, 0] [(0, .ref (a 0 0)), (1, .int (0 : Int32)), (2, .int ((-1) : Int32)), (3, .int (0 : Int32)), (4, .int (0 : Int32)), (5, .int v1)] dX2_obeyOrders_21 (by decide) rfl rfl ?_
  refine x_iconst B (pc' := 24) 0 dX2_obeyOrders_23 (by decide) rfl ?_
  refine x_istore B (pc' := 26) [1, 2, 3, 4, 5, 6, 0] [(0, .ref (a 0 0)), (1, .int (0 : Int32)), (2, .int ((-1) : Int32)), (3, .int (0 : Int32)), (4, .int (0 : Int32)), (5, .int v1), (6, .int (0 : Int32))] dX2_obeyOrders_24 (by decide) rfl rfl ?_
  exact h26  _ _ _ _ _ _ _ _ h
def f_X2_savedStates (S : BO) : Option Int32 :=
  some (S.1 3)
abbrev rm_X2_savedStates : Room := { frames := 0, cells := 0, slots := 0, locals := 0 }
theorem np_X2_savedStates : yX2_savedStates.cls ≠ "java/lang/invoke/MethodHandle" ∧ yX2_savedStates.cls ≠ "java/lang/invoke/VarHandle" ∧ (parseMethodDescriptor yX2_savedStates.desc).map (fun d => d.parameters.length) = some 0 := by decide +kernel
set_option maxHeartbeats 4000000 in
set_option maxRecDepth 100000 in
theorem k_X2_savedStates (l : Launch) (D : va_G) (cs : CS) (a : Nat → Nat → Nat) (S : BO) {r9 : Int32} (h : f_X2_savedStates S = some r9) : MI l D cs yX2_savedStates cX2_savedStates 1 .int rm_X2_savedStates [.ref (a 0 0)] (wB cs a S) r9 (wB cs a S) := by
  refine MI_of (by decide) (Nat.le_of_ble_eq_true rfl) ?_
  rintro Γ rfl rfl rfl B ret
  show X Γ 1 0 0 0 [(0, .ref (a 0 0))] [] (wB Γ.cs a S)
  unfold f_X2_savedStates at h
  refine x_aload_n B (pc' := 1) 0 dX2_savedStates_0 rfl rfl rfl ?_
  refine b_get3 B (pc' := 4) wf_RX2_24 dX2_savedStates_1 rfl ?_
  have h1 := Option.some.inj h
  subst h1
  exact ret rfl (by exact Nat.le_of_ble_eq_true rfl) (by exact Nat.le_of_ble_eq_true rfl) dX2_savedStates_4
def b_X2_withRecording_60 (S : BO) (K60 : Int32 → Int64 → Int32 → Option Int64) (x3 : Int32) (x4 : Int64) (x6 : Int32) : Option Int64 :=
  if (S.2.1.1 4) ≤ x6 then (some x4) else (nm (fun (v8 : Int32) => if (vAt 32 (S.2.1.2 0) v8) = x3 then (bd (f_X2_mixed x4 (Int32.toInt64 v8)) (fun (r11 : Int64) => bd (f_X2_mixed r11 (Int32.toInt64 (vAt 32 (S.2.1.2 1) v8))) (fun (r12 : Int64) => bd (f_X2_mixed r12 (Int32.toInt64 (vAt 32 (S.2.1.2 2) v8))) (fun (r13 : Int64) => nm (fun (v14 : Int32) => K60 x3 r13 v14) (x6 + 1))))) else (nm (fun (v10 : Int32) => K60 x3 x4 v10) (x6 + 1))) (vAt 32 (S.2.1.2 3) x6))
def c_X2_withRecording_33 (S : BO) (x3 : Int32) (t0 : Int64) (t1 : Int64) : Option Int64 :=
  bd (f_X2_mixed t1 t0) (fun (r5 : Int64) => bd (f_X2_mixed r5 (Int32.toInt64 (vAt 10 (S.2.1.2 6) x3))) (fun (r6 : Int64) => lpf3 (b_X2_withRecording_60 S) FU x3 r6 (0 : Int32)))
def f_X2_withRecording (p0 : Int64) (p1 : Int32) (S : BO) : Option Int64 :=
  bd (f_X1_cellCount p1 S.2.1) (fun (r1 : Int32) => bd (f_X2_mixed p0 (Int32.toInt64 r1)) (fun (r2 : Int64) => bd (f_X1_isFlagged p1 S.2.1) (fun (r3 : Int32) => if r3 = 0 then (c_X2_withRecording_33 S p1 (0 : Int64) r2) else (c_X2_withRecording_33 S p1 (1 : Int64) r2))))
abbrev rm_X2_withRecording : Room := { frames := 2, cells := 0, slots := 0, locals := 45 }
theorem np_X2_withRecording : yX2_withRecording.cls ≠ "java/lang/invoke/MethodHandle" ∧ yX2_withRecording.cls ≠ "java/lang/invoke/VarHandle" ∧ (parseMethodDescriptor yX2_withRecording.desc).map (fun d => d.parameters.length) = some 2 := by decide +kernel
set_option maxHeartbeats 4000000 in
set_option maxRecDepth 100000 in
theorem k_X2_withRecording (l : Launch) (D : va_G) (cs : CS) (a : Nat → Nat → Nat) (p0 : Int64) (p1 : Int32) (S : BO) {r9 : Int64} (h : f_X2_withRecording p0 p1 S = some r9) : ML l D cs yX2_withRecording cX2_withRecording 8 rm_X2_withRecording [.ref (a 0 0), .long p0, .int p1] (wB cs a S) r9 (wB cs a S) := by
  refine ML_of (by decide) (Nat.le_of_ble_eq_true rfl) ?_
  rintro Γ rfl rfl rfl B ret
  show X Γ 8 0 0 0 [(0, .ref (a 0 0)), (1, .long p0), (3, .int p1)] [] (wB Γ.cs a S)
  have h60 : ∀ (n9 : Nat) (x3 : Int32) (x4 : Int64) (x6 : Int32), lpf3 (b_X2_withRecording_60 S) n9 x3 x4 x6 = some r9 → X Γ 8 0 0 60 [(0, .ref (a 0 0)), (3, .int x3), (4, .long x4), (6, .int x6)] [] (wB Γ.cs a S) := by
    refine lpf3_ind (fun K60 hK60 x3 x4 x6 h => ?_)
    unfold b_X2_withRecording_60 at h
    refine x_iload B (pc' := 62) 3 dX2_withRecording_60 rfl rfl ?_
    refine x_aload_n B (pc' := 63) 0 dX2_withRecording_62 rfl rfl rfl ?_
    refine b_ref0 B (pc' := 66) wf_RX2_10 dX2_withRecording_63 rfl ?_
    refine bn_get4 B (pc' := 69) wf_RX2_129 dX2_withRecording_66 rfl ?_
    refine x_icmp_ge B 158 72 dX2_withRecording_69 (by decide) rfl (fun hc7 => ?_) (fun hc7 => ?_)
    · replace h := ite_t hc7 h
      refine x_lload B (pc' := 160) 2 dX2_withRecording_158 rfl rfl ?_
      have h1 := Option.some.inj h
      subst h1
      exact ret (by exact Nat.le_of_ble_eq_true rfl) (by exact Nat.le_of_ble_eq_true rfl) dX2_withRecording_160
    · replace h := ite_f hc7 h
      refine x_aload_n B (pc' := 73) 0 dX2_withRecording_72 rfl rfl rfl ?_
      refine b_ref0 B (pc' := 76) wf_RX2_10 dX2_withRecording_73 rfl ?_
      refine bn_ref3 B (pc' := 79) wf_RX2_255 dX2_withRecording_76 rfl ?_
      refine x_iload B (pc' := 81) 3 dX2_withRecording_79 rfl rfl ?_
      refine bn_vAt3 B (pc' := 84) ⟨Nat.le_of_ble_eq_true rfl, Nat.le_of_ble_eq_true rfl⟩ ⟨Nat.le_of_ble_eq_true rfl, Nat.le_of_ble_eq_true rfl⟩ (Nat.le_of_ble_eq_true rfl) rfl dX2_withRecording_81 rfl ?_
      obtain ⟨v8, ev8, h⟩ := nm_elim h
      refine x_topi ev8 ?_
      refine x_istore B (pc' := 86) [1, 2, 3, 4, 0] [(0, .ref (a 0 0)), (3, .int x3), (4, .long x4), (6, .int x6), (7, .int v8)] dX2_withRecording_84 (by decide) rfl rfl ?_
      refine x_aload_n B (pc' := 87) 0 dX2_withRecording_86 rfl rfl rfl ?_
      refine b_ref0 B (pc' := 90) wf_RX2_10 dX2_withRecording_87 rfl ?_
      refine bn_ref0 B (pc' := 93) wf_RX2_126 dX2_withRecording_90 rfl ?_
      refine x_iload B (pc' := 95) 4 dX2_withRecording_93 rfl rfl ?_
      refine bn_vAt0 B (pc' := 98) ⟨Nat.le_of_ble_eq_true rfl, Nat.le_of_ble_eq_true rfl⟩ ⟨Nat.le_of_ble_eq_true rfl, Nat.le_of_ble_eq_true rfl⟩ (Nat.le_of_ble_eq_true rfl) rfl dX2_withRecording_95 rfl ?_
      refine x_iload_n B (pc' := 99) 1 dX2_withRecording_98 rfl rfl rfl ?_
      refine x_icmp_ne B 152 102 dX2_withRecording_99 (by decide) rfl (fun hc9 => ?_) (fun hc9 => ?_)
      · replace h := ite_f hc9 h
        obtain ⟨v10, ev10, h⟩ := nm_elim h
        refine x_iinc B (pc' := 155) v10 3 [1, 2, 3, 0, 4] [(0, .ref (a 0 0)), (3, .int x3), (4, .long x4), (6, .int v10), (7, .int v8)] dX2_withRecording_152 rfl (by rw [ev10]; rfl) (by decide) rfl rfl ?_
        refine x_goto B (pc' := 60) dX2_withRecording_155 (by decide) ?_
        refine x_lv [0, 1, 2, 3] (lv' := [(0, .ref (a 0 0)), (3, .int x3), (4, .long x4), (6, .int v10)]) rfl ?_
        exact hK60 _ _ _ h
      · replace h := ite_t hc9 h
        refine x_lload B (pc' := 104) 2 dX2_withRecording_102 rfl rfl ?_
        refine x_iload B (pc' := 106) 4 dX2_withRecording_104 rfl rfl ?_
        refine x_i2l B (pc' := 107) dX2_withRecording_106 rfl ?_
        obtain ⟨r11, er11, h⟩ := bd_elim h
        refine x_pureSl B (pc' := 110) [.long x4, .long (Int32.toInt64 v8)] (k_X2_mixed _ _ _ x4 (Int32.toInt64 v8) er11) gv_RX2_221 np_X2_mixed ⟨Nat.le_of_ble_eq_true rfl, Nat.le_of_ble_eq_true rfl⟩ ⟨by exact Nat.le_of_ble_eq_true rfl, by exact Nat.le_of_ble_eq_true rfl⟩ rfl (Nat.le_of_ble_eq_true rfl) dX2_withRecording_107 rfl ?_
        refine x_lstore B (pc' := 112) [1, 2, 0, 3, 4] [(0, .ref (a 0 0)), (3, .int x3), (4, .long r11), (6, .int x6), (7, .int v8)] dX2_withRecording_110 (by decide) rfl rfl ?_
        refine x_lload B (pc' := 114) 2 dX2_withRecording_112 rfl rfl ?_
        refine x_aload_n B (pc' := 115) 0 dX2_withRecording_114 rfl rfl rfl ?_
        refine b_ref0 B (pc' := 118) wf_RX2_10 dX2_withRecording_115 rfl ?_
        refine bn_ref1 B (pc' := 121) wf_RX2_112 dX2_withRecording_118 rfl ?_
        refine x_iload B (pc' := 123) 4 dX2_withRecording_121 rfl rfl ?_
        refine bn_vAt1 B (pc' := 126) ⟨Nat.le_of_ble_eq_true rfl, Nat.le_of_ble_eq_true rfl⟩ ⟨Nat.le_of_ble_eq_true rfl, Nat.le_of_ble_eq_true rfl⟩ (Nat.le_of_ble_eq_true rfl) rfl dX2_withRecording_123 rfl ?_
        refine x_i2l B (pc' := 127) dX2_withRecording_126 rfl ?_
        obtain ⟨r12, er12, h⟩ := bd_elim h
        refine x_pureSl B (pc' := 130) [.long r11, .long (Int32.toInt64 (vAt 32 (S.2.1.2 1) v8))] (k_X2_mixed _ _ _ r11 (Int32.toInt64 (vAt 32 (S.2.1.2 1) v8)) er12) gv_RX2_221 np_X2_mixed ⟨Nat.le_of_ble_eq_true rfl, Nat.le_of_ble_eq_true rfl⟩ ⟨by exact Nat.le_of_ble_eq_true rfl, by exact Nat.le_of_ble_eq_true rfl⟩ rfl (Nat.le_of_ble_eq_true rfl) dX2_withRecording_127 rfl ?_
        refine x_lstore B (pc' := 132) [1, 2, 0, 3, 4] [(0, .ref (a 0 0)), (3, .int x3), (4, .long r12), (6, .int x6), (7, .int v8)] dX2_withRecording_130 (by decide) rfl rfl ?_
        refine x_lload B (pc' := 134) 2 dX2_withRecording_132 rfl rfl ?_
        refine x_aload_n B (pc' := 135) 0 dX2_withRecording_134 rfl rfl rfl ?_
        refine b_ref0 B (pc' := 138) wf_RX2_10 dX2_withRecording_135 rfl ?_
        refine bn_ref2 B (pc' := 141) wf_RX2_167 dX2_withRecording_138 rfl ?_
        refine x_iload B (pc' := 143) 4 dX2_withRecording_141 rfl rfl ?_
        refine bn_vAt2 B (pc' := 146) ⟨Nat.le_of_ble_eq_true rfl, Nat.le_of_ble_eq_true rfl⟩ ⟨Nat.le_of_ble_eq_true rfl, Nat.le_of_ble_eq_true rfl⟩ (Nat.le_of_ble_eq_true rfl) rfl dX2_withRecording_143 rfl ?_
        refine x_i2l B (pc' := 147) dX2_withRecording_146 rfl ?_
        obtain ⟨r13, er13, h⟩ := bd_elim h
        refine x_pureSl B (pc' := 150) [.long r12, .long (Int32.toInt64 (vAt 32 (S.2.1.2 2) v8))] (k_X2_mixed _ _ _ r12 (Int32.toInt64 (vAt 32 (S.2.1.2 2) v8)) er13) gv_RX2_221 np_X2_mixed ⟨Nat.le_of_ble_eq_true rfl, Nat.le_of_ble_eq_true rfl⟩ ⟨by exact Nat.le_of_ble_eq_true rfl, by exact Nat.le_of_ble_eq_true rfl⟩ rfl (Nat.le_of_ble_eq_true rfl) dX2_withRecording_147 rfl ?_
        refine x_lstore B (pc' := 152) [1, 2, 0, 3, 4] [(0, .ref (a 0 0)), (3, .int x3), (4, .long r13), (6, .int x6), (7, .int v8)] dX2_withRecording_150 (by decide) rfl rfl ?_
        obtain ⟨v14, ev14, h⟩ := nm_elim h
        refine x_iinc B (pc' := 155) v14 3 [1, 2, 3, 0, 4] [(0, .ref (a 0 0)), (3, .int x3), (4, .long r13), (6, .int v14), (7, .int v8)] dX2_withRecording_152 rfl (by rw [ev14]; rfl) (by decide) rfl rfl ?_
        refine x_goto B (pc' := 60) dX2_withRecording_155 (by decide) ?_
        refine x_lv [0, 1, 2, 3] (lv' := [(0, .ref (a 0 0)), (3, .int x3), (4, .long r13), (6, .int v14)]) rfl ?_
        exact hK60 _ _ _ h
  have h33 : ∀ (x3 : Int32) (t0 : Int64) (t1 : Int64), c_X2_withRecording_33 S  x3 t0 t1 = some r9 → X Γ 8 0 0 33 [(0, .ref (a 0 0)), (3, .int x3)] [.long t0, .long t1] (wB Γ.cs a S) := by
    intro  x3 t0 t1 h
    unfold c_X2_withRecording_33 at h
    obtain ⟨r5, er5, h⟩ := bd_elim h
    refine x_pureSl B (pc' := 36) [.long t1, .long t0] (k_X2_mixed _ _ _ t1 t0 er5) gv_RX2_221 np_X2_mixed ⟨Nat.le_of_ble_eq_true rfl, Nat.le_of_ble_eq_true rfl⟩ ⟨by exact Nat.le_of_ble_eq_true rfl, by exact Nat.le_of_ble_eq_true rfl⟩ rfl (Nat.le_of_ble_eq_true rfl) dX2_withRecording_33 rfl ?_
    refine x_lstore B (pc' := 38) [1, 2, 0] [(0, .ref (a 0 0)), (3, .int x3), (4, .long r5)] dX2_withRecording_36 (by decide) rfl rfl ?_
    refine x_lload B (pc' := 40) 2 dX2_withRecording_38 rfl rfl ?_
    refine x_aload_n B (pc' := 41) 0 dX2_withRecording_40 rfl rfl rfl ?_
    refine b_ref0 B (pc' := 44) wf_RX2_10 dX2_withRecording_41 rfl ?_
    refine bn_ref6 B (pc' := 47) wf_RX2_123 dX2_withRecording_44 rfl ?_
    refine x_iload_n B (pc' := 48) 1 dX2_withRecording_47 rfl rfl rfl ?_
    refine bn_vAt6 B (pc' := 51) ⟨Nat.le_of_ble_eq_true rfl, Nat.le_of_ble_eq_true rfl⟩ ⟨Nat.le_of_ble_eq_true rfl, Nat.le_of_ble_eq_true rfl⟩ (Nat.le_of_ble_eq_true rfl) rfl dX2_withRecording_48 rfl ?_
    refine x_i2l B (pc' := 52) dX2_withRecording_51 rfl ?_
    obtain ⟨r6, er6, h⟩ := bd_elim h
    refine x_pureSl B (pc' := 55) [.long r5, .long (Int32.toInt64 (vAt 10 (S.2.1.2 6) x3))] (k_X2_mixed _ _ _ r5 (Int32.toInt64 (vAt 10 (S.2.1.2 6) x3)) er6) gv_RX2_221 np_X2_mixed ⟨Nat.le_of_ble_eq_true rfl, Nat.le_of_ble_eq_true rfl⟩ ⟨by exact Nat.le_of_ble_eq_true rfl, by exact Nat.le_of_ble_eq_true rfl⟩ rfl (Nat.le_of_ble_eq_true rfl) dX2_withRecording_52 rfl ?_
    refine x_lstore B (pc' := 57) [1, 2, 0] [(0, .ref (a 0 0)), (3, .int x3), (4, .long r6)] dX2_withRecording_55 (by decide) rfl rfl ?_
    refine x_iconst B (pc' := 58) 0 dX2_withRecording_57 (by decide) rfl ?_
    refine x_istore B (pc' := 60) [1, 2, 3, 0] [(0, .ref (a 0 0)), (3, .int x3), (4, .long r6), (6, .int (0 : Int32))] dX2_withRecording_58 (by decide) rfl rfl ?_
    exact h60  _ _ _ _ h
  unfold f_X2_withRecording at h
  refine x_lload_n B (pc' := 1) 1 dX2_withRecording_0 rfl rfl rfl ?_
  refine x_aload_n B (pc' := 2) 0 dX2_withRecording_1 rfl rfl rfl ?_
  refine b_ref0 B (pc' := 5) wf_RX2_10 dX2_withRecording_2 rfl ?_
  refine x_iload_n B (pc' := 6) 2 dX2_withRecording_5 rfl rfl rfl ?_
  obtain ⟨r1, er1, h⟩ := bd_elim h
  refine b_nowRi B (pc' := 9) [.int p1] (k_X1_cellCount _ _ _ (a 1) p1 S.2.1 er1) gv_RX2_105 rfl np_X1_cellCount ⟨Nat.le_of_ble_eq_true rfl, Nat.le_of_ble_eq_true rfl⟩ ⟨by exact Nat.le_of_ble_eq_true rfl, by exact Nat.le_of_ble_eq_true rfl⟩ rfl (Nat.le_of_ble_eq_true rfl) dX2_withRecording_6 rfl ?_
  refine x_i2l B (pc' := 10) dX2_withRecording_9 rfl ?_
  obtain ⟨r2, er2, h⟩ := bd_elim h
  refine x_pureSl B (pc' := 13) [.long p0, .long (Int32.toInt64 r1)] (k_X2_mixed _ _ _ p0 (Int32.toInt64 r1) er2) gv_RX2_221 np_X2_mixed ⟨Nat.le_of_ble_eq_true rfl, Nat.le_of_ble_eq_true rfl⟩ ⟨by exact Nat.le_of_ble_eq_true rfl, by exact Nat.le_of_ble_eq_true rfl⟩ rfl (Nat.le_of_ble_eq_true rfl) dX2_withRecording_10 rfl ?_
  refine x_lstore B (pc' := 15) [1, 2, 3, 0] [(0, .ref (a 0 0)), (1, .long p0), (3, .int p1), (4, .long r2)] dX2_withRecording_13 (by decide) rfl rfl ?_
  refine x_lload B (pc' := 17) 3 dX2_withRecording_15 rfl rfl ?_
  refine x_aload_n B (pc' := 18) 0 dX2_withRecording_17 rfl rfl rfl ?_
  refine b_ref0 B (pc' := 21) wf_RX2_10 dX2_withRecording_18 rfl ?_
  refine x_iload_n B (pc' := 22) 2 dX2_withRecording_21 rfl rfl rfl ?_
  obtain ⟨r3, er3, h⟩ := bd_elim h
  refine b_nowRi B (pc' := 25) [.int p1] (k_X1_isFlagged _ _ _ (a 1) p1 S.2.1 er3) gv_RX2_78 rfl np_X1_isFlagged ⟨Nat.le_of_ble_eq_true rfl, Nat.le_of_ble_eq_true rfl⟩ ⟨by exact Nat.le_of_ble_eq_true rfl, by exact Nat.le_of_ble_eq_true rfl⟩ rfl (Nat.le_of_ble_eq_true rfl) dX2_withRecording_22 rfl ?_
  refine x_if_eq B 32 28 dX2_withRecording_25 (by decide) rfl (fun hc4 => ?_) (fun hc4 => ?_)
  · replace h := ite_t hc4 h
    refine x_lconst B (pc' := 33) 0 dX2_withRecording_32 (by decide) rfl ?_
    refine x_lv [0, 2] (lv' := [(0, .ref (a 0 0)), (3, .int p1)]) rfl ?_
    exact h33  _ _ _ h
  · replace h := ite_f hc4 h
    refine x_lconst B (pc' := 29) 1 dX2_withRecording_28 (by decide) rfl ?_
    refine x_goto B (pc' := 33) dX2_withRecording_29 (by decide) ?_
    refine x_lv [0, 2] (lv' := [(0, .ref (a 0 0)), (3, .int p1)]) rfl ?_
    exact h33  _ _ _ h
def b_X2_digest_142 (S : BO) (K142 : Int64 → Int32 → Option Int64) (x1 : Int64) (x3 : Int32) : Option Int64 :=
  if (32 : Int32) ≤ x3 then (some x1) else (bd (f_X2_mixed x1 (Int32.toInt64 (vAt 32 (S.2.1.2 0) x3))) (fun (r27 : Int64) => nm (fun (v28 : Int32) => K142 r27 v28) (x3 + 1)))
def b_X2_digest_116 (S : BO) (K116 : Int64 → Int32 → Option Int64) (x1 : Int64) (x3 : Int32) : Option Int64 :=
  if (S.2.1.1 7) ≤ x3 then (lpf2 (b_X2_digest_142 S) FU x1 (0 : Int32)) else (bd (f_X2_withRecording x1 x3 S) (fun (r24 : Int64) => nm (fun (v25 : Int32) => K116 r24 v25) (x3 + 1)))
def f_X2_digest (S : BO) : Option Int64 :=
  bd (f_X2_recordings S) (fun (r1 : Int32) => bd (f_X2_mixed (4444 : Int64) (Int32.toInt64 r1)) (fun (r2 : Int64) => bd (f_X2_running S) (fun (r3 : Int32) => bd (f_X2_mixed r2 (Int32.toInt64 r3)) (fun (r4 : Int64) => bd (f_X2_head S) (fun (r5 : Int32) => bd (f_X2_mixed r4 (Int32.toInt64 r5)) (fun (r6 : Int64) => bd (f_X2_free S) (fun (r7 : Int32) => bd (f_X2_mixed r6 (Int32.toInt64 r7)) (fun (r8 : Int64) => bd (f_X2_spoken S) (fun (r9 : Int32) => bd (f_X2_mixed r8 (Int32.toInt64 r9)) (fun (r10 : Int64) => bd (f_X2_gone S) (fun (r11 : Int32) => bd (f_X2_mixed r10 (Int32.toInt64 r11)) (fun (r12 : Int64) => bd (f_X2_playing S) (fun (r13 : Int32) => bd (f_X2_mixed r12 (Int32.toInt64 r13)) (fun (r14 : Int64) => bd (f_X2_place S) (fun (r15 : Int32) => bd (f_X2_mixed r14 (Int32.toInt64 r15)) (fun (r16 : Int64) => bd (f_X2_corrected S) (fun (r17 : Int32) => bd (f_X2_mixed r16 (Int32.toInt64 r17)) (fun (r18 : Int64) => bd (f_X2_room S) (fun (r19 : Int32) => bd (f_X2_mixed r18 (Int32.toInt64 r19)) (fun (r20 : Int64) => bd (f_X2_nextLoser S) (fun (r21 : Int32) => bd (f_X2_mixed r20 (Int32.toInt64 r21)) (fun (r22 : Int64) => lpf2 (b_X2_digest_116 S) FU r22 (0 : Int32)))))))))))))))))))))))
abbrev rm_X2_digest : Room := { frames := 4, cells := 0, slots := 0, locals := 87 }
theorem np_X2_digest : yX2_digest.cls ≠ "java/lang/invoke/MethodHandle" ∧ yX2_digest.cls ≠ "java/lang/invoke/VarHandle" ∧ (parseMethodDescriptor yX2_digest.desc).map (fun d => d.parameters.length) = some 0 := by decide +kernel
set_option maxHeartbeats 4000000 in
set_option maxRecDepth 100000 in
theorem k_X2_digest (l : Launch) (D : va_G) (cs : CS) (a : Nat → Nat → Nat) (S : BO) {r9 : Int64} (h : f_X2_digest S = some r9) : ML l D cs yX2_digest cX2_digest 4 rm_X2_digest [.ref (a 0 0)] (wB cs a S) r9 (wB cs a S) := by
  refine ML_of (by decide) (Nat.le_of_ble_eq_true rfl) ?_
  rintro Γ rfl rfl rfl B ret
  show X Γ 4 0 0 0 [(0, .ref (a 0 0))] [] (wB Γ.cs a S)
  have h142 : ∀ (n9 : Nat) (x1 : Int64) (x3 : Int32), lpf2 (b_X2_digest_142 S) n9 x1 x3 = some r9 → X Γ 4 0 0 142 [(0, .ref (a 0 0)), (1, .long x1), (3, .int x3)] [] (wB Γ.cs a S) := by
    refine lpf2_ind (fun K142 hK142 x1 x3 h => ?_)
    unfold b_X2_digest_142 at h
    refine x_iload_n B (pc' := 143) 2 dX2_digest_142 rfl rfl rfl ?_
    refine x_bipush B (pc' := 145) 32 dX2_digest_143 (by decide) rfl ?_
    refine x_icmp_ge B 171 148 dX2_digest_145 (by decide) rfl (fun hc26 => ?_) (fun hc26 => ?_)
    · replace h := ite_t hc26 h
      refine x_lload_n B (pc' := 172) 1 dX2_digest_171 rfl rfl rfl ?_
      have h1 := Option.some.inj h
      subst h1
      exact ret (by exact Nat.le_of_ble_eq_true rfl) (by exact Nat.le_of_ble_eq_true rfl) dX2_digest_172
    · replace h := ite_f hc26 h
      refine x_lload_n B (pc' := 149) 1 dX2_digest_148 rfl rfl rfl ?_
      refine x_aload_n B (pc' := 150) 0 dX2_digest_149 rfl rfl rfl ?_
      refine b_ref0 B (pc' := 153) wf_RX2_10 dX2_digest_150 rfl ?_
      refine bn_ref0 B (pc' := 156) wf_RX2_126 dX2_digest_153 rfl ?_
      refine x_iload_n B (pc' := 157) 2 dX2_digest_156 rfl rfl rfl ?_
      refine bn_vAt0 B (pc' := 160) ⟨Nat.le_of_ble_eq_true rfl, Nat.le_of_ble_eq_true rfl⟩ ⟨Nat.le_of_ble_eq_true rfl, Nat.le_of_ble_eq_true rfl⟩ (Nat.le_of_ble_eq_true rfl) rfl dX2_digest_157 rfl ?_
      refine x_i2l B (pc' := 161) dX2_digest_160 rfl ?_
      obtain ⟨r27, er27, h⟩ := bd_elim h
      refine x_pureSl B (pc' := 164) [.long x1, .long (Int32.toInt64 (vAt 32 (S.2.1.2 0) x3))] (k_X2_mixed _ _ _ x1 (Int32.toInt64 (vAt 32 (S.2.1.2 0) x3)) er27) gv_RX2_221 np_X2_mixed ⟨Nat.le_of_ble_eq_true rfl, Nat.le_of_ble_eq_true rfl⟩ ⟨by exact Nat.le_of_ble_eq_true rfl, by exact Nat.le_of_ble_eq_true rfl⟩ rfl (Nat.le_of_ble_eq_true rfl) dX2_digest_161 rfl ?_
      refine x_lstore_n B (pc' := 165) [1, 0, 2] [(0, .ref (a 0 0)), (1, .long r27), (3, .int x3)] dX2_digest_164 rfl (by decide) rfl rfl ?_
      obtain ⟨v28, ev28, h⟩ := nm_elim h
      refine x_iinc B (pc' := 168) v28 2 [1, 2, 0] [(0, .ref (a 0 0)), (1, .long r27), (3, .int v28)] dX2_digest_165 rfl (by rw [ev28]; rfl) (by decide) rfl rfl ?_
      refine x_goto B (pc' := 142) dX2_digest_168 (by decide) ?_
      exact hK142 _ _ h
  have h116 : ∀ (n9 : Nat) (x1 : Int64) (x3 : Int32), lpf2 (b_X2_digest_116 S) n9 x1 x3 = some r9 → X Γ 4 0 0 116 [(0, .ref (a 0 0)), (1, .long x1), (3, .int x3)] [] (wB Γ.cs a S) := by
    refine lpf2_ind (fun K116 hK116 x1 x3 h => ?_)
    unfold b_X2_digest_116 at h
    refine x_iload_n B (pc' := 117) 2 dX2_digest_116 rfl rfl rfl ?_
    refine x_aload_n B (pc' := 118) 0 dX2_digest_117 rfl rfl rfl ?_
    refine b_ref0 B (pc' := 121) wf_RX2_10 dX2_digest_118 rfl ?_
    refine bn_get7 B (pc' := 124) wf_RX2_99 dX2_digest_121 rfl ?_
    refine x_icmp_ge B 140 127 dX2_digest_124 (by decide) rfl (fun hc23 => ?_) (fun hc23 => ?_)
    · replace h := ite_t hc23 h
      refine x_iconst B (pc' := 141) 0 dX2_digest_140 (by decide) rfl ?_
      refine x_istore_n B (pc' := 142) [1, 2, 0] [(0, .ref (a 0 0)), (1, .long x1), (3, .int (0 : Int32))] dX2_digest_141 rfl (by decide) rfl rfl ?_
      exact h142  _ _ _ h
    · replace h := ite_f hc23 h
      refine x_aload_n B (pc' := 128) 0 dX2_digest_127 rfl rfl rfl ?_
      refine x_lload_n B (pc' := 129) 1 dX2_digest_128 rfl rfl rfl ?_
      refine x_iload_n B (pc' := 130) 2 dX2_digest_129 rfl rfl rfl ?_
      obtain ⟨r24, er24, h⟩ := bd_elim h
      refine x_selfVl B (pc' := 133) [.long x1, .int x3] (k_X2_withRecording _ _ _ a x1 x3 S er24) rfl rfl gv_RX2_251 rfl np_X2_withRecording ⟨Nat.le_of_ble_eq_true rfl, Nat.le_of_ble_eq_true rfl⟩ ⟨by exact Nat.le_of_ble_eq_true rfl, by exact Nat.le_of_ble_eq_true rfl⟩ rfl (Nat.le_of_ble_eq_true rfl) dX2_digest_130 rfl ?_
      refine x_lstore_n B (pc' := 134) [1, 0, 2] [(0, .ref (a 0 0)), (1, .long r24), (3, .int x3)] dX2_digest_133 rfl (by decide) rfl rfl ?_
      obtain ⟨v25, ev25, h⟩ := nm_elim h
      refine x_iinc B (pc' := 137) v25 2 [1, 2, 0] [(0, .ref (a 0 0)), (1, .long r24), (3, .int v25)] dX2_digest_134 rfl (by rw [ev25]; rfl) (by decide) rfl rfl ?_
      refine x_goto B (pc' := 116) dX2_digest_137 (by decide) ?_
      exact hK116 _ _ h
  unfold f_X2_digest at h
  refine x_ldc2 B (pc' := 3) 4444 wk_RX2_216 dX2_digest_0 rfl ?_
  refine x_lstore_n B (pc' := 4) [1, 0] [(0, .ref (a 0 0)), (1, .long (4444 : Int64))] dX2_digest_3 rfl (by decide) rfl rfl ?_
  refine x_lload_n B (pc' := 5) 1 dX2_digest_4 rfl rfl rfl ?_
  refine x_aload_n B (pc' := 6) 0 dX2_digest_5 rfl rfl rfl ?_
  obtain ⟨r1, er1, h⟩ := bd_elim h
  refine x_selfVi B (pc' := 9) [] (k_X2_recordings _ _ _ a S er1) rfl rfl gv_RX2_218 rfl np_X2_recordings ⟨Nat.le_of_ble_eq_true rfl, Nat.le_of_ble_eq_true rfl⟩ ⟨by exact Nat.le_of_ble_eq_true rfl, by exact Nat.le_of_ble_eq_true rfl⟩ rfl (Nat.le_of_ble_eq_true rfl) dX2_digest_6 rfl ?_
  refine x_i2l B (pc' := 10) dX2_digest_9 rfl ?_
  obtain ⟨r2, er2, h⟩ := bd_elim h
  refine x_pureSl B (pc' := 13) [.long (4444 : Int64), .long (Int32.toInt64 r1)] (k_X2_mixed _ _ _ (4444 : Int64) (Int32.toInt64 r1) er2) gv_RX2_221 np_X2_mixed ⟨Nat.le_of_ble_eq_true rfl, Nat.le_of_ble_eq_true rfl⟩ ⟨by exact Nat.le_of_ble_eq_true rfl, by exact Nat.le_of_ble_eq_true rfl⟩ rfl (Nat.le_of_ble_eq_true rfl) dX2_digest_10 rfl ?_
  refine x_lstore_n B (pc' := 14) [1, 0] [(0, .ref (a 0 0)), (1, .long r2)] dX2_digest_13 rfl (by decide) rfl rfl ?_
  refine x_lload_n B (pc' := 15) 1 dX2_digest_14 rfl rfl rfl ?_
  refine x_aload_n B (pc' := 16) 0 dX2_digest_15 rfl rfl rfl ?_
  obtain ⟨r3, er3, h⟩ := bd_elim h
  refine x_selfVi B (pc' := 19) [] (k_X2_running _ _ _ a S er3) rfl rfl gv_RX2_225 rfl np_X2_running ⟨Nat.le_of_ble_eq_true rfl, Nat.le_of_ble_eq_true rfl⟩ ⟨by exact Nat.le_of_ble_eq_true rfl, by exact Nat.le_of_ble_eq_true rfl⟩ rfl (Nat.le_of_ble_eq_true rfl) dX2_digest_16 rfl ?_
  refine x_i2l B (pc' := 20) dX2_digest_19 rfl ?_
  obtain ⟨r4, er4, h⟩ := bd_elim h
  refine x_pureSl B (pc' := 23) [.long r2, .long (Int32.toInt64 r3)] (k_X2_mixed _ _ _ r2 (Int32.toInt64 r3) er4) gv_RX2_221 np_X2_mixed ⟨Nat.le_of_ble_eq_true rfl, Nat.le_of_ble_eq_true rfl⟩ ⟨by exact Nat.le_of_ble_eq_true rfl, by exact Nat.le_of_ble_eq_true rfl⟩ rfl (Nat.le_of_ble_eq_true rfl) dX2_digest_20 rfl ?_
  refine x_lstore_n B (pc' := 24) [1, 0] [(0, .ref (a 0 0)), (1, .long r4)] dX2_digest_23 rfl (by decide) rfl rfl ?_
  refine x_lload_n B (pc' := 25) 1 dX2_digest_24 rfl rfl rfl ?_
  refine x_aload_n B (pc' := 26) 0 dX2_digest_25 rfl rfl rfl ?_
  obtain ⟨r5, er5, h⟩ := bd_elim h
  refine x_selfVi B (pc' := 29) [] (k_X2_head _ _ _ a S er5) rfl rfl gv_RX2_228 rfl np_X2_head ⟨Nat.le_of_ble_eq_true rfl, Nat.le_of_ble_eq_true rfl⟩ ⟨by exact Nat.le_of_ble_eq_true rfl, by exact Nat.le_of_ble_eq_true rfl⟩ rfl (Nat.le_of_ble_eq_true rfl) dX2_digest_26 rfl ?_
  refine x_i2l B (pc' := 30) dX2_digest_29 rfl ?_
  obtain ⟨r6, er6, h⟩ := bd_elim h
  refine x_pureSl B (pc' := 33) [.long r4, .long (Int32.toInt64 r5)] (k_X2_mixed _ _ _ r4 (Int32.toInt64 r5) er6) gv_RX2_221 np_X2_mixed ⟨Nat.le_of_ble_eq_true rfl, Nat.le_of_ble_eq_true rfl⟩ ⟨by exact Nat.le_of_ble_eq_true rfl, by exact Nat.le_of_ble_eq_true rfl⟩ rfl (Nat.le_of_ble_eq_true rfl) dX2_digest_30 rfl ?_
  refine x_lstore_n B (pc' := 34) [1, 0] [(0, .ref (a 0 0)), (1, .long r6)] dX2_digest_33 rfl (by decide) rfl rfl ?_
  refine x_lload_n B (pc' := 35) 1 dX2_digest_34 rfl rfl rfl ?_
  refine x_aload_n B (pc' := 36) 0 dX2_digest_35 rfl rfl rfl ?_
  obtain ⟨r7, er7, h⟩ := bd_elim h
  refine x_selfVi B (pc' := 39) [] (k_X2_free _ _ _ a S er7) rfl rfl gv_RX2_230 rfl np_X2_free ⟨Nat.le_of_ble_eq_true rfl, Nat.le_of_ble_eq_true rfl⟩ ⟨by exact Nat.le_of_ble_eq_true rfl, by exact Nat.le_of_ble_eq_true rfl⟩ rfl (Nat.le_of_ble_eq_true rfl) dX2_digest_36 rfl ?_
  refine x_i2l B (pc' := 40) dX2_digest_39 rfl ?_
  obtain ⟨r8, er8, h⟩ := bd_elim h
  refine x_pureSl B (pc' := 43) [.long r6, .long (Int32.toInt64 r7)] (k_X2_mixed _ _ _ r6 (Int32.toInt64 r7) er8) gv_RX2_221 np_X2_mixed ⟨Nat.le_of_ble_eq_true rfl, Nat.le_of_ble_eq_true rfl⟩ ⟨by exact Nat.le_of_ble_eq_true rfl, by exact Nat.le_of_ble_eq_true rfl⟩ rfl (Nat.le_of_ble_eq_true rfl) dX2_digest_40 rfl ?_
  refine x_lstore_n B (pc' := 44) [1, 0] [(0, .ref (a 0 0)), (1, .long r8)] dX2_digest_43 rfl (by decide) rfl rfl ?_
  refine x_lload_n B (pc' := 45) 1 dX2_digest_44 rfl rfl rfl ?_
  refine x_aload_n B (pc' := 46) 0 dX2_digest_45 rfl rfl rfl ?_
  obtain ⟨r9, er9, h⟩ := bd_elim h
  refine x_selfVi B (pc' := 49) [] (k_X2_spoken _ _ _ a S er9) rfl rfl gv_RX2_233 rfl np_X2_spoken ⟨Nat.le_of_ble_eq_true rfl, Nat.le_of_ble_eq_true rfl⟩ ⟨by exact Nat.le_of_ble_eq_true rfl, by exact Nat.le_of_ble_eq_true rfl⟩ rfl (Nat.le_of_ble_eq_true rfl) dX2_digest_46 rfl ?_
  refine x_i2l B (pc' := 50) dX2_digest_49 rfl ?_
  obtain ⟨r10, er10, h⟩ := bd_elim h
  refine x_pureSl B (pc' := 53) [.long r8, .long (Int32.toInt64 r9)] (k_X2_mixed _ _ _ r8 (Int32.toInt64 r9) er10) gv_RX2_221 np_X2_mixed ⟨Nat.le_of_ble_eq_true rfl, Nat.le_of_ble_eq_true rfl⟩ ⟨by exact Nat.le_of_ble_eq_true rfl, by exact Nat.le_of_ble_eq_true rfl⟩ rfl (Nat.le_of_ble_eq_true rfl) dX2_digest_50 rfl ?_
  refine x_lstore_n B (pc' := 54) [1, 0] [(0, .ref (a 0 0)), (1, .long r10)] dX2_digest_53 rfl (by decide) rfl rfl ?_
  refine x_lload_n B (pc' := 55) 1 dX2_digest_54 rfl rfl rfl ?_
  refine x_aload_n B (pc' := 56) 0 dX2_digest_55 rfl rfl rfl ?_
  obtain ⟨r11, er11, h⟩ := bd_elim h
  refine x_selfVi B (pc' := 59) [] (k_X2_gone _ _ _ a S er11) rfl rfl gv_RX2_235 rfl np_X2_gone ⟨Nat.le_of_ble_eq_true rfl, Nat.le_of_ble_eq_true rfl⟩ ⟨by exact Nat.le_of_ble_eq_true rfl, by exact Nat.le_of_ble_eq_true rfl⟩ rfl (Nat.le_of_ble_eq_true rfl) dX2_digest_56 rfl ?_
  refine x_i2l B (pc' := 60) dX2_digest_59 rfl ?_
  obtain ⟨r12, er12, h⟩ := bd_elim h
  refine x_pureSl B (pc' := 63) [.long r10, .long (Int32.toInt64 r11)] (k_X2_mixed _ _ _ r10 (Int32.toInt64 r11) er12) gv_RX2_221 np_X2_mixed ⟨Nat.le_of_ble_eq_true rfl, Nat.le_of_ble_eq_true rfl⟩ ⟨by exact Nat.le_of_ble_eq_true rfl, by exact Nat.le_of_ble_eq_true rfl⟩ rfl (Nat.le_of_ble_eq_true rfl) dX2_digest_60 rfl ?_
  refine x_lstore_n B (pc' := 64) [1, 0] [(0, .ref (a 0 0)), (1, .long r12)] dX2_digest_63 rfl (by decide) rfl rfl ?_
  refine x_lload_n B (pc' := 65) 1 dX2_digest_64 rfl rfl rfl ?_
  refine x_aload_n B (pc' := 66) 0 dX2_digest_65 rfl rfl rfl ?_
  obtain ⟨r13, er13, h⟩ := bd_elim h
  refine x_selfVi B (pc' := 69) [] (k_X2_playing _ _ _ a S er13) rfl rfl gv_RX2_237 rfl np_X2_playing ⟨Nat.le_of_ble_eq_true rfl, Nat.le_of_ble_eq_true rfl⟩ ⟨by exact Nat.le_of_ble_eq_true rfl, by exact Nat.le_of_ble_eq_true rfl⟩ rfl (Nat.le_of_ble_eq_true rfl) dX2_digest_66 rfl ?_
  refine x_i2l B (pc' := 70) dX2_digest_69 rfl ?_
  obtain ⟨r14, er14, h⟩ := bd_elim h
  refine x_pureSl B (pc' := 73) [.long r12, .long (Int32.toInt64 r13)] (k_X2_mixed _ _ _ r12 (Int32.toInt64 r13) er14) gv_RX2_221 np_X2_mixed ⟨Nat.le_of_ble_eq_true rfl, Nat.le_of_ble_eq_true rfl⟩ ⟨by exact Nat.le_of_ble_eq_true rfl, by exact Nat.le_of_ble_eq_true rfl⟩ rfl (Nat.le_of_ble_eq_true rfl) dX2_digest_70 rfl ?_
  refine x_lstore_n B (pc' := 74) [1, 0] [(0, .ref (a 0 0)), (1, .long r14)] dX2_digest_73 rfl (by decide) rfl rfl ?_
  refine x_lload_n B (pc' := 75) 1 dX2_digest_74 rfl rfl rfl ?_
  refine x_aload_n B (pc' := 76) 0 dX2_digest_75 rfl rfl rfl ?_
  obtain ⟨r15, er15, h⟩ := bd_elim h
  refine x_selfVi B (pc' := 79) [] (k_X2_place _ _ _ a S er15) rfl rfl gv_RX2_240 rfl np_X2_place ⟨Nat.le_of_ble_eq_true rfl, Nat.le_of_ble_eq_true rfl⟩ ⟨by exact Nat.le_of_ble_eq_true rfl, by exact Nat.le_of_ble_eq_true rfl⟩ rfl (Nat.le_of_ble_eq_true rfl) dX2_digest_76 rfl ?_
  refine x_i2l B (pc' := 80) dX2_digest_79 rfl ?_
  obtain ⟨r16, er16, h⟩ := bd_elim h
  refine x_pureSl B (pc' := 83) [.long r14, .long (Int32.toInt64 r15)] (k_X2_mixed _ _ _ r14 (Int32.toInt64 r15) er16) gv_RX2_221 np_X2_mixed ⟨Nat.le_of_ble_eq_true rfl, Nat.le_of_ble_eq_true rfl⟩ ⟨by exact Nat.le_of_ble_eq_true rfl, by exact Nat.le_of_ble_eq_true rfl⟩ rfl (Nat.le_of_ble_eq_true rfl) dX2_digest_80 rfl ?_
  refine x_lstore_n B (pc' := 84) [1, 0] [(0, .ref (a 0 0)), (1, .long r16)] dX2_digest_83 rfl (by decide) rfl rfl ?_
  refine x_lload_n B (pc' := 85) 1 dX2_digest_84 rfl rfl rfl ?_
  refine x_aload_n B (pc' := 86) 0 dX2_digest_85 rfl rfl rfl ?_
  obtain ⟨r17, er17, h⟩ := bd_elim h
  refine x_selfVi B (pc' := 89) [] (k_X2_corrected _ _ _ a S er17) rfl rfl gv_RX2_242 rfl np_X2_corrected ⟨Nat.le_of_ble_eq_true rfl, Nat.le_of_ble_eq_true rfl⟩ ⟨by exact Nat.le_of_ble_eq_true rfl, by exact Nat.le_of_ble_eq_true rfl⟩ rfl (Nat.le_of_ble_eq_true rfl) dX2_digest_86 rfl ?_
  refine x_i2l B (pc' := 90) dX2_digest_89 rfl ?_
  obtain ⟨r18, er18, h⟩ := bd_elim h
  refine x_pureSl B (pc' := 93) [.long r16, .long (Int32.toInt64 r17)] (k_X2_mixed _ _ _ r16 (Int32.toInt64 r17) er18) gv_RX2_221 np_X2_mixed ⟨Nat.le_of_ble_eq_true rfl, Nat.le_of_ble_eq_true rfl⟩ ⟨by exact Nat.le_of_ble_eq_true rfl, by exact Nat.le_of_ble_eq_true rfl⟩ rfl (Nat.le_of_ble_eq_true rfl) dX2_digest_90 rfl ?_
  refine x_lstore_n B (pc' := 94) [1, 0] [(0, .ref (a 0 0)), (1, .long r18)] dX2_digest_93 rfl (by decide) rfl rfl ?_
  refine x_lload_n B (pc' := 95) 1 dX2_digest_94 rfl rfl rfl ?_
  refine x_aload_n B (pc' := 96) 0 dX2_digest_95 rfl rfl rfl ?_
  obtain ⟨r19, er19, h⟩ := bd_elim h
  refine x_selfVi B (pc' := 99) [] (k_X2_room _ _ _ a S er19) rfl rfl gv_RX2_245 rfl np_X2_room ⟨Nat.le_of_ble_eq_true rfl, Nat.le_of_ble_eq_true rfl⟩ ⟨by exact Nat.le_of_ble_eq_true rfl, by exact Nat.le_of_ble_eq_true rfl⟩ rfl (Nat.le_of_ble_eq_true rfl) dX2_digest_96 rfl ?_
  refine x_i2l B (pc' := 100) dX2_digest_99 rfl ?_
  obtain ⟨r20, er20, h⟩ := bd_elim h
  refine x_pureSl B (pc' := 103) [.long r18, .long (Int32.toInt64 r19)] (k_X2_mixed _ _ _ r18 (Int32.toInt64 r19) er20) gv_RX2_221 np_X2_mixed ⟨Nat.le_of_ble_eq_true rfl, Nat.le_of_ble_eq_true rfl⟩ ⟨by exact Nat.le_of_ble_eq_true rfl, by exact Nat.le_of_ble_eq_true rfl⟩ rfl (Nat.le_of_ble_eq_true rfl) dX2_digest_100 rfl ?_
  refine x_lstore_n B (pc' := 104) [1, 0] [(0, .ref (a 0 0)), (1, .long r20)] dX2_digest_103 rfl (by decide) rfl rfl ?_
  refine x_lload_n B (pc' := 105) 1 dX2_digest_104 rfl rfl rfl ?_
  refine x_aload_n B (pc' := 106) 0 dX2_digest_105 rfl rfl rfl ?_
  obtain ⟨r21, er21, h⟩ := bd_elim h
  refine x_selfVi B (pc' := 109) [] (k_X2_nextLoser _ _ _ a S er21) rfl rfl gv_RX2_248 rfl np_X2_nextLoser ⟨Nat.le_of_ble_eq_true rfl, Nat.le_of_ble_eq_true rfl⟩ ⟨by exact Nat.le_of_ble_eq_true rfl, by exact Nat.le_of_ble_eq_true rfl⟩ rfl (Nat.le_of_ble_eq_true rfl) dX2_digest_106 rfl ?_
  refine x_i2l B (pc' := 110) dX2_digest_109 rfl ?_
  obtain ⟨r22, er22, h⟩ := bd_elim h
  refine x_pureSl B (pc' := 113) [.long r20, .long (Int32.toInt64 r21)] (k_X2_mixed _ _ _ r20 (Int32.toInt64 r21) er22) gv_RX2_221 np_X2_mixed ⟨Nat.le_of_ble_eq_true rfl, Nat.le_of_ble_eq_true rfl⟩ ⟨by exact Nat.le_of_ble_eq_true rfl, by exact Nat.le_of_ble_eq_true rfl⟩ rfl (Nat.le_of_ble_eq_true rfl) dX2_digest_110 rfl ?_
  refine x_lstore_n B (pc' := 114) [1, 0] [(0, .ref (a 0 0)), (1, .long r22)] dX2_digest_113 rfl (by decide) rfl rfl ?_
  refine x_iconst B (pc' := 115) 0 dX2_digest_114 (by decide) rfl ?_
  refine x_istore_n B (pc' := 116) [1, 2, 0] [(0, .ref (a 0 0)), (1, .long r22), (3, .int (0 : Int32))] dX2_digest_115 rfl (by decide) rfl rfl ?_
  exact h116  _ _ _ h
