def c_X2_save_43 (t0 : Int32) (S : BO) : Option BO :=
  nm (fun (S6 : BO) => if (6 : Int32) ≤ (S6.1 3) then (some S6) else (nm (fun (S8 : BO) => some S8) (upd S6.1 3 ((S6.1 3) + (1 : Int32)), S6.2))) (upd S.1 2 t0, S.2)
def f_X2_save (S : BO) : Option BO :=
  gd (S.1 2) 6 (nm (fun (j2 : Nat) => bd (f_X1_copyFrom (S.2.2.1 j2) S.2.1) (fun (S3 : OB) => nm (fun (S4 : BO) => if (6 : Int32) ≤ ((S4.1 2) + (1 : Int32)) then (c_X2_save_43 (0 : Int32) S4) else (c_X2_save_43 ((S4.1 2) + (1 : Int32)) S4)) (S.1, S.2.1, (fun i => if i = j2 then S3 else S.2.2.1 i), S.2.2.2))) (Int32.toNatClampNeg (S.1 2)))
abbrev rm_X2_save : Room := { frames := 2, cells := 0, slots := 0, locals := 85 }
theorem np_X2_save : yX2_save.cls ≠ "java/lang/invoke/MethodHandle" ∧ yX2_save.cls ≠ "java/lang/invoke/VarHandle" ∧ (parseMethodDescriptor yX2_save.desc).map (fun d => d.parameters.length) = some 0 := by decide +kernel
set_option maxHeartbeats 4000000 in
set_option maxRecDepth 100000 in
theorem k_X2_save (l : Launch) (D : va_G) (cs : CS) (a : Nat → Nat → Nat) (S : BO) {S9 : BO} (h : f_X2_save S = some S9) : MV l D cs yX2_save cX2_save 2 rm_X2_save [.ref (a 0 0)] (wB cs a S) (wB cs a S9) := by
  refine MV_of (by decide) (Nat.le_of_ble_eq_true rfl) ?_
  rintro Γ rfl rfl rfl B ret
  show X Γ 2 0 0 0 [(0, .ref (a 0 0))] [] (wB Γ.cs a S)
  have h43 : ∀ (t0 : Int32) (S : BO), c_X2_save_43  t0 S = some S9 → X Γ 2 0 0 43 [(0, .ref (a 0 0))] [.int t0, .ref (a 0 0)] (wB Γ.cs a S) := by
    intro  t0 S h
    unfold c_X2_save_43 at h
    obtain ⟨S6, eS6, h⟩ := nm_elim h
    refine b_put2 B (pc' := 46) wf_RX2_20 dX2_save_43 rfl ?_
    refine b_wd eS6 ?_
    refine x_aload_n B (pc' := 47) 0 dX2_save_46 rfl rfl rfl ?_
    refine b_get3 B (pc' := 50) wf_RX2_24 dX2_save_47 rfl ?_
    refine x_bipush B (pc' := 52) 6 dX2_save_50 (by decide) rfl ?_
    refine x_icmp_ge B 65 55 dX2_save_52 (by decide) rfl (fun hc7 => ?_) (fun hc7 => ?_)
    · replace h := ite_t hc7 h
      cases h
      exact ret (by exact Nat.le_of_ble_eq_true rfl) (by exact Nat.le_of_ble_eq_true rfl) dX2_save_65
    · replace h := ite_f hc7 h
      refine x_aload_n B (pc' := 56) 0 dX2_save_55 rfl rfl rfl ?_
      refine x_dup B (pc' := 57) dX2_save_56 rfl rfl ?_
      refine b_get3 B (pc' := 60) wf_RX2_24 dX2_save_57 rfl ?_
      refine x_iconst B (pc' := 61) 1 dX2_save_60 (by decide) rfl ?_
      refine x_iadd B (pc' := 62) dX2_save_61 rfl ?_
      obtain ⟨S8, eS8, h⟩ := nm_elim h
      refine b_put3 B (pc' := 65) wf_RX2_24 dX2_save_62 rfl ?_
      refine b_wd eS8 ?_
      cases h
      exact ret (by exact Nat.le_of_ble_eq_true rfl) (by exact Nat.le_of_ble_eq_true rfl) dX2_save_65
  unfold f_X2_save at h
  refine x_aload_n B (pc' := 1) 0 dX2_save_0 rfl rfl rfl ?_
  refine x_aload_n B (pc' := 2) 0 dX2_save_1 rfl rfl rfl ?_
  refine b_get2 B (pc' := 5) wf_RX2_20 dX2_save_2 rfl ?_
  obtain ⟨hi1, h⟩ := gd_elim h
  obtain ⟨j2, ej2, h⟩ := nm_elim h
  have hj2 : j2 < 6 := by rw [ej2]; exact Nat.not_le.mp fun q => hi1 (Or.inr q)
  refine b_slotAt B (pc' := 8) hi1 ej2 ⟨Nat.le_of_ble_eq_true rfl, Nat.le_of_ble_eq_true rfl⟩ ⟨by exact Nat.le_of_ble_eq_true rfl, by exact Nat.le_of_ble_eq_true rfl⟩ (Nat.le_of_ble_eq_true rfl) dX2_save_5 rfl ?_
  refine x_astore_n B (pc' := 9) [1, 0] [(0, .ref (a 0 0)), (1, .ref (a (3 + j2) 0))] dX2_save_8 rfl (by decide) rfl rfl ?_
  refine x_aload_n B (pc' := 10) 1 dX2_save_9 rfl rfl rfl ?_
  refine x_ifnull B (pc' := 13) dX2_save_10 rfl ?_
  refine x_aload_n B (pc' := 14) 1 dX2_save_13 rfl rfl rfl ?_
  refine x_aload_n B (pc' := 15) 0 dX2_save_14 rfl rfl rfl ?_
  refine b_ref0 B (pc' := 18) wf_RX2_10 dX2_save_15 rfl ?_
  obtain ⟨S3, eS3, h⟩ := bd_elim h
  obtain ⟨S4, eS4, h⟩ := nm_elim h
  refine b_cpyS hj2 B (pc' := 21) eS3 ⟨Nat.le_of_ble_eq_true rfl, Nat.le_of_ble_eq_true rfl⟩ ⟨by exact Nat.le_of_ble_eq_true rfl, by exact Nat.le_of_ble_eq_true rfl⟩ (Nat.le_of_ble_eq_true rfl) dX2_save_18 rfl ?_
  refine b_wd eS4 ?_
  refine x_aload_n B (pc' := 22) 0 dX2_save_21 rfl rfl rfl ?_
  refine x_aload_n B (pc' := 23) 0 dX2_save_22 rfl rfl rfl ?_
  refine b_get2 B (pc' := 26) wf_RX2_20 dX2_save_23 rfl ?_
  refine x_iconst B (pc' := 27) 1 dX2_save_26 (by decide) rfl ?_
  refine x_iadd B (pc' := 28) dX2_save_27 rfl ?_
  refine x_bipush B (pc' := 30) 6 dX2_save_28 (by decide) rfl ?_
  refine x_icmp_ge B 42 33 dX2_save_30 (by decide) rfl (fun hc5 => ?_) (fun hc5 => ?_)
  · replace h := ite_t hc5 h
    refine x_iconst B (pc' := 43) 0 dX2_save_42 (by decide) rfl ?_
    refine x_lv [0] (lv' := [(0, .ref (a 0 0))]) rfl ?_
    exact h43  _ _ h
  · replace h := ite_f hc5 h
    refine x_aload_n B (pc' := 34) 0 dX2_save_33 rfl rfl rfl ?_
    refine b_get2 B (pc' := 37) wf_RX2_20 dX2_save_34 rfl ?_
    refine x_iconst B (pc' := 38) 1 dX2_save_37 (by decide) rfl ?_
    refine x_iadd B (pc' := 39) dX2_save_38 rfl ?_
    refine x_goto B (pc' := 43) dX2_save_39 (by decide) ?_
    refine x_lv [0] (lv' := [(0, .ref (a 0 0))]) rfl ?_
    exact h43  _ _ h
def f_X2_recordings (S : BO) : Option Int32 :=
  some (S.2.1.1 7)
abbrev rm_X2_recordings : Room := { frames := 0, cells := 0, slots := 0, locals := 0 }
theorem np_X2_recordings : yX2_recordings.cls ≠ "java/lang/invoke/MethodHandle" ∧ yX2_recordings.cls ≠ "java/lang/invoke/VarHandle" ∧ (parseMethodDescriptor yX2_recordings.desc).map (fun d => d.parameters.length) = some 0 := by decide +kernel
set_option maxHeartbeats 4000000 in
set_option maxRecDepth 100000 in
theorem k_X2_recordings (l : Launch) (D : va_G) (cs : CS) (a : Nat → Nat → Nat) (S : BO) {r9 : Int32} (h : f_X2_recordings S = some r9) : MI l D cs yX2_recordings cX2_recordings 1 .int rm_X2_recordings [.ref (a 0 0)] (wB cs a S) r9 (wB cs a S) := by
  refine MI_of (by decide) (Nat.le_of_ble_eq_true rfl) ?_
  rintro Γ rfl rfl rfl B ret
  show X Γ 1 0 0 0 [(0, .ref (a 0 0))] [] (wB Γ.cs a S)
  unfold f_X2_recordings at h
  refine x_aload_n B (pc' := 1) 0 dX2_recordings_0 rfl rfl rfl ?_
  refine b_ref0 B (pc' := 4) wf_RX2_10 dX2_recordings_1 rfl ?_
  refine bn_get7 B (pc' := 7) wf_RX2_99 dX2_recordings_4 rfl ?_
  have h1 := (Option.some.inj h)
  subst h1
  exact ret rfl (by exact Nat.le_of_ble_eq_true rfl) (by exact Nat.le_of_ble_eq_true rfl) dX2_recordings_7
def f_X2_running (S : BO) : Option Int32 :=
  bd (f_X1_runningNumber S.2.1) (fun (r1 : Int32) => some r1)
abbrev rm_X2_running : Room := { frames := 1, cells := 0, slots := 0, locals := 20 }
theorem np_X2_running : yX2_running.cls ≠ "java/lang/invoke/MethodHandle" ∧ yX2_running.cls ≠ "java/lang/invoke/VarHandle" ∧ (parseMethodDescriptor yX2_running.desc).map (fun d => d.parameters.length) = some 0 := by decide +kernel
set_option maxHeartbeats 4000000 in
set_option maxRecDepth 100000 in
theorem k_X2_running (l : Launch) (D : va_G) (cs : CS) (a : Nat → Nat → Nat) (S : BO) {r9 : Int32} (h : f_X2_running S = some r9) : MI l D cs yX2_running cX2_running 1 .int rm_X2_running [.ref (a 0 0)] (wB cs a S) r9 (wB cs a S) := by
  refine MI_of (by decide) (Nat.le_of_ble_eq_true rfl) ?_
  rintro Γ rfl rfl rfl B ret
  show X Γ 1 0 0 0 [(0, .ref (a 0 0))] [] (wB Γ.cs a S)
  unfold f_X2_running at h
  refine x_aload_n B (pc' := 1) 0 dX2_running_0 rfl rfl rfl ?_
  refine b_ref0 B (pc' := 4) wf_RX2_10 dX2_running_1 rfl ?_
  obtain ⟨r1, er1, h⟩ := bd_elim h
  refine b_nowRi B (pc' := 7) [] (k_X1_runningNumber _ _ _ (a 1) S.2.1 er1) gv_RX2_102 rfl np_X1_runningNumber ⟨Nat.le_of_ble_eq_true rfl, Nat.le_of_ble_eq_true rfl⟩ ⟨by exact Nat.le_of_ble_eq_true rfl, by exact Nat.le_of_ble_eq_true rfl⟩ rfl (Nat.le_of_ble_eq_true rfl) dX2_running_4 rfl ?_
  have h1 := (Option.some.inj h)
  subst h1
  exact ret rfl (by exact Nat.le_of_ble_eq_true rfl) (by exact Nat.le_of_ble_eq_true rfl) dX2_running_7
def f_X2_head (S : BO) : Option Int32 :=
  some (S.2.1.1 9)
abbrev rm_X2_head : Room := { frames := 0, cells := 0, slots := 0, locals := 0 }
theorem np_X2_head : yX2_head.cls ≠ "java/lang/invoke/MethodHandle" ∧ yX2_head.cls ≠ "java/lang/invoke/VarHandle" ∧ (parseMethodDescriptor yX2_head.desc).map (fun d => d.parameters.length) = some 0 := by decide +kernel
set_option maxHeartbeats 4000000 in
set_option maxRecDepth 100000 in
theorem k_X2_head (l : Launch) (D : va_G) (cs : CS) (a : Nat → Nat → Nat) (S : BO) {r9 : Int32} (h : f_X2_head S = some r9) : MI l D cs yX2_head cX2_head 1 .int rm_X2_head [.ref (a 0 0)] (wB cs a S) r9 (wB cs a S) := by
  refine MI_of (by decide) (Nat.le_of_ble_eq_true rfl) ?_
  rintro Γ rfl rfl rfl B ret
  show X Γ 1 0 0 0 [(0, .ref (a 0 0))] [] (wB Γ.cs a S)
  unfold f_X2_head at h
  refine x_aload_n B (pc' := 1) 0 dX2_head_0 rfl rfl rfl ?_
  refine b_ref0 B (pc' := 4) wf_RX2_10 dX2_head_1 rfl ?_
  refine bn_get9 B (pc' := 7) wf_RX2_96 dX2_head_4 rfl ?_
  have h1 := (Option.some.inj h)
  subst h1
  exact ret rfl (by exact Nat.le_of_ble_eq_true rfl) (by exact Nat.le_of_ble_eq_true rfl) dX2_head_7
def f_X2_free (S : BO) : Option Int32 :=
  some ((32 : Int32) - (S.2.1.1 4))
abbrev rm_X2_free : Room := { frames := 0, cells := 0, slots := 0, locals := 0 }
theorem np_X2_free : yX2_free.cls ≠ "java/lang/invoke/MethodHandle" ∧ yX2_free.cls ≠ "java/lang/invoke/VarHandle" ∧ (parseMethodDescriptor yX2_free.desc).map (fun d => d.parameters.length) = some 0 := by decide +kernel
set_option maxHeartbeats 4000000 in
set_option maxRecDepth 100000 in
theorem k_X2_free (l : Launch) (D : va_G) (cs : CS) (a : Nat → Nat → Nat) (S : BO) {r9 : Int32} (h : f_X2_free S = some r9) : MI l D cs yX2_free cX2_free 1 .int rm_X2_free [.ref (a 0 0)] (wB cs a S) r9 (wB cs a S) := by
  refine MI_of (by decide) (Nat.le_of_ble_eq_true rfl) ?_
  rintro Γ rfl rfl rfl B ret
  show X Γ 1 0 0 0 [(0, .ref (a 0 0))] [] (wB Γ.cs a S)
  unfold f_X2_free at h
  refine x_bipush B (pc' := 2) 32 dX2_free_0 (by decide) rfl ?_
  refine x_aload_n B (pc' := 3) 0 dX2_free_2 rfl rfl rfl ?_
  refine b_ref0 B (pc' := 6) wf_RX2_10 dX2_free_3 rfl ?_
  refine bn_get4 B (pc' := 9) wf_RX2_129 dX2_free_6 rfl ?_
  refine x_isub B (pc' := 10) dX2_free_9 rfl ?_
  have h1 := (Option.some.inj h)
  subst h1
  exact ret rfl (by exact Nat.le_of_ble_eq_true rfl) (by exact Nat.le_of_ble_eq_true rfl) dX2_free_10
def f_X2_spoken (S : BO) : Option Int32 :=
  some (S.2.1.1 10)
abbrev rm_X2_spoken : Room := { frames := 0, cells := 0, slots := 0, locals := 0 }
theorem np_X2_spoken : yX2_spoken.cls ≠ "java/lang/invoke/MethodHandle" ∧ yX2_spoken.cls ≠ "java/lang/invoke/VarHandle" ∧ (parseMethodDescriptor yX2_spoken.desc).map (fun d => d.parameters.length) = some 0 := by decide +kernel
set_option maxHeartbeats 4000000 in
set_option maxRecDepth 100000 in
theorem k_X2_spoken (l : Launch) (D : va_G) (cs : CS) (a : Nat → Nat → Nat) (S : BO) {r9 : Int32} (h : f_X2_spoken S = some r9) : MI l D cs yX2_spoken cX2_spoken 1 .int rm_X2_spoken [.ref (a 0 0)] (wB cs a S) r9 (wB cs a S) := by
  refine MI_of (by decide) (Nat.le_of_ble_eq_true rfl) ?_
  rintro Γ rfl rfl rfl B ret
  show X Γ 1 0 0 0 [(0, .ref (a 0 0))] [] (wB Γ.cs a S)
  unfold f_X2_spoken at h
  refine x_aload_n B (pc' := 1) 0 dX2_spoken_0 rfl rfl rfl ?_
  refine b_ref0 B (pc' := 4) wf_RX2_10 dX2_spoken_1 rfl ?_
  refine bn_get10 B (pc' := 7) wf_RX2_132 dX2_spoken_4 rfl ?_
  have h1 := (Option.some.inj h)
  subst h1
  exact ret rfl (by exact Nat.le_of_ble_eq_true rfl) (by exact Nat.le_of_ble_eq_true rfl) dX2_spoken_7
def f_X2_gone (S : BO) : Option Int32 :=
  some (S.2.1.1 11)
abbrev rm_X2_gone : Room := { frames := 0, cells := 0, slots := 0, locals := 0 }
theorem np_X2_gone : yX2_gone.cls ≠ "java/lang/invoke/MethodHandle" ∧ yX2_gone.cls ≠ "java/lang/invoke/VarHandle" ∧ (parseMethodDescriptor yX2_gone.desc).map (fun d => d.parameters.length) = some 0 := by decide +kernel
set_option maxHeartbeats 4000000 in
set_option maxRecDepth 100000 in
theorem k_X2_gone (l : Launch) (D : va_G) (cs : CS) (a : Nat → Nat → Nat) (S : BO) {r9 : Int32} (h : f_X2_gone S = some r9) : MI l D cs yX2_gone cX2_gone 1 .int rm_X2_gone [.ref (a 0 0)] (wB cs a S) r9 (wB cs a S) := by
  refine MI_of (by decide) (Nat.le_of_ble_eq_true rfl) ?_
  rintro Γ rfl rfl rfl B ret
  show X Γ 1 0 0 0 [(0, .ref (a 0 0))] [] (wB Γ.cs a S)
  unfold f_X2_gone at h
  refine x_aload_n B (pc' := 1) 0 dX2_gone_0 rfl rfl rfl ?_
  refine b_ref0 B (pc' := 4) wf_RX2_10 dX2_gone_1 rfl ?_
  refine bn_get11 B (pc' := 7) wf_RX2_135 dX2_gone_4 rfl ?_
  have h1 := (Option.some.inj h)
  subst h1
  exact ret rfl (by exact Nat.le_of_ble_eq_true rfl) (by exact Nat.le_of_ble_eq_true rfl) dX2_gone_7
def f_X2_playing (S : BO) : Option Int32 :=
  some (S.2.1.1 12)
abbrev rm_X2_playing : Room := { frames := 0, cells := 0, slots := 0, locals := 0 }
theorem np_X2_playing : yX2_playing.cls ≠ "java/lang/invoke/MethodHandle" ∧ yX2_playing.cls ≠ "java/lang/invoke/VarHandle" ∧ (parseMethodDescriptor yX2_playing.desc).map (fun d => d.parameters.length) = some 0 := by decide +kernel
set_option maxHeartbeats 4000000 in
set_option maxRecDepth 100000 in
theorem k_X2_playing (l : Launch) (D : va_G) (cs : CS) (a : Nat → Nat → Nat) (S : BO) {r9 : Int32} (h : f_X2_playing S = some r9) : MI l D cs yX2_playing cX2_playing 1 .int rm_X2_playing [.ref (a 0 0)] (wB cs a S) r9 (wB cs a S) := by
  refine MI_of (by decide) (Nat.le_of_ble_eq_true rfl) ?_
  rintro Γ rfl rfl rfl B ret
  show X Γ 1 0 0 0 [(0, .ref (a 0 0))] [] (wB Γ.cs a S)
  unfold f_X2_playing at h
  refine x_aload_n B (pc' := 1) 0 dX2_playing_0 rfl rfl rfl ?_
  refine b_ref0 B (pc' := 4) wf_RX2_10 dX2_playing_1 rfl ?_
  refine bn_get12 B (pc' := 7) wf_RX2_157 dX2_playing_4 rfl ?_
  have h1 := (Option.some.inj h)
  subst h1
  exact ret rfl (by exact Nat.le_of_ble_eq_true rfl) (by exact Nat.le_of_ble_eq_true rfl) dX2_playing_7
def f_X2_place (S : BO) : Option Int32 :=
  some (S.2.1.1 13)
abbrev rm_X2_place : Room := { frames := 0, cells := 0, slots := 0, locals := 0 }
theorem np_X2_place : yX2_place.cls ≠ "java/lang/invoke/MethodHandle" ∧ yX2_place.cls ≠ "java/lang/invoke/VarHandle" ∧ (parseMethodDescriptor yX2_place.desc).map (fun d => d.parameters.length) = some 0 := by decide +kernel
set_option maxHeartbeats 4000000 in
set_option maxRecDepth 100000 in
theorem k_X2_place (l : Launch) (D : va_G) (cs : CS) (a : Nat → Nat → Nat) (S : BO) {r9 : Int32} (h : f_X2_place S = some r9) : MI l D cs yX2_place cX2_place 1 .int rm_X2_place [.ref (a 0 0)] (wB cs a S) r9 (wB cs a S) := by
  refine MI_of (by decide) (Nat.le_of_ble_eq_true rfl) ?_
  rintro Γ rfl rfl rfl B ret
  show X Γ 1 0 0 0 [(0, .ref (a 0 0))] [] (wB Γ.cs a S)
  unfold f_X2_place at h
  refine x_aload_n B (pc' := 1) 0 dX2_place_0 rfl rfl rfl ?_
  refine b_ref0 B (pc' := 4) wf_RX2_10 dX2_place_1 rfl ?_
  refine bn_get13 B (pc' := 7) wf_RX2_160 dX2_place_4 rfl ?_
  have h1 := (Option.some.inj h)
  subst h1
  exact ret rfl (by exact Nat.le_of_ble_eq_true rfl) (by exact Nat.le_of_ble_eq_true rfl) dX2_place_7
def f_X2_corrected (S : BO) : Option Int32 :=
  bd (f_X1_correctedCells S.2.1) (fun (r1 : Int32) => some r1)
abbrev rm_X2_corrected : Room := { frames := 2, cells := 0, slots := 0, locals := 44 }
theorem np_X2_corrected : yX2_corrected.cls ≠ "java/lang/invoke/MethodHandle" ∧ yX2_corrected.cls ≠ "java/lang/invoke/VarHandle" ∧ (parseMethodDescriptor yX2_corrected.desc).map (fun d => d.parameters.length) = some 0 := by decide +kernel
set_option maxHeartbeats 4000000 in
set_option maxRecDepth 100000 in
theorem k_X2_corrected (l : Launch) (D : va_G) (cs : CS) (a : Nat → Nat → Nat) (S : BO) {r9 : Int32} (h : f_X2_corrected S = some r9) : MI l D cs yX2_corrected cX2_corrected 1 .int rm_X2_corrected [.ref (a 0 0)] (wB cs a S) r9 (wB cs a S) := by
  refine MI_of (by decide) (Nat.le_of_ble_eq_true rfl) ?_
  rintro Γ rfl rfl rfl B ret
  show X Γ 1 0 0 0 [(0, .ref (a 0 0))] [] (wB Γ.cs a S)
  unfold f_X2_corrected at h
  refine x_aload_n B (pc' := 1) 0 dX2_corrected_0 rfl rfl rfl ?_
  refine b_ref0 B (pc' := 4) wf_RX2_10 dX2_corrected_1 rfl ?_
  obtain ⟨r1, er1, h⟩ := bd_elim h
  refine b_nowRi B (pc' := 7) [] (k_X1_correctedCells _ _ _ (a 1) S.2.1 er1) gv_RX2_170 rfl np_X1_correctedCells ⟨Nat.le_of_ble_eq_true rfl, Nat.le_of_ble_eq_true rfl⟩ ⟨by exact Nat.le_of_ble_eq_true rfl, by exact Nat.le_of_ble_eq_true rfl⟩ rfl (Nat.le_of_ble_eq_true rfl) dX2_corrected_4 rfl ?_
  have h1 := (Option.some.inj h)
  subst h1
  exact ret rfl (by exact Nat.le_of_ble_eq_true rfl) (by exact Nat.le_of_ble_eq_true rfl) dX2_corrected_7
def f_X2_room (S : BO) : Option Int32 :=
  bd (f_X1_writableCells S.2.1) (fun (r1 : Int32) => some r1)
abbrev rm_X2_room : Room := { frames := 3, cells := 0, slots := 0, locals := 66 }
theorem np_X2_room : yX2_room.cls ≠ "java/lang/invoke/MethodHandle" ∧ yX2_room.cls ≠ "java/lang/invoke/VarHandle" ∧ (parseMethodDescriptor yX2_room.desc).map (fun d => d.parameters.length) = some 0 := by decide +kernel
set_option maxHeartbeats 4000000 in
set_option maxRecDepth 100000 in
theorem k_X2_room (l : Launch) (D : va_G) (cs : CS) (a : Nat → Nat → Nat) (S : BO) {r9 : Int32} (h : f_X2_room S = some r9) : MI l D cs yX2_room cX2_room 1 .int rm_X2_room [.ref (a 0 0)] (wB cs a S) r9 (wB cs a S) := by
  refine MI_of (by decide) (Nat.le_of_ble_eq_true rfl) ?_
  rintro Γ rfl rfl rfl B ret
  show X Γ 1 0 0 0 [(0, .ref (a 0 0))] [] (wB Γ.cs a S)
  unfold f_X2_room at h
  refine x_aload_n B (pc' := 1) 0 dX2_room_0 rfl rfl rfl ?_
  refine b_ref0 B (pc' := 4) wf_RX2_10 dX2_room_1 rfl ?_
  obtain ⟨r1, er1, h⟩ := bd_elim h
  refine b_nowRi B (pc' := 7) [] (k_X1_writableCells _ _ _ (a 1) S.2.1 er1) gv_RX2_173 rfl np_X1_writableCells ⟨Nat.le_of_ble_eq_true rfl, Nat.le_of_ble_eq_true rfl⟩ ⟨by exact Nat.le_of_ble_eq_true rfl, by exact Nat.le_of_ble_eq_true rfl⟩ rfl (Nat.le_of_ble_eq_true rfl) dX2_room_4 rfl ?_
  have h1 := (Option.some.inj h)
  subst h1
  exact ret rfl (by exact Nat.le_of_ble_eq_true rfl) (by exact Nat.le_of_ble_eq_true rfl) dX2_room_7
def f_X2_nextLoser (S : BO) : Option Int32 :=
  bd (f_X1_firstLoser S.2.1) (fun (r1 : Int32) => some r1)
abbrev rm_X2_nextLoser : Room := { frames := 3, cells := 0, slots := 0, locals := 67 }
theorem np_X2_nextLoser : yX2_nextLoser.cls ≠ "java/lang/invoke/MethodHandle" ∧ yX2_nextLoser.cls ≠ "java/lang/invoke/VarHandle" ∧ (parseMethodDescriptor yX2_nextLoser.desc).map (fun d => d.parameters.length) = some 0 := by decide +kernel
set_option maxHeartbeats 4000000 in
set_option maxRecDepth 100000 in
theorem k_X2_nextLoser (l : Launch) (D : va_G) (cs : CS) (a : Nat → Nat → Nat) (S : BO) {r9 : Int32} (h : f_X2_nextLoser S = some r9) : MI l D cs yX2_nextLoser cX2_nextLoser 1 .int rm_X2_nextLoser [.ref (a 0 0)] (wB cs a S) r9 (wB cs a S) := by
  refine MI_of (by decide) (Nat.le_of_ble_eq_true rfl) ?_
  rintro Γ rfl rfl rfl B ret
  show X Γ 1 0 0 0 [(0, .ref (a 0 0))] [] (wB Γ.cs a S)
  unfold f_X2_nextLoser at h
  refine x_aload_n B (pc' := 1) 0 dX2_nextLoser_0 rfl rfl rfl ?_
  refine b_ref0 B (pc' := 4) wf_RX2_10 dX2_nextLoser_1 rfl ?_
  obtain ⟨r1, er1, h⟩ := bd_elim h
  refine b_nowRi B (pc' := 7) [] (k_X1_firstLoser _ _ _ (a 1) S.2.1 er1) gv_RX2_176 rfl np_X1_firstLoser ⟨Nat.le_of_ble_eq_true rfl, Nat.le_of_ble_eq_true rfl⟩ ⟨by exact Nat.le_of_ble_eq_true rfl, by exact Nat.le_of_ble_eq_true rfl⟩ rfl (Nat.le_of_ble_eq_true rfl) dX2_nextLoser_4 rfl ?_
  have h1 := (Option.some.inj h)
  subst h1
  exact ret rfl (by exact Nat.le_of_ble_eq_true rfl) (by exact Nat.le_of_ble_eq_true rfl) dX2_nextLoser_7
def f_X2_savedStates (S : BO) : Option Int32 :=
  some (S.1 3)
abbrev rm_X2_savedStates : Room := { frames := 0, cells := 0, slots := 0, locals := 0 }
theorem np_X2_savedStates : yX2_savedStates.cls ≠ "java/lang/invoke/MethodHandle" ∧ yX2_savedStates.cls ≠ "java/lang/invoke/VarHandle" ∧ (parseMethodDescriptor yX2_savedStates.desc).map (fun d => d.parameters.length) = some 0 := by decide +kernel
set_option maxHeartbeats 4000000 in
set_option maxRecDepth 100000 in
theorem k_X2_savedStates (l : Launch) (D : va_G) (cs : CS) (a : Nat → Nat → Nat) (S : BO) {r9 : Int32} (h : f_X2_savedStates S = some r9) : MI l D cs yX2_savedStates cX2_savedStates 1 .int rm_X2_savedStates [.ref (a 0 0)] (wB cs a S) r9 (wB cs a S) := by
  refine MI_of (by decide) (Nat.le_of_ble_eq_true rfl) ?_
  rintro Γ rfl rfl rfl B ret
  show X Γ 1 0 0 0 [(0, .ref (a 0 0))] [] (wB Γ.cs a S)
  unfold f_X2_savedStates at h
  refine x_aload_n B (pc' := 1) 0 dX2_savedStates_0 rfl rfl rfl ?_
  refine b_get3 B (pc' := 4) wf_RX2_24 dX2_savedStates_1 rfl ?_
  have h1 := (Option.some.inj h)
  subst h1
  exact ret rfl (by exact Nat.le_of_ble_eq_true rfl) (by exact Nat.le_of_ble_eq_true rfl) dX2_savedStates_4
def b_X2_withRecording_60 (S : BO) (K60 : Int32 → Int64 → Int32 → Option Int64) (x3 : Int32) (x4 : Int64) (x6 : Int32) : Option Int64 :=
  if (S.2.1.1 4) ≤ x6 then (some x4) else (nm (fun (v8 : Int32) => if (vAt 32 (S.2.1.2 0) v8) = x3 then (bd (f_X2_mixed x4 (Int32.toInt64 v8)) (fun (r11 : Int64) => bd (f_X2_mixed r11 (Int32.toInt64 (vAt 32 (S.2.1.2 1) v8))) (fun (r12 : Int64) => bd (f_X2_mixed r12 (Int32.toInt64 (vAt 32 (S.2.1.2 2) v8))) (fun (r13 : Int64) => nm (fun (v14 : Int32) => K60 x3 r13 v14) (x6 + 1))))) else (nm (fun (v10 : Int32) => K60 x3 x4 v10) (x6 + 1))) (vAt 32 (S.2.1.2 3) x6))
def c_X2_withRecording_33 (S : BO) (x3 : Int32) (t0 : Int64) (t1 : Int64) : Option Int64 :=
  bd (f_X2_mixed t1 t0) (fun (r5 : Int64) => bd (f_X2_mixed r5 (Int32.toInt64 (vAt 10 (S.2.1.2 6) x3))) (fun (r6 : Int64) => lpf3 (b_X2_withRecording_60 S) FU x3 r6 (0 : Int32)))
def f_X2_withRecording (p0 : Int64) (p1 : Int32) (S : BO) : Option Int64 :=
  bd (f_X1_cellCount p1 S.2.1) (fun (r1 : Int32) => bd (f_X2_mixed p0 (Int32.toInt64 r1)) (fun (r2 : Int64) => bd (f_X1_isFlagged p1 S.2.1) (fun (r3 : Int32) => if r3 = 0 then (c_X2_withRecording_33 S p1 (0 : Int64) r2) else (c_X2_withRecording_33 S p1 (1 : Int64) r2))))
abbrev rm_X2_withRecording : Room := { frames := 2, cells := 0, slots := 0, locals := 45 }
theorem np_X2_withRecording : yX2_withRecording.cls ≠ "java/lang/invoke/MethodHandle" ∧ yX2_withRecording.cls ≠ "java/lang/invoke/VarHandle" ∧ (parseMethodDescriptor yX2_withRecording.desc).map (fun d => d.parameters.length) = some 2 := by decide +kernel
set_option maxHeartbeats 4000000 in
set_option maxRecDepth 100000 in
theorem k_X2_withRecording (l : Launch) (D : va_G) (cs : CS) (a : Nat → Nat → Nat) (p0 : Int64) (p1 : Int32) (S : BO) {r9 : Int64} (h : f_X2_withRecording p0 p1 S = some r9) : ML l D cs yX2_withRecording cX2_withRecording 8 rm_X2_withRecording [.ref (a 0 0), .long p0, .int p1] (wB cs a S) r9 (wB cs a S) := by
  refine ML_of (by decide) (Nat.le_of_ble_eq_true rfl) ?_
  rintro Γ rfl rfl rfl B ret
  show X Γ 8 0 0 0 [(0, .ref (a 0 0)), (1, .long p0), (3, .int p1)] [] (wB Γ.cs a S)
  have h60 : ∀ (n9 : Nat) (x3 : Int32) (x4 : Int64) (x6 : Int32), lpf3 (b_X2_withRecording_60 S) n9 x3 x4 x6 = some r9 → X Γ 8 0 0 60 [(0, .ref (a 0 0)), (3, .int x3), (4, .long x4), (6, .int x6)] [] (wB Γ.cs a S) := by
    refine lpf3_ind (fun K60 hK60 x3 x4 x6 h => ?_)
    unfold b_X2_withRecording_60 at h
    refine x_iload B (pc' := 62) 3 dX2_withRecording_60 rfl rfl ?_
    refine x_aload_n B (pc' := 63) 0 dX2_withRecording_62 rfl rfl rfl ?_
    refine b_ref0 B (pc' := 66) wf_RX2_10 dX2_withRecording_63 rfl ?_
    refine bn_get4 B (pc' := 69) wf_RX2_129 dX2_withRecording_66 rfl ?_
    refine x_icmp_ge B 158 72 dX2_withRecording_69 (by decide) rfl (fun hc7 => ?_) (fun hc7 => ?_)
    · replace h := ite_t hc7 h
      refine x_lload B (pc' := 160) 2 dX2_withRecording_158 rfl rfl ?_
      have h1 := (Option.some.inj h)
      subst h1
      exact ret (by exact Nat.le_of_ble_eq_true rfl) (by exact Nat.le_of_ble_eq_true rfl) dX2_withRecording_160
    · replace h := ite_f hc7 h
      refine x_aload_n B (pc' := 73) 0 dX2_withRecording_72 rfl rfl rfl ?_
      refine b_ref0 B (pc' := 76) wf_RX2_10 dX2_withRecording_73 rfl ?_
      refine bn_ref3 B (pc' := 79) wf_RX2_255 dX2_withRecording_76 rfl ?_
      refine x_iload B (pc' := 81) 3 dX2_withRecording_79 rfl rfl ?_
      refine bn_vAt3 B (pc' := 84) ⟨Nat.le_of_ble_eq_true rfl, Nat.le_of_ble_eq_true rfl⟩ ⟨Nat.le_of_ble_eq_true rfl, Nat.le_of_ble_eq_true rfl⟩ (Nat.le_of_ble_eq_true rfl) rfl dX2_withRecording_81 rfl ?_
      obtain ⟨v8, ev8, h⟩ := nm_elim h
      refine x_topi ev8 ?_
      refine x_istore B (pc' := 86) [1, 2, 3, 4, 0] [(0, .ref (a 0 0)), (3, .int x3), (4, .long x4), (6, .int x6), (7, .int v8)] dX2_withRecording_84 (by decide) rfl rfl ?_
      refine x_aload_n B (pc' := 87) 0 dX2_withRecording_86 rfl rfl rfl ?_
      refine b_ref0 B (pc' := 90) wf_RX2_10 dX2_withRecording_87 rfl ?_
      refine bn_ref0 B (pc' := 93) wf_RX2_126 dX2_withRecording_90 rfl ?_
      refine x_iload B (pc' := 95) 4 dX2_withRecording_93 rfl rfl ?_
      refine bn_vAt0 B (pc' := 98) ⟨Nat.le_of_ble_eq_true rfl, Nat.le_of_ble_eq_true rfl⟩ ⟨Nat.le_of_ble_eq_true rfl, Nat.le_of_ble_eq_true rfl⟩ (Nat.le_of_ble_eq_true rfl) rfl dX2_withRecording_95 rfl ?_
      refine x_iload_n B (pc' := 99) 1 dX2_withRecording_98 rfl rfl rfl ?_
      refine x_icmp_ne B 152 102 dX2_withRecording_99 (by decide) rfl (fun hc9 => ?_) (fun hc9 => ?_)
      · replace h := ite_f hc9 h
        obtain ⟨v10, ev10, h⟩ := nm_elim h
        refine x_iinc B (pc' := 155) v10 3 [1, 2, 3, 0, 4] [(0, .ref (a 0 0)), (3, .int x3), (4, .long x4), (6, .int v10), (7, .int v8)] dX2_withRecording_152 rfl (by rw [ev10]; rfl) (by decide) rfl rfl ?_
        refine x_goto B (pc' := 60) dX2_withRecording_155 (by decide) ?_
        refine x_lv [0, 1, 2, 3] (lv' := [(0, .ref (a 0 0)), (3, .int x3), (4, .long x4), (6, .int v10)]) rfl ?_
        exact hK60 _ _ _ h
      · replace h := ite_t hc9 h
        refine x_lload B (pc' := 104) 2 dX2_withRecording_102 rfl rfl ?_
        refine x_iload B (pc' := 106) 4 dX2_withRecording_104 rfl rfl ?_
        refine x_i2l B (pc' := 107) dX2_withRecording_106 rfl ?_
        obtain ⟨r11, er11, h⟩ := bd_elim h
        refine x_pureSl B (pc' := 110) [.long x4, .long (Int32.toInt64 v8)] (k_X2_mixed _ _ _ x4 (Int32.toInt64 v8) er11) gv_RX2_221 np_X2_mixed ⟨Nat.le_of_ble_eq_true rfl, Nat.le_of_ble_eq_true rfl⟩ ⟨by exact Nat.le_of_ble_eq_true rfl, by exact Nat.le_of_ble_eq_true rfl⟩ rfl (Nat.le_of_ble_eq_true rfl) dX2_withRecording_107 rfl ?_
        refine x_lstore B (pc' := 112) [1, 2, 0, 3, 4] [(0, .ref (a 0 0)), (3, .int x3), (4, .long r11), (6, .int x6), (7, .int v8)] dX2_withRecording_110 (by decide) rfl rfl ?_
        refine x_lload B (pc' := 114) 2 dX2_withRecording_112 rfl rfl ?_
        refine x_aload_n B (pc' := 115) 0 dX2_withRecording_114 rfl rfl rfl ?_
        refine b_ref0 B (pc' := 118) wf_RX2_10 dX2_withRecording_115 rfl ?_
        refine bn_ref1 B (pc' := 121) wf_RX2_112 dX2_withRecording_118 rfl ?_
        refine x_iload B (pc' := 123) 4 dX2_withRecording_121 rfl rfl ?_
        refine bn_vAt1 B (pc' := 126) ⟨Nat.le_of_ble_eq_true rfl, Nat.le_of_ble_eq_true rfl⟩ ⟨Nat.le_of_ble_eq_true rfl, Nat.le_of_ble_eq_true rfl⟩ (Nat.le_of_ble_eq_true rfl) rfl dX2_withRecording_123 rfl ?_
        refine x_i2l B (pc' := 127) dX2_withRecording_126 rfl ?_
        obtain ⟨r12, er12, h⟩ := bd_elim h
        refine x_pureSl B (pc' := 130) [.long r11, .long (Int32.toInt64 (vAt 32 (S.2.1.2 1) v8))] (k_X2_mixed _ _ _ r11 (Int32.toInt64 (vAt 32 (S.2.1.2 1) v8)) er12) gv_RX2_221 np_X2_mixed ⟨Nat.le_of_ble_eq_true rfl, Nat.le_of_ble_eq_true rfl⟩ ⟨by exact Nat.le_of_ble_eq_true rfl, by exact Nat.le_of_ble_eq_true rfl⟩ rfl (Nat.le_of_ble_eq_true rfl) dX2_withRecording_127 rfl ?_
        refine x_lstore B (pc' := 132) [1, 2, 0, 3, 4] [(0, .ref (a 0 0)), (3, .int x3), (4, .long r12), (6, .int x6), (7, .int v8)] dX2_withRecording_130 (by decide) rfl rfl ?_
        refine x_lload B (pc' := 134) 2 dX2_withRecording_132 rfl rfl ?_
        refine x_aload_n B (pc' := 135) 0 dX2_withRecording_134 rfl rfl rfl ?_
        refine b_ref0 B (pc' := 138) wf_RX2_10 dX2_withRecording_135 rfl ?_
        refine bn_ref2 B (pc' := 141) wf_RX2_167 dX2_withRecording_138 rfl ?_
        refine x_iload B (pc' := 143) 4 dX2_withRecording_141 rfl rfl ?_
        refine bn_vAt2 B (pc' := 146) ⟨Nat.le_of_ble_eq_true rfl, Nat.le_of_ble_eq_true rfl⟩ ⟨Nat.le_of_ble_eq_true rfl, Nat.le_of_ble_eq_true rfl⟩ (Nat.le_of_ble_eq_true rfl) rfl dX2_withRecording_143 rfl ?_
        refine x_i2l B (pc' := 147) dX2_withRecording_146 rfl ?_
        obtain ⟨r13, er13, h⟩ := bd_elim h
        refine x_pureSl B (pc' := 150) [.long r12, .long (Int32.toInt64 (vAt 32 (S.2.1.2 2) v8))] (k_X2_mixed _ _ _ r12 (Int32.toInt64 (vAt 32 (S.2.1.2 2) v8)) er13) gv_RX2_221 np_X2_mixed ⟨Nat.le_of_ble_eq_true rfl, Nat.le_of_ble_eq_true rfl⟩ ⟨by exact Nat.le_of_ble_eq_true rfl, by exact Nat.le_of_ble_eq_true rfl⟩ rfl (Nat.le_of_ble_eq_true rfl) dX2_withRecording_147 rfl ?_
        refine x_lstore B (pc' := 152) [1, 2, 0, 3, 4] [(0, .ref (a 0 0)), (3, .int x3), (4, .long r13), (6, .int x6), (7, .int v8)] dX2_withRecording_150 (by decide) rfl rfl ?_
        obtain ⟨v14, ev14, h⟩ := nm_elim h
        refine x_iinc B (pc' := 155) v14 3 [1, 2, 3, 0, 4] [(0, .ref (a 0 0)), (3, .int x3), (4, .long r13), (6, .int v14), (7, .int v8)] dX2_withRecording_152 rfl (by rw [ev14]; rfl) (by decide) rfl rfl ?_
        refine x_goto B (pc' := 60) dX2_withRecording_155 (by decide) ?_
        refine x_lv [0, 1, 2, 3] (lv' := [(0, .ref (a 0 0)), (3, .int x3), (4, .long r13), (6, .int v14)]) rfl ?_
        exact hK60 _ _ _ h
  have h33 : ∀ (x3 : Int32) (t0 : Int64) (t1 : Int64), c_X2_withRecording_33 S  x3 t0 t1 = some r9 → X Γ 8 0 0 33 [(0, .ref (a 0 0)), (3, .int x3)] [.long t0, .long t1] (wB Γ.cs a S) := by
    intro  x3 t0 t1 h
    unfold c_X2_withRecording_33 at h
    obtain ⟨r5, er5, h⟩ := bd_elim h
    refine x_pureSl B (pc' := 36) [.long t1, .long t0] (k_X2_mixed _ _ _ t1 t0 er5) gv_RX2_221 np_X2_mixed ⟨Nat.le_of_ble_eq_true rfl, Nat.le_of_ble_eq_true rfl⟩ ⟨by exact Nat.le_of_ble_eq_true rfl, by exact Nat.le_of_ble_eq_true rfl⟩ rfl (Nat.le_of_ble_eq_true rfl) dX2_withRecording_33 rfl ?_
    refine x_lstore B (pc' := 38) [1, 2, 0] [(0, .ref (a 0 0)), (3, .int x3), (4, .long r5)] dX2_withRecording_36 (by decide) rfl rfl ?_
    refine x_lload B (pc' := 40) 2 dX2_withRecording_38 rfl rfl ?_
    refine x_aload_n B (pc' := 41) 0 dX2_withRecording_40 rfl rfl rfl ?_
    refine b_ref0 B (pc' := 44) wf_RX2_10 dX2_withRecording_41 rfl ?_
    refine bn_ref6 B (pc' := 47) wf_RX2_123 dX2_withRecording_44 rfl ?_
    refine x_iload_n B (pc' := 48) 1 dX2_withRecording_47 rfl rfl rfl ?_
    refine bn_vAt6 B (pc' := 51) ⟨Nat.le_of_ble_eq_true rfl, Nat.le_of_ble_eq_true rfl⟩ ⟨Nat.le_of_ble_eq_true rfl, Nat.le_of_ble_eq_true rfl⟩ (Nat.le_of_ble_eq_true rfl) rfl dX2_withRecording_48 rfl ?_
    refine x_i2l B (pc' := 52) dX2_withRecording_51 rfl ?_
    obtain ⟨r6, er6, h⟩ := bd_elim h
    refine x_pureSl B (pc' := 55) [.long r5, .long (Int32.toInt64 (vAt 10 (S.2.1.2 6) x3))] (k_X2_mixed _ _ _ r5 (Int32.toInt64 (vAt 10 (S.2.1.2 6) x3)) er6) gv_RX2_221 np_X2_mixed ⟨Nat.le_of_ble_eq_true rfl, Nat.le_of_ble_eq_true rfl⟩ ⟨by exact Nat.le_of_ble_eq_true rfl, by exact Nat.le_of_ble_eq_true rfl⟩ rfl (Nat.le_of_ble_eq_true rfl) dX2_withRecording_52 rfl ?_
    refine x_lstore B (pc' := 57) [1, 2, 0] [(0, .ref (a 0 0)), (3, .int x3), (4, .long r6)] dX2_withRecording_55 (by decide) rfl rfl ?_
    refine x_iconst B (pc' := 58) 0 dX2_withRecording_57 (by decide) rfl ?_
    refine x_istore B (pc' := 60) [1, 2, 3, 0] [(0, .ref (a 0 0)), (3, .int x3), (4, .long r6), (6, .int (0 : Int32))] dX2_withRecording_58 (by decide) rfl rfl ?_
    exact h60  _ _ _ _ h
  unfold f_X2_withRecording at h
  refine x_lload_n B (pc' := 1) 1 dX2_withRecording_0 rfl rfl rfl ?_
  refine x_aload_n B (pc' := 2) 0 dX2_withRecording_1 rfl rfl rfl ?_
  refine b_ref0 B (pc' := 5) wf_RX2_10 dX2_withRecording_2 rfl ?_
  refine x_iload_n B (pc' := 6) 2 dX2_withRecording_5 rfl rfl rfl ?_
  obtain ⟨r1, er1, h⟩ := bd_elim h
  refine b_nowRi B (pc' := 9) [.int p1] (k_X1_cellCount _ _ _ (a 1) p1 S.2.1 er1) gv_RX2_105 rfl np_X1_cellCount ⟨Nat.le_of_ble_eq_true rfl, Nat.le_of_ble_eq_true rfl⟩ ⟨by exact Nat.le_of_ble_eq_true rfl, by exact Nat.le_of_ble_eq_true rfl⟩ rfl (Nat.le_of_ble_eq_true rfl) dX2_withRecording_6 rfl ?_
  refine x_i2l B (pc' := 10) dX2_withRecording_9 rfl ?_
  obtain ⟨r2, er2, h⟩ := bd_elim h
  refine x_pureSl B (pc' := 13) [.long p0, .long (Int32.toInt64 r1)] (k_X2_mixed _ _ _ p0 (Int32.toInt64 r1) er2) gv_RX2_221 np_X2_mixed ⟨Nat.le_of_ble_eq_true rfl, Nat.le_of_ble_eq_true rfl⟩ ⟨by exact Nat.le_of_ble_eq_true rfl, by exact Nat.le_of_ble_eq_true rfl⟩ rfl (Nat.le_of_ble_eq_true rfl) dX2_withRecording_10 rfl ?_
  refine x_lstore B (pc' := 15) [1, 2, 3, 0] [(0, .ref (a 0 0)), (1, .long p0), (3, .int p1), (4, .long r2)] dX2_withRecording_13 (by decide) rfl rfl ?_
  refine x_lload B (pc' := 17) 3 dX2_withRecording_15 rfl rfl ?_
  refine x_aload_n B (pc' := 18) 0 dX2_withRecording_17 rfl rfl rfl ?_
  refine b_ref0 B (pc' := 21) wf_RX2_10 dX2_withRecording_18 rfl ?_
  refine x_iload_n B (pc' := 22) 2 dX2_withRecording_21 rfl rfl rfl ?_
  obtain ⟨r3, er3, h⟩ := bd_elim h
  refine b_nowRi B (pc' := 25) [.int p1] (k_X1_isFlagged _ _ _ (a 1) p1 S.2.1 er3) gv_RX2_78 rfl np_X1_isFlagged ⟨Nat.le_of_ble_eq_true rfl, Nat.le_of_ble_eq_true rfl⟩ ⟨by exact Nat.le_of_ble_eq_true rfl, by exact Nat.le_of_ble_eq_true rfl⟩ rfl (Nat.le_of_ble_eq_true rfl) dX2_withRecording_22 rfl ?_
  refine x_if_eq B 32 28 dX2_withRecording_25 (by decide) rfl (fun hc4 => ?_) (fun hc4 => ?_)
  · replace h := ite_t hc4 h
    refine x_lconst B (pc' := 33) 0 dX2_withRecording_32 (by decide) rfl ?_
    refine x_lv [0, 2] (lv' := [(0, .ref (a 0 0)), (3, .int p1)]) rfl ?_
    exact h33  _ _ _ h
  · replace h := ite_f hc4 h
    refine x_lconst B (pc' := 29) 1 dX2_withRecording_28 (by decide) rfl ?_
    refine x_goto B (pc' := 33) dX2_withRecording_29 (by decide) ?_
    refine x_lv [0, 2] (lv' := [(0, .ref (a 0 0)), (3, .int p1)]) rfl ?_
    exact h33  _ _ _ h
def b_X2_digest_142 (S : BO) (K142 : Int64 → Int32 → Option Int64) (x1 : Int64) (x3 : Int32) : Option Int64 :=
  if (32 : Int32) ≤ x3 then (some x1) else (bd (f_X2_mixed x1 (Int32.toInt64 (vAt 32 (S.2.1.2 0) x3))) (fun (r27 : Int64) => nm (fun (v28 : Int32) => K142 r27 v28) (x3 + 1)))
def b_X2_digest_116 (S : BO) (K116 : Int64 → Int32 → Option Int64) (x1 : Int64) (x3 : Int32) : Option Int64 :=
  if (S.2.1.1 7) ≤ x3 then (lpf2 (b_X2_digest_142 S) FU x1 (0 : Int32)) else (bd (f_X2_withRecording x1 x3 S) (fun (r24 : Int64) => nm (fun (v25 : Int32) => K116 r24 v25) (x3 + 1)))
def f_X2_digest (S : BO) : Option Int64 :=
  bd (f_X2_recordings S) (fun (r1 : Int32) => bd (f_X2_mixed (4444 : Int64) (Int32.toInt64 r1)) (fun (r2 : Int64) => bd (f_X2_running S) (fun (r3 : Int32) => bd (f_X2_mixed r2 (Int32.toInt64 r3)) (fun (r4 : Int64) => bd (f_X2_head S) (fun (r5 : Int32) => bd (f_X2_mixed r4 (Int32.toInt64 r5)) (fun (r6 : Int64) => bd (f_X2_free S) (fun (r7 : Int32) => bd (f_X2_mixed r6 (Int32.toInt64 r7)) (fun (r8 : Int64) => bd (f_X2_spoken S) (fun (r9 : Int32) => bd (f_X2_mixed r8 (Int32.toInt64 r9)) (fun (r10 : Int64) => bd (f_X2_gone S) (fun (r11 : Int32) => bd (f_X2_mixed r10 (Int32.toInt64 r11)) (fun (r12 : Int64) => bd (f_X2_playing S) (fun (r13 : Int32) => bd (f_X2_mixed r12 (Int32.toInt64 r13)) (fun (r14 : Int64) => bd (f_X2_place S) (fun (r15 : Int32) => bd (f_X2_mixed r14 (Int32.toInt64 r15)) (fun (r16 : Int64) => bd (f_X2_corrected S) (fun (r17 : Int32) => bd (f_X2_mixed r16 (Int32.toInt64 r17)) (fun (r18 : Int64) => bd (f_X2_room S) (fun (r19 : Int32) => bd (f_X2_mixed r18 (Int32.toInt64 r19)) (fun (r20 : Int64) => bd (f_X2_nextLoser S) (fun (r21 : Int32) => bd (f_X2_mixed r20 (Int32.toInt64 r21)) (fun (r22 : Int64) => lpf2 (b_X2_digest_116 S) FU r22 (0 : Int32)))))))))))))))))))))))
abbrev rm_X2_digest : Room := { frames := 4, cells := 0, slots := 0, locals := 87 }
theorem np_X2_digest : yX2_digest.cls ≠ "java/lang/invoke/MethodHandle" ∧ yX2_digest.cls ≠ "java/lang/invoke/VarHandle" ∧ (parseMethodDescriptor yX2_digest.desc).map (fun d => d.parameters.length) = some 0 := by decide +kernel
set_option maxHeartbeats 4000000 in
set_option maxRecDepth 100000 in
theorem k_X2_digest (l : Launch) (D : va_G) (cs : CS) (a : Nat → Nat → Nat) (S : BO) {r9 : Int64} (h : f_X2_digest S = some r9) : ML l D cs yX2_digest cX2_digest 4 rm_X2_digest [.ref (a 0 0)] (wB cs a S) r9 (wB cs a S) := by
  refine ML_of (by decide) (Nat.le_of_ble_eq_true rfl) ?_
  rintro Γ rfl rfl rfl B ret
  show X Γ 4 0 0 0 [(0, .ref (a 0 0))] [] (wB Γ.cs a S)
  have h142 : ∀ (n9 : Nat) (x1 : Int64) (x3 : Int32), lpf2 (b_X2_digest_142 S) n9 x1 x3 = some r9 → X Γ 4 0 0 142 [(0, .ref (a 0 0)), (1, .long x1), (3, .int x3)] [] (wB Γ.cs a S) := by
    refine lpf2_ind (fun K142 hK142 x1 x3 h => ?_)
    unfold b_X2_digest_142 at h
    refine x_iload_n B (pc' := 143) 2 dX2_digest_142 rfl rfl rfl ?_
    refine x_bipush B (pc' := 145) 32 dX2_digest_143 (by decide) rfl ?_
    refine x_icmp_ge B 171 148 dX2_digest_145 (by decide) rfl (fun hc26 => ?_) (fun hc26 => ?_)
    · replace h := ite_t hc26 h
      refine x_lload_n B (pc' := 172) 1 dX2_digest_171 rfl rfl rfl ?_
      have h1 := (Option.some.inj h)
      subst h1
      exact ret (by exact Nat.le_of_ble_eq_true rfl) (by exact Nat.le_of_ble_eq_true rfl) dX2_digest_172
    · replace h := ite_f hc26 h
      refine x_lload_n B (pc' := 149) 1 dX2_digest_148 rfl rfl rfl ?_
      refine x_aload_n B (pc' := 150) 0 dX2_digest_149 rfl rfl rfl ?_
      refine b_ref0 B (pc' := 153) wf_RX2_10 dX2_digest_150 rfl ?_
      refine bn_ref0 B (pc' := 156) wf_RX2_126 dX2_digest_153 rfl ?_
      refine x_iload_n B (pc' := 157) 2 dX2_digest_156 rfl rfl rfl ?_
      refine bn_vAt0 B (pc' := 160) ⟨Nat.le_of_ble_eq_true rfl, Nat.le_of_ble_eq_true rfl⟩ ⟨Nat.le_of_ble_eq_true rfl, Nat.le_of_ble_eq_true rfl⟩ (Nat.le_of_ble_eq_true rfl) rfl dX2_digest_157 rfl ?_
      refine x_i2l B (pc' := 161) dX2_digest_160 rfl ?_
      obtain ⟨r27, er27, h⟩ := bd_elim h
      refine x_pureSl B (pc' := 164) [.long x1, .long (Int32.toInt64 (vAt 32 (S.2.1.2 0) x3))] (k_X2_mixed _ _ _ x1 (Int32.toInt64 (vAt 32 (S.2.1.2 0) x3)) er27) gv_RX2_221 np_X2_mixed ⟨Nat.le_of_ble_eq_true rfl, Nat.le_of_ble_eq_true rfl⟩ ⟨by exact Nat.le_of_ble_eq_true rfl, by exact Nat.le_of_ble_eq_true rfl⟩ rfl (Nat.le_of_ble_eq_true rfl) dX2_digest_161 rfl ?_
      refine x_lstore_n B (pc' := 165) [1, 0, 2] [(0, .ref (a 0 0)), (1, .long r27), (3, .int x3)] dX2_digest_164 rfl (by decide) rfl rfl ?_
      obtain ⟨v28, ev28, h⟩ := nm_elim h
      refine x_iinc B (pc' := 168) v28 2 [1, 2, 0] [(0, .ref (a 0 0)), (1, .long r27), (3, .int v28)] dX2_digest_165 rfl (by rw [ev28]; rfl) (by decide) rfl rfl ?_
      refine x_goto B (pc' := 142) dX2_digest_168 (by decide) ?_
      exact hK142 _ _ h
  have h116 : ∀ (n9 : Nat) (x1 : Int64) (x3 : Int32), lpf2 (b_X2_digest_116 S) n9 x1 x3 = some r9 → X Γ 4 0 0 116 [(0, .ref (a 0 0)), (1, .long x1), (3, .int x3)] [] (wB Γ.cs a S) := by
    refine lpf2_ind (fun K116 hK116 x1 x3 h => ?_)
    unfold b_X2_digest_116 at h
    refine x_iload_n B (pc' := 117) 2 dX2_digest_116 rfl rfl rfl ?_
    refine x_aload_n B (pc' := 118) 0 dX2_digest_117 rfl rfl rfl ?_
    refine b_ref0 B (pc' := 121) wf_RX2_10 dX2_digest_118 rfl ?_
    refine bn_get7 B (pc' := 124) wf_RX2_99 dX2_digest_121 rfl ?_
    refine x_icmp_ge B 140 127 dX2_digest_124 (by decide) rfl (fun hc23 => ?_) (fun hc23 => ?_)
    · replace h := ite_t hc23 h
      refine x_iconst B (pc' := 141) 0 dX2_digest_140 (by decide) rfl ?_
      refine x_istore_n B (pc' := 142) [1, 2, 0] [(0, .ref (a 0 0)), (1, .long x1), (3, .int (0 : Int32))] dX2_digest_141 rfl (by decide) rfl rfl ?_
      exact h142  _ _ _ h
    · replace h := ite_f hc23 h
      refine x_aload_n B (pc' := 128) 0 dX2_digest_127 rfl rfl rfl ?_
      refine x_lload_n B (pc' := 129) 1 dX2_digest_128 rfl rfl rfl ?_
      refine x_iload_n B (pc' := 130) 2 dX2_digest_129 rfl rfl rfl ?_
      obtain ⟨r24, er24, h⟩ := bd_elim h
      refine x_selfVl B (pc' := 133) [.long x1, .int x3] (k_X2_withRecording _ _ _ a x1 x3 S er24) rfl rfl gv_RX2_251 rfl np_X2_withRecording ⟨Nat.le_of_ble_eq_true rfl, Nat.le_of_ble_eq_true rfl⟩ ⟨by exact Nat.le_of_ble_eq_true rfl, by exact Nat.le_of_ble_eq_true rfl⟩ rfl (Nat.le_of_ble_eq_true rfl) dX2_digest_130 rfl ?_
      refine x_lstore_n B (pc' := 134) [1, 0, 2] [(0, .ref (a 0 0)), (1, .long r24), (3, .int x3)] dX2_digest_133 rfl (by decide) rfl rfl ?_
      obtain ⟨v25, ev25, h⟩ := nm_elim h
      refine x_iinc B (pc' := 137) v25 2 [1, 2, 0] [(0, .ref (a 0 0)), (1, .long r24), (3, .int v25)] dX2_digest_134 rfl (by rw [ev25]; rfl) (by decide) rfl rfl ?_
      refine x_goto B (pc' := 116) dX2_digest_137 (by decide) ?_
      exact hK116 _ _ h
  unfold f_X2_digest at h
  refine x_ldc2 B (pc' := 3) 4444 wk_RX2_216 dX2_digest_0 rfl ?_
  refine x_lstore_n B (pc' := 4) [1, 0] [(0, .ref (a 0 0)), (1, .long (4444 : Int64))] dX2_digest_3 rfl (by decide) rfl rfl ?_
  refine x_lload_n B (pc' := 5) 1 dX2_digest_4 rfl rfl rfl ?_
  refine x_aload_n B (pc' := 6) 0 dX2_digest_5 rfl rfl rfl ?_
  obtain ⟨r1, er1, h⟩ := bd_elim h
  refine x_selfVi B (pc' := 9) [] (k_X2_recordings _ _ _ a S er1) rfl rfl gv_RX2_218 rfl np_X2_recordings ⟨Nat.le_of_ble_eq_true rfl, Nat.le_of_ble_eq_true rfl⟩ ⟨by exact Nat.le_of_ble_eq_true rfl, by exact Nat.le_of_ble_eq_true rfl⟩ rfl (Nat.le_of_ble_eq_true rfl) dX2_digest_6 rfl ?_
  refine x_i2l B (pc' := 10) dX2_digest_9 rfl ?_
  obtain ⟨r2, er2, h⟩ := bd_elim h
  refine x_pureSl B (pc' := 13) [.long (4444 : Int64), .long (Int32.toInt64 r1)] (k_X2_mixed _ _ _ (4444 : Int64) (Int32.toInt64 r1) er2) gv_RX2_221 np_X2_mixed ⟨Nat.le_of_ble_eq_true rfl, Nat.le_of_ble_eq_true rfl⟩ ⟨by exact Nat.le_of_ble_eq_true rfl, by exact Nat.le_of_ble_eq_true rfl⟩ rfl (Nat.le_of_ble_eq_true rfl) dX2_digest_10 rfl ?_
  refine x_lstore_n B (pc' := 14) [1, 0] [(0, .ref (a 0 0)), (1, .long r2)] dX2_digest_13 rfl (by decide) rfl rfl ?_
  refine x_lload_n B (pc' := 15) 1 dX2_digest_14 rfl rfl rfl ?_
  refine x_aload_n B (pc' := 16) 0 dX2_digest_15 rfl rfl rfl ?_
  obtain ⟨r3, er3, h⟩ := bd_elim h
  refine x_selfVi B (pc' := 19) [] (k_X2_running _ _ _ a S er3) rfl rfl gv_RX2_225 rfl np_X2_running ⟨Nat.le_of_ble_eq_true rfl, Nat.le_of_ble_eq_true rfl⟩ ⟨by exact Nat.le_of_ble_eq_true rfl, by exact Nat.le_of_ble_eq_true rfl⟩ rfl (Nat.le_of_ble_eq_true rfl) dX2_digest_16 rfl ?_
  refine x_i2l B (pc' := 20) dX2_digest_19 rfl ?_
  obtain ⟨r4, er4, h⟩ := bd_elim h
  refine x_pureSl B (pc' := 23) [.long r2, .long (Int32.toInt64 r3)] (k_X2_mixed _ _ _ r2 (Int32.toInt64 r3) er4) gv_RX2_221 np_X2_mixed ⟨Nat.le_of_ble_eq_true rfl, Nat.le_of_ble_eq_true rfl⟩ ⟨by exact Nat.le_of_ble_eq_true rfl, by exact Nat.le_of_ble_eq_true rfl⟩ rfl (Nat.le_of_ble_eq_true rfl) dX2_digest_20 rfl ?_
  refine x_lstore_n B (pc' := 24) [1, 0] [(0, .ref (a 0 0)), (1, .long r4)] dX2_digest_23 rfl (by decide) rfl rfl ?_
  refine x_lload_n B (pc' := 25) 1 dX2_digest_24 rfl rfl rfl ?_
  refine x_aload_n B (pc' := 26) 0 dX2_digest_25 rfl rfl rfl ?_
  obtain ⟨r5, er5, h⟩ := bd_elim h
  refine x_selfVi B (pc' := 29) [] (k_X2_head _ _ _ a S er5) rfl rfl gv_RX2_228 rfl np_X2_head ⟨Nat.le_of_ble_eq_true rfl, Nat.le_of_ble_eq_true rfl⟩ ⟨by exact Nat.le_of_ble_eq_true rfl, by exact Nat.le_of_ble_eq_true rfl⟩ rfl (Nat.le_of_ble_eq_true rfl) dX2_digest_26 rfl ?_
  refine x_i2l B (pc' := 30) dX2_digest_29 rfl ?_
  obtain ⟨r6, er6, h⟩ := bd_elim h
  refine x_pureSl B (pc' := 33) [.long r4, .long (Int32.toInt64 r5)] (k_X2_mixed _ _ _ r4 (Int32.toInt64 r5) er6) gv_RX2_221 np_X2_mixed ⟨Nat.le_of_ble_eq_true rfl, Nat.le_of_ble_eq_true rfl⟩ ⟨by exact Nat.le_of_ble_eq_true rfl, by exact Nat.le_of_ble_eq_true rfl⟩ rfl (Nat.le_of_ble_eq_true rfl) dX2_digest_30 rfl ?_
  refine x_lstore_n B (pc' := 34) [1, 0] [(0, .ref (a 0 0)), (1, .long r6)] dX2_digest_33 rfl (by decide) rfl rfl ?_
  refine x_lload_n B (pc' := 35) 1 dX2_digest_34 rfl rfl rfl ?_
  refine x_aload_n B (pc' := 36) 0 dX2_digest_35 rfl rfl rfl ?_
  obtain ⟨r7, er7, h⟩ := bd_elim h
  refine x_selfVi B (pc' := 39) [] (k_X2_free _ _ _ a S er7) rfl rfl gv_RX2_230 rfl np_X2_free ⟨Nat.le_of_ble_eq_true rfl, Nat.le_of_ble_eq_true rfl⟩ ⟨by exact Nat.le_of_ble_eq_true rfl, by exact Nat.le_of_ble_eq_true rfl⟩ rfl (Nat.le_of_ble_eq_true rfl) dX2_digest_36 rfl ?_
  refine x_i2l B (pc' := 40) dX2_digest_39 rfl ?_
  obtain ⟨r8, er8, h⟩ := bd_elim h
  refine x_pureSl B (pc' := 43) [.long r6, .long (Int32.toInt64 r7)] (k_X2_mixed _ _ _ r6 (Int32.toInt64 r7) er8) gv_RX2_221 np_X2_mixed ⟨Nat.le_of_ble_eq_true rfl, Nat.le_of_ble_eq_true rfl⟩ ⟨by exact Nat.le_of_ble_eq_true rfl, by exact Nat.le_of_ble_eq_true rfl⟩ rfl (Nat.le_of_ble_eq_true rfl) dX2_digest_40 rfl ?_
  refine x_lstore_n B (pc' := 44) [1, 0] [(0, .ref (a 0 0)), (1, .long r8)] dX2_digest_43 rfl (by decide) rfl rfl ?_
  refine x_lload_n B (pc' := 45) 1 dX2_digest_44 rfl rfl rfl ?_
  refine x_aload_n B (pc' := 46) 0 dX2_digest_45 rfl rfl rfl ?_
  obtain ⟨r9, er9, h⟩ := bd_elim h
  refine x_selfVi B (pc' := 49) [] (k_X2_spoken _ _ _ a S er9) rfl rfl gv_RX2_233 rfl np_X2_spoken ⟨Nat.le_of_ble_eq_true rfl, Nat.le_of_ble_eq_true rfl⟩ ⟨by exact Nat.le_of_ble_eq_true rfl, by exact Nat.le_of_ble_eq_true rfl⟩ rfl (Nat.le_of_ble_eq_true rfl) dX2_digest_46 rfl ?_
  refine x_i2l B (pc' := 50) dX2_digest_49 rfl ?_
  obtain ⟨r10, er10, h⟩ := bd_elim h
  refine x_pureSl B (pc' := 53) [.long r8, .long (Int32.toInt64 r9)] (k_X2_mixed _ _ _ r8 (Int32.toInt64 r9) er10) gv_RX2_221 np_X2_mixed ⟨Nat.le_of_ble_eq_true rfl, Nat.le_of_ble_eq_true rfl⟩ ⟨by exact Nat.le_of_ble_eq_true rfl, by exact Nat.le_of_ble_eq_true rfl⟩ rfl (Nat.le_of_ble_eq_true rfl) dX2_digest_50 rfl ?_
  refine x_lstore_n B (pc' := 54) [1, 0] [(0, .ref (a 0 0)), (1, .long r10)] dX2_digest_53 rfl (by decide) rfl rfl ?_
  refine x_lload_n B (pc' := 55) 1 dX2_digest_54 rfl rfl rfl ?_
  refine x_aload_n B (pc' := 56) 0 dX2_digest_55 rfl rfl rfl ?_
  obtain ⟨r11, er11, h⟩ := bd_elim h
  refine x_selfVi B (pc' := 59) [] (k_X2_gone _ _ _ a S er11) rfl rfl gv_RX2_235 rfl np_X2_gone ⟨Nat.le_of_ble_eq_true rfl, Nat.le_of_ble_eq_true rfl⟩ ⟨by exact Nat.le_of_ble_eq_true rfl, by exact Nat.le_of_ble_eq_true rfl⟩ rfl (Nat.le_of_ble_eq_true rfl) dX2_digest_56 rfl ?_
  refine x_i2l B (pc' := 60) dX2_digest_59 rfl ?_
  obtain ⟨r12, er12, h⟩ := bd_elim h
  refine x_pureSl B (pc' := 63) [.long r10, .long (Int32.toInt64 r11)] (k_X2_mixed _ _ _ r10 (Int32.toInt64 r11) er12) gv_RX2_221 np_X2_mixed ⟨Nat.le_of_ble_eq_true rfl, Nat.le_of_ble_eq_true rfl⟩ ⟨by exact Nat.le_of_ble_eq_true rfl, by exact Nat.le_of_ble_eq_true rfl⟩ rfl (Nat.le_of_ble_eq_true rfl) dX2_digest_60 rfl ?_
  refine x_lstore_n B (pc' := 64) [1, 0] [(0, .ref (a 0 0)), (1, .long r12)] dX2_digest_63 rfl (by decide) rfl rfl ?_
  refine x_lload_n B (pc' := 65) 1 dX2_digest_64 rfl rfl rfl ?_
  refine x_aload_n B (pc' := 66) 0 dX2_digest_65 rfl rfl rfl ?_
  obtain ⟨r13, er13, h⟩ := bd_elim h
  refine x_selfVi B (pc' := 69) [] (k_X2_playing _ _ _ a S er13) rfl rfl gv_RX2_237 rfl np_X2_playing ⟨Nat.le_of_ble_eq_true rfl, Nat.le_of_ble_eq_true rfl⟩ ⟨by exact Nat.le_of_ble_eq_true rfl, by exact Nat.le_of_ble_eq_true rfl⟩ rfl (Nat.le_of_ble_eq_true rfl) dX2_digest_66 rfl ?_
  refine x_i2l B (pc' := 70) dX2_digest_69 rfl ?_
  obtain ⟨r14, er14, h⟩ := bd_elim h
  refine x_pureSl B (pc' := 73) [.long r12, .long (Int32.toInt64 r13)] (k_X2_mixed _ _ _ r12 (Int32.toInt64 r13) er14) gv_RX2_221 np_X2_mixed ⟨Nat.le_of_ble_eq_true rfl, Nat.le_of_ble_eq_true rfl⟩ ⟨by exact Nat.le_of_ble_eq_true rfl, by exact Nat.le_of_ble_eq_true rfl⟩ rfl (Nat.le_of_ble_eq_true rfl) dX2_digest_70 rfl ?_
  refine x_lstore_n B (pc' := 74) [1, 0] [(0, .ref (a 0 0)), (1, .long r14)] dX2_digest_73 rfl (by decide) rfl rfl ?_
  refine x_lload_n B (pc' := 75) 1 dX2_digest_74 rfl rfl rfl ?_
  refine x_aload_n B (pc' := 76) 0 dX2_digest_75 rfl rfl rfl ?_
  obtain ⟨r15, er15, h⟩ := bd_elim h
  refine x_selfVi B (pc' := 79) [] (k_X2_place _ _ _ a S er15) rfl rfl gv_RX2_240 rfl np_X2_place ⟨Nat.le_of_ble_eq_true rfl, Nat.le_of_ble_eq_true rfl⟩ ⟨by exact Nat.le_of_ble_eq_true rfl, by exact Nat.le_of_ble_eq_true rfl⟩ rfl (Nat.le_of_ble_eq_true rfl) dX2_digest_76 rfl ?_
  refine x_i2l B (pc' := 80) dX2_digest_79 rfl ?_
  obtain ⟨r16, er16, h⟩ := bd_elim h
  refine x_pureSl B (pc' := 83) [.long r14, .long (Int32.toInt64 r15)] (k_X2_mixed _ _ _ r14 (Int32.toInt64 r15) er16) gv_RX2_221 np_X2_mixed ⟨Nat.le_of_ble_eq_true rfl, Nat.le_of_ble_eq_true rfl⟩ ⟨by exact Nat.le_of_ble_eq_true rfl, by exact Nat.le_of_ble_eq_true rfl⟩ rfl (Nat.le_of_ble_eq_true rfl) dX2_digest_80 rfl ?_
  refine x_lstore_n B (pc' := 84) [1, 0] [(0, .ref (a 0 0)), (1, .long r16)] dX2_digest_83 rfl (by decide) rfl rfl ?_
  refine x_lload_n B (pc' := 85) 1 dX2_digest_84 rfl rfl rfl ?_
  refine x_aload_n B (pc' := 86) 0 dX2_digest_85 rfl rfl rfl ?_
  obtain ⟨r17, er17, h⟩ := bd_elim h
  refine x_selfVi B (pc' := 89) [] (k_X2_corrected _ _ _ a S er17) rfl rfl gv_RX2_242 rfl np_X2_corrected ⟨Nat.le_of_ble_eq_true rfl, Nat.le_of_ble_eq_true rfl⟩ ⟨by exact Nat.le_of_ble_eq_true rfl, by exact Nat.le_of_ble_eq_true rfl⟩ rfl (Nat.le_of_ble_eq_true rfl) dX2_digest_86 rfl ?_
  refine x_i2l B (pc' := 90) dX2_digest_89 rfl ?_
  obtain ⟨r18, er18, h⟩ := bd_elim h
  refine x_pureSl B (pc' := 93) [.long r16, .long (Int32.toInt64 r17)] (k_X2_mixed _ _ _ r16 (Int32.toInt64 r17) er18) gv_RX2_221 np_X2_mixed ⟨Nat.le_of_ble_eq_true rfl, Nat.le_of_ble_eq_true rfl⟩ ⟨by exact Nat.le_of_ble_eq_true rfl, by exact Nat.le_of_ble_eq_true rfl⟩ rfl (Nat.le_of_ble_eq_true rfl) dX2_digest_90 rfl ?_
  refine x_lstore_n B (pc' := 94) [1, 0] [(0, .ref (a 0 0)), (1, .long r18)] dX2_digest_93 rfl (by decide) rfl rfl ?_
  refine x_lload_n B (pc' := 95) 1 dX2_digest_94 rfl rfl rfl ?_
  refine x_aload_n B (pc' := 96) 0 dX2_digest_95 rfl rfl rfl ?_
  obtain ⟨r19, er19, h⟩ := bd_elim h
  refine x_selfVi B (pc' := 99) [] (k_X2_room _ _ _ a S er19) rfl rfl gv_RX2_245 rfl np_X2_room ⟨Nat.le_of_ble_eq_true rfl, Nat.le_of_ble_eq_true rfl⟩ ⟨by exact Nat.le_of_ble_eq_true rfl, by exact Nat.le_of_ble_eq_true rfl⟩ rfl (Nat.le_of_ble_eq_true rfl) dX2_digest_96 rfl ?_
  refine x_i2l B (pc' := 100) dX2_digest_99 rfl ?_
  obtain ⟨r20, er20, h⟩ := bd_elim h
  refine x_pureSl B (pc' := 103) [.long r18, .long (Int32.toInt64 r19)] (k_X2_mixed _ _ _ r18 (Int32.toInt64 r19) er20) gv_RX2_221 np_X2_mixed ⟨Nat.le_of_ble_eq_true rfl, Nat.le_of_ble_eq_true rfl⟩ ⟨by exact Nat.le_of_ble_eq_true rfl, by exact Nat.le_of_ble_eq_true rfl⟩ rfl (Nat.le_of_ble_eq_true rfl) dX2_digest_100 rfl ?_
  refine x_lstore_n B (pc' := 104) [1, 0] [(0, .ref (a 0 0)), (1, .long r20)] dX2_digest_103 rfl (by decide) rfl rfl ?_
  refine x_lload_n B (pc' := 105) 1 dX2_digest_104 rfl rfl rfl ?_
  refine x_aload_n B (pc' := 106) 0 dX2_digest_105 rfl rfl rfl ?_
  obtain ⟨r21, er21, h⟩ := bd_elim h
  refine x_selfVi B (pc' := 109) [] (k_X2_nextLoser _ _ _ a S er21) rfl rfl gv_RX2_248 rfl np_X2_nextLoser ⟨Nat.le_of_ble_eq_true rfl, Nat.le_of_ble_eq_true rfl⟩ ⟨by exact Nat.le_of_ble_eq_true rfl, by exact Nat.le_of_ble_eq_true rfl⟩ rfl (Nat.le_of_ble_eq_true rfl) dX2_digest_106 rfl ?_
  refine x_i2l B (pc' := 110) dX2_digest_109 rfl ?_
  obtain ⟨r22, er22, h⟩ := bd_elim h
  refine x_pureSl B (pc' := 113) [.long r20, .long (Int32.toInt64 r21)] (k_X2_mixed _ _ _ r20 (Int32.toInt64 r21) er22) gv_RX2_221 np_X2_mixed ⟨Nat.le_of_ble_eq_true rfl, Nat.le_of_ble_eq_true rfl⟩ ⟨by exact Nat.le_of_ble_eq_true rfl, by exact Nat.le_of_ble_eq_true rfl⟩ rfl (Nat.le_of_ble_eq_true rfl) dX2_digest_110 rfl ?_
  refine x_lstore_n B (pc' := 114) [1, 0] [(0, .ref (a 0 0)), (1, .long r22)] dX2_digest_113 rfl (by decide) rfl rfl ?_
  refine x_iconst B (pc' := 115) 0 dX2_digest_114 (by decide) rfl ?_
  refine x_istore_n B (pc' := 116) [1, 2, 0] [(0, .ref (a 0 0)), (1, .long r22), (3, .int (0 : Int32))] dX2_digest_115 rfl (by decide) rfl rfl ?_
  exact h116  _ _ _ h
