def f_X0_add (p0 : Int32) (S : OB) : Option OB :=
  nm (fun (S1 : OB) => nm (fun (S2 : OB) => some S2) (upd S1.1 1 ((S1.1 1) + (1 : Int32)), S1.2)) (S.1, up2 S.2 0 (pAt 60 (S.2 0) (S.1 1) p0))
abbrev rm_X0_add : Room := { frames := 1, cells := 0, slots := 0, locals := 22 }
theorem np_X0_add : yX0_add.cls ≠ "java/lang/invoke/MethodHandle" ∧ yX0_add.cls ≠ "java/lang/invoke/VarHandle" ∧ (parseMethodDescriptor yX0_add.desc).map (fun d => d.parameters.length) = some 1 := by decide +kernel
set_option maxHeartbeats 4000000 in
set_option maxRecDepth 100000 in
theorem k_X0_add (l : Launch) (D : va_G) (cs : CS) (a : Nat → Nat) (p0 : Int32) (S : OB) {S9 : OB} (h : f_X0_add p0 S = some S9) : MV l D cs yX0_add cX0_add 2 rm_X0_add [.ref (a 0), .int p0] (wT cs.1 a S) (wT cs.1 a S9) := by
  refine MV_of (by decide) (Nat.le_of_ble_eq_true rfl) ?_
  rintro Γ rfl rfl rfl B ret
  show X Γ 2 0 0 0 [(0, .ref (a 0)), (1, .int p0)] [] (wT Γ.cs.1 a S)
  unfold f_X0_add at h
  refine x_aload_n B (pc' := 1) 0 dX0_add_0 rfl rfl rfl ?_
  refine t_ref0 B (pc' := 4) wf_RX0_9 dX0_add_1 rfl ?_
  refine x_aload_n B (pc' := 5) 0 dX0_add_4 rfl rfl rfl ?_
  refine t_get1 B (pc' := 8) wf_RX0_15 dX0_add_5 rfl ?_
  refine x_iload_n B (pc' := 9) 1 dX0_add_8 rfl rfl rfl ?_
  obtain ⟨S1, eS1, h⟩ := nm_elim h
  refine t_pAt0 B (pc' := 12) ⟨Nat.le_of_ble_eq_true rfl, Nat.le_of_ble_eq_true rfl⟩ ⟨Nat.le_of_ble_eq_true rfl, Nat.le_of_ble_eq_true rfl⟩ (Nat.le_of_ble_eq_true rfl) nw_RX0_19 dX0_add_9 rfl ?_
  refine t_wd eS1 ?_
  refine x_aload_n B (pc' := 13) 0 dX0_add_12 rfl rfl rfl ?_
  refine x_dup B (pc' := 14) dX0_add_13 rfl rfl ?_
  refine t_get1 B (pc' := 17) wf_RX0_15 dX0_add_14 rfl ?_
  refine x_iconst B (pc' := 18) 1 dX0_add_17 (by decide) rfl ?_
  refine x_iadd B (pc' := 19) dX0_add_18 rfl ?_
  obtain ⟨S2, eS2, h⟩ := nm_elim h
  refine t_put1 B (pc' := 22) wf_RX0_15 dX0_add_19 rfl ?_
  refine t_wd eS2 ?_
  cases h
  exact ret (by exact Nat.le_of_ble_eq_true rfl) (by exact Nat.le_of_ble_eq_true rfl) dX0_add_22
def f_X0_stageAfterLetter (p0 : Int32) : Option Int32 :=
  if p0 = 98 then (some (1 : Int32)) else (if p0 = 101 then (some (8 : Int32)) else (if p0 = 102 then (some (8 : Int32)) else (if p0 = 103 then (some (8 : Int32)) else (if p0 = 104 then (some (1 : Int32)) else (if p0 = 107 then (some (9 : Int32)) else (if p0 = 112 then (some (1 : Int32)) else (if p0 = 114 then (some (4 : Int32)) else (if p0 = 115 then (some (2 : Int32)) else (if p0 = 117 then (some (8 : Int32)) else (some ((-1) : Int32)))))))))))
abbrev rm_X0_stageAfterLetter : Room := { frames := 0, cells := 0, slots := 0, locals := 0 }
theorem np_X0_stageAfterLetter : yX0_stageAfterLetter.cls ≠ "java/lang/invoke/MethodHandle" ∧ yX0_stageAfterLetter.cls ≠ "java/lang/invoke/VarHandle" ∧ (parseMethodDescriptor yX0_stageAfterLetter.desc).map (fun d => d.parameters.length) = some 1 := by decide +kernel
set_option maxHeartbeats 4000000 in
set_option maxRecDepth 100000 in
theorem k_X0_stageAfterLetter (l : Launch) (D : va_G) (cs : CS)  (p0 : Int32) {r9 : Int32} (h : f_X0_stageAfterLetter p0 = some r9) : MI l D cs yX0_stageAfterLetter cX0_stageAfterLetter 1 .int rm_X0_stageAfterLetter [.int p0] ([]) r9 ([]) := by
  refine MI_of (by decide) (Nat.le_of_ble_eq_true rfl) ?_
  rintro Γ rfl rfl rfl B ret
  show X Γ 1 0 0 0 [(0, .int p0)] [] ([])
  unfold f_X0_stageAfterLetter at h
  refine x_iload_n B (pc' := 1) 0 dX0_stageAfterLetter_0 rfl rfl rfl ?_
  by_cases hc1 : p0 = 98
  · replace h := ite_t hc1 h
    refine x_tableIn B (off := 95) (pc' := 96) dX0_stageAfterLetter_1 (by rw [hc1]; decide) (by rw [hc1]; decide) (by rw [hc1]; rfl) (by decide) ?_
    refine x_iconst B (pc' := 97) 1 dX0_stageAfterLetter_96 (by decide) rfl ?_
    have h1 := Option.some.inj h
    subst h1
    exact ret rfl (by exact Nat.le_of_ble_eq_true rfl) (by exact Nat.le_of_ble_eq_true rfl) dX0_stageAfterLetter_97
  replace h := ite_f hc1 h
  by_cases hc4 : p0 = 101
  · replace h := ite_t hc4 h
    refine x_tableIn B (off := 101) (pc' := 102) dX0_stageAfterLetter_1 (by rw [hc4]; decide) (by rw [hc4]; decide) (by rw [hc4]; rfl) (by decide) ?_
    refine x_bipush B (pc' := 104) 8 dX0_stageAfterLetter_102 (by decide) rfl ?_
    have h1 := Option.some.inj h
    subst h1
    exact ret rfl (by exact Nat.le_of_ble_eq_true rfl) (by exact Nat.le_of_ble_eq_true rfl) dX0_stageAfterLetter_104
  replace h := ite_f hc4 h
  by_cases hc5 : p0 = 102
  · replace h := ite_t hc5 h
    refine x_tableIn B (off := 101) (pc' := 102) dX0_stageAfterLetter_1 (by rw [hc5]; decide) (by rw [hc5]; decide) (by rw [hc5]; rfl) (by decide) ?_
    refine x_bipush B (pc' := 104) 8 dX0_stageAfterLetter_102 (by decide) rfl ?_
    have h1 := Option.some.inj h
    subst h1
    exact ret rfl (by exact Nat.le_of_ble_eq_true rfl) (by exact Nat.le_of_ble_eq_true rfl) dX0_stageAfterLetter_104
  replace h := ite_f hc5 h
  by_cases hc6 : p0 = 103
  · replace h := ite_t hc6 h
    refine x_tableIn B (off := 101) (pc' := 102) dX0_stageAfterLetter_1 (by rw [hc6]; decide) (by rw [hc6]; decide) (by rw [hc6]; rfl) (by decide) ?_
    refine x_bipush B (pc' := 104) 8 dX0_stageAfterLetter_102 (by decide) rfl ?_
    have h1 := Option.some.inj h
    subst h1
    exact ret rfl (by exact Nat.le_of_ble_eq_true rfl) (by exact Nat.le_of_ble_eq_true rfl) dX0_stageAfterLetter_104
  replace h := ite_f hc6 h
  by_cases hc7 : p0 = 104
  · replace h := ite_t hc7 h
    refine x_tableIn B (off := 95) (pc' := 96) dX0_stageAfterLetter_1 (by rw [hc7]; decide) (by rw [hc7]; decide) (by rw [hc7]; rfl) (by decide) ?_
    refine x_iconst B (pc' := 97) 1 dX0_stageAfterLetter_96 (by decide) rfl ?_
    have h1 := Option.some.inj h
    subst h1
    exact ret rfl (by exact Nat.le_of_ble_eq_true rfl) (by exact Nat.le_of_ble_eq_true rfl) dX0_stageAfterLetter_97
  replace h := ite_f hc7 h
  by_cases hc10 : p0 = 107
  · replace h := ite_t hc10 h
    refine x_tableIn B (off := 104) (pc' := 105) dX0_stageAfterLetter_1 (by rw [hc10]; decide) (by rw [hc10]; decide) (by rw [hc10]; rfl) (by decide) ?_
    refine x_bipush B (pc' := 107) 9 dX0_stageAfterLetter_105 (by decide) rfl ?_
    have h1 := Option.some.inj h
    subst h1
    exact ret rfl (by exact Nat.le_of_ble_eq_true rfl) (by exact Nat.le_of_ble_eq_true rfl) dX0_stageAfterLetter_107
  replace h := ite_f hc10 h
  by_cases hc15 : p0 = 112
  · replace h := ite_t hc15 h
    refine x_tableIn B (off := 95) (pc' := 96) dX0_stageAfterLetter_1 (by rw [hc15]; decide) (by rw [hc15]; decide) (by rw [hc15]; rfl) (by decide) ?_
    refine x_iconst B (pc' := 97) 1 dX0_stageAfterLetter_96 (by decide) rfl ?_
    have h1 := Option.some.inj h
    subst h1
    exact ret rfl (by exact Nat.le_of_ble_eq_true rfl) (by exact Nat.le_of_ble_eq_true rfl) dX0_stageAfterLetter_97
  replace h := ite_f hc15 h
  by_cases hc17 : p0 = 114
  · replace h := ite_t hc17 h
    refine x_tableIn B (off := 99) (pc' := 100) dX0_stageAfterLetter_1 (by rw [hc17]; decide) (by rw [hc17]; decide) (by rw [hc17]; rfl) (by decide) ?_
    refine x_iconst B (pc' := 101) 4 dX0_stageAfterLetter_100 (by decide) rfl ?_
    have h1 := Option.some.inj h
    subst h1
    exact ret rfl (by exact Nat.le_of_ble_eq_true rfl) (by exact Nat.le_of_ble_eq_true rfl) dX0_stageAfterLetter_101
  replace h := ite_f hc17 h
  by_cases hc18 : p0 = 115
  · replace h := ite_t hc18 h
    refine x_tableIn B (off := 97) (pc' := 98) dX0_stageAfterLetter_1 (by rw [hc18]; decide) (by rw [hc18]; decide) (by rw [hc18]; rfl) (by decide) ?_
    refine x_iconst B (pc' := 99) 2 dX0_stageAfterLetter_98 (by decide) rfl ?_
    have h1 := Option.some.inj h
    subst h1
    exact ret rfl (by exact Nat.le_of_ble_eq_true rfl) (by exact Nat.le_of_ble_eq_true rfl) dX0_stageAfterLetter_99
  replace h := ite_f hc18 h
  by_cases hc20 : p0 = 117
  · replace h := ite_t hc20 h
    refine x_tableIn B (off := 101) (pc' := 102) dX0_stageAfterLetter_1 (by rw [hc20]; decide) (by rw [hc20]; decide) (by rw [hc20]; rfl) (by decide) ?_
    refine x_bipush B (pc' := 104) 8 dX0_stageAfterLetter_102 (by decide) rfl ?_
    have h1 := Option.some.inj h
    subst h1
    exact ret rfl (by exact Nat.le_of_ble_eq_true rfl) (by exact Nat.le_of_ble_eq_true rfl) dX0_stageAfterLetter_104
  replace h := ite_f hc20 h
  have kd : X Γ 1 0 0 108 [(0, .int p0)] [] ([]) := by
    refine x_iconst B (pc' := 109) (-1) dX0_stageAfterLetter_108 (by decide) rfl ?_
    have h1 := Option.some.inj h
    subst h1
    exact ret rfl (by exact Nat.le_of_ble_eq_true rfl) (by exact Nat.le_of_ble_eq_true rfl) dX0_stageAfterLetter_109
  by_cases hlo : Int32.toInt p0 < 98 ∨ 117 < Int32.toInt p0
  · exact x_tableOut B dX0_stageAfterLetter_1 hlo (by decide) kd
  · have hg : ∀ j : Nat, j < 20 → (j ∈ [0, 3, 4, 5, 6, 9, 14, 16, 17, 19] ∨ (#[95, 107, 107, 101, 101, 101, 95, 107, 107, 104, 107, 107, 107, 107, 95, 107, 99, 97, 107, 101] : Array Int)[j]? = some 107) := by decide
    have n0 := lv_neT hc1 (a := 98) (by decide)
    have n1 := lv_neT hc4 (a := 101) (by decide)
    have n2 := lv_neT hc5 (a := 102) (by decide)
    have n3 := lv_neT hc6 (a := 103) (by decide)
    have n4 := lv_neT hc7 (a := 104) (by decide)
    have n5 := lv_neT hc10 (a := 107) (by decide)
    have n6 := lv_neT hc15 (a := 112) (by decide)
    have n7 := lv_neT hc17 (a := 114) (by decide)
    have n8 := lv_neT hc18 (a := 115) (by decide)
    have n9 := lv_neT hc20 (a := 117) (by decide)
    exact x_tableIn B dX0_stageAfterLetter_1 (by omega) (by omega) ((hg (Int32.toInt p0 - 98).toNat (by omega)).elim (fun q => absurd q (by simp only [List.mem_cons, List.not_mem_nil, or_false]; omega)) id) (by decide) kd
def f_X0_isIn (p0 : Int32) (p1 : Int32) (p2 : Int32) : Option Int32 :=
  if p0 < p1 then (some (0 : Int32)) else (if p2 < p0 then (some (0 : Int32)) else (some (1 : Int32)))
abbrev rm_X0_isIn : Room := { frames := 0, cells := 0, slots := 0, locals := 0 }
theorem np_X0_isIn : yX0_isIn.cls ≠ "java/lang/invoke/MethodHandle" ∧ yX0_isIn.cls ≠ "java/lang/invoke/VarHandle" ∧ (parseMethodDescriptor yX0_isIn.desc).map (fun d => d.parameters.length) = some 3 := by decide +kernel
set_option maxHeartbeats 4000000 in
set_option maxRecDepth 100000 in
theorem k_X0_isIn (l : Launch) (D : va_G) (cs : CS)  (p0 : Int32) (p1 : Int32) (p2 : Int32) {r9 : Int32} (h : f_X0_isIn p0 p1 p2 = some r9) : MI l D cs yX0_isIn cX0_isIn 3 .boolean rm_X0_isIn [.int p0, .int p1, .int p2] ([]) r9 ([]) := by
  refine MI_of (by decide) (Nat.le_of_ble_eq_true rfl) ?_
  rintro Γ rfl rfl rfl B ret
  show X Γ 3 0 0 0 [(0, .int p0), (1, .int p1), (2, .int p2)] [] ([])
  unfold f_X0_isIn at h
  refine x_iload_n B (pc' := 1) 0 dX0_isIn_0 rfl rfl rfl ?_
  refine x_iload_n B (pc' := 2) 1 dX0_isIn_1 rfl rfl rfl ?_
  refine x_icmp_lt B 14 5 dX0_isIn_2 (by decide) rfl (fun hc1 => ?_) (fun hc1 => ?_)
  · replace h := ite_t hc1 h
    refine x_iconst B (pc' := 15) 0 dX0_isIn_14 (by decide) rfl ?_
    have h1 := Option.some.inj h
    subst h1
    exact ret rfl (by exact Nat.le_of_ble_eq_true rfl) (by exact Nat.le_of_ble_eq_true rfl) dX0_isIn_15
  · replace h := ite_f hc1 h
    refine x_iload_n B (pc' := 6) 0 dX0_isIn_5 rfl rfl rfl ?_
    refine x_iload_n B (pc' := 7) 2 dX0_isIn_6 rfl rfl rfl ?_
    refine x_icmp_gt B 14 10 dX0_isIn_7 (by decide) rfl (fun hc2 => ?_) (fun hc2 => ?_)
    · replace h := ite_t hc2 h
      refine x_iconst B (pc' := 15) 0 dX0_isIn_14 (by decide) rfl ?_
      have h1 := Option.some.inj h
      subst h1
      exact ret rfl (by exact Nat.le_of_ble_eq_true rfl) (by exact Nat.le_of_ble_eq_true rfl) dX0_isIn_15
    · replace h := ite_f hc2 h
      refine x_iconst B (pc' := 11) 1 dX0_isIn_10 (by decide) rfl ?_
      refine x_goto B (pc' := 15) dX0_isIn_11 (by decide) ?_
      have h1 := Option.some.inj h
      subst h1
      exact ret rfl (by exact Nat.le_of_ble_eq_true rfl) (by exact Nat.le_of_ble_eq_true rfl) dX0_isIn_15
def f_X0_stageAfterFirstOfTimes (p0 : Int32) : Option Int32 :=
  bd (f_X0_isIn p0 (49 : Int32) (50 : Int32)) (fun (r1 : Int32) => if r1 = 0 then (if p0 = (51 : Int32) then (some (6 : Int32)) else (bd (f_X0_isIn p0 (52 : Int32) (57 : Int32)) (fun (r4 : Int32) => if r4 = 0 then (some ((-1) : Int32)) else (some (7 : Int32))))) else (some (5 : Int32)))
abbrev rm_X0_stageAfterFirstOfTimes : Room := { frames := 1, cells := 0, slots := 0, locals := 22 }
theorem np_X0_stageAfterFirstOfTimes : yX0_stageAfterFirstOfTimes.cls ≠ "java/lang/invoke/MethodHandle" ∧ yX0_stageAfterFirstOfTimes.cls ≠ "java/lang/invoke/VarHandle" ∧ (parseMethodDescriptor yX0_stageAfterFirstOfTimes.desc).map (fun d => d.parameters.length) = some 1 := by decide +kernel
set_option maxHeartbeats 4000000 in
set_option maxRecDepth 100000 in
theorem k_X0_stageAfterFirstOfTimes (l : Launch) (D : va_G) (cs : CS)  (p0 : Int32) {r9 : Int32} (h : f_X0_stageAfterFirstOfTimes p0 = some r9) : MI l D cs yX0_stageAfterFirstOfTimes cX0_stageAfterFirstOfTimes 1 .int rm_X0_stageAfterFirstOfTimes [.int p0] ([]) r9 ([]) := by
  refine MI_of (by decide) (Nat.le_of_ble_eq_true rfl) ?_
  rintro Γ rfl rfl rfl B ret
  show X Γ 1 0 0 0 [(0, .int p0)] [] ([])
  unfold f_X0_stageAfterFirstOfTimes at h
  refine x_iload_n B (pc' := 1) 0 dX0_stageAfterFirstOfTimes_0 rfl rfl rfl ?_
  refine x_bipush B (pc' := 3) 49 dX0_stageAfterFirstOfTimes_1 (by decide) rfl ?_
  refine x_bipush B (pc' := 5) 50 dX0_stageAfterFirstOfTimes_3 (by decide) rfl ?_
  obtain ⟨r1, er1, h⟩ := bd_elim h
  refine x_pureSi B (pc' := 8) [.int p0, .int (49 : Int32), .int (50 : Int32)] (k_X0_isIn _ _ _ p0 (49 : Int32) (50 : Int32) er1) gv_RX0_35 np_X0_isIn ⟨Nat.le_of_ble_eq_true rfl, Nat.le_of_ble_eq_true rfl⟩ ⟨by exact Nat.le_of_ble_eq_true rfl, by exact Nat.le_of_ble_eq_true rfl⟩ rfl (Nat.le_of_ble_eq_true rfl) dX0_stageAfterFirstOfTimes_5 rfl ?_
  refine x_if_eq B 13 11 dX0_stageAfterFirstOfTimes_8 (by decide) rfl (fun hc2 => ?_) (fun hc2 => ?_)
  · replace h := ite_t hc2 h
    refine x_iload_n B (pc' := 14) 0 dX0_stageAfterFirstOfTimes_13 rfl rfl rfl ?_
    refine x_bipush B (pc' := 16) 51 dX0_stageAfterFirstOfTimes_14 (by decide) rfl ?_
    refine x_icmp_ne B 22 19 dX0_stageAfterFirstOfTimes_16 (by decide) rfl (fun hc3 => ?_) (fun hc3 => ?_)
    · replace h := ite_f hc3 h
      refine x_iload_n B (pc' := 23) 0 dX0_stageAfterFirstOfTimes_22 rfl rfl rfl ?_
      refine x_bipush B (pc' := 25) 52 dX0_stageAfterFirstOfTimes_23 (by decide) rfl ?_
      refine x_bipush B (pc' := 27) 57 dX0_stageAfterFirstOfTimes_25 (by decide) rfl ?_
      obtain ⟨r4, er4, h⟩ := bd_elim h
      refine x_pureSi B (pc' := 30) [.int p0, .int (52 : Int32), .int (57 : Int32)] (k_X0_isIn _ _ _ p0 (52 : Int32) (57 : Int32) er4) gv_RX0_35 np_X0_isIn ⟨Nat.le_of_ble_eq_true rfl, Nat.le_of_ble_eq_true rfl⟩ ⟨by exact Nat.le_of_ble_eq_true rfl, by exact Nat.le_of_ble_eq_true rfl⟩ rfl (Nat.le_of_ble_eq_true rfl) dX0_stageAfterFirstOfTimes_27 rfl ?_
      refine x_if_eq B 38 33 dX0_stageAfterFirstOfTimes_30 (by decide) rfl (fun hc5 => ?_) (fun hc5 => ?_)
      · replace h := ite_t hc5 h
        refine x_iconst B (pc' := 39) (-1) dX0_stageAfterFirstOfTimes_38 (by decide) rfl ?_
        have h1 := Option.some.inj h
        subst h1
        exact ret rfl (by exact Nat.le_of_ble_eq_true rfl) (by exact Nat.le_of_ble_eq_true rfl) dX0_stageAfterFirstOfTimes_39
      · replace h := ite_f hc5 h
        refine x_bipush B (pc' := 35) 7 dX0_stageAfterFirstOfTimes_33 (by decide) rfl ?_
        refine x_goto B (pc' := 39) dX0_stageAfterFirstOfTimes_35 (by decide) ?_
        have h1 := Option.some.inj h
        subst h1
        exact ret rfl (by exact Nat.le_of_ble_eq_true rfl) (by exact Nat.le_of_ble_eq_true rfl) dX0_stageAfterFirstOfTimes_39
    · replace h := ite_t hc3 h
      refine x_bipush B (pc' := 21) 6 dX0_stageAfterFirstOfTimes_19 (by decide) rfl ?_
      have h1 := Option.some.inj h
      subst h1
      exact ret rfl (by exact Nat.le_of_ble_eq_true rfl) (by exact Nat.le_of_ble_eq_true rfl) dX0_stageAfterFirstOfTimes_21
  · replace h := ite_f hc2 h
    refine x_iconst B (pc' := 12) 5 dX0_stageAfterFirstOfTimes_11 (by decide) rfl ?_
    have h1 := Option.some.inj h
    subst h1
    exact ret rfl (by exact Nat.le_of_ble_eq_true rfl) (by exact Nat.le_of_ble_eq_true rfl) dX0_stageAfterFirstOfTimes_12
def f_X0_stageAfter (p0 : Int32) (p1 : Int32) : Option Int32 :=
  if p0 = 0 then (bd (f_X0_stageAfterLetter p1) (fun (r2 : Int32) => some r2)) else (if p0 = 1 then (if p1 = (59 : Int32) then (some (0 : Int32)) else (some ((-1) : Int32))) else (if p0 = 2 then (if p1 = (48 : Int32) then (some (1 : Int32)) else (bd (f_X0_isIn p1 (49 : Int32) (57 : Int32)) (fun (r7 : Int32) => if r7 = 0 then (some ((-1) : Int32)) else (some (3 : Int32))))) else (if p0 = 3 then (if p1 = (59 : Int32) then (some (0 : Int32)) else (bd (f_X0_isIn p1 (48 : Int32) (57 : Int32)) (fun (r11 : Int32) => if r11 = 0 then (some ((-1) : Int32)) else (some (1 : Int32))))) else (if p0 = 4 then (bd (f_X0_stageAfterFirstOfTimes p1) (fun (r14 : Int32) => some r14)) else (if p0 = 5 then (if p1 = (61 : Int32) then (some (2 : Int32)) else (bd (f_X0_isIn p1 (48 : Int32) (57 : Int32)) (fun (r17 : Int32) => if r17 = 0 then (some ((-1) : Int32)) else (some (7 : Int32))))) else (if p0 = 6 then (if p1 = (61 : Int32) then (some (2 : Int32)) else (bd (f_X0_isIn p1 (48 : Int32) (50 : Int32)) (fun (r21 : Int32) => if r21 = 0 then (some ((-1) : Int32)) else (some (7 : Int32))))) else (if p0 = 7 then (if p1 = (61 : Int32) then (some (2 : Int32)) else (some ((-1) : Int32))) else (if p0 = 8 then (bd (f_X0_isIn p1 (48 : Int32) (57 : Int32)) (fun (r26 : Int32) => if r26 = 0 then (some ((-1) : Int32)) else (some (1 : Int32)))) else (if p0 = 9 then (bd (f_X0_isIn p1 (49 : Int32) (57 : Int32)) (fun (r29 : Int32) => if r29 = 0 then (some ((-1) : Int32)) else (some (1 : Int32)))) else (some ((-1) : Int32)))))))))))
abbrev rm_X0_stageAfter : Room := { frames := 2, cells := 0, slots := 0, locals := 42 }
theorem np_X0_stageAfter : yX0_stageAfter.cls ≠ "java/lang/invoke/MethodHandle" ∧ yX0_stageAfter.cls ≠ "java/lang/invoke/VarHandle" ∧ (parseMethodDescriptor yX0_stageAfter.desc).map (fun d => d.parameters.length) = some 2 := by decide +kernel
set_option maxHeartbeats 4000000 in
set_option maxRecDepth 100000 in
theorem k_X0_stageAfter (l : Launch) (D : va_G) (cs : CS)  (p0 : Int32) (p1 : Int32) {r9 : Int32} (h : f_X0_stageAfter p0 p1 = some r9) : MI l D cs yX0_stageAfter cX0_stageAfter 2 .int rm_X0_stageAfter [.int p0, .int p1] ([]) r9 ([]) := by
  refine MI_of (by decide) (Nat.le_of_ble_eq_true rfl) ?_
  rintro Γ rfl rfl rfl B ret
  show X Γ 2 0 0 0 [(0, .int p0), (1, .int p1)] [] ([])
  unfold f_X0_stageAfter at h
  refine x_iload_n B (pc' := 1) 0 dX0_stageAfter_0 rfl rfl rfl ?_
  by_cases hc1 : p0 = 0
  · replace h := ite_t hc1 h
    refine x_tableIn B (off := 55) (pc' := 56) dX0_stageAfter_1 (by rw [hc1]; decide) (by rw [hc1]; decide) (by rw [hc1]; rfl) (by decide) ?_
    refine x_iload_n B (pc' := 57) 1 dX0_stageAfter_56 rfl rfl rfl ?_
    obtain ⟨r2, er2, h⟩ := bd_elim h
    refine x_pureSi B (pc' := 60) [.int p1] (k_X0_stageAfterLetter _ _ _ p1 er2) gv_RX0_31 np_X0_stageAfterLetter ⟨Nat.le_of_ble_eq_true rfl, Nat.le_of_ble_eq_true rfl⟩ ⟨by exact Nat.le_of_ble_eq_true rfl, by exact Nat.le_of_ble_eq_true rfl⟩ rfl (Nat.le_of_ble_eq_true rfl) dX0_stageAfter_57 rfl ?_
    have h1 := Option.some.inj h
    subst h1
    exact ret rfl (by exact Nat.le_of_ble_eq_true rfl) (by exact Nat.le_of_ble_eq_true rfl) dX0_stageAfter_60
  replace h := ite_f hc1 h
  by_cases hc3 : p0 = 1
  · replace h := ite_t hc3 h
    refine x_tableIn B (off := 60) (pc' := 61) dX0_stageAfter_1 (by rw [hc3]; decide) (by rw [hc3]; decide) (by rw [hc3]; rfl) (by decide) ?_
    refine x_iload_n B (pc' := 62) 1 dX0_stageAfter_61 rfl rfl rfl ?_
    refine x_bipush B (pc' := 64) 59 dX0_stageAfter_62 (by decide) rfl ?_
    refine x_icmp_ne B 71 67 dX0_stageAfter_64 (by decide) rfl (fun hc4 => ?_) (fun hc4 => ?_)
    · replace h := ite_f hc4 h
      refine x_iconst B (pc' := 72) (-1) dX0_stageAfter_71 (by decide) rfl ?_
      have h1 := Option.some.inj h
      subst h1
      exact ret rfl (by exact Nat.le_of_ble_eq_true rfl) (by exact Nat.le_of_ble_eq_true rfl) dX0_stageAfter_72
    · replace h := ite_t hc4 h
      refine x_iconst B (pc' := 68) 0 dX0_stageAfter_67 (by decide) rfl ?_
      refine x_goto B (pc' := 72) dX0_stageAfter_68 (by decide) ?_
      have h1 := Option.some.inj h
      subst h1
      exact ret rfl (by exact Nat.le_of_ble_eq_true rfl) (by exact Nat.le_of_ble_eq_true rfl) dX0_stageAfter_72
  replace h := ite_f hc3 h
  by_cases hc5 : p0 = 2
  · replace h := ite_t hc5 h
    refine x_tableIn B (off := 72) (pc' := 73) dX0_stageAfter_1 (by rw [hc5]; decide) (by rw [hc5]; decide) (by rw [hc5]; rfl) (by decide) ?_
    refine x_iload_n B (pc' := 74) 1 dX0_stageAfter_73 rfl rfl rfl ?_
    refine x_bipush B (pc' := 76) 48 dX0_stageAfter_74 (by decide) rfl ?_
    refine x_icmp_ne B 83 79 dX0_stageAfter_76 (by decide) rfl (fun hc6 => ?_) (fun hc6 => ?_)
    · replace h := ite_f hc6 h
      refine x_iload_n B (pc' := 84) 1 dX0_stageAfter_83 rfl rfl rfl ?_
      refine x_bipush B (pc' := 86) 49 dX0_stageAfter_84 (by decide) rfl ?_
      refine x_bipush B (pc' := 88) 57 dX0_stageAfter_86 (by decide) rfl ?_
      obtain ⟨r7, er7, h⟩ := bd_elim h
      refine x_pureSi B (pc' := 91) [.int p1, .int (49 : Int32), .int (57 : Int32)] (k_X0_isIn _ _ _ p1 (49 : Int32) (57 : Int32) er7) gv_RX0_35 np_X0_isIn ⟨Nat.le_of_ble_eq_true rfl, Nat.le_of_ble_eq_true rfl⟩ ⟨by exact Nat.le_of_ble_eq_true rfl, by exact Nat.le_of_ble_eq_true rfl⟩ rfl (Nat.le_of_ble_eq_true rfl) dX0_stageAfter_88 rfl ?_
      refine x_if_eq B 98 94 dX0_stageAfter_91 (by decide) rfl (fun hc8 => ?_) (fun hc8 => ?_)
      · replace h := ite_t hc8 h
        refine x_iconst B (pc' := 99) (-1) dX0_stageAfter_98 (by decide) rfl ?_
        have h1 := Option.some.inj h
        subst h1
        exact ret rfl (by exact Nat.le_of_ble_eq_true rfl) (by exact Nat.le_of_ble_eq_true rfl) dX0_stageAfter_99
      · replace h := ite_f hc8 h
        refine x_iconst B (pc' := 95) 3 dX0_stageAfter_94 (by decide) rfl ?_
        refine x_goto B (pc' := 99) dX0_stageAfter_95 (by decide) ?_
        have h1 := Option.some.inj h
        subst h1
        exact ret rfl (by exact Nat.le_of_ble_eq_true rfl) (by exact Nat.le_of_ble_eq_true rfl) dX0_stageAfter_99
    · replace h := ite_t hc6 h
      refine x_iconst B (pc' := 80) 1 dX0_stageAfter_79 (by decide) rfl ?_
      refine x_goto B (pc' := 99) dX0_stageAfter_80 (by decide) ?_
      have h1 := Option.some.inj h
      subst h1
      exact ret rfl (by exact Nat.le_of_ble_eq_true rfl) (by exact Nat.le_of_ble_eq_true rfl) dX0_stageAfter_99
  replace h := ite_f hc5 h
  by_cases hc9 : p0 = 3
  · replace h := ite_t hc9 h
    refine x_tableIn B (off := 99) (pc' := 100) dX0_stageAfter_1 (by rw [hc9]; decide) (by rw [hc9]; decide) (by rw [hc9]; rfl) (by decide) ?_
    refine x_iload_n B (pc' := 101) 1 dX0_stageAfter_100 rfl rfl rfl ?_
    refine x_bipush B (pc' := 103) 59 dX0_stageAfter_101 (by decide) rfl ?_
    refine x_icmp_ne B 110 106 dX0_stageAfter_103 (by decide) rfl (fun hc10 => ?_) (fun hc10 => ?_)
    · replace h := ite_f hc10 h
      refine x_iload_n B (pc' := 111) 1 dX0_stageAfter_110 rfl rfl rfl ?_
      refine x_bipush B (pc' := 113) 48 dX0_stageAfter_111 (by decide) rfl ?_
      refine x_bipush B (pc' := 115) 57 dX0_stageAfter_113 (by decide) rfl ?_
      obtain ⟨r11, er11, h⟩ := bd_elim h
      refine x_pureSi B (pc' := 118) [.int p1, .int (48 : Int32), .int (57 : Int32)] (k_X0_isIn _ _ _ p1 (48 : Int32) (57 : Int32) er11) gv_RX0_35 np_X0_isIn ⟨Nat.le_of_ble_eq_true rfl, Nat.le_of_ble_eq_true rfl⟩ ⟨by exact Nat.le_of_ble_eq_true rfl, by exact Nat.le_of_ble_eq_true rfl⟩ rfl (Nat.le_of_ble_eq_true rfl) dX0_stageAfter_115 rfl ?_
      refine x_if_eq B 125 121 dX0_stageAfter_118 (by decide) rfl (fun hc12 => ?_) (fun hc12 => ?_)
      · replace h := ite_t hc12 h
        refine x_iconst B (pc' := 126) (-1) dX0_stageAfter_125 (by decide) rfl ?_
        have h1 := Option.some.inj h
        subst h1
        exact ret rfl (by exact Nat.le_of_ble_eq_true rfl) (by exact Nat.le_of_ble_eq_true rfl) dX0_stageAfter_126
      · replace h := ite_f hc12 h
        refine x_iconst B (pc' := 122) 1 dX0_stageAfter_121 (by decide) rfl ?_
        refine x_goto B (pc' := 126) dX0_stageAfter_122 (by decide) ?_
        have h1 := Option.some.inj h
        subst h1
        exact ret rfl (by exact Nat.le_of_ble_eq_true rfl) (by exact Nat.le_of_ble_eq_true rfl) dX0_stageAfter_126
    · replace h := ite_t hc10 h
      refine x_iconst B (pc' := 107) 0 dX0_stageAfter_106 (by decide) rfl ?_
      refine x_goto B (pc' := 126) dX0_stageAfter_107 (by decide) ?_
      have h1 := Option.some.inj h
      subst h1
      exact ret rfl (by exact Nat.le_of_ble_eq_true rfl) (by exact Nat.le_of_ble_eq_true rfl) dX0_stageAfter_126
  replace h := ite_f hc9 h
  by_cases hc13 : p0 = 4
  · replace h := ite_t hc13 h
    refine x_tableIn B (off := 126) (pc' := 127) dX0_stageAfter_1 (by rw [hc13]; decide) (by rw [hc13]; decide) (by rw [hc13]; rfl) (by decide) ?_
    refine x_iload_n B (pc' := 128) 1 dX0_stageAfter_127 rfl rfl rfl ?_
    obtain ⟨r14, er14, h⟩ := bd_elim h
    refine x_pureSi B (pc' := 131) [.int p1] (k_X0_stageAfterFirstOfTimes _ _ _ p1 er14) gv_RX0_39 np_X0_stageAfterFirstOfTimes ⟨Nat.le_of_ble_eq_true rfl, Nat.le_of_ble_eq_true rfl⟩ ⟨by exact Nat.le_of_ble_eq_true rfl, by exact Nat.le_of_ble_eq_true rfl⟩ rfl (Nat.le_of_ble_eq_true rfl) dX0_stageAfter_128 rfl ?_
    have h1 := Option.some.inj h
    subst h1
    exact ret rfl (by exact Nat.le_of_ble_eq_true rfl) (by exact Nat.le_of_ble_eq_true rfl) dX0_stageAfter_131
  replace h := ite_f hc13 h
  by_cases hc15 : p0 = 5
  · replace h := ite_t hc15 h
    refine x_tableIn B (off := 131) (pc' := 132) dX0_stageAfter_1 (by rw [hc15]; decide) (by rw [hc15]; decide) (by rw [hc15]; rfl) (by decide) ?_
    refine x_iload_n B (pc' := 133) 1 dX0_stageAfter_132 rfl rfl rfl ?_
    refine x_bipush B (pc' := 135) 61 dX0_stageAfter_133 (by decide) rfl ?_
    refine x_icmp_ne B 142 138 dX0_stageAfter_135 (by decide) rfl (fun hc16 => ?_) (fun hc16 => ?_)
    · replace h := ite_f hc16 h
      refine x_iload_n B (pc' := 143) 1 dX0_stageAfter_142 rfl rfl rfl ?_
      refine x_bipush B (pc' := 145) 48 dX0_stageAfter_143 (by decide) rfl ?_
      refine x_bipush B (pc' := 147) 57 dX0_stageAfter_145 (by decide) rfl ?_
      obtain ⟨r17, er17, h⟩ := bd_elim h
      refine x_pureSi B (pc' := 150) [.int p1, .int (48 : Int32), .int (57 : Int32)] (k_X0_isIn _ _ _ p1 (48 : Int32) (57 : Int32) er17) gv_RX0_35 np_X0_isIn ⟨Nat.le_of_ble_eq_true rfl, Nat.le_of_ble_eq_true rfl⟩ ⟨by exact Nat.le_of_ble_eq_true rfl, by exact Nat.le_of_ble_eq_true rfl⟩ rfl (Nat.le_of_ble_eq_true rfl) dX0_stageAfter_147 rfl ?_
      refine x_if_eq B 158 153 dX0_stageAfter_150 (by decide) rfl (fun hc18 => ?_) (fun hc18 => ?_)
      · replace h := ite_t hc18 h
        refine x_iconst B (pc' := 159) (-1) dX0_stageAfter_158 (by decide) rfl ?_
        have h1 := Option.some.inj h
        subst h1
        exact ret rfl (by exact Nat.le_of_ble_eq_true rfl) (by exact Nat.le_of_ble_eq_true rfl) dX0_stageAfter_159
      · replace h := ite_f hc18 h
        refine x_bipush B (pc' := 155) 7 dX0_stageAfter_153 (by decide) rfl ?_
        refine x_goto B (pc' := 159) dX0_stageAfter_155 (by decide) ?_
        have h1 := Option.some.inj h
        subst h1
        exact ret rfl (by exact Nat.le_of_ble_eq_true rfl) (by exact Nat.le_of_ble_eq_true rfl) dX0_stageAfter_159
    · replace h := ite_t hc16 h
      refine x_iconst B (pc' := 139) 2 dX0_stageAfter_138 (by decide) rfl ?_
      refine x_goto B (pc' := 159) dX0_stageAfter_139 (by decide) ?_
      have h1 := Option.some.inj h
      subst h1
      exact ret rfl (by exact Nat.le_of_ble_eq_true rfl) (by exact Nat.le_of_ble_eq_true rfl) dX0_stageAfter_159
  replace h := ite_f hc15 h
  by_cases hc19 : p0 = 6
  · replace h := ite_t hc19 h
    refine x_tableIn B (off := 159) (pc' := 160) dX0_stageAfter_1 (by rw [hc19]; decide) (by rw [hc19]; decide) (by rw [hc19]; rfl) (by decide) ?_
    refine x_iload_n B (pc' := 161) 1 dX0_stageAfter_160 rfl rfl rfl ?_
    refine x_bipush B (pc' := 163) 61 dX0_stageAfter_161 (by decide) rfl ?_
    refine x_icmp_ne B 170 166 dX0_stageAfter_163 (by decide) rfl (fun hc20 => ?_) (fun hc20 => ?_)
    · replace h := ite_f hc20 h
      refine x_iload_n B (pc' := 171) 1 dX0_stageAfter_170 rfl rfl rfl ?_
      refine x_bipush B (pc' := 173) 48 dX0_stageAfter_171 (by decide) rfl ?_
      refine x_bipush B (pc' := 175) 50 dX0_stageAfter_173 (by decide) rfl ?_
      obtain ⟨r21, er21, h⟩ := bd_elim h
      refine x_pureSi B (pc' := 178) [.int p1, .int (48 : Int32), .int (50 : Int32)] (k_X0_isIn _ _ _ p1 (48 : Int32) (50 : Int32) er21) gv_RX0_35 np_X0_isIn ⟨Nat.le_of_ble_eq_true rfl, Nat.le_of_ble_eq_true rfl⟩ ⟨by exact Nat.le_of_ble_eq_true rfl, by exact Nat.le_of_ble_eq_true rfl⟩ rfl (Nat.le_of_ble_eq_true rfl) dX0_stageAfter_175 rfl ?_
      refine x_if_eq B 186 181 dX0_stageAfter_178 (by decide) rfl (fun hc22 => ?_) (fun hc22 => ?_)
      · replace h := ite_t hc22 h
        refine x_iconst B (pc' := 187) (-1) dX0_stageAfter_186 (by decide) rfl ?_
        have h1 := Option.some.inj h
        subst h1
        exact ret rfl (by exact Nat.le_of_ble_eq_true rfl) (by exact Nat.le_of_ble_eq_true rfl) dX0_stageAfter_187
      · replace h := ite_f hc22 h
        refine x_bipush B (pc' := 183) 7 dX0_stageAfter_181 (by decide) rfl ?_
        refine x_goto B (pc' := 187) dX0_stageAfter_183 (by decide) ?_
        have h1 := Option.some.inj h
        subst h1
        exact ret rfl (by exact Nat.le_of_ble_eq_true rfl) (by exact Nat.le_of_ble_eq_true rfl) dX0_stageAfter_187
    · replace h := ite_t hc20 h
      refine x_iconst B (pc' := 167) 2 dX0_stageAfter_166 (by decide) rfl ?_
      refine x_goto B (pc' := 187) dX0_stageAfter_167 (by decide) ?_
      have h1 := Option.some.inj h
      subst h1
      exact ret rfl (by exact Nat.le_of_ble_eq_true rfl) (by exact Nat.le_of_ble_eq_true rfl) dX0_stageAfter_187
  replace h := ite_f hc19 h
  by_cases hc23 : p0 = 7
  · replace h := ite_t hc23 h
    refine x_tableIn B (off := 187) (pc' := 188) dX0_stageAfter_1 (by rw [hc23]; decide) (by rw [hc23]; decide) (by rw [hc23]; rfl) (by decide) ?_
    refine x_iload_n B (pc' := 189) 1 dX0_stageAfter_188 rfl rfl rfl ?_
    refine x_bipush B (pc' := 191) 61 dX0_stageAfter_189 (by decide) rfl ?_
    refine x_icmp_ne B 198 194 dX0_stageAfter_191 (by decide) rfl (fun hc24 => ?_) (fun hc24 => ?_)
    · replace h := ite_f hc24 h
      refine x_iconst B (pc' := 199) (-1) dX0_stageAfter_198 (by decide) rfl ?_
      have h1 := Option.some.inj h
      subst h1
      exact ret rfl (by exact Nat.le_of_ble_eq_true rfl) (by exact Nat.le_of_ble_eq_true rfl) dX0_stageAfter_199
    · replace h := ite_t hc24 h
      refine x_iconst B (pc' := 195) 2 dX0_stageAfter_194 (by decide) rfl ?_
      refine x_goto B (pc' := 199) dX0_stageAfter_195 (by decide) ?_
      have h1 := Option.some.inj h
      subst h1
      exact ret rfl (by exact Nat.le_of_ble_eq_true rfl) (by exact Nat.le_of_ble_eq_true rfl) dX0_stageAfter_199
  replace h := ite_f hc23 h
  by_cases hc25 : p0 = 8
  · replace h := ite_t hc25 h
    refine x_tableIn B (off := 199) (pc' := 200) dX0_stageAfter_1 (by rw [hc25]; decide) (by rw [hc25]; decide) (by rw [hc25]; rfl) (by decide) ?_
    refine x_iload_n B (pc' := 201) 1 dX0_stageAfter_200 rfl rfl rfl ?_
    refine x_bipush B (pc' := 203) 48 dX0_stageAfter_201 (by decide) rfl ?_
    refine x_bipush B (pc' := 205) 57 dX0_stageAfter_203 (by decide) rfl ?_
    obtain ⟨r26, er26, h⟩ := bd_elim h
    refine x_pureSi B (pc' := 208) [.int p1, .int (48 : Int32), .int (57 : Int32)] (k_X0_isIn _ _ _ p1 (48 : Int32) (57 : Int32) er26) gv_RX0_35 np_X0_isIn ⟨Nat.le_of_ble_eq_true rfl, Nat.le_of_ble_eq_true rfl⟩ ⟨by exact Nat.le_of_ble_eq_true rfl, by exact Nat.le_of_ble_eq_true rfl⟩ rfl (Nat.le_of_ble_eq_true rfl) dX0_stageAfter_205 rfl ?_
    refine x_if_eq B 215 211 dX0_stageAfter_208 (by decide) rfl (fun hc27 => ?_) (fun hc27 => ?_)
    · replace h := ite_t hc27 h
      refine x_iconst B (pc' := 216) (-1) dX0_stageAfter_215 (by decide) rfl ?_
      have h1 := Option.some.inj h
      subst h1
      exact ret rfl (by exact Nat.le_of_ble_eq_true rfl) (by exact Nat.le_of_ble_eq_true rfl) dX0_stageAfter_216
    · replace h := ite_f hc27 h
      refine x_iconst B (pc' := 212) 1 dX0_stageAfter_211 (by decide) rfl ?_
      refine x_goto B (pc' := 216) dX0_stageAfter_212 (by decide) ?_
      have h1 := Option.some.inj h
      subst h1
      exact ret rfl (by exact Nat.le_of_ble_eq_true rfl) (by exact Nat.le_of_ble_eq_true rfl) dX0_stageAfter_216
  replace h := ite_f hc25 h
  by_cases hc28 : p0 = 9
  · replace h := ite_t hc28 h
    refine x_tableIn B (off := 216) (pc' := 217) dX0_stageAfter_1 (by rw [hc28]; decide) (by rw [hc28]; decide) (by rw [hc28]; rfl) (by decide) ?_
    refine x_iload_n B (pc' := 218) 1 dX0_stageAfter_217 rfl rfl rfl ?_
    refine x_bipush B (pc' := 220) 49 dX0_stageAfter_218 (by decide) rfl ?_
    refine x_bipush B (pc' := 222) 57 dX0_stageAfter_220 (by decide) rfl ?_
    obtain ⟨r29, er29, h⟩ := bd_elim h
    refine x_pureSi B (pc' := 225) [.int p1, .int (49 : Int32), .int (57 : Int32)] (k_X0_isIn _ _ _ p1 (49 : Int32) (57 : Int32) er29) gv_RX0_35 np_X0_isIn ⟨Nat.le_of_ble_eq_true rfl, Nat.le_of_ble_eq_true rfl⟩ ⟨by exact Nat.le_of_ble_eq_true rfl, by exact Nat.le_of_ble_eq_true rfl⟩ rfl (Nat.le_of_ble_eq_true rfl) dX0_stageAfter_222 rfl ?_
    refine x_if_eq B 232 228 dX0_stageAfter_225 (by decide) rfl (fun hc30 => ?_) (fun hc30 => ?_)
    · replace h := ite_t hc30 h
      refine x_iconst B (pc' := 233) (-1) dX0_stageAfter_232 (by decide) rfl ?_
      have h1 := Option.some.inj h
      subst h1
      exact ret rfl (by exact Nat.le_of_ble_eq_true rfl) (by exact Nat.le_of_ble_eq_true rfl) dX0_stageAfter_233
    · replace h := ite_f hc30 h
      refine x_iconst B (pc' := 229) 1 dX0_stageAfter_228 (by decide) rfl ?_
      refine x_goto B (pc' := 233) dX0_stageAfter_229 (by decide) ?_
      have h1 := Option.some.inj h
      subst h1
      exact ret rfl (by exact Nat.le_of_ble_eq_true rfl) (by exact Nat.le_of_ble_eq_true rfl) dX0_stageAfter_233
  replace h := ite_f hc28 h
  refine x_tableOut B (pc' := 234) dX0_stageAfter_1 (by have n0 := lv_neT hc1 (a := 0) (by decide); have n1 := lv_neT hc3 (a := 1) (by decide); have n2 := lv_neT hc5 (a := 2) (by decide); have n3 := lv_neT hc9 (a := 3) (by decide); have n4 := lv_neT hc13 (a := 4) (by decide); have n5 := lv_neT hc15 (a := 5) (by decide); have n6 := lv_neT hc19 (a := 6) (by decide); have n7 := lv_neT hc23 (a := 7) (by decide); have n8 := lv_neT hc25 (a := 8) (by decide); have n9 := lv_neT hc28 (a := 9) (by decide); omega) (by decide) ?_
  refine x_iconst B (pc' := 235) (-1) dX0_stageAfter_234 (by decide) rfl ?_
  have h1 := Option.some.inj h
  subst h1
  exact ret rfl (by exact Nat.le_of_ble_eq_true rfl) (by exact Nat.le_of_ble_eq_true rfl) dX0_stageAfter_235
def b_X0_errorIndex_4 (S : OB) (K4 : Int32 → Int32 → Option Int32) (x1 : Int32) (x2 : Int32) : Option Int32 :=
  if (S.1 1) ≤ x2 then (some (S.1 1)) else (bd (f_X0_stageAfter x1 (vAt 60 (S.2 0) x2)) (fun (r2 : Int32) => if r2 = ((-1) : Int32) then (some x2) else (nm (fun (v4 : Int32) => K4 r2 v4) (x2 + 1))))
def f_X0_errorIndex (S : OB) : Option Int32 :=
  lpf2 (b_X0_errorIndex_4 S) FU (0 : Int32) (0 : Int32)
abbrev rm_X0_errorIndex : Room := { frames := 3, cells := 0, slots := 0, locals := 63 }
theorem np_X0_errorIndex : yX0_errorIndex.cls ≠ "java/lang/invoke/MethodHandle" ∧ yX0_errorIndex.cls ≠ "java/lang/invoke/VarHandle" ∧ (parseMethodDescriptor yX0_errorIndex.desc).map (fun d => d.parameters.length) = some 0 := by decide +kernel
set_option maxHeartbeats 4000000 in
set_option maxRecDepth 100000 in
theorem k_X0_errorIndex (l : Launch) (D : va_G) (cs : CS) (a : Nat → Nat) (S : OB) {r9 : Int32} (h : f_X0_errorIndex S = some r9) : MI l D cs yX0_errorIndex cX0_errorIndex 3 .int rm_X0_errorIndex [.ref (a 0)] (wT cs.1 a S) r9 (wT cs.1 a S) := by
  refine MI_of (by decide) (Nat.le_of_ble_eq_true rfl) ?_
  rintro Γ rfl rfl rfl B ret
  show X Γ 3 0 0 0 [(0, .ref (a 0))] [] (wT Γ.cs.1 a S)
  have h4 : ∀ (n9 : Nat) (x1 : Int32) (x2 : Int32), lpf2 (b_X0_errorIndex_4 S) n9 x1 x2 = some r9 → X Γ 3 0 0 4 [(0, .ref (a 0)), (1, .int x1), (2, .int x2)] [] (wT Γ.cs.1 a S) := by
    refine lpf2_ind (fun K4 hK4 x1 x2 h => ?_)
    unfold b_X0_errorIndex_4 at h
    refine x_iload_n B (pc' := 5) 2 dX0_errorIndex_4 rfl rfl rfl ?_
    refine x_aload_n B (pc' := 6) 0 dX0_errorIndex_5 rfl rfl rfl ?_
    refine t_get1 B (pc' := 9) wf_RX0_15 dX0_errorIndex_6 rfl ?_
    refine x_icmp_ge B 38 12 dX0_errorIndex_9 (by decide) rfl (fun hc1 => ?_) (fun hc1 => ?_)
    · replace h := ite_t hc1 h
      refine x_aload_n B (pc' := 39) 0 dX0_errorIndex_38 rfl rfl rfl ?_
      refine t_get1 B (pc' := 42) wf_RX0_15 dX0_errorIndex_39 rfl ?_
      have h1 := Option.some.inj h
      subst h1
      exact ret rfl (by exact Nat.le_of_ble_eq_true rfl) (by exact Nat.le_of_ble_eq_true rfl) dX0_errorIndex_42
    · replace h := ite_f hc1 h
      refine x_iload_n B (pc' := 13) 1 dX0_errorIndex_12 rfl rfl rfl ?_
      refine x_aload_n B (pc' := 14) 0 dX0_errorIndex_13 rfl rfl rfl ?_
      refine t_ref0 B (pc' := 17) wf_RX0_9 dX0_errorIndex_14 rfl ?_
      refine x_iload_n B (pc' := 18) 2 dX0_errorIndex_17 rfl rfl rfl ?_
      refine t_vAt0 B (pc' := 21) ⟨Nat.le_of_ble_eq_true rfl, Nat.le_of_ble_eq_true rfl⟩ ⟨Nat.le_of_ble_eq_true rfl, Nat.le_of_ble_eq_true rfl⟩ (Nat.le_of_ble_eq_true rfl) nw_RX0_23 dX0_errorIndex_18 rfl ?_
      obtain ⟨r2, er2, h⟩ := bd_elim h
      refine x_pureSi B (pc' := 24) [.int x1, .int (vAt 60 (S.2 0) x2)] (k_X0_stageAfter _ _ _ x1 (vAt 60 (S.2 0) x2) er2) gv_RX0_27 np_X0_stageAfter ⟨Nat.le_of_ble_eq_true rfl, Nat.le_of_ble_eq_true rfl⟩ ⟨by exact Nat.le_of_ble_eq_true rfl, by exact Nat.le_of_ble_eq_true rfl⟩ rfl (Nat.le_of_ble_eq_true rfl) dX0_errorIndex_21 rfl ?_
      refine x_istore_n B (pc' := 25) [1, 0, 2] [(0, .ref (a 0)), (1, .int r2), (2, .int x2)] dX0_errorIndex_24 rfl (by decide) rfl rfl ?_
      refine x_iload_n B (pc' := 26) 1 dX0_errorIndex_25 rfl rfl rfl ?_
      refine x_iconst B (pc' := 27) (-1) dX0_errorIndex_26 (by decide) rfl ?_
      refine x_icmp_ne B 32 30 dX0_errorIndex_27 (by decide) rfl (fun hc3 => ?_) (fun hc3 => ?_)
      · replace h := ite_f hc3 h
        obtain ⟨v4, ev4, h⟩ := nm_elim h
        refine x_iinc B (pc' := 35) v4 2 [1, 2, 0] [(0, .ref (a 0)), (1, .int r2), (2, .int v4)] dX0_errorIndex_32 rfl (by rw [ev4]; rfl) (by decide) rfl rfl ?_
        refine x_goto B (pc' := 4) dX0_errorIndex_35 (by decide) ?_
        exact hK4 _ _ h
      · replace h := ite_t hc3 h
        refine x_iload_n B (pc' := 31) 2 dX0_errorIndex_30 rfl rfl rfl ?_
        have h1 := Option.some.inj h
        subst h1
        exact ret rfl (by exact Nat.le_of_ble_eq_true rfl) (by exact Nat.le_of_ble_eq_true rfl) dX0_errorIndex_31
  unfold f_X0_errorIndex at h
  refine x_iconst B (pc' := 1) 0 dX0_errorIndex_0 (by decide) rfl ?_
  refine x_istore_n B (pc' := 2) [1, 0] [(0, .ref (a 0)), (1, .int (0 : Int32))] dX0_errorIndex_1 rfl (by decide) rfl rfl ?_
  refine x_iconst B (pc' := 3) 0 dX0_errorIndex_2 (by decide) rfl ?_
  refine x_istore_n B (pc' := 4) [1, 2, 0] [(0, .ref (a 0)), (1, .int (0 : Int32)), (2, .int (0 : Int32))] dX0_errorIndex_3 rfl (by decide) rfl rfl ?_
  exact h4  _ _ _ h
def b_X0_isComplete_4 (S : OB) (K4 : Int32 → Int32 → Option Int32) (x1 : Int32) (x2 : Int32) : Option Int32 :=
  if (S.1 1) ≤ x2 then (if x1 = (1 : Int32) then (some (1 : Int32)) else (if x1 = (3 : Int32) then (some (1 : Int32)) else (some (0 : Int32)))) else (bd (f_X0_stageAfter x1 (vAt 60 (S.2 0) x2)) (fun (r4 : Int32) => nm (fun (v5 : Int32) => K4 r4 v5) (x2 + 1)))
def f_X0_isComplete (S : OB) : Option Int32 :=
  lpf2 (b_X0_isComplete_4 S) FU (0 : Int32) (0 : Int32)
abbrev rm_X0_isComplete : Room := { frames := 3, cells := 0, slots := 0, locals := 63 }
theorem np_X0_isComplete : yX0_isComplete.cls ≠ "java/lang/invoke/MethodHandle" ∧ yX0_isComplete.cls ≠ "java/lang/invoke/VarHandle" ∧ (parseMethodDescriptor yX0_isComplete.desc).map (fun d => d.parameters.length) = some 0 := by decide +kernel
set_option maxHeartbeats 4000000 in
set_option maxRecDepth 100000 in
theorem k_X0_isComplete (l : Launch) (D : va_G) (cs : CS) (a : Nat → Nat) (S : OB) {r9 : Int32} (h : f_X0_isComplete S = some r9) : MI l D cs yX0_isComplete cX0_isComplete 3 .boolean rm_X0_isComplete [.ref (a 0)] (wT cs.1 a S) r9 (wT cs.1 a S) := by
  refine MI_of (by decide) (Nat.le_of_ble_eq_true rfl) ?_
  rintro Γ rfl rfl rfl B ret
  show X Γ 3 0 0 0 [(0, .ref (a 0))] [] (wT Γ.cs.1 a S)
  have h4 : ∀ (n9 : Nat) (x1 : Int32) (x2 : Int32), lpf2 (b_X0_isComplete_4 S) n9 x1 x2 = some r9 → X Γ 3 0 0 4 [(0, .ref (a 0)), (1, .int x1), (2, .int x2)] [] (wT Γ.cs.1 a S) := by
    refine lpf2_ind (fun K4 hK4 x1 x2 h => ?_)
    unfold b_X0_isComplete_4 at h
    refine x_iload_n B (pc' := 5) 2 dX0_isComplete_4 rfl rfl rfl ?_
    refine x_aload_n B (pc' := 6) 0 dX0_isComplete_5 rfl rfl rfl ?_
    refine t_get1 B (pc' := 9) wf_RX0_15 dX0_isComplete_6 rfl ?_
    refine x_icmp_ge B 31 12 dX0_isComplete_9 (by decide) rfl (fun hc1 => ?_) (fun hc1 => ?_)
    · replace h := ite_t hc1 h
      refine x_iload_n B (pc' := 32) 1 dX0_isComplete_31 rfl rfl rfl ?_
      refine x_iconst B (pc' := 33) 1 dX0_isComplete_32 (by decide) rfl ?_
      refine x_icmp_eq B 41 36 dX0_isComplete_33 (by decide) rfl (fun hc2 => ?_) (fun hc2 => ?_)
      · replace h := ite_t hc2 h
        refine x_iconst B (pc' := 42) 1 dX0_isComplete_41 (by decide) rfl ?_
        refine x_goto B (pc' := 46) dX0_isComplete_42 (by decide) ?_
        have h1 := Option.some.inj h
        subst h1
        exact ret rfl (by exact Nat.le_of_ble_eq_true rfl) (by exact Nat.le_of_ble_eq_true rfl) dX0_isComplete_46
      · replace h := ite_f hc2 h
        refine x_iload_n B (pc' := 37) 1 dX0_isComplete_36 rfl rfl rfl ?_
        refine x_iconst B (pc' := 38) 3 dX0_isComplete_37 (by decide) rfl ?_
        refine x_icmp_ne B 45 41 dX0_isComplete_38 (by decide) rfl (fun hc3 => ?_) (fun hc3 => ?_)
        · replace h := ite_f hc3 h
          refine x_iconst B (pc' := 46) 0 dX0_isComplete_45 (by decide) rfl ?_
          have h1 := Option.some.inj h
          subst h1
          exact ret rfl (by exact Nat.le_of_ble_eq_true rfl) (by exact Nat.le_of_ble_eq_true rfl) dX0_isComplete_46
        · replace h := ite_t hc3 h
          refine x_iconst B (pc' := 42) 1 dX0_isComplete_41 (by decide) rfl ?_
          refine x_goto B (pc' := 46) dX0_isComplete_42 (by decide) ?_
          have h1 := Option.some.inj h
          subst h1
          exact ret rfl (by exact Nat.le_of_ble_eq_true rfl) (by exact Nat.le_of_ble_eq_true rfl) dX0_isComplete_46
    · replace h := ite_f hc1 h
      refine x_iload_n B (pc' := 13) 1 dX0_isComplete_12 rfl rfl rfl ?_
      refine x_aload_n B (pc' := 14) 0 dX0_isComplete_13 rfl rfl rfl ?_
      refine t_ref0 B (pc' := 17) wf_RX0_9 dX0_isComplete_14 rfl ?_
      refine x_iload_n B (pc' := 18) 2 dX0_isComplete_17 rfl rfl rfl ?_
      refine t_vAt0 B (pc' := 21) ⟨Nat.le_of_ble_eq_true rfl, Nat.le_of_ble_eq_true rfl⟩ ⟨Nat.le_of_ble_eq_true rfl, Nat.le_of_ble_eq_true rfl⟩ (Nat.le_of_ble_eq_true rfl) nw_RX0_23 dX0_isComplete_18 rfl ?_
      obtain ⟨r4, er4, h⟩ := bd_elim h
      refine x_pureSi B (pc' := 24) [.int x1, .int (vAt 60 (S.2 0) x2)] (k_X0_stageAfter _ _ _ x1 (vAt 60 (S.2 0) x2) er4) gv_RX0_27 np_X0_stageAfter ⟨Nat.le_of_ble_eq_true rfl, Nat.le_of_ble_eq_true rfl⟩ ⟨by exact Nat.le_of_ble_eq_true rfl, by exact Nat.le_of_ble_eq_true rfl⟩ rfl (Nat.le_of_ble_eq_true rfl) dX0_isComplete_21 rfl ?_
      refine x_istore_n B (pc' := 25) [1, 0, 2] [(0, .ref (a 0)), (1, .int r4), (2, .int x2)] dX0_isComplete_24 rfl (by decide) rfl rfl ?_
      obtain ⟨v5, ev5, h⟩ := nm_elim h
      refine x_iinc B (pc' := 28) v5 2 [1, 2, 0] [(0, .ref (a 0)), (1, .int r4), (2, .int v5)] dX0_isComplete_25 rfl (by rw [ev5]; rfl) (by decide) rfl rfl ?_
      refine x_goto B (pc' := 4) dX0_isComplete_28 (by decide) ?_
      exact hK4 _ _ h
  unfold f_X0_isComplete at h
  refine x_iconst B (pc' := 1) 0 dX0_isComplete_0 (by decide) rfl ?_
  refine x_istore_n B (pc' := 2) [1, 0] [(0, .ref (a 0)), (1, .int (0 : Int32))] dX0_isComplete_1 rfl (by decide) rfl rfl ?_
  refine x_iconst B (pc' := 3) 0 dX0_isComplete_2 (by decide) rfl ?_
  refine x_istore_n B (pc' := 4) [1, 2, 0] [(0, .ref (a 0)), (1, .int (0 : Int32)), (2, .int (0 : Int32))] dX0_isComplete_3 rfl (by decide) rfl rfl ?_
  exact h4  _ _ _ h
def f_X2_mixed (p0 : Int64) (p1 : Int64) : Option Int64 :=
  some (((31 : Int64) * p0) + p1)
abbrev rm_X2_mixed : Room := { frames := 0, cells := 0, slots := 0, locals := 0 }
theorem np_X2_mixed : yX2_mixed.cls ≠ "java/lang/invoke/MethodHandle" ∧ yX2_mixed.cls ≠ "java/lang/invoke/VarHandle" ∧ (parseMethodDescriptor yX2_mixed.desc).map (fun d => d.parameters.length) = some 2 := by decide +kernel
set_option maxHeartbeats 4000000 in
set_option maxRecDepth 100000 in
theorem k_X2_mixed (l : Launch) (D : va_G) (cs : CS)  (p0 : Int64) (p1 : Int64) {r9 : Int64} (h : f_X2_mixed p0 p1 = some r9) : ML l D cs yX2_mixed cX2_mixed 4 rm_X2_mixed [.long p0, .long p1] ([]) r9 ([]) := by
  refine ML_of (by decide) (Nat.le_of_ble_eq_true rfl) ?_
  rintro Γ rfl rfl rfl B ret
  show X Γ 4 0 0 0 [(0, .long p0), (2, .long p1)] [] ([])
  unfold f_X2_mixed at h
  refine x_ldc2 B (pc' := 3) 31 wk_RX2_258 dX2_mixed_0 rfl ?_
  refine x_lload_n B (pc' := 4) 0 dX2_mixed_3 rfl rfl rfl ?_
  refine x_lmul B (pc' := 5) dX2_mixed_4 rfl ?_
  refine x_lload_n B (pc' := 6) 1 dX2_mixed_5 rfl rfl rfl ?_
  refine x_ladd B (pc' := 7) dX2_mixed_6 rfl ?_
  have h1 := Option.some.inj h
  subst h1
  exact ret (by exact Nat.le_of_ble_eq_true rfl) (by exact Nat.le_of_ble_eq_true rfl) dX2_mixed_7
