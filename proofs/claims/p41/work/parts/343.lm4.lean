def c_L_holds_519 (S : BO) (x2 : Int32) (t0 : Int32) (t1 : Int32) : Option Int32 :=
  if t1 = t0 then (bd (f_X2_usedShare S) (fun (r85 : UInt64) => bd (nn (FP.ddiv (FP.i2d x2) (4629700416936869888 : UInt64))) (fun (_ : UInt64) => if (Op.cmpValue (FP.dcmp r85 (FP.ddiv (FP.i2d x2) (4629700416936869888 : UInt64))) .l) = 0 then (some (1 : Int32)) else (some (0 : Int32))))) else (some (0 : Int32))
def c_L_holds_509 (S : BO) (x2 : Int32) (x5 : Int32) (t0 : Int32) : Option Int32 :=
  if x5 = 0 then (c_L_holds_519 S x2 (1 : Int32) t0) else (c_L_holds_519 S x2 (0 : Int32) t0)
def c_L_holds_456 (S : BO) (x2 : Int32) (x3 : Int32) (x4 : Int32) (x5 : Int32) (x6 : Int32) (t0 : Int32) : Option Int32 :=
  if x6 = 0 then (some (0 : Int32)) else (if t0 = 0 then (some (0 : Int32)) else (bd (f_X2_free S) (fun (r35 : Int32) => if (r35 + x2) = (32 : Int32) then (bd (f_X2_room S) (fun (r37 : Int32) => if r37 = x3 then (bd (f_X2_corrected S) (fun (r39 : Int32) => if r39 = x4 then (bd (f_X2_nextLoser S) (fun (r41 : Int32) => if r41 = ((-1) : Int32) then (c_L_holds_509 S x2 x5 (1 : Int32)) else (c_L_holds_509 S x2 x5 (0 : Int32)))) else (some (0 : Int32)))) else (some (0 : Int32)))) else (some (0 : Int32)))))
def c_L_holds_455 (S : BO) (x2 : Int32) (x3 : Int32) (x4 : Int32) (x5 : Int32) (x6 : Int32) : Option Int32 :=
  c_L_holds_456 S x2 x3 x4 x5 x6 (0 : Int32)
def c_L_holds_389 (S : BO) (K348 : Int32 → Int32 → Int32 → Int32 → Int32 → Int32 → Int32 → Option Int32) (x1 : Int32) (x2 : Int32) (x3 : Int32) (x4 : Int32) (x5 : Int32) (x7 : Int32) (t0 : Int32) (t1 : Int32) : Option Int32 :=
  if t1 = t0 then (nm (fun (v51 : Int32) => K348 x1 x2 x3 x4 x5 (1 : Int32) v51) (x7 + 1)) else (nm (fun (v50 : Int32) => K348 x1 x2 x3 x4 x5 (0 : Int32) v50) (x7 + 1))
def c_L_holds_375 (S : BO) (K348 : Int32 → Int32 → Int32 → Int32 → Int32 → Int32 → Int32 → Option Int32) (x1 : Int32) (x2 : Int32) (x3 : Int32) (x4 : Int32) (x5 : Int32) (x7 : Int32) (t0 : Int32) : Option Int32 :=
  if ((x1 >>> (x7 &&& 31)) &&& (1 : Int32)) = 0 then (c_L_holds_389 S K348 x1 x2 x3 x4 x5 x7 (1 : Int32) t0) else (c_L_holds_389 S K348 x1 x2 x3 x4 x5 x7 (0 : Int32) t0)
def b_L_holds_348 (S : BO) (K348 : Int32 → Int32 → Int32 → Int32 → Int32 → Int32 → Int32 → Option Int32) (x1 : Int32) (x2 : Int32) (x3 : Int32) (x4 : Int32) (x5 : Int32) (x6 : Int32) (x7 : Int32) : Option Int32 :=
  if (32 : Int32) ≤ x7 then (bd (f_X2_playing S) (fun (r17 : Int32) => if r17 = ((-1) : Int32) then (bd (f_X2_place S) (fun (r25 : Int32) => if r25 = ((-1) : Int32) then (c_L_holds_456 S x2 x3 x4 x5 x6 (1 : Int32)) else (c_L_holds_456 S x2 x3 x4 x5 x6 (0 : Int32)))) else (bd (f_X2_place S) (fun (r19 : Int32) => if r19 < 0 then (c_L_holds_455 S x2 x3 x4 x5 x6) else (bd (f_X2_place S) (fun (r21 : Int32) => bd (f_X2_playing S) (fun (r22 : Int32) => bn (f_X2_length r22 S) (fun (r23 : Int32) => if r23 < r21 then (c_L_holds_455 S x2 x3 x4 x5 x6) else (c_L_holds_456 S x2 x3 x4 x5 x6 (1 : Int32)))))))))) else (if x6 = 0 then (nm (fun (v28 : Int32) => K348 x1 x2 x3 x4 x5 (0 : Int32) v28) (x7 + 1)) else (bn (f_X2_owner x7 S) (fun (r29 : Int32) => if r29 = ((-1) : Int32) then (c_L_holds_375 S K348 x1 x2 x3 x4 x5 x7 (1 : Int32)) else (c_L_holds_375 S K348 x1 x2 x3 x4 x5 x7 (0 : Int32)))))
def c_L_holds_224 (S : BO) (K55 : Int32 → Int32 → Int32 → Int32 → Int32 → Int32 → Int32 → Option Int32) (K141 : Int32 → Int32 → Int32 → Int32 → Int32 → Int32 → Int32 → Int32 → Int32 → Option Int32) (x1 : Int32) (x2 : Int32) (x3 : Int32) (x4 : Int32) (x5 : Int32) (x7 : Int32) (x8 : Int32) (x10 : Int32) (x11 : Int32) (t0 : Int32) : Option Int32 :=
  nm (fun (v89 : Int32) => bn (f_X2_sound x7 x10 S) (fun (r90 : Int32) => bn (f_X2_carbon x7 x10 S) (fun (r91 : Int32) => if r90 = r91 then (nm (fun (v95 : Int32) => nm (fun (v96 : Int32) => K141 v89 x2 x3 v95 x5 t0 x7 x8 v96) (x10 + 1)) (x4 + (0 : Int32))) else (nm (fun (v93 : Int32) => nm (fun (v94 : Int32) => K141 v89 x2 x3 v93 x5 t0 x7 x8 v94) (x10 + 1)) (x4 + (1 : Int32)))))) (x1 ||| ((1 : Int32) <<< (x11 &&& 31)))
def c_L_holds_223 (S : BO) (K55 : Int32 → Int32 → Int32 → Int32 → Int32 → Int32 → Int32 → Option Int32) (K141 : Int32 → Int32 → Int32 → Int32 → Int32 → Int32 → Int32 → Int32 → Int32 → Option Int32) (x1 : Int32) (x2 : Int32) (x3 : Int32) (x4 : Int32) (x5 : Int32) (x7 : Int32) (x8 : Int32) (x10 : Int32) (x11 : Int32) : Option Int32 :=
  c_L_holds_224 S K55 K141 x1 x2 x3 x4 x5 x7 x8 x10 x11 (0 : Int32)
def b_L_holds_141 (S : BO) (K55 : Int32 → Int32 → Int32 → Int32 → Int32 → Int32 → Int32 → Option Int32) (K141 : Int32 → Int32 → Int32 → Int32 → Int32 → Int32 → Int32 → Int32 → Int32 → Option Int32) (x1 : Int32) (x2 : Int32) (x3 : Int32) (x4 : Int32) (x5 : Int32) (x6 : Int32) (x7 : Int32) (x8 : Int32) (x10 : Int32) : Option Int32 :=
  if x8 ≤ x10 then (if x6 = 0 then (nm (fun (v54 : Int32) => K55 x1 x2 x3 x4 x5 (0 : Int32) v54) (x7 + 1)) else (bn (f_X2_cellOf x7 x8 S) (fun (r55 : Int32) => if r55 = ((-1) : Int32) then (bn (f_X2_sound x7 x8 S) (fun (r58 : Int32) => if r58 = ((-1) : Int32) then (bn (f_X2_carbon x7 x8 S) (fun (r61 : Int32) => if r61 = ((-1) : Int32) then (bn (f_X2_lost x7 S) (fun (r64 : Int32) => if r64 < 0 then (nm (fun (v66 : Int32) => K55 x1 x2 x3 x4 x5 (0 : Int32) v66) (x7 + 1)) else (if 0 < x8 then (nm (fun (v68 : Int32) => K55 x1 x2 x3 x4 x5 (1 : Int32) v68) (x7 + 1)) else (bd (f_X2_running S) (fun (r69 : Int32) => if x7 = r69 then (nm (fun (v72 : Int32) => K55 x1 x2 x3 x4 x5 (1 : Int32) v72) (x7 + 1)) else (nm (fun (v71 : Int32) => K55 x1 x2 x3 x4 x5 (0 : Int32) v71) (x7 + 1))))))) else (nm (fun (v63 : Int32) => K55 x1 x2 x3 x4 x5 (0 : Int32) v63) (x7 + 1)))) else (nm (fun (v60 : Int32) => K55 x1 x2 x3 x4 x5 (0 : Int32) v60) (x7 + 1)))) else (nm (fun (v57 : Int32) => K55 x1 x2 x3 x4 x5 (0 : Int32) v57) (x7 + 1))))) else (bn (f_X2_cellOf x7 x10 S) (fun (r73 : Int32) => if x6 = 0 then (c_L_holds_223 S K55 K141 x1 x2 x3 x4 x5 x7 x8 x10 r73) else (if r73 < 0 then (c_L_holds_223 S K55 K141 x1 x2 x3 x4 x5 x7 x8 x10 r73) else (if (32 : Int32) ≤ r73 then (c_L_holds_223 S K55 K141 x1 x2 x3 x4 x5 x7 x8 x10 r73) else (if ((x1 >>> (r73 &&& 31)) &&& (1 : Int32)) = 0 then (bn (f_X2_owner r73 S) (fun (r78 : Int32) => if r78 = x7 then (bn (f_X2_sound x7 x10 S) (fun (r80 : Int32) => if r80 < 0 then (c_L_holds_223 S K55 K141 x1 x2 x3 x4 x5 x7 x8 x10 r73) else (bn (f_X2_sound x7 x10 S) (fun (r82 : Int32) => if (99 : Int32) < r82 then (c_L_holds_223 S K55 K141 x1 x2 x3 x4 x5 x7 x8 x10 r73) else (c_L_holds_224 S K55 K141 x1 x2 x3 x4 x5 x7 x8 x10 r73 (1 : Int32)))))) else (c_L_holds_223 S K55 K141 x1 x2 x3 x4 x5 x7 x8 x10 r73))) else (c_L_holds_223 S K55 K141 x1 x2 x3 x4 x5 x7 x8 x10 r73))))))
def c_L_holds_114 (S : BO) (K55 : Int32 → Int32 → Int32 → Int32 → Int32 → Int32 → Int32 → Option Int32) (x1 : Int32) (x2 : Int32) (x4 : Int32) (x5 : Int32) (x6 : Int32) (x7 : Int32) (x8 : Int32) (x9 : Int32) (t0 : Int32) (t1 : Int32) : Option Int32 :=
  nm (fun (v44 : Int32) => if x5 = 0 then (if x9 = 0 then (lpf9 (b_L_holds_141 S K55) FU x1 x2 v44 x4 (0 : Int32) x6 x7 x8 (0 : Int32)) else (if x8 ≤ 0 then (lpf9 (b_L_holds_141 S K55) FU x1 x2 v44 x4 (0 : Int32) x6 x7 x8 (0 : Int32)) else (lpf9 (b_L_holds_141 S K55) FU x1 x2 v44 x4 (1 : Int32) x6 x7 x8 (0 : Int32)))) else (lpf9 (b_L_holds_141 S K55) FU x1 x2 v44 x4 (1 : Int32) x6 x7 x8 (0 : Int32))) (t1 + t0)
def c_L_holds_95 (S : BO) (K55 : Int32 → Int32 → Int32 → Int32 → Int32 → Int32 → Int32 → Option Int32) (x1 : Int32) (x2 : Int32) (x3 : Int32) (x4 : Int32) (x5 : Int32) (x6 : Int32) (x7 : Int32) (x8 : Int32) (t0 : Int32) : Option Int32 :=
  nm (fun (v31 : Int32) => if t0 = 0 then (c_L_holds_114 S K55 x1 v31 x4 x5 x6 x7 x8 t0 (0 : Int32) x3) else (c_L_holds_114 S K55 x1 v31 x4 x5 x6 x7 x8 t0 x8 x3)) (x2 + x8)
def c_L_holds_94 (S : BO) (K55 : Int32 → Int32 → Int32 → Int32 → Int32 → Int32 → Int32 → Option Int32) (x1 : Int32) (x2 : Int32) (x3 : Int32) (x4 : Int32) (x5 : Int32) (x6 : Int32) (x7 : Int32) (x8 : Int32) : Option Int32 :=
  c_L_holds_95 S K55 x1 x2 x3 x4 x5 x6 x7 x8 (0 : Int32)
def b_L_holds_55 (S : BO) (K55 : Int32 → Int32 → Int32 → Int32 → Int32 → Int32 → Int32 → Option Int32) (x1 : Int32) (x2 : Int32) (x3 : Int32) (x4 : Int32) (x5 : Int32) (x6 : Int32) (x7 : Int32) : Option Int32 :=
  bd (f_X2_recordings S) (fun (r9 : Int32) => if r9 ≤ x7 then (lpf7 (b_L_holds_348 S) FU x1 x2 x3 x4 x5 x6 (0 : Int32)) else (bn (f_X2_length x7 S) (fun (r11 : Int32) => bn (f_X2_hasFlag x7 S) (fun (r12 : Int32) => if r12 = 0 then (bd (f_X2_running S) (fun (r14 : Int32) => if x7 = r14 then (c_L_holds_94 S K55 x1 x2 x3 x4 x5 x6 x7 r11) else (c_L_holds_95 S K55 x1 x2 x3 x4 x5 x6 x7 r11 (1 : Int32)))) else (c_L_holds_94 S K55 x1 x2 x3 x4 x5 x6 x7 r11)))))
def f_L_holds (S : BO) : Option Int32 :=
  bd (f_X2_free S) (fun (r1 : Int32) => bd (f_X2_recordings S) (fun (r2 : Int32) => if (10 : Int32) < r2 then (lpf7 (b_L_holds_55 S) FU (0 : Int32) (0 : Int32) r1 (0 : Int32) (0 : Int32) (0 : Int32) (0 : Int32)) else (bd (f_X2_running S) (fun (r4 : Int32) => if r4 = ((-1) : Int32) then (lpf7 (b_L_holds_55 S) FU (0 : Int32) (0 : Int32) r1 (0 : Int32) (0 : Int32) (1 : Int32) (0 : Int32)) else (bd (f_X2_running S) (fun (r6 : Int32) => bd (f_X2_recordings S) (fun (r7 : Int32) => if r6 = (r7 - (1 : Int32)) then (lpf7 (b_L_holds_55 S) FU (0 : Int32) (0 : Int32) r1 (0 : Int32) (0 : Int32) (1 : Int32) (0 : Int32)) else (lpf7 (b_L_holds_55 S) FU (0 : Int32) (0 : Int32) r1 (0 : Int32) (0 : Int32) (0 : Int32) (0 : Int32)))))))))
abbrev rm_L_holds : Room := { frames := 4, cells := 0, slots := 0, locals := 87 }
theorem np_L_holds : yL_holds.cls ≠ "java/lang/invoke/MethodHandle" ∧ yL_holds.cls ≠ "java/lang/invoke/VarHandle" ∧ (parseMethodDescriptor yL_holds.desc).map (fun d => d.parameters.length) = some 1 := by decide +kernel
set_option maxHeartbeats 4000000 in
set_option maxRecDepth 100000 in
theorem k_L_holds (l : Launch) (D : va_G) (cs : CS) (a : Nat → Nat → Nat) (S : BO) {r9 : Int32} (h : f_L_holds S = some r9) : MI l D cs yL_holds cL_holds 12 .boolean rm_L_holds [.ref (a 0 0)] (wB cs a S) r9 (wB cs a S) := by
  refine MI_of (by decide) (Nat.le_of_ble_eq_true rfl) ?_
  rintro Γ rfl rfl rfl B ret
  show X Γ 12 0 0 0 [(0, .ref (a 0 0))] [] (wB Γ.cs a S)
  have h519 : ∀ (x2 : Int32) (t0 : Int32) (t1 : Int32), c_L_holds_519 S  x2 t0 t1 = some r9 → X Γ 12 0 0 519 [(0, .ref (a 0 0)), (2, .int x2)] [.int t0, .int t1] (wB Γ.cs a S) := by
    intro  x2 t0 t1 h
    unfold c_L_holds_519 at h
    refine x_icmp_ne B 540 522 dL_holds_519 (by decide) rfl (fun hc84 => ?_) (fun hc84 => ?_)
    · replace h := ite_f hc84 h
      refine x_iconst B (pc' := 541) 0 dL_holds_540 (by decide) rfl ?_
      have h1 := (Option.some.inj h)
      subst h1
      exact ret rfl (by exact Nat.le_of_ble_eq_true rfl) (by exact Nat.le_of_ble_eq_true rfl) dL_holds_541
    · replace h := ite_t hc84 h
      refine x_aload_n B (pc' := 523) 0 dL_holds_522 rfl rfl rfl ?_
      obtain ⟨r85, er85, h⟩ := bd_elim h
      refine n_belVd B (pc' := 526) [] (k_X2_usedShare _ _ _ a S er85) gv_RL_125 rfl np_X2_usedShare ⟨Nat.le_of_ble_eq_true rfl, Nat.le_of_ble_eq_true rfl⟩ ⟨by exact Nat.le_of_ble_eq_true rfl, by exact Nat.le_of_ble_eq_true rfl⟩ rfl (Nat.le_of_ble_eq_true rfl) dL_holds_523 rfl ?_
      refine x_iload_n B (pc' := 527) 1 dL_holds_526 rfl rfl rfl ?_
      refine x_i2d B (pc' := 528) dL_holds_527 rfl ?_
      refine x_ldc2d B (pc' := 531) 4629700416936869888 wk_RL_129 dL_holds_528 rfl ?_
      obtain ⟨v86, ev86, h⟩ := bd_elim h
      have hn87 := (nn_elim ev86).1
      refine x_ddiv B (pc' := 532) dL_holds_531 hn87 rfl ?_
      refine x_dcmp B (pc' := 533) dL_holds_532 rfl ?_
      refine x_if_ne B 540 536 dL_holds_533 (by decide) rfl (fun hc88 => ?_) (fun hc88 => ?_)
      · replace h := ite_f hc88 h
        refine x_iconst B (pc' := 541) 0 dL_holds_540 (by decide) rfl ?_
        have h1 := (Option.some.inj h)
        subst h1
        exact ret rfl (by exact Nat.le_of_ble_eq_true rfl) (by exact Nat.le_of_ble_eq_true rfl) dL_holds_541
      · replace h := ite_t hc88 h
        refine x_iconst B (pc' := 537) 1 dL_holds_536 (by decide) rfl ?_
        refine x_goto B (pc' := 541) dL_holds_537 (by decide) ?_
        have h1 := (Option.some.inj h)
        subst h1
        exact ret rfl (by exact Nat.le_of_ble_eq_true rfl) (by exact Nat.le_of_ble_eq_true rfl) dL_holds_541
  have h509 : ∀ (x2 : Int32) (x5 : Int32) (t0 : Int32), c_L_holds_509 S  x2 x5 t0 = some r9 → X Γ 12 0 0 509 [(0, .ref (a 0 0)), (2, .int x2), (5, .int x5)] [.int t0] (wB Γ.cs a S) := by
    intro  x2 x5 t0 h
    unfold c_L_holds_509 at h
    refine x_iload B (pc' := 511) 2 dL_holds_509 rfl rfl ?_
    refine x_if_ne B 518 514 dL_holds_511 (by decide) rfl (fun hc48 => ?_) (fun hc48 => ?_)
    · replace h := ite_f hc48 h
      refine x_iconst B (pc' := 519) 0 dL_holds_518 (by decide) rfl ?_
      refine x_lv [0, 1] (lv' := [(0, .ref (a 0 0)), (2, .int x2)]) rfl ?_
      exact h519  _ _ _ h
    · replace h := ite_t hc48 h
      refine x_iconst B (pc' := 515) 1 dL_holds_514 (by decide) rfl ?_
      refine x_goto B (pc' := 519) dL_holds_515 (by decide) ?_
      refine x_lv [0, 1] (lv' := [(0, .ref (a 0 0)), (2, .int x2)]) rfl ?_
      exact h519  _ _ _ h
  have h456 : ∀ (x2 : Int32) (x3 : Int32) (x4 : Int32) (x5 : Int32) (x6 : Int32) (t0 : Int32), c_L_holds_456 S  x2 x3 x4 x5 x6 t0 = some r9 → X Γ 12 0 0 456 [(0, .ref (a 0 0)), (2, .int x2), (3, .int x3), (4, .int x4), (5, .int x5), (6, .int x6)] [.int t0] (wB Γ.cs a S) := by
    intro  x2 x3 x4 x5 x6 t0 h
    unfold c_L_holds_456 at h
    refine x_istore B (pc' := 458) [1, 2, 3, 4, 5, 6, 0] [(0, .ref (a 0 0)), (2, .int x2), (3, .int x3), (4, .int x4), (5, .int x5), (6, .int x6), (7, .int t0)] dL_holds_456 (by decide) rfl rfl ?_
    refine x_iload B (pc' := 460) 5 dL_holds_458 rfl rfl ?_
    refine x_if_eq B 540 463 dL_holds_460 (by decide) rfl (fun hc33 => ?_) (fun hc33 => ?_)
    · replace h := ite_t hc33 h
      refine x_iconst B (pc' := 541) 0 dL_holds_540 (by decide) rfl ?_
      have h1 := (Option.some.inj h)
      subst h1
      exact ret rfl (by exact Nat.le_of_ble_eq_true rfl) (by exact Nat.le_of_ble_eq_true rfl) dL_holds_541
    · replace h := ite_f hc33 h
      refine x_iload B (pc' := 465) 6 dL_holds_463 rfl rfl ?_
      refine x_if_eq B 540 468 dL_holds_465 (by decide) rfl (fun hc34 => ?_) (fun hc34 => ?_)
      · replace h := ite_t hc34 h
        refine x_iconst B (pc' := 541) 0 dL_holds_540 (by decide) rfl ?_
        have h1 := (Option.some.inj h)
        subst h1
        exact ret rfl (by exact Nat.le_of_ble_eq_true rfl) (by exact Nat.le_of_ble_eq_true rfl) dL_holds_541
      · replace h := ite_f hc34 h
        refine x_aload_n B (pc' := 469) 0 dL_holds_468 rfl rfl rfl ?_
        obtain ⟨r35, er35, h⟩ := bd_elim h
        refine n_belVi B (pc' := 472) [] (k_X2_free _ _ _ a S er35) gv_RL_85 rfl np_X2_free ⟨Nat.le_of_ble_eq_true rfl, Nat.le_of_ble_eq_true rfl⟩ ⟨by exact Nat.le_of_ble_eq_true rfl, by exact Nat.le_of_ble_eq_true rfl⟩ rfl (Nat.le_of_ble_eq_true rfl) dL_holds_469 rfl ?_
        refine x_iload_n B (pc' := 473) 1 dL_holds_472 rfl rfl rfl ?_
        refine x_iadd B (pc' := 474) dL_holds_473 rfl ?_
        refine x_bipush B (pc' := 476) 32 dL_holds_474 (by decide) rfl ?_
        refine x_icmp_ne B 540 479 dL_holds_476 (by decide) rfl (fun hc36 => ?_) (fun hc36 => ?_)
        · replace h := ite_f hc36 h
          refine x_iconst B (pc' := 541) 0 dL_holds_540 (by decide) rfl ?_
          have h1 := (Option.some.inj h)
          subst h1
          exact ret rfl (by exact Nat.le_of_ble_eq_true rfl) (by exact Nat.le_of_ble_eq_true rfl) dL_holds_541
        · replace h := ite_t hc36 h
          refine x_aload_n B (pc' := 480) 0 dL_holds_479 rfl rfl rfl ?_
          obtain ⟨r37, er37, h⟩ := bd_elim h
          refine n_belVi B (pc' := 483) [] (k_X2_room _ _ _ a S er37) gv_RL_41 rfl np_X2_room ⟨Nat.le_of_ble_eq_true rfl, Nat.le_of_ble_eq_true rfl⟩ ⟨by exact Nat.le_of_ble_eq_true rfl, by exact Nat.le_of_ble_eq_true rfl⟩ rfl (Nat.le_of_ble_eq_true rfl) dL_holds_480 rfl ?_
          refine x_iload_n B (pc' := 484) 2 dL_holds_483 rfl rfl rfl ?_
          refine x_icmp_ne B 540 487 dL_holds_484 (by decide) rfl (fun hc38 => ?_) (fun hc38 => ?_)
          · replace h := ite_f hc38 h
            refine x_iconst B (pc' := 541) 0 dL_holds_540 (by decide) rfl ?_
            have h1 := (Option.some.inj h)
            subst h1
            exact ret rfl (by exact Nat.le_of_ble_eq_true rfl) (by exact Nat.le_of_ble_eq_true rfl) dL_holds_541
          · replace h := ite_t hc38 h
            refine x_aload_n B (pc' := 488) 0 dL_holds_487 rfl rfl rfl ?_
            obtain ⟨r39, er39, h⟩ := bd_elim h
            refine n_belVi B (pc' := 491) [] (k_X2_corrected _ _ _ a S er39) gv_RL_119 rfl np_X2_corrected ⟨Nat.le_of_ble_eq_true rfl, Nat.le_of_ble_eq_true rfl⟩ ⟨by exact Nat.le_of_ble_eq_true rfl, by exact Nat.le_of_ble_eq_true rfl⟩ rfl (Nat.le_of_ble_eq_true rfl) dL_holds_488 rfl ?_
            refine x_iload B (pc' := 493) 3 dL_holds_491 rfl rfl ?_
            refine x_icmp_ne B 540 496 dL_holds_493 (by decide) rfl (fun hc40 => ?_) (fun hc40 => ?_)
            · replace h := ite_f hc40 h
              refine x_iconst B (pc' := 541) 0 dL_holds_540 (by decide) rfl ?_
              have h1 := (Option.some.inj h)
              subst h1
              exact ret rfl (by exact Nat.le_of_ble_eq_true rfl) (by exact Nat.le_of_ble_eq_true rfl) dL_holds_541
            · replace h := ite_t hc40 h
              refine x_aload_n B (pc' := 497) 0 dL_holds_496 rfl rfl rfl ?_
              obtain ⟨r41, er41, h⟩ := bd_elim h
              refine n_belVi B (pc' := 500) [] (k_X2_nextLoser _ _ _ a S er41) gv_RL_122 rfl np_X2_nextLoser ⟨Nat.le_of_ble_eq_true rfl, Nat.le_of_ble_eq_true rfl⟩ ⟨by exact Nat.le_of_ble_eq_true rfl, by exact Nat.le_of_ble_eq_true rfl⟩ rfl (Nat.le_of_ble_eq_true rfl) dL_holds_497 rfl ?_
              refine x_iconst B (pc' := 501) (-1) dL_holds_500 (by decide) rfl ?_
              refine x_icmp_ne B 508 504 dL_holds_501 (by decide) rfl (fun hc42 => ?_) (fun hc42 => ?_)
              · replace h := ite_f hc42 h
                refine x_iconst B (pc' := 509) 0 dL_holds_508 (by decide) rfl ?_
                refine x_lv [0, 1, 4] (lv' := [(0, .ref (a 0 0)), (2, .int x2), (5, .int x5)]) rfl ?_
                exact h509  _ _ _ h
              · replace h := ite_t hc42 h
                refine x_iconst B (pc' := 505) 1 dL_holds_504 (by decide) rfl ?_
                refine x_goto B (pc' := 509) dL_holds_505 (by decide) ?_
                refine x_lv [0, 1, 4] (lv' := [(0, .ref (a 0 0)), (2, .int x2), (5, .int x5)]) rfl ?_
                exact h509  _ _ _ h
  have h455 : ∀ (x2 : Int32) (x3 : Int32) (x4 : Int32) (x5 : Int32) (x6 : Int32), c_L_holds_455 S  x2 x3 x4 x5 x6 = some r9 → X Γ 12 0 0 455 [(0, .ref (a 0 0)), (2, .int x2), (3, .int x3), (4, .int x4), (5, .int x5), (6, .int x6)] [] (wB Γ.cs a S) := by
    intro  x2 x3 x4 x5 x6 h
    unfold c_L_holds_455 at h
    refine x_iconst B (pc' := 456) 0 dL_holds_455 (by decide) rfl ?_
    exact h456  _ _ _ _ _ _ h
  have h389 : ∀ (K348 : Int32 → Int32 → Int32 → Int32 → Int32 → Int32 → Int32 → Option Int32) (_ : ∀ x1 x2 x3 x4 x5 x6 x7, K348 x1 x2 x3 x4 x5 x6 x7 = some r9 → X Γ 12 0 0 348 [(0, .ref (a 0 0)), (1, .int x1), (2, .int x2), (3, .int x3), (4, .int x4), (5, .int x5), (6, .int x6), (7, .int x7)] [] (wB Γ.cs a S)) (x1 : Int32) (x2 : Int32) (x3 : Int32) (x4 : Int32) (x5 : Int32) (x7 : Int32) (t0 : Int32) (t1 : Int32), c_L_holds_389 S K348 x1 x2 x3 x4 x5 x7 t0 t1 = some r9 → X Γ 12 0 0 389 [(0, .ref (a 0 0)), (1, .int x1), (2, .int x2), (3, .int x3), (4, .int x4), (5, .int x5), (7, .int x7)] [.int t0, .int t1] (wB Γ.cs a S) := by
    intro K348 hK348 x1 x2 x3 x4 x5 x7 t0 t1 h
    unfold c_L_holds_389 at h
    refine x_icmp_ne B 396 392 dL_holds_389 (by decide) rfl (fun hc49 => ?_) (fun hc49 => ?_)
    · replace h := ite_f hc49 h
      refine x_iconst B (pc' := 397) 0 dL_holds_396 (by decide) rfl ?_
      refine x_istore B (pc' := 399) [1, 2, 3, 4, 5, 6, 0, 7] [(0, .ref (a 0 0)), (1, .int x1), (2, .int x2), (3, .int x3), (4, .int x4), (5, .int x5), (6, .int (0 : Int32)), (7, .int x7)] dL_holds_397 (by decide) rfl rfl ?_
      obtain ⟨v50, ev50, h⟩ := nm_elim h
      refine x_iinc B (pc' := 402) v50 7 [1, 2, 3, 4, 5, 6, 7, 0] [(0, .ref (a 0 0)), (1, .int x1), (2, .int x2), (3, .int x3), (4, .int x4), (5, .int x5), (6, .int (0 : Int32)), (7, .int v50)] dL_holds_399 rfl (by rw [ev50]; rfl) (by decide) rfl rfl ?_
      refine x_goto B (pc' := 348) dL_holds_402 (by decide) ?_
      exact hK348 _ _ _ _ _ _ _ h
    · replace h := ite_t hc49 h
      refine x_iconst B (pc' := 393) 1 dL_holds_392 (by decide) rfl ?_
      refine x_goto B (pc' := 397) dL_holds_393 (by decide) ?_
      refine x_istore B (pc' := 399) [1, 2, 3, 4, 5, 6, 0, 7] [(0, .ref (a 0 0)), (1, .int x1), (2, .int x2), (3, .int x3), (4, .int x4), (5, .int x5), (6, .int (1 : Int32)), (7, .int x7)] dL_holds_397 (by decide) rfl rfl ?_
      obtain ⟨v51, ev51, h⟩ := nm_elim h
      refine x_iinc B (pc' := 402) v51 7 [1, 2, 3, 4, 5, 6, 7, 0] [(0, .ref (a 0 0)), (1, .int x1), (2, .int x2), (3, .int x3), (4, .int x4), (5, .int x5), (6, .int (1 : Int32)), (7, .int v51)] dL_holds_399 rfl (by rw [ev51]; rfl) (by decide) rfl rfl ?_
      refine x_goto B (pc' := 348) dL_holds_402 (by decide) ?_
      exact hK348 _ _ _ _ _ _ _ h
  have h375 : ∀ (K348 : Int32 → Int32 → Int32 → Int32 → Int32 → Int32 → Int32 → Option Int32) (_ : ∀ x1 x2 x3 x4 x5 x6 x7, K348 x1 x2 x3 x4 x5 x6 x7 = some r9 → X Γ 12 0 0 348 [(0, .ref (a 0 0)), (1, .int x1), (2, .int x2), (3, .int x3), (4, .int x4), (5, .int x5), (6, .int x6), (7, .int x7)] [] (wB Γ.cs a S)) (x1 : Int32) (x2 : Int32) (x3 : Int32) (x4 : Int32) (x5 : Int32) (x7 : Int32) (t0 : Int32), c_L_holds_375 S K348 x1 x2 x3 x4 x5 x7 t0 = some r9 → X Γ 12 0 0 375 [(0, .ref (a 0 0)), (1, .int x1), (2, .int x2), (3, .int x3), (4, .int x4), (5, .int x5), (7, .int x7)] [.int t0] (wB Γ.cs a S) := by
    intro K348 hK348 x1 x2 x3 x4 x5 x7 t0 h
    unfold c_L_holds_375 at h
    refine x_iload_n B (pc' := 376) 1 dL_holds_375 rfl rfl rfl ?_
    refine x_iload B (pc' := 378) 6 dL_holds_376 rfl rfl ?_
    refine x_ishr B (pc' := 379) dL_holds_378 rfl ?_
    refine x_iconst B (pc' := 380) 1 dL_holds_379 (by decide) rfl ?_
    refine x_iand B (pc' := 381) dL_holds_380 rfl ?_
    refine x_if_ne B 388 384 dL_holds_381 (by decide) rfl (fun hc43 => ?_) (fun hc43 => ?_)
    · replace h := ite_f hc43 h
      refine x_iconst B (pc' := 389) 0 dL_holds_388 (by decide) rfl ?_
      exact h389 K348 hK348 _ _ _ _ _ _ _ _ h
    · replace h := ite_t hc43 h
      refine x_iconst B (pc' := 385) 1 dL_holds_384 (by decide) rfl ?_
      refine x_goto B (pc' := 389) dL_holds_385 (by decide) ?_
      exact h389 K348 hK348 _ _ _ _ _ _ _ _ h
  have h348 : ∀ (n9 : Nat) (x1 : Int32) (x2 : Int32) (x3 : Int32) (x4 : Int32) (x5 : Int32) (x6 : Int32) (x7 : Int32), lpf7 (b_L_holds_348 S) n9 x1 x2 x3 x4 x5 x6 x7 = some r9 → X Γ 12 0 0 348 [(0, .ref (a 0 0)), (1, .int x1), (2, .int x2), (3, .int x3), (4, .int x4), (5, .int x5), (6, .int x6), (7, .int x7)] [] (wB Γ.cs a S) := by
    refine lpf7_ind (fun K348 hK348 x1 x2 x3 x4 x5 x6 x7 h => ?_)
    unfold b_L_holds_348 at h
    refine x_iload B (pc' := 350) 7 dL_holds_348 rfl rfl ?_
    refine x_bipush B (pc' := 352) 32 dL_holds_350 (by decide) rfl ?_
    refine x_icmp_ge B 405 355 dL_holds_352 (by decide) rfl (fun hc16 => ?_) (fun hc16 => ?_)
    · replace h := ite_t hc16 h
      refine x_aload_n B (pc' := 406) 0 dL_holds_405 rfl rfl rfl ?_
      obtain ⟨r17, er17, h⟩ := bd_elim h
      refine n_belVi B (pc' := 409) [] (k_X2_playing _ _ _ a S er17) gv_RL_103 rfl np_X2_playing ⟨Nat.le_of_ble_eq_true rfl, Nat.le_of_ble_eq_true rfl⟩ ⟨by exact Nat.le_of_ble_eq_true rfl, by exact Nat.le_of_ble_eq_true rfl⟩ rfl (Nat.le_of_ble_eq_true rfl) dL_holds_406 rfl ?_
      refine x_iconst B (pc' := 410) (-1) dL_holds_409 (by decide) rfl ?_
      refine x_icmp_ne B 429 413 dL_holds_410 (by decide) rfl (fun hc18 => ?_) (fun hc18 => ?_)
      · replace h := ite_f hc18 h
        refine x_aload_n B (pc' := 430) 0 dL_holds_429 rfl rfl rfl ?_
        obtain ⟨r19, er19, h⟩ := bd_elim h
        refine n_belVi B (pc' := 433) [] (k_X2_place _ _ _ a S er19) gv_RL_94 rfl np_X2_place ⟨Nat.le_of_ble_eq_true rfl, Nat.le_of_ble_eq_true rfl⟩ ⟨by exact Nat.le_of_ble_eq_true rfl, by exact Nat.le_of_ble_eq_true rfl⟩ rfl (Nat.le_of_ble_eq_true rfl) dL_holds_430 rfl ?_
        refine x_if_lt B 455 436 dL_holds_433 (by decide) rfl (fun hc20 => ?_) (fun hc20 => ?_)
        · replace h := ite_t hc20 h
          refine x_lv [0, 2, 3, 4, 5, 6] (lv' := [(0, .ref (a 0 0)), (2, .int x2), (3, .int x3), (4, .int x4), (5, .int x5), (6, .int x6)]) rfl ?_
          exact h455  _ _ _ _ _ h
        · replace h := ite_f hc20 h
          refine x_aload_n B (pc' := 437) 0 dL_holds_436 rfl rfl rfl ?_
          obtain ⟨r21, er21, h⟩ := bd_elim h
          refine n_belVi B (pc' := 440) [] (k_X2_place _ _ _ a S er21) gv_RL_94 rfl np_X2_place ⟨Nat.le_of_ble_eq_true rfl, Nat.le_of_ble_eq_true rfl⟩ ⟨by exact Nat.le_of_ble_eq_true rfl, by exact Nat.le_of_ble_eq_true rfl⟩ rfl (Nat.le_of_ble_eq_true rfl) dL_holds_437 rfl ?_
          refine x_aload_n B (pc' := 441) 0 dL_holds_440 rfl rfl rfl ?_
          refine x_aload_n B (pc' := 442) 0 dL_holds_441 rfl rfl rfl ?_
          obtain ⟨r22, er22, h⟩ := bd_elim h
          refine n_belVi B (pc' := 445) [] (k_X2_playing _ _ _ a S er22) gv_RL_103 rfl np_X2_playing ⟨Nat.le_of_ble_eq_true rfl, Nat.le_of_ble_eq_true rfl⟩ ⟨by exact Nat.le_of_ble_eq_true rfl, by exact Nat.le_of_ble_eq_true rfl⟩ rfl (Nat.le_of_ble_eq_true rfl) dL_holds_442 rfl ?_
          obtain ⟨r23, er23, h⟩ := bn_elim h
          refine n_belVi B (pc' := 448) [.int r22] (k_X2_length _ _ _ a r22 S er23) gv_RL_11 rfl np_X2_length ⟨Nat.le_of_ble_eq_true rfl, Nat.le_of_ble_eq_true rfl⟩ ⟨by exact Nat.le_of_ble_eq_true rfl, by exact Nat.le_of_ble_eq_true rfl⟩ rfl (Nat.le_of_ble_eq_true rfl) dL_holds_445 rfl ?_
          refine x_icmp_gt B 455 451 dL_holds_448 (by decide) rfl (fun hc24 => ?_) (fun hc24 => ?_)
          · replace h := ite_t hc24 h
            refine x_lv [0, 2, 3, 4, 5, 6] (lv' := [(0, .ref (a 0 0)), (2, .int x2), (3, .int x3), (4, .int x4), (5, .int x5), (6, .int x6)]) rfl ?_
            exact h455  _ _ _ _ _ h
          · replace h := ite_f hc24 h
            refine x_iconst B (pc' := 452) 1 dL_holds_451 (by decide) rfl ?_
            refine x_goto B (pc' := 456) dL_holds_452 (by decide) ?_
            refine x_lv [0, 2, 3, 4, 5, 6] (lv' := [(0, .ref (a 0 0)), (2, .int x2), (3, .int x3), (4, .int x4), (5, .int x5), (6, .int x6)]) rfl ?_
            exact h456  _ _ _ _ _ _ h
      · replace h := ite_t hc18 h
        refine x_aload_n B (pc' := 414) 0 dL_holds_413 rfl rfl rfl ?_
        obtain ⟨r25, er25, h⟩ := bd_elim h
        refine n_belVi B (pc' := 417) [] (k_X2_place _ _ _ a S er25) gv_RL_94 rfl np_X2_place ⟨Nat.le_of_ble_eq_true rfl, Nat.le_of_ble_eq_true rfl⟩ ⟨by exact Nat.le_of_ble_eq_true rfl, by exact Nat.le_of_ble_eq_true rfl⟩ rfl (Nat.le_of_ble_eq_true rfl) dL_holds_414 rfl ?_
        refine x_iconst B (pc' := 418) (-1) dL_holds_417 (by decide) rfl ?_
        refine x_icmp_ne B 425 421 dL_holds_418 (by decide) rfl (fun hc26 => ?_) (fun hc26 => ?_)
        · replace h := ite_f hc26 h
          refine x_iconst B (pc' := 426) 0 dL_holds_425 (by decide) rfl ?_
          refine x_goto B (pc' := 456) dL_holds_426 (by decide) ?_
          refine x_lv [0, 2, 3, 4, 5, 6] (lv' := [(0, .ref (a 0 0)), (2, .int x2), (3, .int x3), (4, .int x4), (5, .int x5), (6, .int x6)]) rfl ?_
          exact h456  _ _ _ _ _ _ h
        · replace h := ite_t hc26 h
          refine x_iconst B (pc' := 422) 1 dL_holds_421 (by decide) rfl ?_
          refine x_goto B (pc' := 456) dL_holds_422 (by decide) ?_
          refine x_lv [0, 2, 3, 4, 5, 6] (lv' := [(0, .ref (a 0 0)), (2, .int x2), (3, .int x3), (4, .int x4), (5, .int x5), (6, .int x6)]) rfl ?_
          exact h456  _ _ _ _ _ _ h
    · replace h := ite_f hc16 h
      refine x_iload B (pc' := 357) 6 dL_holds_355 rfl rfl ?_
      refine x_if_eq B 396 360 dL_holds_357 (by decide) rfl (fun hc27 => ?_) (fun hc27 => ?_)
      · replace h := ite_t hc27 h
        refine x_iconst B (pc' := 397) 0 dL_holds_396 (by decide) rfl ?_
        refine x_istore B (pc' := 399) [1, 2, 3, 4, 5, 6, 0, 7] [(0, .ref (a 0 0)), (1, .int x1), (2, .int x2), (3, .int x3), (4, .int x4), (5, .int x5), (6, .int (0 : Int32)), (7, .int x7)] dL_holds_397 (by decide) rfl rfl ?_
        obtain ⟨v28, ev28, h⟩ := nm_elim h
        refine x_iinc B (pc' := 402) v28 7 [1, 2, 3, 4, 5, 6, 7, 0] [(0, .ref (a 0 0)), (1, .int x1), (2, .int x2), (3, .int x3), (4, .int x4), (5, .int x5), (6, .int (0 : Int32)), (7, .int v28)] dL_holds_399 rfl (by rw [ev28]; rfl) (by decide) rfl rfl ?_
        refine x_goto B (pc' := 348) dL_holds_402 (by decide) ?_
        exact hK348 _ _ _ _ _ _ _ h
      · replace h := ite_f hc27 h
        refine x_aload_n B (pc' := 361) 0 dL_holds_360 rfl rfl rfl ?_
        refine x_iload B (pc' := 363) 7 dL_holds_361 rfl rfl ?_
        obtain ⟨r29, er29, h⟩ := bn_elim h
        refine n_belVi B (pc' := 366) [.int x7] (k_X2_owner _ _ _ a x7 S er29) gv_RL_30 rfl np_X2_owner ⟨Nat.le_of_ble_eq_true rfl, Nat.le_of_ble_eq_true rfl⟩ ⟨by exact Nat.le_of_ble_eq_true rfl, by exact Nat.le_of_ble_eq_true rfl⟩ rfl (Nat.le_of_ble_eq_true rfl) dL_holds_363 rfl ?_
        refine x_iconst B (pc' := 367) (-1) dL_holds_366 (by decide) rfl ?_
        refine x_icmp_ne B 374 370 dL_holds_367 (by decide) rfl (fun hc30 => ?_) (fun hc30 => ?_)
        · replace h := ite_f hc30 h
          refine x_iconst B (pc' := 375) 0 dL_holds_374 (by decide) rfl ?_
          refine x_lv [0, 1, 2, 3, 4, 5, 7] (lv' := [(0, .ref (a 0 0)), (1, .int x1), (2, .int x2), (3, .int x3), (4, .int x4), (5, .int x5), (7, .int x7)]) rfl ?_
          exact h375 K348 hK348 _ _ _ _ _ _ _ h
        · replace h := ite_t hc30 h
          refine x_iconst B (pc' := 371) 1 dL_holds_370 (by decide) rfl ?_
          refine x_goto B (pc' := 375) dL_holds_371 (by decide) ?_
          refine x_lv [0, 1, 2, 3, 4, 5, 7] (lv' := [(0, .ref (a 0 0)), (1, .int x1), (2, .int x2), (3, .int x3), (4, .int x4), (5, .int x5), (7, .int x7)]) rfl ?_
          exact h375 K348 hK348 _ _ _ _ _ _ _ h
  have h224 : ∀ (K55 : Int32 → Int32 → Int32 → Int32 → Int32 → Int32 → Int32 → Option Int32) (_ : ∀ x1 x2 x3 x4 x5 x6 x7, K55 x1 x2 x3 x4 x5 x6 x7 = some r9 → X Γ 12 0 0 55 [(0, .ref (a 0 0)), (1, .int x1), (2, .int x2), (3, .int x3), (4, .int x4), (5, .int x5), (6, .int x6), (7, .int x7)] [] (wB Γ.cs a S)) (K141 : Int32 → Int32 → Int32 → Int32 → Int32 → Int32 → Int32 → Int32 → Int32 → Option Int32) (_ : ∀ x1 x2 x3 x4 x5 x6 x7 x8 x10, K141 x1 x2 x3 x4 x5 x6 x7 x8 x10 = some r9 → X Γ 12 0 0 141 [(0, .ref (a 0 0)), (1, .int x1), (2, .int x2), (3, .int x3), (4, .int x4), (5, .int x5), (6, .int x6), (7, .int x7), (8, .int x8), (10, .int x10)] [] (wB Γ.cs a S)) (x1 : Int32) (x2 : Int32) (x3 : Int32) (x4 : Int32) (x5 : Int32) (x7 : Int32) (x8 : Int32) (x10 : Int32) (x11 : Int32) (t0 : Int32), c_L_holds_224 S K55 K141 x1 x2 x3 x4 x5 x7 x8 x10 x11 t0 = some r9 → X Γ 12 0 0 224 [(0, .ref (a 0 0)), (1, .int x1), (2, .int x2), (3, .int x3), (4, .int x4), (5, .int x5), (7, .int x7), (8, .int x8), (10, .int x10), (11, .int x11)] [.int t0] (wB Γ.cs a S) := by
    intro K55 hK55 K141 hK141 x1 x2 x3 x4 x5 x7 x8 x10 x11 t0 h
    unfold c_L_holds_224 at h
    refine x_istore B (pc' := 226) [1, 2, 3, 4, 5, 6, 0, 7, 8, 9, 10] [(0, .ref (a 0 0)), (1, .int x1), (2, .int x2), (3, .int x3), (4, .int x4), (5, .int x5), (6, .int t0), (7, .int x7), (8, .int x8), (10, .int x10), (11, .int x11)] dL_holds_224 (by decide) rfl rfl ?_
    refine x_iload_n B (pc' := 227) 1 dL_holds_226 rfl rfl rfl ?_
    refine x_iconst B (pc' := 228) 1 dL_holds_227 (by decide) rfl ?_
    refine x_iload B (pc' := 230) 10 dL_holds_228 rfl rfl ?_
    refine x_ishl B (pc' := 231) dL_holds_230 rfl ?_
    refine x_ior B (pc' := 232) dL_holds_231 rfl ?_
    obtain ⟨v89, ev89, h⟩ := nm_elim h
    refine x_topi ev89 ?_
    refine x_istore_n B (pc' := 233) [1, 0, 2, 3, 4, 5, 6, 7, 8, 9, 10] [(0, .ref (a 0 0)), (1, .int v89), (2, .int x2), (3, .int x3), (4, .int x4), (5, .int x5), (6, .int t0), (7, .int x7), (8, .int x8), (10, .int x10), (11, .int x11)] dL_holds_232 rfl (by decide) rfl rfl ?_
    refine x_iload B (pc' := 235) 4 dL_holds_233 rfl rfl ?_
    refine x_aload_n B (pc' := 236) 0 dL_holds_235 rfl rfl rfl ?_
    refine x_iload B (pc' := 238) 7 dL_holds_236 rfl rfl ?_
    refine x_iload B (pc' := 240) 9 dL_holds_238 rfl rfl ?_
    obtain ⟨r90, er90, h⟩ := bn_elim h
    refine n_belVi B (pc' := 243) [.int x7, .int x10] (k_X2_sound _ _ _ a x7 x10 S er90) gv_RL_24 rfl np_X2_sound ⟨Nat.le_of_ble_eq_true rfl, Nat.le_of_ble_eq_true rfl⟩ ⟨by exact Nat.le_of_ble_eq_true rfl, by exact Nat.le_of_ble_eq_true rfl⟩ rfl (Nat.le_of_ble_eq_true rfl) dL_holds_240 rfl ?_
    refine x_aload_n B (pc' := 244) 0 dL_holds_243 rfl rfl rfl ?_
    refine x_iload B (pc' := 246) 7 dL_holds_244 rfl rfl ?_
    refine x_iload B (pc' := 248) 9 dL_holds_246 rfl rfl ?_
    obtain ⟨r91, er91, h⟩ := bn_elim h
    refine n_belVi B (pc' := 251) [.int x7, .int x10] (k_X2_carbon _ _ _ a x7 x10 S er91) gv_RL_27 rfl np_X2_carbon ⟨Nat.le_of_ble_eq_true rfl, Nat.le_of_ble_eq_true rfl⟩ ⟨by exact Nat.le_of_ble_eq_true rfl, by exact Nat.le_of_ble_eq_true rfl⟩ rfl (Nat.le_of_ble_eq_true rfl) dL_holds_248 rfl ?_
    refine x_icmp_ne B 258 254 dL_holds_251 (by decide) rfl (fun hc92 => ?_) (fun hc92 => ?_)
    · replace h := ite_f hc92 h
      refine x_iconst B (pc' := 259) 1 dL_holds_258 (by decide) rfl ?_
      refine x_iadd B (pc' := 260) dL_holds_259 rfl ?_
      obtain ⟨v93, ev93, h⟩ := nm_elim h
      refine x_topi ev93 ?_
      refine x_istore B (pc' := 262) [1, 2, 3, 4, 0, 5, 6, 7, 8, 9, 10] [(0, .ref (a 0 0)), (1, .int v89), (2, .int x2), (3, .int x3), (4, .int v93), (5, .int x5), (6, .int t0), (7, .int x7), (8, .int x8), (10, .int x10), (11, .int x11)] dL_holds_260 (by decide) rfl rfl ?_
      obtain ⟨v94, ev94, h⟩ := nm_elim h
      refine x_iinc B (pc' := 265) v94 9 [1, 2, 3, 4, 5, 6, 7, 8, 9, 0, 10] [(0, .ref (a 0 0)), (1, .int v89), (2, .int x2), (3, .int x3), (4, .int v93), (5, .int x5), (6, .int t0), (7, .int x7), (8, .int x8), (10, .int v94), (11, .int x11)] dL_holds_262 rfl (by rw [ev94]; rfl) (by decide) rfl rfl ?_
      refine x_goto B (pc' := 141) dL_holds_265 (by decide) ?_
      refine x_lv [0, 1, 2, 3, 4, 5, 6, 7, 8, 9] (lv' := [(0, .ref (a 0 0)), (1, .int v89), (2, .int x2), (3, .int x3), (4, .int v93), (5, .int x5), (6, .int t0), (7, .int x7), (8, .int x8), (10, .int v94)]) rfl ?_
      exact hK141 _ _ _ _ _ _ _ _ _ h
    · replace h := ite_t hc92 h
      refine x_iconst B (pc' := 255) 0 dL_holds_254 (by decide) rfl ?_
      refine x_goto B (pc' := 259) dL_holds_255 (by decide) ?_
      refine x_iadd B (pc' := 260) dL_holds_259 rfl ?_
      obtain ⟨v95, ev95, h⟩ := nm_elim h
      refine x_topi ev95 ?_
      refine x_istore B (pc' := 262) [1, 2, 3, 4, 0, 5, 6, 7, 8, 9, 10] [(0, .ref (a 0 0)), (1, .int v89), (2, .int x2), (3, .int x3), (4, .int v95), (5, .int x5), (6, .int t0), (7, .int x7), (8, .int x8), (10, .int x10), (11, .int x11)] dL_holds_260 (by decide) rfl rfl ?_
      obtain ⟨v96, ev96, h⟩ := nm_elim h
      refine x_iinc B (pc' := 265) v96 9 [1, 2, 3, 4, 5, 6, 7, 8, 9, 0, 10] [(0, .ref (a 0 0)), (1, .int v89), (2, .int x2), (3, .int x3), (4, .int v95), (5, .int x5), (6, .int t0), (7, .int x7), (8, .int x8), (10, .int v96), (11, .int x11)] dL_holds_262 rfl (by rw [ev96]; rfl) (by decide) rfl rfl ?_
      refine x_goto B (pc' := 141) dL_holds_265 (by decide) ?_
      refine x_lv [0, 1, 2, 3, 4, 5, 6, 7, 8, 9] (lv' := [(0, .ref (a 0 0)), (1, .int v89), (2, .int x2), (3, .int x3), (4, .int v95), (5, .int x5), (6, .int t0), (7, .int x7), (8, .int x8), (10, .int v96)]) rfl ?_
      exact hK141 _ _ _ _ _ _ _ _ _ h
  have h223 : ∀ (K55 : Int32 → Int32 → Int32 → Int32 → Int32 → Int32 → Int32 → Option Int32) (_ : ∀ x1 x2 x3 x4 x5 x6 x7, K55 x1 x2 x3 x4 x5 x6 x7 = some r9 → X Γ 12 0 0 55 [(0, .ref (a 0 0)), (1, .int x1), (2, .int x2), (3, .int x3), (4, .int x4), (5, .int x5), (6, .int x6), (7, .int x7)] [] (wB Γ.cs a S)) (K141 : Int32 → Int32 → Int32 → Int32 → Int32 → Int32 → Int32 → Int32 → Int32 → Option Int32) (_ : ∀ x1 x2 x3 x4 x5 x6 x7 x8 x10, K141 x1 x2 x3 x4 x5 x6 x7 x8 x10 = some r9 → X Γ 12 0 0 141 [(0, .ref (a 0 0)), (1, .int x1), (2, .int x2), (3, .int x3), (4, .int x4), (5, .int x5), (6, .int x6), (7, .int x7), (8, .int x8), (10, .int x10)] [] (wB Γ.cs a S)) (x1 : Int32) (x2 : Int32) (x3 : Int32) (x4 : Int32) (x5 : Int32) (x7 : Int32) (x8 : Int32) (x10 : Int32) (x11 : Int32), c_L_holds_223 S K55 K141 x1 x2 x3 x4 x5 x7 x8 x10 x11 = some r9 → X Γ 12 0 0 223 [(0, .ref (a 0 0)), (1, .int x1), (2, .int x2), (3, .int x3), (4, .int x4), (5, .int x5), (7, .int x7), (8, .int x8), (10, .int x10), (11, .int x11)] [] (wB Γ.cs a S) := by
    intro K55 hK55 K141 hK141 x1 x2 x3 x4 x5 x7 x8 x10 x11 h
    unfold c_L_holds_223 at h
    refine x_iconst B (pc' := 224) 0 dL_holds_223 (by decide) rfl ?_
    exact h224 K55 hK55 K141 hK141 _ _ _ _ _ _ _ _ _ _ h
  have h141 : ∀ (K55 : Int32 → Int32 → Int32 → Int32 → Int32 → Int32 → Int32 → Option Int32) (_ : ∀ x1 x2 x3 x4 x5 x6 x7, K55 x1 x2 x3 x4 x5 x6 x7 = some r9 → X Γ 12 0 0 55 [(0, .ref (a 0 0)), (1, .int x1), (2, .int x2), (3, .int x3), (4, .int x4), (5, .int x5), (6, .int x6), (7, .int x7)] [] (wB Γ.cs a S)) (n9 : Nat) (x1 : Int32) (x2 : Int32) (x3 : Int32) (x4 : Int32) (x5 : Int32) (x6 : Int32) (x7 : Int32) (x8 : Int32) (x10 : Int32), lpf9 (b_L_holds_141 S K55) n9 x1 x2 x3 x4 x5 x6 x7 x8 x10 = some r9 → X Γ 12 0 0 141 [(0, .ref (a 0 0)), (1, .int x1), (2, .int x2), (3, .int x3), (4, .int x4), (5, .int x5), (6, .int x6), (7, .int x7), (8, .int x8), (10, .int x10)] [] (wB Γ.cs a S) := by
    intro K55 hK55
    refine lpf9_ind (fun K141 hK141 x1 x2 x3 x4 x5 x6 x7 x8 x10 h => ?_)
    unfold b_L_holds_141 at h
    refine x_iload B (pc' := 143) 9 dL_holds_141 rfl rfl ?_
    refine x_iload B (pc' := 145) 8 dL_holds_143 rfl rfl ?_
    refine x_icmp_ge B 268 148 dL_holds_145 (by decide) rfl (fun hc52 => ?_) (fun hc52 => ?_)
    · replace h := ite_t hc52 h
      refine x_iload B (pc' := 270) 6 dL_holds_268 rfl rfl ?_
      refine x_if_eq B 336 273 dL_holds_270 (by decide) rfl (fun hc53 => ?_) (fun hc53 => ?_)
      · replace h := ite_t hc53 h
        refine x_iconst B (pc' := 337) 0 dL_holds_336 (by decide) rfl ?_
        refine x_istore B (pc' := 339) [1, 2, 3, 4, 5, 6, 0, 7, 8, 9] [(0, .ref (a 0 0)), (1, .int x1), (2, .int x2), (3, .int x3), (4, .int x4), (5, .int x5), (6, .int (0 : Int32)), (7, .int x7), (8, .int x8), (10, .int x10)] dL_holds_337 (by decide) rfl rfl ?_
        obtain ⟨v54, ev54, h⟩ := nm_elim h
        refine x_iinc B (pc' := 342) v54 7 [1, 2, 3, 4, 5, 6, 7, 0, 8, 9] [(0, .ref (a 0 0)), (1, .int x1), (2, .int x2), (3, .int x3), (4, .int x4), (5, .int x5), (6, .int (0 : Int32)), (7, .int v54), (8, .int x8), (10, .int x10)] dL_holds_339 rfl (by rw [ev54]; rfl) (by decide) rfl rfl ?_
        refine x_goto B (pc' := 55) dL_holds_342 (by decide) ?_
        refine x_lv [0, 1, 2, 3, 4, 5, 6, 7] (lv' := [(0, .ref (a 0 0)), (1, .int x1), (2, .int x2), (3, .int x3), (4, .int x4), (5, .int x5), (6, .int (0 : Int32)), (7, .int v54)]) rfl ?_
        exact hK55 _ _ _ _ _ _ _ h
      · replace h := ite_f hc53 h
        refine x_aload_n B (pc' := 274) 0 dL_holds_273 rfl rfl rfl ?_
        refine x_iload B (pc' := 276) 7 dL_holds_274 rfl rfl ?_
        refine x_iload B (pc' := 278) 8 dL_holds_276 rfl rfl ?_
        obtain ⟨r55, er55, h⟩ := bn_elim h
        refine n_belVi B (pc' := 281) [.int x7, .int x8] (k_X2_cellOf _ _ _ a x7 x8 S er55) gv_RL_20 rfl np_X2_cellOf ⟨Nat.le_of_ble_eq_true rfl, Nat.le_of_ble_eq_true rfl⟩ ⟨by exact Nat.le_of_ble_eq_true rfl, by exact Nat.le_of_ble_eq_true rfl⟩ rfl (Nat.le_of_ble_eq_true rfl) dL_holds_278 rfl ?_
        refine x_iconst B (pc' := 282) (-1) dL_holds_281 (by decide) rfl ?_
        refine x_icmp_ne B 336 285 dL_holds_282 (by decide) rfl (fun hc56 => ?_) (fun hc56 => ?_)
        · replace h := ite_f hc56 h
          refine x_iconst B (pc' := 337) 0 dL_holds_336 (by decide) rfl ?_
          refine x_istore B (pc' := 339) [1, 2, 3, 4, 5, 6, 0, 7, 8, 9] [(0, .ref (a 0 0)), (1, .int x1), (2, .int x2), (3, .int x3), (4, .int x4), (5, .int x5), (6, .int (0 : Int32)), (7, .int x7), (8, .int x8), (10, .int x10)] dL_holds_337 (by decide) rfl rfl ?_
          obtain ⟨v57, ev57, h⟩ := nm_elim h
          refine x_iinc B (pc' := 342) v57 7 [1, 2, 3, 4, 5, 6, 7, 0, 8, 9] [(0, .ref (a 0 0)), (1, .int x1), (2, .int x2), (3, .int x3), (4, .int x4), (5, .int x5), (6, .int (0 : Int32)), (7, .int v57), (8, .int x8), (10, .int x10)] dL_holds_339 rfl (by rw [ev57]; rfl) (by decide) rfl rfl ?_
          refine x_goto B (pc' := 55) dL_holds_342 (by decide) ?_
          refine x_lv [0, 1, 2, 3, 4, 5, 6, 7] (lv' := [(0, .ref (a 0 0)), (1, .int x1), (2, .int x2), (3, .int x3), (4, .int x4), (5, .int x5), (6, .int (0 : Int32)), (7, .int v57)]) rfl ?_
          exact hK55 _ _ _ _ _ _ _ h
        · replace h := ite_t hc56 h
          refine x_aload_n B (pc' := 286) 0 dL_holds_285 rfl rfl rfl ?_
          refine x_iload B (pc' := 288) 7 dL_holds_286 rfl rfl ?_
          refine x_iload B (pc' := 290) 8 dL_holds_288 rfl rfl ?_
          obtain ⟨r58, er58, h⟩ := bn_elim h
          refine n_belVi B (pc' := 293) [.int x7, .int x8] (k_X2_sound _ _ _ a x7 x8 S er58) gv_RL_24 rfl np_X2_sound ⟨Nat.le_of_ble_eq_true rfl, Nat.le_of_ble_eq_true rfl⟩ ⟨by exact Nat.le_of_ble_eq_true rfl, by exact Nat.le_of_ble_eq_true rfl⟩ rfl (Nat.le_of_ble_eq_true rfl) dL_holds_290 rfl ?_
          refine x_iconst B (pc' := 294) (-1) dL_holds_293 (by decide) rfl ?_
          refine x_icmp_ne B 336 297 dL_holds_294 (by decide) rfl (fun hc59 => ?_) (fun hc59 => ?_)
          · replace h := ite_f hc59 h
            refine x_iconst B (pc' := 337) 0 dL_holds_336 (by decide) rfl ?_
            refine x_istore B (pc' := 339) [1, 2, 3, 4, 5, 6, 0, 7, 8, 9] [(0, .ref (a 0 0)), (1, .int x1), (2, .int x2), (3, .int x3), (4, .int x4), (5, .int x5), (6, .int (0 : Int32)), (7, .int x7), (8, .int x8), (10, .int x10)] dL_holds_337 (by decide) rfl rfl ?_
            obtain ⟨v60, ev60, h⟩ := nm_elim h
            refine x_iinc B (pc' := 342) v60 7 [1, 2, 3, 4, 5, 6, 7, 0, 8, 9] [(0, .ref (a 0 0)), (1, .int x1), (2, .int x2), (3, .int x3), (4, .int x4), (5, .int x5), (6, .int (0 : Int32)), (7, .int v60), (8, .int x8), (10, .int x10)] dL_holds_339 rfl (by rw [ev60]; rfl) (by decide) rfl rfl ?_
            refine x_goto B (pc' := 55) dL_holds_342 (by decide) ?_
            refine x_lv [0, 1, 2, 3, 4, 5, 6, 7] (lv' := [(0, .ref (a 0 0)), (1, .int x1), (2, .int x2), (3, .int x3), (4, .int x4), (5, .int x5), (6, .int (0 : Int32)), (7, .int v60)]) rfl ?_
            exact hK55 _ _ _ _ _ _ _ h
          · replace h := ite_t hc59 h
            refine x_aload_n B (pc' := 298) 0 dL_holds_297 rfl rfl rfl ?_
            refine x_iload B (pc' := 300) 7 dL_holds_298 rfl rfl ?_
            refine x_iload B (pc' := 302) 8 dL_holds_300 rfl rfl ?_
            obtain ⟨r61, er61, h⟩ := bn_elim h
            refine n_belVi B (pc' := 305) [.int x7, .int x8] (k_X2_carbon _ _ _ a x7 x8 S er61) gv_RL_27 rfl np_X2_carbon ⟨Nat.le_of_ble_eq_true rfl, Nat.le_of_ble_eq_true rfl⟩ ⟨by exact Nat.le_of_ble_eq_true rfl, by exact Nat.le_of_ble_eq_true rfl⟩ rfl (Nat.le_of_ble_eq_true rfl) dL_holds_302 rfl ?_
            refine x_iconst B (pc' := 306) (-1) dL_holds_305 (by decide) rfl ?_
            refine x_icmp_ne B 336 309 dL_holds_306 (by decide) rfl (fun hc62 => ?_) (fun hc62 => ?_)
            · replace h := ite_f hc62 h
              refine x_iconst B (pc' := 337) 0 dL_holds_336 (by decide) rfl ?_
              refine x_istore B (pc' := 339) [1, 2, 3, 4, 5, 6, 0, 7, 8, 9] [(0, .ref (a 0 0)), (1, .int x1), (2, .int x2), (3, .int x3), (4, .int x4), (5, .int x5), (6, .int (0 : Int32)), (7, .int x7), (8, .int x8), (10, .int x10)] dL_holds_337 (by decide) rfl rfl ?_
              obtain ⟨v63, ev63, h⟩ := nm_elim h
              refine x_iinc B (pc' := 342) v63 7 [1, 2, 3, 4, 5, 6, 7, 0, 8, 9] [(0, .ref (a 0 0)), (1, .int x1), (2, .int x2), (3, .int x3), (4, .int x4), (5, .int x5), (6, .int (0 : Int32)), (7, .int v63), (8, .int x8), (10, .int x10)] dL_holds_339 rfl (by rw [ev63]; rfl) (by decide) rfl rfl ?_
              refine x_goto B (pc' := 55) dL_holds_342 (by decide) ?_
              refine x_lv [0, 1, 2, 3, 4, 5, 6, 7] (lv' := [(0, .ref (a 0 0)), (1, .int x1), (2, .int x2), (3, .int x3), (4, .int x4), (5, .int x5), (6, .int (0 : Int32)), (7, .int v63)]) rfl ?_
              exact hK55 _ _ _ _ _ _ _ h
            · replace h := ite_t hc62 h
              refine x_aload_n B (pc' := 310) 0 dL_holds_309 rfl rfl rfl ?_
              refine x_iload B (pc' := 312) 7 dL_holds_310 rfl rfl ?_
              obtain ⟨r64, er64, h⟩ := bn_elim h
              refine n_belVi B (pc' := 315) [.int x7] (k_X2_lost _ _ _ a x7 S er64) gv_RL_17 rfl np_X2_lost ⟨Nat.le_of_ble_eq_true rfl, Nat.le_of_ble_eq_true rfl⟩ ⟨by exact Nat.le_of_ble_eq_true rfl, by exact Nat.le_of_ble_eq_true rfl⟩ rfl (Nat.le_of_ble_eq_true rfl) dL_holds_312 rfl ?_
              refine x_if_lt B 336 318 dL_holds_315 (by decide) rfl (fun hc65 => ?_) (fun hc65 => ?_)
              · replace h := ite_t hc65 h
                refine x_iconst B (pc' := 337) 0 dL_holds_336 (by decide) rfl ?_
                refine x_istore B (pc' := 339) [1, 2, 3, 4, 5, 6, 0, 7, 8, 9] [(0, .ref (a 0 0)), (1, .int x1), (2, .int x2), (3, .int x3), (4, .int x4), (5, .int x5), (6, .int (0 : Int32)), (7, .int x7), (8, .int x8), (10, .int x10)] dL_holds_337 (by decide) rfl rfl ?_
                obtain ⟨v66, ev66, h⟩ := nm_elim h
                refine x_iinc B (pc' := 342) v66 7 [1, 2, 3, 4, 5, 6, 7, 0, 8, 9] [(0, .ref (a 0 0)), (1, .int x1), (2, .int x2), (3, .int x3), (4, .int x4), (5, .int x5), (6, .int (0 : Int32)), (7, .int v66), (8, .int x8), (10, .int x10)] dL_holds_339 rfl (by rw [ev66]; rfl) (by decide) rfl rfl ?_
                refine x_goto B (pc' := 55) dL_holds_342 (by decide) ?_
                refine x_lv [0, 1, 2, 3, 4, 5, 6, 7] (lv' := [(0, .ref (a 0 0)), (1, .int x1), (2, .int x2), (3, .int x3), (4, .int x4), (5, .int x5), (6, .int (0 : Int32)), (7, .int v66)]) rfl ?_
                exact hK55 _ _ _ _ _ _ _ h
              · replace h := ite_f hc65 h
                refine x_iload B (pc' := 320) 8 dL_holds_318 rfl rfl ?_
                refine x_if_gt B 332 323 dL_holds_320 (by decide) rfl (fun hc67 => ?_) (fun hc67 => ?_)
                · replace h := ite_t hc67 h
                  refine x_iconst B (pc' := 333) 1 dL_holds_332 (by decide) rfl ?_
                  refine x_goto B (pc' := 337) dL_holds_333 (by decide) ?_
                  refine x_istore B (pc' := 339) [1, 2, 3, 4, 5, 6, 0, 7, 8, 9] [(0, .ref (a 0 0)), (1, .int x1), (2, .int x2), (3, .int x3), (4, .int x4), (5, .int x5), (6, .int (1 : Int32)), (7, .int x7), (8, .int x8), (10, .int x10)] dL_holds_337 (by decide) rfl rfl ?_
                  obtain ⟨v68, ev68, h⟩ := nm_elim h
                  refine x_iinc B (pc' := 342) v68 7 [1, 2, 3, 4, 5, 6, 7, 0, 8, 9] [(0, .ref (a 0 0)), (1, .int x1), (2, .int x2), (3, .int x3), (4, .int x4), (5, .int x5), (6, .int (1 : Int32)), (7, .int v68), (8, .int x8), (10, .int x10)] dL_holds_339 rfl (by rw [ev68]; rfl) (by decide) rfl rfl ?_
                  refine x_goto B (pc' := 55) dL_holds_342 (by decide) ?_
                  refine x_lv [0, 1, 2, 3, 4, 5, 6, 7] (lv' := [(0, .ref (a 0 0)), (1, .int x1), (2, .int x2), (3, .int x3), (4, .int x4), (5, .int x5), (6, .int (1 : Int32)), (7, .int v68)]) rfl ?_
                  exact hK55 _ _ _ _ _ _ _ h
                · replace h := ite_f hc67 h
                  refine x_iload B (pc' := 325) 7 dL_holds_323 rfl rfl ?_
                  refine x_aload_n B (pc' := 326) 0 dL_holds_325 rfl rfl rfl ?_
                  obtain ⟨r69, er69, h⟩ := bd_elim h
                  refine n_belVi B (pc' := 329) [] (k_X2_running _ _ _ a S er69) gv_RL_33 rfl np_X2_running ⟨Nat.le_of_ble_eq_true rfl, Nat.le_of_ble_eq_true rfl⟩ ⟨by exact Nat.le_of_ble_eq_true rfl, by exact Nat.le_of_ble_eq_true rfl⟩ rfl (Nat.le_of_ble_eq_true rfl) dL_holds_326 rfl ?_
                  refine x_icmp_ne B 336 332 dL_holds_329 (by decide) rfl (fun hc70 => ?_) (fun hc70 => ?_)
                  · replace h := ite_f hc70 h
                    refine x_iconst B (pc' := 337) 0 dL_holds_336 (by decide) rfl ?_
                    refine x_istore B (pc' := 339) [1, 2, 3, 4, 5, 6, 0, 7, 8, 9] [(0, .ref (a 0 0)), (1, .int x1), (2, .int x2), (3, .int x3), (4, .int x4), (5, .int x5), (6, .int (0 : Int32)), (7, .int x7), (8, .int x8), (10, .int x10)] dL_holds_337 (by decide) rfl rfl ?_
                    obtain ⟨v71, ev71, h⟩ := nm_elim h
                    refine x_iinc B (pc' := 342) v71 7 [1, 2, 3, 4, 5, 6, 7, 0, 8, 9] [(0, .ref (a 0 0)), (1, .int x1), (2, .int x2), (3, .int x3), (4, .int x4), (5, .int x5), (6, .int (0 : Int32)), (7, .int v71), (8, .int x8), (10, .int x10)] dL_holds_339 rfl (by rw [ev71]; rfl) (by decide) rfl rfl ?_
                    refine x_goto B (pc' := 55) dL_holds_342 (by decide) ?_
                    refine x_lv [0, 1, 2, 3, 4, 5, 6, 7] (lv' := [(0, .ref (a 0 0)), (1, .int x1), (2, .int x2), (3, .int x3), (4, .int x4), (5, .int x5), (6, .int (0 : Int32)), (7, .int v71)]) rfl ?_
                    exact hK55 _ _ _ _ _ _ _ h
                  · replace h := ite_t hc70 h
                    refine x_iconst B (pc' := 333) 1 dL_holds_332 (by decide) rfl ?_
                    refine x_goto B (pc' := 337) dL_holds_333 (by decide) ?_
                    refine x_istore B (pc' := 339) [1, 2, 3, 4, 5, 6, 0, 7, 8, 9] [(0, .ref (a 0 0)), (1, .int x1), (2, .int x2), (3, .int x3), (4, .int x4), (5, .int x5), (6, .int (1 : Int32)), (7, .int x7), (8, .int x8), (10, .int x10)] dL_holds_337 (by decide) rfl rfl ?_
                    obtain ⟨v72, ev72, h⟩ := nm_elim h
                    refine x_iinc B (pc' := 342) v72 7 [1, 2, 3, 4, 5, 6, 7, 0, 8, 9] [(0, .ref (a 0 0)), (1, .int x1), (2, .int x2), (3, .int x3), (4, .int x4), (5, .int x5), (6, .int (1 : Int32)), (7, .int v72), (8, .int x8), (10, .int x10)] dL_holds_339 rfl (by rw [ev72]; rfl) (by decide) rfl rfl ?_
                    refine x_goto B (pc' := 55) dL_holds_342 (by decide) ?_
                    refine x_lv [0, 1, 2, 3, 4, 5, 6, 7] (lv' := [(0, .ref (a 0 0)), (1, .int x1), (2, .int x2), (3, .int x3), (4, .int x4), (5, .int x5), (6, .int (1 : Int32)), (7, .int v72)]) rfl ?_
                    exact hK55 _ _ _ _ _ _ _ h
    · replace h := ite_f hc52 h
      refine x_aload_n B (pc' := 149) 0 dL_holds_148 rfl rfl rfl ?_
      refine x_iload B (pc' := 151) 7 dL_holds_149 rfl rfl ?_
      refine x_iload B (pc' := 153) 9 dL_holds_151 rfl rfl ?_
      obtain ⟨r73, er73, h⟩ := bn_elim h
      refine n_belVi B (pc' := 156) [.int x7, .int x10] (k_X2_cellOf _ _ _ a x7 x10 S er73) gv_RL_20 rfl np_X2_cellOf ⟨Nat.le_of_ble_eq_true rfl, Nat.le_of_ble_eq_true rfl⟩ ⟨by exact Nat.le_of_ble_eq_true rfl, by exact Nat.le_of_ble_eq_true rfl⟩ rfl (Nat.le_of_ble_eq_true rfl) dL_holds_153 rfl ?_
      refine x_istore B (pc' := 158) [1, 2, 3, 4, 5, 6, 7, 8, 9, 10, 0] [(0, .ref (a 0 0)), (1, .int x1), (2, .int x2), (3, .int x3), (4, .int x4), (5, .int x5), (6, .int x6), (7, .int x7), (8, .int x8), (10, .int x10), (11, .int r73)] dL_holds_156 (by decide) rfl rfl ?_
      refine x_iload B (pc' := 160) 6 dL_holds_158 rfl rfl ?_
      refine x_if_eq B 223 163 dL_holds_160 (by decide) rfl (fun hc74 => ?_) (fun hc74 => ?_)
      · replace h := ite_t hc74 h
        refine x_lv [0, 1, 2, 3, 4, 5, 7, 8, 9, 10] (lv' := [(0, .ref (a 0 0)), (1, .int x1), (2, .int x2), (3, .int x3), (4, .int x4), (5, .int x5), (7, .int x7), (8, .int x8), (10, .int x10), (11, .int r73)]) rfl ?_
        exact h223 K55 hK55 K141 hK141 _ _ _ _ _ _ _ _ _ h
      · replace h := ite_f hc74 h
        refine x_iload B (pc' := 165) 10 dL_holds_163 rfl rfl ?_
        refine x_if_lt B 223 168 dL_holds_165 (by decide) rfl (fun hc75 => ?_) (fun hc75 => ?_)
        · replace h := ite_t hc75 h
          refine x_lv [0, 1, 2, 3, 4, 5, 7, 8, 9, 10] (lv' := [(0, .ref (a 0 0)), (1, .int x1), (2, .int x2), (3, .int x3), (4, .int x4), (5, .int x5), (7, .int x7), (8, .int x8), (10, .int x10), (11, .int r73)]) rfl ?_
          exact h223 K55 hK55 K141 hK141 _ _ _ _ _ _ _ _ _ h
        · replace h := ite_f hc75 h
          refine x_iload B (pc' := 170) 10 dL_holds_168 rfl rfl ?_
          refine x_bipush B (pc' := 172) 32 dL_holds_170 (by decide) rfl ?_
          refine x_icmp_ge B 223 175 dL_holds_172 (by decide) rfl (fun hc76 => ?_) (fun hc76 => ?_)
          · replace h := ite_t hc76 h
            refine x_lv [0, 1, 2, 3, 4, 5, 7, 8, 9, 10] (lv' := [(0, .ref (a 0 0)), (1, .int x1), (2, .int x2), (3, .int x3), (4, .int x4), (5, .int x5), (7, .int x7), (8, .int x8), (10, .int x10), (11, .int r73)]) rfl ?_
            exact h223 K55 hK55 K141 hK141 _ _ _ _ _ _ _ _ _ h
          · replace h := ite_f hc76 h
            refine x_iload_n B (pc' := 176) 1 dL_holds_175 rfl rfl rfl ?_
            refine x_iload B (pc' := 178) 10 dL_holds_176 rfl rfl ?_
            refine x_ishr B (pc' := 179) dL_holds_178 rfl ?_
            refine x_iconst B (pc' := 180) 1 dL_holds_179 (by decide) rfl ?_
            refine x_iand B (pc' := 181) dL_holds_180 rfl ?_
            refine x_if_ne B 223 184 dL_holds_181 (by decide) rfl (fun hc77 => ?_) (fun hc77 => ?_)
            · replace h := ite_f hc77 h
              refine x_lv [0, 1, 2, 3, 4, 5, 7, 8, 9, 10] (lv' := [(0, .ref (a 0 0)), (1, .int x1), (2, .int x2), (3, .int x3), (4, .int x4), (5, .int x5), (7, .int x7), (8, .int x8), (10, .int x10), (11, .int r73)]) rfl ?_
              exact h223 K55 hK55 K141 hK141 _ _ _ _ _ _ _ _ _ h
            · replace h := ite_t hc77 h
              refine x_aload_n B (pc' := 185) 0 dL_holds_184 rfl rfl rfl ?_
              refine x_iload B (pc' := 187) 10 dL_holds_185 rfl rfl ?_
              obtain ⟨r78, er78, h⟩ := bn_elim h
              refine n_belVi B (pc' := 190) [.int r73] (k_X2_owner _ _ _ a r73 S er78) gv_RL_30 rfl np_X2_owner ⟨Nat.le_of_ble_eq_true rfl, Nat.le_of_ble_eq_true rfl⟩ ⟨by exact Nat.le_of_ble_eq_true rfl, by exact Nat.le_of_ble_eq_true rfl⟩ rfl (Nat.le_of_ble_eq_true rfl) dL_holds_187 rfl ?_
              refine x_iload B (pc' := 192) 7 dL_holds_190 rfl rfl ?_
              refine x_icmp_ne B 223 195 dL_holds_192 (by decide) rfl (fun hc79 => ?_) (fun hc79 => ?_)
              · replace h := ite_f hc79 h
                refine x_lv [0, 1, 2, 3, 4, 5, 7, 8, 9, 10] (lv' := [(0, .ref (a 0 0)), (1, .int x1), (2, .int x2), (3, .int x3), (4, .int x4), (5, .int x5), (7, .int x7), (8, .int x8), (10, .int x10), (11, .int r73)]) rfl ?_
                exact h223 K55 hK55 K141 hK141 _ _ _ _ _ _ _ _ _ h
              · replace h := ite_t hc79 h
                refine x_aload_n B (pc' := 196) 0 dL_holds_195 rfl rfl rfl ?_
                refine x_iload B (pc' := 198) 7 dL_holds_196 rfl rfl ?_
                refine x_iload B (pc' := 200) 9 dL_holds_198 rfl rfl ?_
                obtain ⟨r80, er80, h⟩ := bn_elim h
                refine n_belVi B (pc' := 203) [.int x7, .int x10] (k_X2_sound _ _ _ a x7 x10 S er80) gv_RL_24 rfl np_X2_sound ⟨Nat.le_of_ble_eq_true rfl, Nat.le_of_ble_eq_true rfl⟩ ⟨by exact Nat.le_of_ble_eq_true rfl, by exact Nat.le_of_ble_eq_true rfl⟩ rfl (Nat.le_of_ble_eq_true rfl) dL_holds_200 rfl ?_
                refine x_if_lt B 223 206 dL_holds_203 (by decide) rfl (fun hc81 => ?_) (fun hc81 => ?_)
                · replace h := ite_t hc81 h
                  refine x_lv [0, 1, 2, 3, 4, 5, 7, 8, 9, 10] (lv' := [(0, .ref (a 0 0)), (1, .int x1), (2, .int x2), (3, .int x3), (4, .int x4), (5, .int x5), (7, .int x7), (8, .int x8), (10, .int x10), (11, .int r73)]) rfl ?_
                  exact h223 K55 hK55 K141 hK141 _ _ _ _ _ _ _ _ _ h
                · replace h := ite_f hc81 h
                  refine x_aload_n B (pc' := 207) 0 dL_holds_206 rfl rfl rfl ?_
                  refine x_iload B (pc' := 209) 7 dL_holds_207 rfl rfl ?_
                  refine x_iload B (pc' := 211) 9 dL_holds_209 rfl rfl ?_
                  obtain ⟨r82, er82, h⟩ := bn_elim h
                  refine n_belVi B (pc' := 214) [.int x7, .int x10] (k_X2_sound _ _ _ a x7 x10 S er82) gv_RL_24 rfl np_X2_sound ⟨Nat.le_of_ble_eq_true rfl, Nat.le_of_ble_eq_true rfl⟩ ⟨by exact Nat.le_of_ble_eq_true rfl, by exact Nat.le_of_ble_eq_true rfl⟩ rfl (Nat.le_of_ble_eq_true rfl) dL_holds_211 rfl ?_
                  refine x_bipush B (pc' := 216) 99 dL_holds_214 (by decide) rfl ?_
                  refine x_icmp_gt B 223 219 dL_holds_216 (by decide) rfl (fun hc83 => ?_) (fun hc83 => ?_)
                  · replace h := ite_t hc83 h
                    refine x_lv [0, 1, 2, 3, 4, 5, 7, 8, 9, 10] (lv' := [(0, .ref (a 0 0)), (1, .int x1), (2, .int x2), (3, .int x3), (4, .int x4), (5, .int x5), (7, .int x7), (8, .int x8), (10, .int x10), (11, .int r73)]) rfl ?_
                    exact h223 K55 hK55 K141 hK141 _ _ _ _ _ _ _ _ _ h
                  · replace h := ite_f hc83 h
                    refine x_iconst B (pc' := 220) 1 dL_holds_219 (by decide) rfl ?_
                    refine x_goto B (pc' := 224) dL_holds_220 (by decide) ?_
                    refine x_lv [0, 1, 2, 3, 4, 5, 7, 8, 9, 10] (lv' := [(0, .ref (a 0 0)), (1, .int x1), (2, .int x2), (3, .int x3), (4, .int x4), (5, .int x5), (7, .int x7), (8, .int x8), (10, .int x10), (11, .int r73)]) rfl ?_
                    exact h224 K55 hK55 K141 hK141 _ _ _ _ _ _ _ _ _ _ h
  have h114 : ∀ (K55 : Int32 → Int32 → Int32 → Int32 → Int32 → Int32 → Int32 → Option Int32) (_ : ∀ x1 x2 x3 x4 x5 x6 x7, K55 x1 x2 x3 x4 x5 x6 x7 = some r9 → X Γ 12 0 0 55 [(0, .ref (a 0 0)), (1, .int x1), (2, .int x2), (3, .int x3), (4, .int x4), (5, .int x5), (6, .int x6), (7, .int x7)] [] (wB Γ.cs a S)) (x1 : Int32) (x2 : Int32) (x4 : Int32) (x5 : Int32) (x6 : Int32) (x7 : Int32) (x8 : Int32) (x9 : Int32) (t0 : Int32) (t1 : Int32), c_L_holds_114 S K55 x1 x2 x4 x5 x6 x7 x8 x9 t0 t1 = some r9 → X Γ 12 0 0 114 [(0, .ref (a 0 0)), (1, .int x1), (2, .int x2), (4, .int x4), (5, .int x5), (6, .int x6), (7, .int x7), (8, .int x8), (9, .int x9)] [.int t0, .int t1] (wB Γ.cs a S) := by
    intro K55 hK55 x1 x2 x4 x5 x6 x7 x8 x9 t0 t1 h
    unfold c_L_holds_114 at h
    refine x_iadd B (pc' := 115) dL_holds_114 rfl ?_
    obtain ⟨v44, ev44, h⟩ := nm_elim h
    refine x_topi ev44 ?_
    refine x_istore_n B (pc' := 116) [1, 2, 3, 0, 4, 5, 6, 7, 8, 9] [(0, .ref (a 0 0)), (1, .int x1), (2, .int x2), (3, .int v44), (4, .int x4), (5, .int x5), (6, .int x6), (7, .int x7), (8, .int x8), (9, .int x9)] dL_holds_115 rfl (by decide) rfl rfl ?_
    refine x_iload B (pc' := 118) 5 dL_holds_116 rfl rfl ?_
    refine x_if_ne B 131 121 dL_holds_118 (by decide) rfl (fun hc45 => ?_) (fun hc45 => ?_)
    · replace h := ite_f hc45 h
      refine x_iconst B (pc' := 132) 1 dL_holds_131 (by decide) rfl ?_
      refine x_goto B (pc' := 136) dL_holds_132 (by decide) ?_
      refine x_istore B (pc' := 138) [1, 2, 3, 4, 5, 0, 6, 7, 8, 9] [(0, .ref (a 0 0)), (1, .int x1), (2, .int x2), (3, .int v44), (4, .int x4), (5, .int (1 : Int32)), (6, .int x6), (7, .int x7), (8, .int x8), (9, .int x9)] dL_holds_136 (by decide) rfl rfl ?_
      refine x_iconst B (pc' := 139) 0 dL_holds_138 (by decide) rfl ?_
      refine x_istore B (pc' := 141) [1, 2, 3, 4, 5, 6, 7, 8, 9, 10, 0] [(0, .ref (a 0 0)), (1, .int x1), (2, .int x2), (3, .int v44), (4, .int x4), (5, .int (1 : Int32)), (6, .int x6), (7, .int x7), (8, .int x8), (9, .int x9), (10, .int (0 : Int32))] dL_holds_139 (by decide) rfl rfl ?_
      refine x_lv [0, 1, 2, 3, 4, 5, 6, 7, 8, 10] (lv' := [(0, .ref (a 0 0)), (1, .int x1), (2, .int x2), (3, .int v44), (4, .int x4), (5, .int (1 : Int32)), (6, .int x6), (7, .int x7), (8, .int x8), (10, .int (0 : Int32))]) rfl ?_
      exact h141 K55 hK55 _ _ _ _ _ _ _ _ _ _ h
    · replace h := ite_t hc45 h
      refine x_iload B (pc' := 123) 9 dL_holds_121 rfl rfl ?_
      refine x_if_eq B 135 126 dL_holds_123 (by decide) rfl (fun hc46 => ?_) (fun hc46 => ?_)
      · replace h := ite_t hc46 h
        refine x_iconst B (pc' := 136) 0 dL_holds_135 (by decide) rfl ?_
        refine x_istore B (pc' := 138) [1, 2, 3, 4, 5, 0, 6, 7, 8, 9] [(0, .ref (a 0 0)), (1, .int x1), (2, .int x2), (3, .int v44), (4, .int x4), (5, .int (0 : Int32)), (6, .int x6), (7, .int x7), (8, .int x8), (9, .int x9)] dL_holds_136 (by decide) rfl rfl ?_
        refine x_iconst B (pc' := 139) 0 dL_holds_138 (by decide) rfl ?_
        refine x_istore B (pc' := 141) [1, 2, 3, 4, 5, 6, 7, 8, 9, 10, 0] [(0, .ref (a 0 0)), (1, .int x1), (2, .int x2), (3, .int v44), (4, .int x4), (5, .int (0 : Int32)), (6, .int x6), (7, .int x7), (8, .int x8), (9, .int x9), (10, .int (0 : Int32))] dL_holds_139 (by decide) rfl rfl ?_
        refine x_lv [0, 1, 2, 3, 4, 5, 6, 7, 8, 10] (lv' := [(0, .ref (a 0 0)), (1, .int x1), (2, .int x2), (3, .int v44), (4, .int x4), (5, .int (0 : Int32)), (6, .int x6), (7, .int x7), (8, .int x8), (10, .int (0 : Int32))]) rfl ?_
        exact h141 K55 hK55 _ _ _ _ _ _ _ _ _ _ h
      · replace h := ite_f hc46 h
        refine x_iload B (pc' := 128) 8 dL_holds_126 rfl rfl ?_
        refine x_if_le B 135 131 dL_holds_128 (by decide) rfl (fun hc47 => ?_) (fun hc47 => ?_)
        · replace h := ite_t hc47 h
          refine x_iconst B (pc' := 136) 0 dL_holds_135 (by decide) rfl ?_
          refine x_istore B (pc' := 138) [1, 2, 3, 4, 5, 0, 6, 7, 8, 9] [(0, .ref (a 0 0)), (1, .int x1), (2, .int x2), (3, .int v44), (4, .int x4), (5, .int (0 : Int32)), (6, .int x6), (7, .int x7), (8, .int x8), (9, .int x9)] dL_holds_136 (by decide) rfl rfl ?_
          refine x_iconst B (pc' := 139) 0 dL_holds_138 (by decide) rfl ?_
          refine x_istore B (pc' := 141) [1, 2, 3, 4, 5, 6, 7, 8, 9, 10, 0] [(0, .ref (a 0 0)), (1, .int x1), (2, .int x2), (3, .int v44), (4, .int x4), (5, .int (0 : Int32)), (6, .int x6), (7, .int x7), (8, .int x8), (9, .int x9), (10, .int (0 : Int32))] dL_holds_139 (by decide) rfl rfl ?_
          refine x_lv [0, 1, 2, 3, 4, 5, 6, 7, 8, 10] (lv' := [(0, .ref (a 0 0)), (1, .int x1), (2, .int x2), (3, .int v44), (4, .int x4), (5, .int (0 : Int32)), (6, .int x6), (7, .int x7), (8, .int x8), (10, .int (0 : Int32))]) rfl ?_
          exact h141 K55 hK55 _ _ _ _ _ _ _ _ _ _ h
        · replace h := ite_f hc47 h
          refine x_iconst B (pc' := 132) 1 dL_holds_131 (by decide) rfl ?_
          refine x_goto B (pc' := 136) dL_holds_132 (by decide) ?_
          refine x_istore B (pc' := 138) [1, 2, 3, 4, 5, 0, 6, 7, 8, 9] [(0, .ref (a 0 0)), (1, .int x1), (2, .int x2), (3, .int v44), (4, .int x4), (5, .int (1 : Int32)), (6, .int x6), (7, .int x7), (8, .int x8), (9, .int x9)] dL_holds_136 (by decide) rfl rfl ?_
          refine x_iconst B (pc' := 139) 0 dL_holds_138 (by decide) rfl ?_
          refine x_istore B (pc' := 141) [1, 2, 3, 4, 5, 6, 7, 8, 9, 10, 0] [(0, .ref (a 0 0)), (1, .int x1), (2, .int x2), (3, .int v44), (4, .int x4), (5, .int (1 : Int32)), (6, .int x6), (7, .int x7), (8, .int x8), (9, .int x9), (10, .int (0 : Int32))] dL_holds_139 (by decide) rfl rfl ?_
          refine x_lv [0, 1, 2, 3, 4, 5, 6, 7, 8, 10] (lv' := [(0, .ref (a 0 0)), (1, .int x1), (2, .int x2), (3, .int v44), (4, .int x4), (5, .int (1 : Int32)), (6, .int x6), (7, .int x7), (8, .int x8), (10, .int (0 : Int32))]) rfl ?_
          exact h141 K55 hK55 _ _ _ _ _ _ _ _ _ _ h
  have h95 : ∀ (K55 : Int32 → Int32 → Int32 → Int32 → Int32 → Int32 → Int32 → Option Int32) (_ : ∀ x1 x2 x3 x4 x5 x6 x7, K55 x1 x2 x3 x4 x5 x6 x7 = some r9 → X Γ 12 0 0 55 [(0, .ref (a 0 0)), (1, .int x1), (2, .int x2), (3, .int x3), (4, .int x4), (5, .int x5), (6, .int x6), (7, .int x7)] [] (wB Γ.cs a S)) (x1 : Int32) (x2 : Int32) (x3 : Int32) (x4 : Int32) (x5 : Int32) (x6 : Int32) (x7 : Int32) (x8 : Int32) (t0 : Int32), c_L_holds_95 S K55 x1 x2 x3 x4 x5 x6 x7 x8 t0 = some r9 → X Γ 12 0 0 95 [(0, .ref (a 0 0)), (1, .int x1), (2, .int x2), (3, .int x3), (4, .int x4), (5, .int x5), (6, .int x6), (7, .int x7), (8, .int x8)] [.int t0] (wB Γ.cs a S) := by
    intro K55 hK55 x1 x2 x3 x4 x5 x6 x7 x8 t0 h
    unfold c_L_holds_95 at h
    refine x_istore B (pc' := 97) [1, 2, 3, 4, 5, 6, 7, 8, 9, 0] [(0, .ref (a 0 0)), (1, .int x1), (2, .int x2), (3, .int x3), (4, .int x4), (5, .int x5), (6, .int x6), (7, .int x7), (8, .int x8), (9, .int t0)] dL_holds_95 (by decide) rfl rfl ?_
    refine x_iload_n B (pc' := 98) 2 dL_holds_97 rfl rfl rfl ?_
    refine x_iload B (pc' := 100) 8 dL_holds_98 rfl rfl ?_
    refine x_iadd B (pc' := 101) dL_holds_100 rfl ?_
    obtain ⟨v31, ev31, h⟩ := nm_elim h
    refine x_topi ev31 ?_
    refine x_istore_n B (pc' := 102) [1, 2, 0, 3, 4, 5, 6, 7, 8, 9] [(0, .ref (a 0 0)), (1, .int x1), (2, .int v31), (3, .int x3), (4, .int x4), (5, .int x5), (6, .int x6), (7, .int x7), (8, .int x8), (9, .int t0)] dL_holds_101 rfl (by decide) rfl rfl ?_
    refine x_iload_n B (pc' := 103) 3 dL_holds_102 rfl rfl rfl ?_
    refine x_iload B (pc' := 105) 9 dL_holds_103 rfl rfl ?_
    refine x_if_eq B 113 108 dL_holds_105 (by decide) rfl (fun hc32 => ?_) (fun hc32 => ?_)
    · replace h := ite_t hc32 h
      refine x_iconst B (pc' := 114) 0 dL_holds_113 (by decide) rfl ?_
      refine x_lv [0, 1, 2, 4, 5, 6, 7, 8, 9] (lv' := [(0, .ref (a 0 0)), (1, .int x1), (2, .int v31), (4, .int x4), (5, .int x5), (6, .int x6), (7, .int x7), (8, .int x8), (9, .int t0)]) rfl ?_
      exact h114 K55 hK55 _ _ _ _ _ _ _ _ _ _ h
    · replace h := ite_f hc32 h
      refine x_iload B (pc' := 110) 8 dL_holds_108 rfl rfl ?_
      refine x_goto B (pc' := 114) dL_holds_110 (by decide) ?_
      refine x_lv [0, 1, 2, 4, 5, 6, 7, 8, 9] (lv' := [(0, .ref (a 0 0)), (1, .int x1), (2, .int v31), (4, .int x4), (5, .int x5), (6, .int x6), (7, .int x7), (8, .int x8), (9, .int t0)]) rfl ?_
      exact h114 K55 hK55 _ _ _ _ _ _ _ _ _ _ h
  have h94 : ∀ (K55 : Int32 → Int32 → Int32 → Int32 → Int32 → Int32 → Int32 → Option Int32) (_ : ∀ x1 x2 x3 x4 x5 x6 x7, K55 x1 x2 x3 x4 x5 x6 x7 = some r9 → X Γ 12 0 0 55 [(0, .ref (a 0 0)), (1, .int x1), (2, .int x2), (3, .int x3), (4, .int x4), (5, .int x5), (6, .int x6), (7, .int x7)] [] (wB Γ.cs a S)) (x1 : Int32) (x2 : Int32) (x3 : Int32) (x4 : Int32) (x5 : Int32) (x6 : Int32) (x7 : Int32) (x8 : Int32), c_L_holds_94 S K55 x1 x2 x3 x4 x5 x6 x7 x8 = some r9 → X Γ 12 0 0 94 [(0, .ref (a 0 0)), (1, .int x1), (2, .int x2), (3, .int x3), (4, .int x4), (5, .int x5), (6, .int x6), (7, .int x7), (8, .int x8)] [] (wB Γ.cs a S) := by
    intro K55 hK55 x1 x2 x3 x4 x5 x6 x7 x8 h
    unfold c_L_holds_94 at h
    refine x_iconst B (pc' := 95) 0 dL_holds_94 (by decide) rfl ?_
    exact h95 K55 hK55 _ _ _ _ _ _ _ _ _ h
  have h55 : ∀ (n9 : Nat) (x1 : Int32) (x2 : Int32) (x3 : Int32) (x4 : Int32) (x5 : Int32) (x6 : Int32) (x7 : Int32), lpf7 (b_L_holds_55 S) n9 x1 x2 x3 x4 x5 x6 x7 = some r9 → X Γ 12 0 0 55 [(0, .ref (a 0 0)), (1, .int x1), (2, .int x2), (3, .int x3), (4, .int x4), (5, .int x5), (6, .int x6), (7, .int x7)] [] (wB Γ.cs a S) := by
    refine lpf7_ind (fun K55 hK55 x1 x2 x3 x4 x5 x6 x7 h => ?_)
    unfold b_L_holds_55 at h
    refine x_iload B (pc' := 57) 7 dL_holds_55 rfl rfl ?_
    refine x_aload_n B (pc' := 58) 0 dL_holds_57 rfl rfl rfl ?_
    obtain ⟨r9, er9, h⟩ := bd_elim h
    refine n_belVi B (pc' := 61) [] (k_X2_recordings _ _ _ a S er9) gv_RL_63 rfl np_X2_recordings ⟨Nat.le_of_ble_eq_true rfl, Nat.le_of_ble_eq_true rfl⟩ ⟨by exact Nat.le_of_ble_eq_true rfl, by exact Nat.le_of_ble_eq_true rfl⟩ rfl (Nat.le_of_ble_eq_true rfl) dL_holds_58 rfl ?_
    refine x_icmp_ge B 345 64 dL_holds_61 (by decide) rfl (fun hc10 => ?_) (fun hc10 => ?_)
    · replace h := ite_t hc10 h
      refine x_iconst B (pc' := 346) 0 dL_holds_345 (by decide) rfl ?_
      refine x_istore B (pc' := 348) [1, 2, 3, 4, 5, 6, 7, 0] [(0, .ref (a 0 0)), (1, .int x1), (2, .int x2), (3, .int x3), (4, .int x4), (5, .int x5), (6, .int x6), (7, .int (0 : Int32))] dL_holds_346 (by decide) rfl rfl ?_
      exact h348  _ _ _ _ _ _ _ _ h
    · replace h := ite_f hc10 h
      refine x_aload_n B (pc' := 65) 0 dL_holds_64 rfl rfl rfl ?_
      refine x_iload B (pc' := 67) 7 dL_holds_65 rfl rfl ?_
      obtain ⟨r11, er11, h⟩ := bn_elim h
      refine n_belVi B (pc' := 70) [.int x7] (k_X2_length _ _ _ a x7 S er11) gv_RL_11 rfl np_X2_length ⟨Nat.le_of_ble_eq_true rfl, Nat.le_of_ble_eq_true rfl⟩ ⟨by exact Nat.le_of_ble_eq_true rfl, by exact Nat.le_of_ble_eq_true rfl⟩ rfl (Nat.le_of_ble_eq_true rfl) dL_holds_67 rfl ?_
      refine x_istore B (pc' := 72) [1, 2, 3, 4, 5, 6, 7, 8, 0] [(0, .ref (a 0 0)), (1, .int x1), (2, .int x2), (3, .int x3), (4, .int x4), (5, .int x5), (6, .int x6), (7, .int x7), (8, .int r11)] dL_holds_70 (by decide) rfl rfl ?_
      refine x_aload_n B (pc' := 73) 0 dL_holds_72 rfl rfl rfl ?_
      refine x_iload B (pc' := 75) 7 dL_holds_73 rfl rfl ?_
      obtain ⟨r12, er12, h⟩ := bn_elim h
      refine n_belVi B (pc' := 78) [.int x7] (k_X2_hasFlag _ _ _ a x7 S er12) gv_RL_37 rfl np_X2_hasFlag ⟨Nat.le_of_ble_eq_true rfl, Nat.le_of_ble_eq_true rfl⟩ ⟨by exact Nat.le_of_ble_eq_true rfl, by exact Nat.le_of_ble_eq_true rfl⟩ rfl (Nat.le_of_ble_eq_true rfl) dL_holds_75 rfl ?_
      refine x_if_ne B 94 81 dL_holds_78 (by decide) rfl (fun hc13 => ?_) (fun hc13 => ?_)
      · replace h := ite_f hc13 h
        exact h94 K55 hK55 _ _ _ _ _ _ _ _ h
      · replace h := ite_t hc13 h
        refine x_iload B (pc' := 83) 7 dL_holds_81 rfl rfl ?_
        refine x_aload_n B (pc' := 84) 0 dL_holds_83 rfl rfl rfl ?_
        obtain ⟨r14, er14, h⟩ := bd_elim h
        refine n_belVi B (pc' := 87) [] (k_X2_running _ _ _ a S er14) gv_RL_33 rfl np_X2_running ⟨Nat.le_of_ble_eq_true rfl, Nat.le_of_ble_eq_true rfl⟩ ⟨by exact Nat.le_of_ble_eq_true rfl, by exact Nat.le_of_ble_eq_true rfl⟩ rfl (Nat.le_of_ble_eq_true rfl) dL_holds_84 rfl ?_
        refine x_icmp_eq B 94 90 dL_holds_87 (by decide) rfl (fun hc15 => ?_) (fun hc15 => ?_)
        · replace h := ite_t hc15 h
          exact h94 K55 hK55 _ _ _ _ _ _ _ _ h
        · replace h := ite_f hc15 h
          refine x_iconst B (pc' := 91) 1 dL_holds_90 (by decide) rfl ?_
          refine x_goto B (pc' := 95) dL_holds_91 (by decide) ?_
          exact h95 K55 hK55 _ _ _ _ _ _ _ _ _ h
  unfold f_L_holds at h
  refine x_iconst B (pc' := 1) 0 dL_holds_0 (by decide) rfl ?_
  refine x_istore_n B (pc' := 2) [1, 0] [(0, .ref (a 0 0)), (1, .int (0 : Int32))] dL_holds_1 rfl (by decide) rfl rfl ?_
  refine x_iconst B (pc' := 3) 0 dL_holds_2 (by decide) rfl ?_
  refine x_istore_n B (pc' := 4) [1, 2, 0] [(0, .ref (a 0 0)), (1, .int (0 : Int32)), (2, .int (0 : Int32))] dL_holds_3 rfl (by decide) rfl rfl ?_
  refine x_aload_n B (pc' := 5) 0 dL_holds_4 rfl rfl rfl ?_
  obtain ⟨r1, er1, h⟩ := bd_elim h
  refine n_belVi B (pc' := 8) [] (k_X2_free _ _ _ a S er1) gv_RL_85 rfl np_X2_free ⟨Nat.le_of_ble_eq_true rfl, Nat.le_of_ble_eq_true rfl⟩ ⟨by exact Nat.le_of_ble_eq_true rfl, by exact Nat.le_of_ble_eq_true rfl⟩ rfl (Nat.le_of_ble_eq_true rfl) dL_holds_5 rfl ?_
  refine x_istore_n B (pc' := 9) [1, 2, 3, 0] [(0, .ref (a 0 0)), (1, .int (0 : Int32)), (2, .int (0 : Int32)), (3, .int r1)] dL_holds_8 rfl (by decide) rfl rfl ?_
  refine x_iconst B (pc' := 10) 0 dL_holds_9 (by decide) rfl ?_
  refine x_istore B (pc' := 12) [1, 2, 3, 4, 0] [(0, .ref (a 0 0)), (1, .int (0 : Int32)), (2, .int (0 : Int32)), (3, .int r1), (4, .int (0 : Int32))] dL_holds_10 (by decide) rfl rfl ?_
  refine x_iconst B (pc' := 13) 0 dL_holds_12 (by decide) rfl ?_
  refine x_istore B (pc' := 15) [1, 2, 3, 4, 5, 0] [(0, .ref (a 0 0)), (1, .int (0 : Int32)), (2, .int (0 : Int32)), (3, .int r1), (4, .int (0 : Int32)), (5, .int (0 : Int32))] dL_holds_13 (by decide) rfl rfl ?_
  refine x_aload_n B (pc' := 16) 0 dL_holds_15 rfl rfl rfl ?_
  obtain ⟨r2, er2, h⟩ := bd_elim h
  refine n_belVi B (pc' := 19) [] (k_X2_recordings _ _ _ a S er2) gv_RL_63 rfl np_X2_recordings ⟨Nat.le_of_ble_eq_true rfl, Nat.le_of_ble_eq_true rfl⟩ ⟨by exact Nat.le_of_ble_eq_true rfl, by exact Nat.le_of_ble_eq_true rfl⟩ rfl (Nat.le_of_ble_eq_true rfl) dL_holds_16 rfl ?_
  refine x_bipush B (pc' := 21) 10 dL_holds_19 (by decide) rfl ?_
  refine x_icmp_gt B 49 24 dL_holds_21 (by decide) rfl (fun hc3 => ?_) (fun hc3 => ?_)
  · replace h := ite_t hc3 h
    refine x_iconst B (pc' := 50) 0 dL_holds_49 (by decide) rfl ?_
    refine x_istore B (pc' := 52) [1, 2, 3, 4, 5, 6, 0] [(0, .ref (a 0 0)), (1, .int (0 : Int32)), (2, .int (0 : Int32)), (3, .int r1), (4, .int (0 : Int32)), (5, .int (0 : Int32)), (6, .int (0 : Int32))] dL_holds_50 (by decide) rfl rfl ?_
    refine x_iconst B (pc' := 53) 0 dL_holds_52 (by decide) rfl ?_
    refine x_istore B (pc' := 55) [1, 2, 3, 4, 5, 6, 7, 0] [(0, .ref (a 0 0)), (1, .int (0 : Int32)), (2, .int (0 : Int32)), (3, .int r1), (4, .int (0 : Int32)), (5, .int (0 : Int32)), (6, .int (0 : Int32)), (7, .int (0 : Int32))] dL_holds_53 (by decide) rfl rfl ?_
    exact h55  _ _ _ _ _ _ _ _ h
  · replace h := ite_f hc3 h
    refine x_aload_n B (pc' := 25) 0 dL_holds_24 rfl rfl rfl ?_
    obtain ⟨r4, er4, h⟩ := bd_elim h
    refine n_belVi B (pc' := 28) [] (k_X2_running _ _ _ a S er4) gv_RL_33 rfl np_X2_running ⟨Nat.le_of_ble_eq_true rfl, Nat.le_of_ble_eq_true rfl⟩ ⟨by exact Nat.le_of_ble_eq_true rfl, by exact Nat.le_of_ble_eq_true rfl⟩ rfl (Nat.le_of_ble_eq_true rfl) dL_holds_25 rfl ?_
    refine x_iconst B (pc' := 29) (-1) dL_holds_28 (by decide) rfl ?_
    refine x_icmp_eq B 45 32 dL_holds_29 (by decide) rfl (fun hc5 => ?_) (fun hc5 => ?_)
    · replace h := ite_t hc5 h
      refine x_iconst B (pc' := 46) 1 dL_holds_45 (by decide) rfl ?_
      refine x_goto B (pc' := 50) dL_holds_46 (by decide) ?_
      refine x_istore B (pc' := 52) [1, 2, 3, 4, 5, 6, 0] [(0, .ref (a 0 0)), (1, .int (0 : Int32)), (2, .int (0 : Int32)), (3, .int r1), (4, .int (0 : Int32)), (5, .int (0 : Int32)), (6, .int (1 : Int32))] dL_holds_50 (by decide) rfl rfl ?_
      refine x_iconst B (pc' := 53) 0 dL_holds_52 (by decide) rfl ?_
      refine x_istore B (pc' := 55) [1, 2, 3, 4, 5, 6, 7, 0] [(0, .ref (a 0 0)), (1, .int (0 : Int32)), (2, .int (0 : Int32)), (3, .int r1), (4, .int (0 : Int32)), (5, .int (0 : Int32)), (6, .int (1 : Int32)), (7, .int (0 : Int32))] dL_holds_53 (by decide) rfl rfl ?_
      exact h55  _ _ _ _ _ _ _ _ h
    · replace h := ite_f hc5 h
      refine x_aload_n B (pc' := 33) 0 dL_holds_32 rfl rfl rfl ?_
      obtain ⟨r6, er6, h⟩ := bd_elim h
      refine n_belVi B (pc' := 36) [] (k_X2_running _ _ _ a S er6) gv_RL_33 rfl np_X2_running ⟨Nat.le_of_ble_eq_true rfl, Nat.le_of_ble_eq_true rfl⟩ ⟨by exact Nat.le_of_ble_eq_true rfl, by exact Nat.le_of_ble_eq_true rfl⟩ rfl (Nat.le_of_ble_eq_true rfl) dL_holds_33 rfl ?_
      refine x_aload_n B (pc' := 37) 0 dL_holds_36 rfl rfl rfl ?_
      obtain ⟨r7, er7, h⟩ := bd_elim h
      refine n_belVi B (pc' := 40) [] (k_X2_recordings _ _ _ a S er7) gv_RL_63 rfl np_X2_recordings ⟨Nat.le_of_ble_eq_true rfl, Nat.le_of_ble_eq_true rfl⟩ ⟨by exact Nat.le_of_ble_eq_true rfl, by exact Nat.le_of_ble_eq_true rfl⟩ rfl (Nat.le_of_ble_eq_true rfl) dL_holds_37 rfl ?_
      refine x_iconst B (pc' := 41) 1 dL_holds_40 (by decide) rfl ?_
      refine x_isub B (pc' := 42) dL_holds_41 rfl ?_
      refine x_icmp_ne B 49 45 dL_holds_42 (by decide) rfl (fun hc8 => ?_) (fun hc8 => ?_)
      · replace h := ite_f hc8 h
        refine x_iconst B (pc' := 50) 0 dL_holds_49 (by decide) rfl ?_
        refine x_istore B (pc' := 52) [1, 2, 3, 4, 5, 6, 0] [(0, .ref (a 0 0)), (1, .int (0 : Int32)), (2, .int (0 : Int32)), (3, .int r1), (4, .int (0 : Int32)), (5, .int (0 : Int32)), (6, .int (0 : Int32))] dL_holds_50 (by decide) rfl rfl ?_
        refine x_iconst B (pc' := 53) 0 dL_holds_52 (by decide) rfl ?_
        refine x_istore B (pc' := 55) [1, 2, 3, 4, 5, 6, 7, 0] [(0, .ref (a 0 0)), (1, .int (0 : Int32)), (2, .int (0 : Int32)), (3, .int r1), (4, .int (0 : Int32)), (5, .int (0 : Int32)), (6, .int (0 : Int32)), (7, .int (0 : Int32))] dL_holds_53 (by decide) rfl rfl ?_
        exact h55  _ _ _ _ _ _ _ _ h
      · replace h := ite_t hc8 h
        refine x_iconst B (pc' := 46) 1 dL_holds_45 (by decide) rfl ?_
        refine x_goto B (pc' := 50) dL_holds_46 (by decide) ?_
        refine x_istore B (pc' := 52) [1, 2, 3, 4, 5, 6, 0] [(0, .ref (a 0 0)), (1, .int (0 : Int32)), (2, .int (0 : Int32)), (3, .int r1), (4, .int (0 : Int32)), (5, .int (0 : Int32)), (6, .int (1 : Int32))] dL_holds_50 (by decide) rfl rfl ?_
        refine x_iconst B (pc' := 53) 0 dL_holds_52 (by decide) rfl ?_
        refine x_istore B (pc' := 55) [1, 2, 3, 4, 5, 6, 7, 0] [(0, .ref (a 0 0)), (1, .int (0 : Int32)), (2, .int (0 : Int32)), (3, .int r1), (4, .int (0 : Int32)), (5, .int (0 : Int32)), (6, .int (1 : Int32)), (7, .int (0 : Int32))] dL_holds_53 (by decide) rfl rfl ?_
        exact h55  _ _ _ _ _ _ _ _ h
def c_L_isAhead_233 (S : BO) (x1 : Int32) (x4 : Int32) (t0 : Int32) (t1 : Int32) : Option Int32 :=
  bd (f_X2_free S) (fun (r17 : Int32) => if t1 < (t0 - r17) then (some (0 : Int32)) else (bn (f_X2_goneAfter x1 S) (fun (r19 : Int32) => if r19 = x4 then (some (1 : Int32)) else (some (0 : Int32)))))
def c_L_isAhead_189 (S : BO) (K40 : Int32 → Int32 → Int32 → Int32 → Int32 → Option Int32) (x1 : Int32) (x3 : Int32) (x4 : Int32) (x5 : Int32) (t0 : Int32) (t1 : Int32) (t3 : Int32) : Option Int32 :=
  bn (f_X2_lossOf t1 t0 S) (fun (r41 : Int32) => if r41 < t3 then (nm (fun (v43 : Int32) => K40 x1 (0 : Int32) x3 x4 v43) (x5 + 1)) else (nm (fun (v44 : Int32) => K40 x1 (1 : Int32) x3 x4 v44) (x5 + 1)))
def c_L_isAhead_162 (S : BO) (K40 : Int32 → Int32 → Int32 → Int32 → Int32 → Option Int32) (x1 : Int32) (x3 : Int32) (x4 : Int32) (x5 : Int32) (t0 : Int32) (t1 : Int32) : Option Int32 :=
  if t1 = t0 then (bn (f_X2_lossOf x5 x1 S) (fun (r39 : Int32) => if (32 : Int32) ≤ x1 then (c_L_isAhead_189 S K40 x1 x3 x4 x5 (32 : Int32) x5 r39) else (c_L_isAhead_189 S K40 x1 x3 x4 x5 (x1 + (1 : Int32)) x5 r39))) else (nm (fun (v38 : Int32) => K40 x1 (0 : Int32) x3 x4 v38) (x5 + 1))
def c_L_isAhead_139 (S : BO) (K40 : Int32 → Int32 → Int32 → Int32 → Int32 → Option Int32) (x1 : Int32) (x3 : Int32) (x4 : Int32) (x5 : Int32) (x7 : Int32) : Option Int32 :=
  bn (f_X2_lossOf x5 (32 : Int32) S) (fun (r34 : Int32) => if x7 = 0 then (c_L_isAhead_162 S K40 x1 x3 x4 x5 (0 : Int32) r34) else (bn (f_X2_length x5 S) (fun (r36 : Int32) => c_L_isAhead_162 S K40 x1 x3 x4 x5 r36 r34)))
def c_L_isAhead_111 (S : BO) (K40 : Int32 → Int32 → Int32 → Int32 → Int32 → Option Int32) (x1 : Int32) (x2 : Int32) (x3 : Int32) (x5 : Int32) (x6 : Int32) (x7 : Int32) (t0 : Int32) (t1 : Int32) : Option Int32 :=
  nm (fun (v25 : Int32) => if x2 = 0 then (nm (fun (v27 : Int32) => K40 x1 (0 : Int32) x3 v25 v27) (x5 + 1)) else (bn (f_X2_length x5 S) (fun (r28 : Int32) => if r28 < x6 then (nm (fun (v30 : Int32) => K40 x1 (0 : Int32) x3 v25 v30) (x5 + 1)) else (if x7 = 0 then (if x6 = 0 then (c_L_isAhead_139 S K40 x1 x3 v25 x5 x7) else (nm (fun (v33 : Int32) => K40 x1 (0 : Int32) x3 v25 v33) (x5 + 1))) else (c_L_isAhead_139 S K40 x1 x3 v25 x5 x7))))) (t1 + t0)
def c_L_isAhead_110 (S : BO) (K40 : Int32 → Int32 → Int32 → Int32 → Int32 → Option Int32) (x1 : Int32) (x2 : Int32) (x3 : Int32) (x5 : Int32) (x6 : Int32) (x7 : Int32) (t0 : Int32) : Option Int32 :=
  c_L_isAhead_111 S K40 x1 x2 x3 x5 x6 x7 (0 : Int32) t0
def c_L_isAhead_81 (S : BO) (K40 : Int32 → Int32 → Int32 → Int32 → Int32 → Option Int32) (x1 : Int32) (x2 : Int32) (x3 : Int32) (x4 : Int32) (x5 : Int32) (x6 : Int32) (t0 : Int32) : Option Int32 :=
  nm (fun (v21 : Int32) => if x6 ≤ 0 then (c_L_isAhead_110 S K40 x1 x2 v21 x5 x6 t0 x4) else (bn (f_X2_length x5 S) (fun (r23 : Int32) => if x6 = r23 then (c_L_isAhead_111 S K40 x1 x2 v21 x5 x6 t0 (1 : Int32) x4) else (c_L_isAhead_110 S K40 x1 x2 v21 x5 x6 t0 x4)))) (x3 + x6)
def c_L_isAhead_80 (S : BO) (K40 : Int32 → Int32 → Int32 → Int32 → Int32 → Option Int32) (x1 : Int32) (x2 : Int32) (x3 : Int32) (x4 : Int32) (x5 : Int32) (x6 : Int32) : Option Int32 :=
  c_L_isAhead_81 S K40 x1 x2 x3 x4 x5 x6 (0 : Int32)
def b_L_isAhead_40 (S : BO) (K40 : Int32 → Int32 → Int32 → Int32 → Int32 → Option Int32) (x1 : Int32) (x2 : Int32) (x3 : Int32) (x4 : Int32) (x5 : Int32) : Option Int32 :=
  bd (f_X2_recordings S) (fun (r5 : Int32) => if r5 ≤ x5 then (if x2 = 0 then (some (0 : Int32)) else (if x1 < x3 then (some (0 : Int32)) else (bd (f_X2_room S) (fun (r9 : Int32) => if r9 ≤ x1 then (bd (f_X2_room S) (fun (r11 : Int32) => c_L_isAhead_233 S x1 x4 r11 x3)) else (c_L_isAhead_233 S x1 x4 x1 x3))))) else (bn (f_X2_lossOf x5 x1 S) (fun (r12 : Int32) => bn (f_X2_hasFlag x5 S) (fun (r13 : Int32) => if r13 = 0 then (bd (f_X2_running S) (fun (r15 : Int32) => if x5 = r15 then (c_L_isAhead_80 S K40 x1 x2 x3 x4 x5 r12) else (c_L_isAhead_81 S K40 x1 x2 x3 x4 x5 r12 (1 : Int32)))) else (c_L_isAhead_80 S K40 x1 x2 x3 x4 x5 r12)))))
def c_L_isAhead_31 (S : BO) (x1 : Int32) (t0 : Int32) : Option Int32 :=
  lpf5 (b_L_isAhead_40 S) FU x1 t0 (0 : Int32) (0 : Int32) (0 : Int32)
def c_L_isAhead_20 (S : BO) (x1 : Int32) (t0 : Int32) (t2 : Int32) : Option Int32 :=
  bn (f_X2_goneAfter t0 S) (fun (r3 : Int32) => if r3 < t2 then (c_L_isAhead_31 S x1 (0 : Int32)) else (c_L_isAhead_31 S x1 (1 : Int32)))
def f_L_isAhead (p1 : Int32) (S : BO) : Option Int32 :=
  bn (f_X2_goneAfter p1 S) (fun (r1 : Int32) => if (32 : Int32) ≤ p1 then (c_L_isAhead_20 S p1 (32 : Int32) r1) else (c_L_isAhead_20 S p1 (p1 + (1 : Int32)) r1))
abbrev rm_L_isAhead : Room := { frames := 4, cells := 0, slots := 0, locals := 94 }
theorem np_L_isAhead : yL_isAhead.cls ≠ "java/lang/invoke/MethodHandle" ∧ yL_isAhead.cls ≠ "java/lang/invoke/VarHandle" ∧ (parseMethodDescriptor yL_isAhead.desc).map (fun d => d.parameters.length) = some 2 := by decide +kernel
set_option maxHeartbeats 4000000 in
set_option maxRecDepth 100000 in
theorem k_L_isAhead (l : Launch) (D : va_G) (cs : CS) (a : Nat → Nat → Nat) (p1 : Int32) (S : BO) {r9 : Int32} (h : f_L_isAhead p1 S = some r9) : MI l D cs yL_isAhead cL_isAhead 8 .boolean rm_L_isAhead [.ref (a 0 0), .int p1] (wB cs a S) r9 (wB cs a S) := by
  refine MI_of (by decide) (Nat.le_of_ble_eq_true rfl) ?_
  rintro Γ rfl rfl rfl B ret
  show X Γ 8 0 0 0 [(0, .ref (a 0 0)), (1, .int p1)] [] (wB Γ.cs a S)
  have h233 : ∀ (x1 : Int32) (x4 : Int32) (t0 : Int32) (t1 : Int32), c_L_isAhead_233 S  x1 x4 t0 t1 = some r9 → X Γ 8 0 0 233 [(0, .ref (a 0 0)), (1, .int x1), (4, .int x4)] [.int t0, .int t1] (wB Γ.cs a S) := by
    intro  x1 x4 t0 t1 h
    unfold c_L_isAhead_233 at h
    refine x_aload_n B (pc' := 234) 0 dL_isAhead_233 rfl rfl rfl ?_
    obtain ⟨r17, er17, h⟩ := bd_elim h
    refine n_belVi B (pc' := 237) [] (k_X2_free _ _ _ a S er17) gv_RL_85 rfl np_X2_free ⟨Nat.le_of_ble_eq_true rfl, Nat.le_of_ble_eq_true rfl⟩ ⟨by exact Nat.le_of_ble_eq_true rfl, by exact Nat.le_of_ble_eq_true rfl⟩ rfl (Nat.le_of_ble_eq_true rfl) dL_isAhead_234 rfl ?_
    refine x_isub B (pc' := 238) dL_isAhead_237 rfl ?_
    refine x_icmp_lt B 255 241 dL_isAhead_238 (by decide) rfl (fun hc18 => ?_) (fun hc18 => ?_)
    · replace h := ite_t hc18 h
      refine x_iconst B (pc' := 256) 0 dL_isAhead_255 (by decide) rfl ?_
      have h1 := (Option.some.inj h)
      subst h1
      exact ret rfl (by exact Nat.le_of_ble_eq_true rfl) (by exact Nat.le_of_ble_eq_true rfl) dL_isAhead_256
    · replace h := ite_f hc18 h
      refine x_aload_n B (pc' := 242) 0 dL_isAhead_241 rfl rfl rfl ?_
      refine x_iload_n B (pc' := 243) 1 dL_isAhead_242 rfl rfl rfl ?_
      obtain ⟨r19, er19, h⟩ := bn_elim h
      refine n_belVi B (pc' := 246) [.int x1] (k_X2_goneAfter _ _ _ a x1 S er19) gv_RL_66 rfl np_X2_goneAfter ⟨Nat.le_of_ble_eq_true rfl, Nat.le_of_ble_eq_true rfl⟩ ⟨by exact Nat.le_of_ble_eq_true rfl, by exact Nat.le_of_ble_eq_true rfl⟩ rfl (Nat.le_of_ble_eq_true rfl) dL_isAhead_243 rfl ?_
      refine x_iload B (pc' := 248) 2 dL_isAhead_246 rfl rfl ?_
      refine x_icmp_ne B 255 251 dL_isAhead_248 (by decide) rfl (fun hc20 => ?_) (fun hc20 => ?_)
      · replace h := ite_f hc20 h
        refine x_iconst B (pc' := 256) 0 dL_isAhead_255 (by decide) rfl ?_
        have h1 := (Option.some.inj h)
        subst h1
        exact ret rfl (by exact Nat.le_of_ble_eq_true rfl) (by exact Nat.le_of_ble_eq_true rfl) dL_isAhead_256
      · replace h := ite_t hc20 h
        refine x_iconst B (pc' := 252) 1 dL_isAhead_251 (by decide) rfl ?_
        refine x_goto B (pc' := 256) dL_isAhead_252 (by decide) ?_
        have h1 := (Option.some.inj h)
        subst h1
        exact ret rfl (by exact Nat.le_of_ble_eq_true rfl) (by exact Nat.le_of_ble_eq_true rfl) dL_isAhead_256
  have h189 : ∀ (K40 : Int32 → Int32 → Int32 → Int32 → Int32 → Option Int32) (_ : ∀ x1 x2 x3 x4 x5, K40 x1 x2 x3 x4 x5 = some r9 → X Γ 8 0 0 40 [(0, .ref (a 0 0)), (1, .int x1), (2, .int x2), (3, .int x3), (4, .int x4), (5, .int x5)] [] (wB Γ.cs a S)) (x1 : Int32) (x3 : Int32) (x4 : Int32) (x5 : Int32) (t0 : Int32) (t1 : Int32) (t3 : Int32), c_L_isAhead_189 S K40 x1 x3 x4 x5 t0 t1 t3 = some r9 → X Γ 8 0 0 189 [(0, .ref (a 0 0)), (1, .int x1), (3, .int x3), (4, .int x4), (5, .int x5)] [.int t0, .int t1, .ref (a 0 0), .int t3] (wB Γ.cs a S) := by
    intro K40 hK40 x1 x3 x4 x5 t0 t1 t3 h
    unfold c_L_isAhead_189 at h
    obtain ⟨r41, er41, h⟩ := bn_elim h
    refine n_belVi B (pc' := 192) [.int t1, .int t0] (k_X2_lossOf _ _ _ a t1 t0 S er41) gv_RL_69 rfl np_X2_lossOf ⟨Nat.le_of_ble_eq_true rfl, Nat.le_of_ble_eq_true rfl⟩ ⟨by exact Nat.le_of_ble_eq_true rfl, by exact Nat.le_of_ble_eq_true rfl⟩ rfl (Nat.le_of_ble_eq_true rfl) dL_isAhead_189 rfl ?_
    refine x_icmp_gt B 199 195 dL_isAhead_192 (by decide) rfl (fun hc42 => ?_) (fun hc42 => ?_)
    · replace h := ite_t hc42 h
      refine x_iconst B (pc' := 200) 0 dL_isAhead_199 (by decide) rfl ?_
      refine x_istore_n B (pc' := 201) [1, 2, 0, 3, 4, 5] [(0, .ref (a 0 0)), (1, .int x1), (2, .int (0 : Int32)), (3, .int x3), (4, .int x4), (5, .int x5)] dL_isAhead_200 rfl (by decide) rfl rfl ?_
      obtain ⟨v43, ev43, h⟩ := nm_elim h
      refine x_iinc B (pc' := 204) v43 5 [1, 2, 3, 4, 5, 0] [(0, .ref (a 0 0)), (1, .int x1), (2, .int (0 : Int32)), (3, .int x3), (4, .int x4), (5, .int v43)] dL_isAhead_201 rfl (by rw [ev43]; rfl) (by decide) rfl rfl ?_
      refine x_goto B (pc' := 40) dL_isAhead_204 (by decide) ?_
      exact hK40 _ _ _ _ _ h
    · replace h := ite_f hc42 h
      refine x_iconst B (pc' := 196) 1 dL_isAhead_195 (by decide) rfl ?_
      refine x_goto B (pc' := 200) dL_isAhead_196 (by decide) ?_
      refine x_istore_n B (pc' := 201) [1, 2, 0, 3, 4, 5] [(0, .ref (a 0 0)), (1, .int x1), (2, .int (1 : Int32)), (3, .int x3), (4, .int x4), (5, .int x5)] dL_isAhead_200 rfl (by decide) rfl rfl ?_
      obtain ⟨v44, ev44, h⟩ := nm_elim h
      refine x_iinc B (pc' := 204) v44 5 [1, 2, 3, 4, 5, 0] [(0, .ref (a 0 0)), (1, .int x1), (2, .int (1 : Int32)), (3, .int x3), (4, .int x4), (5, .int v44)] dL_isAhead_201 rfl (by rw [ev44]; rfl) (by decide) rfl rfl ?_
      refine x_goto B (pc' := 40) dL_isAhead_204 (by decide) ?_
      exact hK40 _ _ _ _ _ h
  have h162 : ∀ (K40 : Int32 → Int32 → Int32 → Int32 → Int32 → Option Int32) (_ : ∀ x1 x2 x3 x4 x5, K40 x1 x2 x3 x4 x5 = some r9 → X Γ 8 0 0 40 [(0, .ref (a 0 0)), (1, .int x1), (2, .int x2), (3, .int x3), (4, .int x4), (5, .int x5)] [] (wB Γ.cs a S)) (x1 : Int32) (x3 : Int32) (x4 : Int32) (x5 : Int32) (t0 : Int32) (t1 : Int32), c_L_isAhead_162 S K40 x1 x3 x4 x5 t0 t1 = some r9 → X Γ 8 0 0 162 [(0, .ref (a 0 0)), (1, .int x1), (3, .int x3), (4, .int x4), (5, .int x5)] [.int t0, .int t1] (wB Γ.cs a S) := by
    intro K40 hK40 x1 x3 x4 x5 t0 t1 h
    unfold c_L_isAhead_162 at h
    refine x_icmp_ne B 199 165 dL_isAhead_162 (by decide) rfl (fun hc37 => ?_) (fun hc37 => ?_)
    · replace h := ite_f hc37 h
      refine x_iconst B (pc' := 200) 0 dL_isAhead_199 (by decide) rfl ?_
      refine x_istore_n B (pc' := 201) [1, 2, 0, 3, 4, 5] [(0, .ref (a 0 0)), (1, .int x1), (2, .int (0 : Int32)), (3, .int x3), (4, .int x4), (5, .int x5)] dL_isAhead_200 rfl (by decide) rfl rfl ?_
      obtain ⟨v38, ev38, h⟩ := nm_elim h
      refine x_iinc B (pc' := 204) v38 5 [1, 2, 3, 4, 5, 0] [(0, .ref (a 0 0)), (1, .int x1), (2, .int (0 : Int32)), (3, .int x3), (4, .int x4), (5, .int v38)] dL_isAhead_201 rfl (by rw [ev38]; rfl) (by decide) rfl rfl ?_
      refine x_goto B (pc' := 40) dL_isAhead_204 (by decide) ?_
      exact hK40 _ _ _ _ _ h
    · replace h := ite_t hc37 h
      refine x_aload_n B (pc' := 166) 0 dL_isAhead_165 rfl rfl rfl ?_
      refine x_iload B (pc' := 168) 4 dL_isAhead_166 rfl rfl ?_
      refine x_iload_n B (pc' := 169) 1 dL_isAhead_168 rfl rfl rfl ?_
      obtain ⟨r39, er39, h⟩ := bn_elim h
      refine n_belVi B (pc' := 172) [.int x5, .int x1] (k_X2_lossOf _ _ _ a x5 x1 S er39) gv_RL_69 rfl np_X2_lossOf ⟨Nat.le_of_ble_eq_true rfl, Nat.le_of_ble_eq_true rfl⟩ ⟨by exact Nat.le_of_ble_eq_true rfl, by exact Nat.le_of_ble_eq_true rfl⟩ rfl (Nat.le_of_ble_eq_true rfl) dL_isAhead_169 rfl ?_
      refine x_aload_n B (pc' := 173) 0 dL_isAhead_172 rfl rfl rfl ?_
      refine x_iload B (pc' := 175) 4 dL_isAhead_173 rfl rfl ?_
      refine x_iload_n B (pc' := 176) 1 dL_isAhead_175 rfl rfl rfl ?_
      refine x_bipush B (pc' := 178) 32 dL_isAhead_176 (by decide) rfl ?_
      refine x_icmp_ge B 187 181 dL_isAhead_178 (by decide) rfl (fun hc40 => ?_) (fun hc40 => ?_)
      · replace h := ite_t hc40 h
        refine x_bipush B (pc' := 189) 32 dL_isAhead_187 (by decide) rfl ?_
        exact h189 K40 hK40 _ _ _ _ _ _ _ h
      · replace h := ite_f hc40 h
        refine x_iload_n B (pc' := 182) 1 dL_isAhead_181 rfl rfl rfl ?_
        refine x_iconst B (pc' := 183) 1 dL_isAhead_182 (by decide) rfl ?_
        refine x_iadd B (pc' := 184) dL_isAhead_183 rfl ?_
        refine x_goto B (pc' := 189) dL_isAhead_184 (by decide) ?_
        exact h189 K40 hK40 _ _ _ _ _ _ _ h
  have h139 : ∀ (K40 : Int32 → Int32 → Int32 → Int32 → Int32 → Option Int32) (_ : ∀ x1 x2 x3 x4 x5, K40 x1 x2 x3 x4 x5 = some r9 → X Γ 8 0 0 40 [(0, .ref (a 0 0)), (1, .int x1), (2, .int x2), (3, .int x3), (4, .int x4), (5, .int x5)] [] (wB Γ.cs a S)) (x1 : Int32) (x3 : Int32) (x4 : Int32) (x5 : Int32) (x7 : Int32), c_L_isAhead_139 S K40 x1 x3 x4 x5 x7 = some r9 → X Γ 8 0 0 139 [(0, .ref (a 0 0)), (1, .int x1), (3, .int x3), (4, .int x4), (5, .int x5), (7, .int x7)] [] (wB Γ.cs a S) := by
    intro K40 hK40 x1 x3 x4 x5 x7 h
    unfold c_L_isAhead_139 at h
    refine x_aload_n B (pc' := 140) 0 dL_isAhead_139 rfl rfl rfl ?_
    refine x_iload B (pc' := 142) 4 dL_isAhead_140 rfl rfl ?_
    refine x_bipush B (pc' := 144) 32 dL_isAhead_142 (by decide) rfl ?_
    obtain ⟨r34, er34, h⟩ := bn_elim h
    refine n_belVi B (pc' := 147) [.int x5, .int (32 : Int32)] (k_X2_lossOf _ _ _ a x5 (32 : Int32) S er34) gv_RL_69 rfl np_X2_lossOf ⟨Nat.le_of_ble_eq_true rfl, Nat.le_of_ble_eq_true rfl⟩ ⟨by exact Nat.le_of_ble_eq_true rfl, by exact Nat.le_of_ble_eq_true rfl⟩ rfl (Nat.le_of_ble_eq_true rfl) dL_isAhead_144 rfl ?_
    refine x_iload B (pc' := 149) 5 dL_isAhead_147 rfl rfl ?_
    refine x_if_eq B 161 152 dL_isAhead_149 (by decide) rfl (fun hc35 => ?_) (fun hc35 => ?_)
    · replace h := ite_t hc35 h
      refine x_iconst B (pc' := 162) 0 dL_isAhead_161 (by decide) rfl ?_
      refine x_lv [0, 1, 2, 3, 4] (lv' := [(0, .ref (a 0 0)), (1, .int x1), (3, .int x3), (4, .int x4), (5, .int x5)]) rfl ?_
      exact h162 K40 hK40 _ _ _ _ _ _ h
    · replace h := ite_f hc35 h
      refine x_aload_n B (pc' := 153) 0 dL_isAhead_152 rfl rfl rfl ?_
      refine x_iload B (pc' := 155) 4 dL_isAhead_153 rfl rfl ?_
      obtain ⟨r36, er36, h⟩ := bn_elim h
      refine n_belVi B (pc' := 158) [.int x5] (k_X2_length _ _ _ a x5 S er36) gv_RL_11 rfl np_X2_length ⟨Nat.le_of_ble_eq_true rfl, Nat.le_of_ble_eq_true rfl⟩ ⟨by exact Nat.le_of_ble_eq_true rfl, by exact Nat.le_of_ble_eq_true rfl⟩ rfl (Nat.le_of_ble_eq_true rfl) dL_isAhead_155 rfl ?_
      refine x_goto B (pc' := 162) dL_isAhead_158 (by decide) ?_
      refine x_lv [0, 1, 2, 3, 4] (lv' := [(0, .ref (a 0 0)), (1, .int x1), (3, .int x3), (4, .int x4), (5, .int x5)]) rfl ?_
      exact h162 K40 hK40 _ _ _ _ _ _ h
  have h111 : ∀ (K40 : Int32 → Int32 → Int32 → Int32 → Int32 → Option Int32) (_ : ∀ x1 x2 x3 x4 x5, K40 x1 x2 x3 x4 x5 = some r9 → X Γ 8 0 0 40 [(0, .ref (a 0 0)), (1, .int x1), (2, .int x2), (3, .int x3), (4, .int x4), (5, .int x5)] [] (wB Γ.cs a S)) (x1 : Int32) (x2 : Int32) (x3 : Int32) (x5 : Int32) (x6 : Int32) (x7 : Int32) (t0 : Int32) (t1 : Int32), c_L_isAhead_111 S K40 x1 x2 x3 x5 x6 x7 t0 t1 = some r9 → X Γ 8 0 0 111 [(0, .ref (a 0 0)), (1, .int x1), (2, .int x2), (3, .int x3), (5, .int x5), (6, .int x6), (7, .int x7)] [.int t0, .int t1] (wB Γ.cs a S) := by
    intro K40 hK40 x1 x2 x3 x5 x6 x7 t0 t1 h
    unfold c_L_isAhead_111 at h
    refine x_iadd B (pc' := 112) dL_isAhead_111 rfl ?_
    obtain ⟨v25, ev25, h⟩ := nm_elim h
    refine x_topi ev25 ?_
    refine x_istore B (pc' := 114) [1, 2, 3, 4, 0, 5, 6, 7] [(0, .ref (a 0 0)), (1, .int x1), (2, .int x2), (3, .int x3), (4, .int v25), (5, .int x5), (6, .int x6), (7, .int x7)] dL_isAhead_112 (by decide) rfl rfl ?_
    refine x_iload_n B (pc' := 115) 2 dL_isAhead_114 rfl rfl rfl ?_
    refine x_if_eq B 199 118 dL_isAhead_115 (by decide) rfl (fun hc26 => ?_) (fun hc26 => ?_)
    · replace h := ite_t hc26 h
      refine x_iconst B (pc' := 200) 0 dL_isAhead_199 (by decide) rfl ?_
      refine x_istore_n B (pc' := 201) [1, 2, 0, 3, 4, 5, 6, 7] [(0, .ref (a 0 0)), (1, .int x1), (2, .int (0 : Int32)), (3, .int x3), (4, .int v25), (5, .int x5), (6, .int x6), (7, .int x7)] dL_isAhead_200 rfl (by decide) rfl rfl ?_
      obtain ⟨v27, ev27, h⟩ := nm_elim h
      refine x_iinc B (pc' := 204) v27 5 [1, 2, 3, 4, 5, 0, 6, 7] [(0, .ref (a 0 0)), (1, .int x1), (2, .int (0 : Int32)), (3, .int x3), (4, .int v25), (5, .int v27), (6, .int x6), (7, .int x7)] dL_isAhead_201 rfl (by rw [ev27]; rfl) (by decide) rfl rfl ?_
      refine x_goto B (pc' := 40) dL_isAhead_204 (by decide) ?_
      refine x_lv [0, 1, 2, 3, 4, 5] (lv' := [(0, .ref (a 0 0)), (1, .int x1), (2, .int (0 : Int32)), (3, .int x3), (4, .int v25), (5, .int v27)]) rfl ?_
      exact hK40 _ _ _ _ _ h
    · replace h := ite_f hc26 h
      refine x_iload B (pc' := 120) 6 dL_isAhead_118 rfl rfl ?_
      refine x_aload_n B (pc' := 121) 0 dL_isAhead_120 rfl rfl rfl ?_
      refine x_iload B (pc' := 123) 5 dL_isAhead_121 rfl rfl ?_
      obtain ⟨r28, er28, h⟩ := bn_elim h
      refine n_belVi B (pc' := 126) [.int x5] (k_X2_length _ _ _ a x5 S er28) gv_RL_11 rfl np_X2_length ⟨Nat.le_of_ble_eq_true rfl, Nat.le_of_ble_eq_true rfl⟩ ⟨by exact Nat.le_of_ble_eq_true rfl, by exact Nat.le_of_ble_eq_true rfl⟩ rfl (Nat.le_of_ble_eq_true rfl) dL_isAhead_123 rfl ?_
      refine x_icmp_gt B 199 129 dL_isAhead_126 (by decide) rfl (fun hc29 => ?_) (fun hc29 => ?_)
      · replace h := ite_t hc29 h
        refine x_iconst B (pc' := 200) 0 dL_isAhead_199 (by decide) rfl ?_
        refine x_istore_n B (pc' := 201) [1, 2, 0, 3, 4, 5, 6, 7] [(0, .ref (a 0 0)), (1, .int x1), (2, .int (0 : Int32)), (3, .int x3), (4, .int v25), (5, .int x5), (6, .int x6), (7, .int x7)] dL_isAhead_200 rfl (by decide) rfl rfl ?_
        obtain ⟨v30, ev30, h⟩ := nm_elim h
        refine x_iinc B (pc' := 204) v30 5 [1, 2, 3, 4, 5, 0, 6, 7] [(0, .ref (a 0 0)), (1, .int x1), (2, .int (0 : Int32)), (3, .int x3), (4, .int v25), (5, .int v30), (6, .int x6), (7, .int x7)] dL_isAhead_201 rfl (by rw [ev30]; rfl) (by decide) rfl rfl ?_
        refine x_goto B (pc' := 40) dL_isAhead_204 (by decide) ?_
        refine x_lv [0, 1, 2, 3, 4, 5] (lv' := [(0, .ref (a 0 0)), (1, .int x1), (2, .int (0 : Int32)), (3, .int x3), (4, .int v25), (5, .int v30)]) rfl ?_
        exact hK40 _ _ _ _ _ h
      · replace h := ite_f hc29 h
        refine x_iload B (pc' := 131) 7 dL_isAhead_129 rfl rfl ?_
        refine x_if_ne B 139 134 dL_isAhead_131 (by decide) rfl (fun hc31 => ?_) (fun hc31 => ?_)
        · replace h := ite_f hc31 h
          refine x_lv [0, 1, 3, 4, 5, 7] (lv' := [(0, .ref (a 0 0)), (1, .int x1), (3, .int x3), (4, .int v25), (5, .int x5), (7, .int x7)]) rfl ?_
          exact h139 K40 hK40 _ _ _ _ _ h
        · replace h := ite_t hc31 h
          refine x_iload B (pc' := 136) 6 dL_isAhead_134 rfl rfl ?_
          refine x_if_ne B 199 139 dL_isAhead_136 (by decide) rfl (fun hc32 => ?_) (fun hc32 => ?_)
          · replace h := ite_f hc32 h
            refine x_iconst B (pc' := 200) 0 dL_isAhead_199 (by decide) rfl ?_
            refine x_istore_n B (pc' := 201) [1, 2, 0, 3, 4, 5, 6, 7] [(0, .ref (a 0 0)), (1, .int x1), (2, .int (0 : Int32)), (3, .int x3), (4, .int v25), (5, .int x5), (6, .int x6), (7, .int x7)] dL_isAhead_200 rfl (by decide) rfl rfl ?_
            obtain ⟨v33, ev33, h⟩ := nm_elim h
            refine x_iinc B (pc' := 204) v33 5 [1, 2, 3, 4, 5, 0, 6, 7] [(0, .ref (a 0 0)), (1, .int x1), (2, .int (0 : Int32)), (3, .int x3), (4, .int v25), (5, .int v33), (6, .int x6), (7, .int x7)] dL_isAhead_201 rfl (by rw [ev33]; rfl) (by decide) rfl rfl ?_
            refine x_goto B (pc' := 40) dL_isAhead_204 (by decide) ?_
            refine x_lv [0, 1, 2, 3, 4, 5] (lv' := [(0, .ref (a 0 0)), (1, .int x1), (2, .int (0 : Int32)), (3, .int x3), (4, .int v25), (5, .int v33)]) rfl ?_
            exact hK40 _ _ _ _ _ h
          · replace h := ite_t hc32 h
            refine x_lv [0, 1, 3, 4, 5, 7] (lv' := [(0, .ref (a 0 0)), (1, .int x1), (3, .int x3), (4, .int v25), (5, .int x5), (7, .int x7)]) rfl ?_
            exact h139 K40 hK40 _ _ _ _ _ h
  have h110 : ∀ (K40 : Int32 → Int32 → Int32 → Int32 → Int32 → Option Int32) (_ : ∀ x1 x2 x3 x4 x5, K40 x1 x2 x3 x4 x5 = some r9 → X Γ 8 0 0 40 [(0, .ref (a 0 0)), (1, .int x1), (2, .int x2), (3, .int x3), (4, .int x4), (5, .int x5)] [] (wB Γ.cs a S)) (x1 : Int32) (x2 : Int32) (x3 : Int32) (x5 : Int32) (x6 : Int32) (x7 : Int32) (t0 : Int32), c_L_isAhead_110 S K40 x1 x2 x3 x5 x6 x7 t0 = some r9 → X Γ 8 0 0 110 [(0, .ref (a 0 0)), (1, .int x1), (2, .int x2), (3, .int x3), (5, .int x5), (6, .int x6), (7, .int x7)] [.int t0] (wB Γ.cs a S) := by
    intro K40 hK40 x1 x2 x3 x5 x6 x7 t0 h
    unfold c_L_isAhead_110 at h
    refine x_iconst B (pc' := 111) 0 dL_isAhead_110 (by decide) rfl ?_
    exact h111 K40 hK40 _ _ _ _ _ _ _ _ h
  have h81 : ∀ (K40 : Int32 → Int32 → Int32 → Int32 → Int32 → Option Int32) (_ : ∀ x1 x2 x3 x4 x5, K40 x1 x2 x3 x4 x5 = some r9 → X Γ 8 0 0 40 [(0, .ref (a 0 0)), (1, .int x1), (2, .int x2), (3, .int x3), (4, .int x4), (5, .int x5)] [] (wB Γ.cs a S)) (x1 : Int32) (x2 : Int32) (x3 : Int32) (x4 : Int32) (x5 : Int32) (x6 : Int32) (t0 : Int32), c_L_isAhead_81 S K40 x1 x2 x3 x4 x5 x6 t0 = some r9 → X Γ 8 0 0 81 [(0, .ref (a 0 0)), (1, .int x1), (2, .int x2), (3, .int x3), (4, .int x4), (5, .int x5), (6, .int x6)] [.int t0] (wB Γ.cs a S) := by
    intro K40 hK40 x1 x2 x3 x4 x5 x6 t0 h
    unfold c_L_isAhead_81 at h
    refine x_istore B (pc' := 83) [1, 2, 3, 4, 5, 6, 7, 0] [(0, .ref (a 0 0)), (1, .int x1), (2, .int x2), (3, .int x3), (4, .int x4), (5, .int x5), (6, .int x6), (7, .int t0)] dL_isAhead_81 (by decide) rfl rfl ?_
    refine x_iload_n B (pc' := 84) 3 dL_isAhead_83 rfl rfl rfl ?_
    refine x_iload B (pc' := 86) 6 dL_isAhead_84 rfl rfl ?_
    refine x_iadd B (pc' := 87) dL_isAhead_86 rfl ?_
    obtain ⟨v21, ev21, h⟩ := nm_elim h
    refine x_topi ev21 ?_
    refine x_istore_n B (pc' := 88) [1, 2, 3, 0, 4, 5, 6, 7] [(0, .ref (a 0 0)), (1, .int x1), (2, .int x2), (3, .int v21), (4, .int x4), (5, .int x5), (6, .int x6), (7, .int t0)] dL_isAhead_87 rfl (by decide) rfl rfl ?_
    refine x_iload B (pc' := 90) 4 dL_isAhead_88 rfl rfl ?_
    refine x_iload B (pc' := 92) 6 dL_isAhead_90 rfl rfl ?_
    refine x_if_le B 110 95 dL_isAhead_92 (by decide) rfl (fun hc22 => ?_) (fun hc22 => ?_)
    · replace h := ite_t hc22 h
      refine x_lv [0, 1, 2, 3, 5, 6, 7] (lv' := [(0, .ref (a 0 0)), (1, .int x1), (2, .int x2), (3, .int v21), (5, .int x5), (6, .int x6), (7, .int t0)]) rfl ?_
      exact h110 K40 hK40 _ _ _ _ _ _ _ h
    · replace h := ite_f hc22 h
      refine x_iload B (pc' := 97) 6 dL_isAhead_95 rfl rfl ?_
      refine x_aload_n B (pc' := 98) 0 dL_isAhead_97 rfl rfl rfl ?_
      refine x_iload B (pc' := 100) 5 dL_isAhead_98 rfl rfl ?_
      obtain ⟨r23, er23, h⟩ := bn_elim h
      refine n_belVi B (pc' := 103) [.int x5] (k_X2_length _ _ _ a x5 S er23) gv_RL_11 rfl np_X2_length ⟨Nat.le_of_ble_eq_true rfl, Nat.le_of_ble_eq_true rfl⟩ ⟨by exact Nat.le_of_ble_eq_true rfl, by exact Nat.le_of_ble_eq_true rfl⟩ rfl (Nat.le_of_ble_eq_true rfl) dL_isAhead_100 rfl ?_
      refine x_icmp_ne B 110 106 dL_isAhead_103 (by decide) rfl (fun hc24 => ?_) (fun hc24 => ?_)
      · replace h := ite_f hc24 h
        refine x_lv [0, 1, 2, 3, 5, 6, 7] (lv' := [(0, .ref (a 0 0)), (1, .int x1), (2, .int x2), (3, .int v21), (5, .int x5), (6, .int x6), (7, .int t0)]) rfl ?_
        exact h110 K40 hK40 _ _ _ _ _ _ _ h
      · replace h := ite_t hc24 h
        refine x_iconst B (pc' := 107) 1 dL_isAhead_106 (by decide) rfl ?_
        refine x_goto B (pc' := 111) dL_isAhead_107 (by decide) ?_
        refine x_lv [0, 1, 2, 3, 5, 6, 7] (lv' := [(0, .ref (a 0 0)), (1, .int x1), (2, .int x2), (3, .int v21), (5, .int x5), (6, .int x6), (7, .int t0)]) rfl ?_
        exact h111 K40 hK40 _ _ _ _ _ _ _ _ h
  have h80 : ∀ (K40 : Int32 → Int32 → Int32 → Int32 → Int32 → Option Int32) (_ : ∀ x1 x2 x3 x4 x5, K40 x1 x2 x3 x4 x5 = some r9 → X Γ 8 0 0 40 [(0, .ref (a 0 0)), (1, .int x1), (2, .int x2), (3, .int x3), (4, .int x4), (5, .int x5)] [] (wB Γ.cs a S)) (x1 : Int32) (x2 : Int32) (x3 : Int32) (x4 : Int32) (x5 : Int32) (x6 : Int32), c_L_isAhead_80 S K40 x1 x2 x3 x4 x5 x6 = some r9 → X Γ 8 0 0 80 [(0, .ref (a 0 0)), (1, .int x1), (2, .int x2), (3, .int x3), (4, .int x4), (5, .int x5), (6, .int x6)] [] (wB Γ.cs a S) := by
    intro K40 hK40 x1 x2 x3 x4 x5 x6 h
    unfold c_L_isAhead_80 at h
    refine x_iconst B (pc' := 81) 0 dL_isAhead_80 (by decide) rfl ?_
    exact h81 K40 hK40 _ _ _ _ _ _ _ h
  have h40 : ∀ (n9 : Nat) (x1 : Int32) (x2 : Int32) (x3 : Int32) (x4 : Int32) (x5 : Int32), lpf5 (b_L_isAhead_40 S) n9 x1 x2 x3 x4 x5 = some r9 → X Γ 8 0 0 40 [(0, .ref (a 0 0)), (1, .int x1), (2, .int x2), (3, .int x3), (4, .int x4), (5, .int x5)] [] (wB Γ.cs a S) := by
    refine lpf5_ind (fun K40 hK40 x1 x2 x3 x4 x5 h => ?_)
    unfold b_L_isAhead_40 at h
    refine x_iload B (pc' := 42) 5 dL_isAhead_40 rfl rfl ?_
    refine x_aload_n B (pc' := 43) 0 dL_isAhead_42 rfl rfl rfl ?_
    obtain ⟨r5, er5, h⟩ := bd_elim h
    refine n_belVi B (pc' := 46) [] (k_X2_recordings _ _ _ a S er5) gv_RL_63 rfl np_X2_recordings ⟨Nat.le_of_ble_eq_true rfl, Nat.le_of_ble_eq_true rfl⟩ ⟨by exact Nat.le_of_ble_eq_true rfl, by exact Nat.le_of_ble_eq_true rfl⟩ rfl (Nat.le_of_ble_eq_true rfl) dL_isAhead_43 rfl ?_
    refine x_icmp_ge B 207 49 dL_isAhead_46 (by decide) rfl (fun hc6 => ?_) (fun hc6 => ?_)
    · replace h := ite_t hc6 h
      refine x_iload_n B (pc' := 208) 2 dL_isAhead_207 rfl rfl rfl ?_
      refine x_if_eq B 255 211 dL_isAhead_208 (by decide) rfl (fun hc7 => ?_) (fun hc7 => ?_)
      · replace h := ite_t hc7 h
        refine x_iconst B (pc' := 256) 0 dL_isAhead_255 (by decide) rfl ?_
        have h1 := (Option.some.inj h)
        subst h1
        exact ret rfl (by exact Nat.le_of_ble_eq_true rfl) (by exact Nat.le_of_ble_eq_true rfl) dL_isAhead_256
      · replace h := ite_f hc7 h
        refine x_iload_n B (pc' := 212) 3 dL_isAhead_211 rfl rfl rfl ?_
        refine x_iload_n B (pc' := 213) 1 dL_isAhead_212 rfl rfl rfl ?_
        refine x_icmp_gt B 255 216 dL_isAhead_213 (by decide) rfl (fun hc8 => ?_) (fun hc8 => ?_)
        · replace h := ite_t hc8 h
          refine x_iconst B (pc' := 256) 0 dL_isAhead_255 (by decide) rfl ?_
          have h1 := (Option.some.inj h)
          subst h1
          exact ret rfl (by exact Nat.le_of_ble_eq_true rfl) (by exact Nat.le_of_ble_eq_true rfl) dL_isAhead_256
        · replace h := ite_f hc8 h
          refine x_iload_n B (pc' := 217) 3 dL_isAhead_216 rfl rfl rfl ?_
          refine x_iload_n B (pc' := 218) 1 dL_isAhead_217 rfl rfl rfl ?_
          refine x_aload_n B (pc' := 219) 0 dL_isAhead_218 rfl rfl rfl ?_
          obtain ⟨r9, er9, h⟩ := bd_elim h
          refine n_belVi B (pc' := 222) [] (k_X2_room _ _ _ a S er9) gv_RL_41 rfl np_X2_room ⟨Nat.le_of_ble_eq_true rfl, Nat.le_of_ble_eq_true rfl⟩ ⟨by exact Nat.le_of_ble_eq_true rfl, by exact Nat.le_of_ble_eq_true rfl⟩ rfl (Nat.le_of_ble_eq_true rfl) dL_isAhead_219 rfl ?_
          refine x_icmp_ge B 229 225 dL_isAhead_222 (by decide) rfl (fun hc10 => ?_) (fun hc10 => ?_)
          · replace h := ite_t hc10 h
            refine x_aload_n B (pc' := 230) 0 dL_isAhead_229 rfl rfl rfl ?_
            obtain ⟨r11, er11, h⟩ := bd_elim h
            refine n_belVi B (pc' := 233) [] (k_X2_room _ _ _ a S er11) gv_RL_41 rfl np_X2_room ⟨Nat.le_of_ble_eq_true rfl, Nat.le_of_ble_eq_true rfl⟩ ⟨by exact Nat.le_of_ble_eq_true rfl, by exact Nat.le_of_ble_eq_true rfl⟩ rfl (Nat.le_of_ble_eq_true rfl) dL_isAhead_230 rfl ?_
            refine x_lv [0, 1, 4] (lv' := [(0, .ref (a 0 0)), (1, .int x1), (4, .int x4)]) rfl ?_
            exact h233  _ _ _ _ h
          · replace h := ite_f hc10 h
            refine x_iload_n B (pc' := 226) 1 dL_isAhead_225 rfl rfl rfl ?_
            refine x_goto B (pc' := 233) dL_isAhead_226 (by decide) ?_
            refine x_lv [0, 1, 4] (lv' := [(0, .ref (a 0 0)), (1, .int x1), (4, .int x4)]) rfl ?_
            exact h233  _ _ _ _ h
    · replace h := ite_f hc6 h
      refine x_aload_n B (pc' := 50) 0 dL_isAhead_49 rfl rfl rfl ?_
      refine x_iload B (pc' := 52) 5 dL_isAhead_50 rfl rfl ?_
      refine x_iload_n B (pc' := 53) 1 dL_isAhead_52 rfl rfl rfl ?_
      obtain ⟨r12, er12, h⟩ := bn_elim h
      refine n_belVi B (pc' := 56) [.int x5, .int x1] (k_X2_lossOf _ _ _ a x5 x1 S er12) gv_RL_69 rfl np_X2_lossOf ⟨Nat.le_of_ble_eq_true rfl, Nat.le_of_ble_eq_true rfl⟩ ⟨by exact Nat.le_of_ble_eq_true rfl, by exact Nat.le_of_ble_eq_true rfl⟩ rfl (Nat.le_of_ble_eq_true rfl) dL_isAhead_53 rfl ?_
      refine x_istore B (pc' := 58) [1, 2, 3, 4, 5, 6, 0] [(0, .ref (a 0 0)), (1, .int x1), (2, .int x2), (3, .int x3), (4, .int x4), (5, .int x5), (6, .int r12)] dL_isAhead_56 (by decide) rfl rfl ?_
      refine x_aload_n B (pc' := 59) 0 dL_isAhead_58 rfl rfl rfl ?_
      refine x_iload B (pc' := 61) 5 dL_isAhead_59 rfl rfl ?_
      obtain ⟨r13, er13, h⟩ := bn_elim h
      refine n_belVi B (pc' := 64) [.int x5] (k_X2_hasFlag _ _ _ a x5 S er13) gv_RL_37 rfl np_X2_hasFlag ⟨Nat.le_of_ble_eq_true rfl, Nat.le_of_ble_eq_true rfl⟩ ⟨by exact Nat.le_of_ble_eq_true rfl, by exact Nat.le_of_ble_eq_true rfl⟩ rfl (Nat.le_of_ble_eq_true rfl) dL_isAhead_61 rfl ?_
      refine x_if_ne B 80 67 dL_isAhead_64 (by decide) rfl (fun hc14 => ?_) (fun hc14 => ?_)
      · replace h := ite_f hc14 h
        exact h80 K40 hK40 _ _ _ _ _ _ h
      · replace h := ite_t hc14 h
        refine x_iload B (pc' := 69) 5 dL_isAhead_67 rfl rfl ?_
        refine x_aload_n B (pc' := 70) 0 dL_isAhead_69 rfl rfl rfl ?_
        obtain ⟨r15, er15, h⟩ := bd_elim h
        refine n_belVi B (pc' := 73) [] (k_X2_running _ _ _ a S er15) gv_RL_33 rfl np_X2_running ⟨Nat.le_of_ble_eq_true rfl, Nat.le_of_ble_eq_true rfl⟩ ⟨by exact Nat.le_of_ble_eq_true rfl, by exact Nat.le_of_ble_eq_true rfl⟩ rfl (Nat.le_of_ble_eq_true rfl) dL_isAhead_70 rfl ?_
        refine x_icmp_eq B 80 76 dL_isAhead_73 (by decide) rfl (fun hc16 => ?_) (fun hc16 => ?_)
        · replace h := ite_t hc16 h
          exact h80 K40 hK40 _ _ _ _ _ _ h
        · replace h := ite_f hc16 h
          refine x_iconst B (pc' := 77) 1 dL_isAhead_76 (by decide) rfl ?_
          refine x_goto B (pc' := 81) dL_isAhead_77 (by decide) ?_
          exact h81 K40 hK40 _ _ _ _ _ _ _ h
  have h31 : ∀ (x1 : Int32) (t0 : Int32), c_L_isAhead_31 S  x1 t0 = some r9 → X Γ 8 0 0 31 [(0, .ref (a 0 0)), (1, .int x1)] [.int t0] (wB Γ.cs a S) := by
    intro  x1 t0 h
    unfold c_L_isAhead_31 at h
    refine x_istore_n B (pc' := 32) [1, 2, 0] [(0, .ref (a 0 0)), (1, .int x1), (2, .int t0)] dL_isAhead_31 rfl (by decide) rfl rfl ?_
    refine x_iconst B (pc' := 33) 0 dL_isAhead_32 (by decide) rfl ?_
    refine x_istore_n B (pc' := 34) [1, 2, 3, 0] [(0, .ref (a 0 0)), (1, .int x1), (2, .int t0), (3, .int (0 : Int32))] dL_isAhead_33 rfl (by decide) rfl rfl ?_
    refine x_iconst B (pc' := 35) 0 dL_isAhead_34 (by decide) rfl ?_
    refine x_istore B (pc' := 37) [1, 2, 3, 4, 0] [(0, .ref (a 0 0)), (1, .int x1), (2, .int t0), (3, .int (0 : Int32)), (4, .int (0 : Int32))] dL_isAhead_35 (by decide) rfl rfl ?_
    refine x_iconst B (pc' := 38) 0 dL_isAhead_37 (by decide) rfl ?_
    refine x_istore B (pc' := 40) [1, 2, 3, 4, 5, 0] [(0, .ref (a 0 0)), (1, .int x1), (2, .int t0), (3, .int (0 : Int32)), (4, .int (0 : Int32)), (5, .int (0 : Int32))] dL_isAhead_38 (by decide) rfl rfl ?_
    exact h40  _ _ _ _ _ _ h
  have h20 : ∀ (x1 : Int32) (t0 : Int32) (t2 : Int32), c_L_isAhead_20 S  x1 t0 t2 = some r9 → X Γ 8 0 0 20 [(0, .ref (a 0 0)), (1, .int x1)] [.int t0, .ref (a 0 0), .int t2] (wB Γ.cs a S) := by
    intro  x1 t0 t2 h
    unfold c_L_isAhead_20 at h
    obtain ⟨r3, er3, h⟩ := bn_elim h
    refine n_belVi B (pc' := 23) [.int t0] (k_X2_goneAfter _ _ _ a t0 S er3) gv_RL_66 rfl np_X2_goneAfter ⟨Nat.le_of_ble_eq_true rfl, Nat.le_of_ble_eq_true rfl⟩ ⟨by exact Nat.le_of_ble_eq_true rfl, by exact Nat.le_of_ble_eq_true rfl⟩ rfl (Nat.le_of_ble_eq_true rfl) dL_isAhead_20 rfl ?_
    refine x_icmp_gt B 30 26 dL_isAhead_23 (by decide) rfl (fun hc4 => ?_) (fun hc4 => ?_)
    · replace h := ite_t hc4 h
      refine x_iconst B (pc' := 31) 0 dL_isAhead_30 (by decide) rfl ?_
      exact h31  _ _ h
    · replace h := ite_f hc4 h
      refine x_iconst B (pc' := 27) 1 dL_isAhead_26 (by decide) rfl ?_
      refine x_goto B (pc' := 31) dL_isAhead_27 (by decide) ?_
      exact h31  _ _ h
  unfold f_L_isAhead at h
  refine x_aload_n B (pc' := 1) 0 dL_isAhead_0 rfl rfl rfl ?_
  refine x_iload_n B (pc' := 2) 1 dL_isAhead_1 rfl rfl rfl ?_
  obtain ⟨r1, er1, h⟩ := bn_elim h
  refine n_belVi B (pc' := 5) [.int p1] (k_X2_goneAfter _ _ _ a p1 S er1) gv_RL_66 rfl np_X2_goneAfter ⟨Nat.le_of_ble_eq_true rfl, Nat.le_of_ble_eq_true rfl⟩ ⟨by exact Nat.le_of_ble_eq_true rfl, by exact Nat.le_of_ble_eq_true rfl⟩ rfl (Nat.le_of_ble_eq_true rfl) dL_isAhead_2 rfl ?_
  refine x_aload_n B (pc' := 6) 0 dL_isAhead_5 rfl rfl rfl ?_
  refine x_iload_n B (pc' := 7) 1 dL_isAhead_6 rfl rfl rfl ?_
  refine x_bipush B (pc' := 9) 32 dL_isAhead_7 (by decide) rfl ?_
  refine x_icmp_ge B 18 12 dL_isAhead_9 (by decide) rfl (fun hc2 => ?_) (fun hc2 => ?_)
  · replace h := ite_t hc2 h
    refine x_bipush B (pc' := 20) 32 dL_isAhead_18 (by decide) rfl ?_
    exact h20  _ _ _ h
  · replace h := ite_f hc2 h
    refine x_iload_n B (pc' := 13) 1 dL_isAhead_12 rfl rfl rfl ?_
    refine x_iconst B (pc' := 14) 1 dL_isAhead_13 (by decide) rfl ?_
    refine x_iadd B (pc' := 15) dL_isAhead_14 rfl ?_
    refine x_goto B (pc' := 20) dL_isAhead_15 (by decide) ?_
    exact h20  _ _ _ h
