def c_L_acts_794 (x6 : Int32) (x9 : Int32) (S : BO) : Option (Int32 × BO) :=
  bn2 (f_X2_setFlag x6 x9 S) (fun (r157 : Int32) (T158 : BO) => if r157 = x9 then (some ((1 : Int32), T158)) else (some ((0 : Int32), T158)))
def c_L_acts_735 (t0 : Int32) (t1 : Int32) (S : BO) : Option (Int32 × BO) :=
  if t1 = t0 then (some ((1 : Int32), S)) else (some ((0 : Int32), S))
def c_L_acts_664 (t0 : Int32) (t1 : Int32) (S : BO) : Option (Int32 × BO) :=
  if t1 = t0 then (some ((1 : Int32), S)) else (some ((0 : Int32), S))
def c_L_acts_425 (x3 : Int32) (x6 : Int32) (x7 : Int32) (x8 : Int32) (x9 : Int32) (t0 : Int32) (S : BO) : Option (Int32 × BO) :=
  if t0 = 0 then (bn2 (f_X2_setFlag x6 x9 S) (fun (r145 : Int32) (T146 : BO) => if r145 = x9 then (some ((1 : Int32), T146)) else (some ((0 : Int32), T146)))) else (bn2 (f_X2_erase x6 S) (fun (r148 : Int32) (T149 : BO) => if r148 = x8 then (bd (f_X2_recordings T149) (fun (r151 : Int32) => if r151 = (x3 - (1 : Int32)) then (bd (f_X2_free T149) (fun (r153 : Int32) => if r153 = (x7 + x8) then (some ((1 : Int32), T149)) else (some ((0 : Int32), T149)))) else (some ((0 : Int32), T149)))) else (some ((0 : Int32), T149))))
def c_L_acts_424 (x3 : Int32) (x6 : Int32) (x7 : Int32) (x8 : Int32) (x9 : Int32) (S : BO) : Option (Int32 × BO) :=
  c_L_acts_425 x3 x6 x7 x8 x9 (0 : Int32) S
def c_L_acts_397 (t0 : Int32) (t1 : Int32) (S : BO) : Option (Int32 × BO) :=
  if t1 = t0 then (some ((1 : Int32), S)) else (some ((0 : Int32), S))
def c_L_acts_369 (x2 : Int32) (x6 : Int32) (x9 : Int32) (t0 : Int32) (t1 : Int32) (S : BO) : Option (Int32 × BO) :=
  bn2 (f_X2_setFlag t1 t0 S) (fun (r139 : Int32) (T140 : BO) => if r139 = x9 then (bn (f_X2_hasFlag x6 T140) (fun (r142 : Int32) => if ((x2 >>> ((6 : Int32) &&& 31)) &&& (3 : Int32)) = 0 then (c_L_acts_397 (1 : Int32) r142 T140) else (c_L_acts_397 (0 : Int32) r142 T140))) else (some ((0 : Int32), T140)))
def c_L_acts_343 (t0 : Int32) (t1 : Int32) (S : BO) : Option (Int32 × BO) :=
  if t1 = t0 then (some ((1 : Int32), S)) else (some ((0 : Int32), S))
def c_L_acts_248 (t0 : Int32) (t1 : Int32) (S : BO) : Option (Int32 × BO) :=
  if t1 = t0 then (bd (f_X2_running S) (fun (r161 : Int32) => bd (f_X2_recordings S) (fun (r162 : Int32) => if r161 = (r162 - (1 : Int32)) then (bd (f_X2_running S) (fun (r164 : Int32) => bn (f_X2_length r164 S) (fun (r165 : Int32) => if r165 = 0 then (some ((1 : Int32), S)) else (some ((0 : Int32), S))))) else (some ((0 : Int32), S))))) else (some ((0 : Int32), S))
def c_L_acts_232 (x3 : Int32) (x5 : Int32) (S : BO) : Option (Int32 × BO) :=
  bn2 (f_X2_begin S) (fun (r135 : Int32) (T136 : BO) => if x5 = 0 then (c_L_acts_248 x3 r135 T136) else (c_L_acts_248 (x3 - (1 : Int32)) r135 T136))
def c_L_acts_30 (x1 : Int32) (x2 : Int32) (x3 : Int32) (x4 : Int32) (t0 : Int32) (S : BO) : Option (Int32 × BO) :=
  if x3 = 0 then (bn2 (f_X2_begin S) (fun (r124 : Int32) (T125 : BO) => if r124 = 0 then (bd (f_X2_running T125) (fun (r127 : Int32) => if r127 = 0 then (bd (f_X2_recordings T125) (fun (r129 : Int32) => if r129 = (1 : Int32) then (bn (f_X2_length (0 : Int32) T125) (fun (r131 : Int32) => if r131 = 0 then (bn (f_X2_hasFlag (0 : Int32) T125) (fun (r133 : Int32) => if r133 = 0 then (some ((1 : Int32), T125)) else (some ((0 : Int32), T125)))) else (some ((0 : Int32), T125)))) else (some ((0 : Int32), T125)))) else (some ((0 : Int32), T125)))) else (some ((0 : Int32), T125)))) else (bd (f_L_up x2 x3) (fun (r7 : Int32) => bd (f_X2_free S) (fun (r8 : Int32) => bn (f_X2_length r7 S) (fun (r9 : Int32) => bn (f_X2_hasFlag r7 S) (fun (r10 : Int32) => bd (f_L_up x1 (16 : Int32)) (fun (r11 : Int32) => if r11 = 0 then (if x3 = (10 : Int32) then (if t0 = 0 then (if r10 = 0 then (bn2 (f_X2_erase r7 S) (fun (r16 : Int32) (T17 : BO) => if r16 = r9 then (bd (f_X2_free T17) (fun (r19 : Int32) => if r19 = (r8 + r9) then (bd (f_X2_recordings T17) (fun (r21 : Int32) => if r21 = (9 : Int32) then (some ((1 : Int32), T17)) else (some ((0 : Int32), T17)))) else (some ((0 : Int32), T17)))) else (some ((0 : Int32), T17)))) else (bn2 (f_X2_setFlag r7 (0 : Int32) S) (fun (r23 : Int32) (T24 : BO) => zb r23 (some (r23, T24))))) else (c_L_acts_232 x3 t0 S)) else (c_L_acts_232 x3 t0 S)) else (if r11 = 1 then (if x3 = (10 : Int32) then (if t0 = 0 then (if r10 = 0 then (bn2 (f_X2_erase r7 S) (fun (r30 : Int32) (T31 : BO) => if r30 = r9 then (bd (f_X2_free T31) (fun (r33 : Int32) => if r33 = (r8 + r9) then (bd (f_X2_recordings T31) (fun (r35 : Int32) => if r35 = (9 : Int32) then (some ((1 : Int32), T31)) else (some ((0 : Int32), T31)))) else (some ((0 : Int32), T31)))) else (some ((0 : Int32), T31)))) else (bn2 (f_X2_setFlag r7 (0 : Int32) S) (fun (r37 : Int32) (T38 : BO) => zb r37 (some (r37, T38))))) else (c_L_acts_232 x3 t0 S)) else (c_L_acts_232 x3 t0 S)) else (if r11 = 2 then (if 0 ≤ x4 then (bn2 (f_X2_halt S) (fun (r42 : Int32) (T43 : BO) => if r42 < 0 then (some ((0 : Int32), T43)) else (bd (f_X2_running T43) (fun (r45 : Int32) => if r45 = ((-1) : Int32) then (bd (f_X2_recordings T43) (fun (r47 : Int32) => if t0 = 0 then (c_L_acts_343 x3 r47 T43) else (c_L_acts_343 (x3 - (1 : Int32)) r47 T43))) else (some ((0 : Int32), T43)))))) else (bn2 (f_X2_go r7 S) (fun (r49 : Int32) (T50 : BO) => if r49 = r9 then (bd (f_X2_place T50) (fun (r52 : Int32) => if r52 = 0 then (some ((1 : Int32), T50)) else (some ((0 : Int32), T50)))) else (some ((0 : Int32), T50))))) else (if r11 = 3 then (if ((x2 >>> ((6 : Int32) &&& 31)) &&& (3 : Int32)) = 0 then (c_L_acts_369 x2 r7 r10 (1 : Int32) r7 S) else (c_L_acts_369 x2 r7 r10 (0 : Int32) r7 S)) else (if r11 = 4 then (if r10 = 0 then (if ((x2 >>> ((6 : Int32) &&& 31)) &&& (3 : Int32)) = 0 then (c_L_acts_425 x3 r7 r8 r9 r10 (1 : Int32) S) else (c_L_acts_424 x3 r7 r8 r9 r10 S)) else (c_L_acts_424 x3 r7 r8 r9 r10 S)) else (if r11 = 5 then (bd (f_X2_head S) (fun (r60 : Int32) => if 0 ≤ x4 then (bn2 (f_X2_setFlag r7 r10 S) (fun (r62 : Int32) (T63 : BO) => if r62 = r10 then (some ((1 : Int32), T63)) else (some ((0 : Int32), T63)))) else (bd (f_L_up (x2 >>> ((4 : Int32) &&& 31)) (32 : Int32)) (fun (r65 : Int32) => bn2 (f_X2_moveHead r65 S) (fun (r66 : Int32) (T67 : BO) => if r66 = r60 then (bd (f_X2_head T67) (fun (r69 : Int32) => bd (f_L_up (x2 >>> ((4 : Int32) &&& 31)) (32 : Int32)) (fun (r70 : Int32) => if r69 = r70 then (some ((1 : Int32), T67)) else (some ((0 : Int32), T67))))) else (some ((0 : Int32), T67))))))) else (if r11 = 6 then (bn2 (f_X2_go r7 S) (fun (r73 : Int32) (T74 : BO) => if r73 = r9 then (bd (f_X2_playing T74) (fun (r76 : Int32) => if r76 = r7 then (bd (f_X2_place T74) (fun (r78 : Int32) => if r78 = 0 then (some ((1 : Int32), T74)) else (some ((0 : Int32), T74)))) else (some ((0 : Int32), T74)))) else (some ((0 : Int32), T74)))) else (if r11 = 7 then (bd (f_X2_playing S) (fun (r81 : Int32) => if 0 ≤ r81 then (bd (f_X2_place S) (fun (r83 : Int32) => bd (f_X2_playing S) (fun (r84 : Int32) => bn (f_X2_sound r84 r83 S) (fun (r85 : Int32) => bn2 (f_X2_play S) (fun (r86 : Int32) (T87 : BO) => if r86 = r85 then (bd (f_X2_place T87) (fun (r89 : Int32) => if 0 ≤ r85 then (c_L_acts_664 (r83 + (1 : Int32)) r89 T87) else (c_L_acts_664 r83 r89 T87))) else (some ((0 : Int32), T87))))))) else (bn2 (f_X2_go r7 S) (fun (r91 : Int32) (T92 : BO) => if r91 = r9 then (some ((1 : Int32), T92)) else (some ((0 : Int32), T92)))))) else (if r11 = 8 then (bd (f_X2_playing S) (fun (r95 : Int32) => if 0 ≤ r95 then (bd (f_X2_place S) (fun (r97 : Int32) => bd (f_L_up x2 (9 : Int32)) (fun (r98 : Int32) => nm (fun (v99 : Int32) => bn2 (f_X2_back v99 S) (fun (r100 : Int32) (T101 : BO) => if r97 ≤ v99 then (c_L_acts_735 (0 : Int32) r100 T101) else (c_L_acts_735 (r97 - v99) r100 T101))) ((1 : Int32) + r98)))) else (bn2 (f_X2_go r7 S) (fun (r103 : Int32) (T104 : BO) => if r103 = r9 then (some ((1 : Int32), T104)) else (some ((0 : Int32), T104)))))) else (if r11 = 9 then (bd (f_L_up (x2 >>> ((4 : Int32) &&& 31)) (5 : Int32)) (fun (r107 : Int32) => bn (f_X2_sound r7 r107 S) (fun (r108 : Int32) => bn (f_X2_carbon r7 r107 S) (fun (r109 : Int32) => bd (f_L_up (x2 >>> ((7 : Int32) &&& 31)) (100 : Int32)) (fun (r110 : Int32) => if r108 < 0 then (c_L_acts_794 r7 r10 S) else (if r10 = 0 then (bn2 (f_X2_correct r7 r107 r110 S) (fun (r113 : Int32) (T114 : BO) => if r113 = r108 then (bn (f_X2_sound r7 r107 T114) (fun (r116 : Int32) => if r116 = r110 then (bn (f_X2_carbon r7 r107 T114) (fun (r118 : Int32) => if r118 = r109 then (some ((1 : Int32), T114)) else (some ((0 : Int32), T114)))) else (some ((0 : Int32), T114)))) else (some ((0 : Int32), T114)))) else (c_L_acts_794 r7 r10 S))))))) else (bd (f_L_up x2 (100 : Int32)) (fun (r120 : Int32) => bd2 (f_L_speaks r120 S) (fun (r121 : Int32) (T122 : BO) => zb r121 (some (r121, T122))))))))))))))))))))
def c_L_acts_29 (x1 : Int32) (x2 : Int32) (x3 : Int32) (x4 : Int32) (S : BO) : Option (Int32 × BO) :=
  c_L_acts_30 x1 x2 x3 x4 (0 : Int32) S
def f_L_acts (p1 : Int32) (p2 : Int32) (S : BO) : Option (Int32 × BO) :=
  bd (f_X2_recordings S) (fun (r1 : Int32) => bd (f_X2_running S) (fun (r2 : Int32) => if r2 < 0 then (c_L_acts_29 p1 p2 r1 r2 S) else (bn (f_X2_length r2 S) (fun (r4 : Int32) => if r4 = 0 then (c_L_acts_30 p1 p2 r1 r2 (1 : Int32) S) else (c_L_acts_29 p1 p2 r1 r2 S)))))
abbrev rm_L_acts : Room := { frames := 6, cells := 2, slots := 20, locals := 165 }
theorem np_L_acts : yL_acts.cls ≠ "java/lang/invoke/MethodHandle" ∧ yL_acts.cls ≠ "java/lang/invoke/VarHandle" ∧ (parseMethodDescriptor yL_acts.desc).map (fun d => d.parameters.length) = some 3 := by decide +kernel
set_option maxHeartbeats 4000000 in
set_option maxRecDepth 100000 in
theorem k_L_acts (l : Launch) (D : va_G) (cs : CS) (a : Nat → Nat → Nat) (p1 : Int32) (p2 : Int32) (S : BO) {r9 : Int32} {S9 : BO} (h : f_L_acts p1 p2 S = some (r9, S9)) : MI l D cs yL_acts cL_acts 20 .boolean rm_L_acts [.ref (a 0 0), .int p1, .int p2] (wB cs a S) r9 (wB cs a S9) := by
  refine MI_of (by decide) (Nat.le_of_ble_eq_true rfl) ?_
  rintro Γ rfl rfl rfl B ret
  show X Γ 20 0 0 0 [(0, .ref (a 0 0)), (1, .int p1), (2, .int p2)] [] (wB Γ.cs a S)
  have h794 : ∀ (x6 : Int32) (x9 : Int32) (S : BO), c_L_acts_794  x6 x9 S = some (r9, S9) → X Γ 20 2 20 794 [(0, .ref (a 0 0)), (6, .int x6), (9, .int x9)] [] (wB Γ.cs a S) := by
    intro  x6 x9 S h
    unfold c_L_acts_794 at h
    refine x_aload_n B (pc' := 795) 0 dL_acts_794 rfl rfl rfl ?_
    refine x_iload B (pc' := 797) 1 dL_acts_795 rfl rfl ?_
    refine x_iload B (pc' := 799) 2 dL_acts_797 rfl rfl ?_
    obtain ⟨r157, T158, er157, h⟩ := bn2_elim h
    refine n_belVi B (pc' := 802) [.int x6, .int x9] (k_X2_setFlag _ _ _ a x6 x9 S er157) gv_RL_44 rfl np_X2_setFlag ⟨Nat.le_of_ble_eq_true rfl, Nat.le_of_ble_eq_true rfl⟩ ⟨by exact Nat.le_of_ble_eq_true rfl, by exact Nat.le_of_ble_eq_true rfl⟩ rfl (Nat.le_of_ble_eq_true rfl) dL_acts_799 rfl ?_
    refine x_iload B (pc' := 804) 2 dL_acts_802 rfl rfl ?_
    refine x_icmp_ne B 811 807 dL_acts_804 (by decide) rfl (fun hc159 => ?_) (fun hc159 => ?_)
    · replace h := ite_f hc159 h
      refine x_iconst B (pc' := 812) 0 dL_acts_811 (by decide) rfl ?_
      refine x_goto B (pc' := 861) dL_acts_812 (by decide) ?_
      obtain ⟨h1, h2⟩ := some2 h
      subst h1
      subst h2
      exact ret rfl (by exact Nat.le_of_ble_eq_true rfl) (by exact Nat.le_of_ble_eq_true rfl) dL_acts_861
    · replace h := ite_t hc159 h
      refine x_iconst B (pc' := 808) 1 dL_acts_807 (by decide) rfl ?_
      refine x_goto B (pc' := 861) dL_acts_808 (by decide) ?_
      obtain ⟨h1, h2⟩ := some2 h
      subst h1
      subst h2
      exact ret rfl (by exact Nat.le_of_ble_eq_true rfl) (by exact Nat.le_of_ble_eq_true rfl) dL_acts_861
  have h735 : ∀ (t0 : Int32) (t1 : Int32) (S : BO), c_L_acts_735  t0 t1 S = some (r9, S9) → X Γ 20 2 20 735 [] [.int t0, .int t1] (wB Γ.cs a S) := by
    intro  t0 t1 S h
    unfold c_L_acts_735 at h
    refine x_icmp_ne B 742 738 dL_acts_735 (by decide) rfl (fun hc156 => ?_) (fun hc156 => ?_)
    · replace h := ite_f hc156 h
      refine x_iconst B (pc' := 743) 0 dL_acts_742 (by decide) rfl ?_
      obtain ⟨h1, h2⟩ := some2 h
      subst h1
      subst h2
      exact ret rfl (by exact Nat.le_of_ble_eq_true rfl) (by exact Nat.le_of_ble_eq_true rfl) dL_acts_743
    · replace h := ite_t hc156 h
      refine x_iconst B (pc' := 739) 1 dL_acts_738 (by decide) rfl ?_
      refine x_goto B (pc' := 743) dL_acts_739 (by decide) ?_
      obtain ⟨h1, h2⟩ := some2 h
      subst h1
      subst h2
      exact ret rfl (by exact Nat.le_of_ble_eq_true rfl) (by exact Nat.le_of_ble_eq_true rfl) dL_acts_743
  have h664 : ∀ (t0 : Int32) (t1 : Int32) (S : BO), c_L_acts_664  t0 t1 S = some (r9, S9) → X Γ 20 2 20 664 [] [.int t0, .int t1] (wB Γ.cs a S) := by
    intro  t0 t1 S h
    unfold c_L_acts_664 at h
    refine x_icmp_ne B 671 667 dL_acts_664 (by decide) rfl (fun hc155 => ?_) (fun hc155 => ?_)
    · replace h := ite_f hc155 h
      refine x_iconst B (pc' := 672) 0 dL_acts_671 (by decide) rfl ?_
      obtain ⟨h1, h2⟩ := some2 h
      subst h1
      subst h2
      exact ret rfl (by exact Nat.le_of_ble_eq_true rfl) (by exact Nat.le_of_ble_eq_true rfl) dL_acts_672
    · replace h := ite_t hc155 h
      refine x_iconst B (pc' := 668) 1 dL_acts_667 (by decide) rfl ?_
      refine x_goto B (pc' := 672) dL_acts_668 (by decide) ?_
      obtain ⟨h1, h2⟩ := some2 h
      subst h1
      subst h2
      exact ret rfl (by exact Nat.le_of_ble_eq_true rfl) (by exact Nat.le_of_ble_eq_true rfl) dL_acts_672
  have h425 : ∀ (x3 : Int32) (x6 : Int32) (x7 : Int32) (x8 : Int32) (x9 : Int32) (t0 : Int32) (S : BO), c_L_acts_425  x3 x6 x7 x8 x9 t0 S = some (r9, S9) → X Γ 20 2 20 425 [(0, .ref (a 0 0)), (3, .int x3), (6, .int x6), (7, .int x7), (8, .int x8), (9, .int x9)] [.int t0] (wB Γ.cs a S) := by
    intro  x3 x6 x7 x8 x9 t0 S h
    unfold c_L_acts_425 at h
    refine x_istore B (pc' := 427) [1, 2, 3, 4, 5, 6, 0] [(0, .ref (a 0 0)), (3, .int x3), (6, .int x6), (7, .int x7), (8, .int x8), (9, .int x9), (10, .int t0)] dL_acts_425 (by decide) rfl rfl ?_
    refine x_iload B (pc' := 429) 6 dL_acts_427 rfl rfl ?_
    refine x_if_eq B 473 432 dL_acts_429 (by decide) rfl (fun hc144 => ?_) (fun hc144 => ?_)
    · replace h := ite_t hc144 h
      refine x_aload_n B (pc' := 474) 0 dL_acts_473 rfl rfl rfl ?_
      refine x_iload B (pc' := 476) 2 dL_acts_474 rfl rfl ?_
      refine x_iload B (pc' := 478) 5 dL_acts_476 rfl rfl ?_
      obtain ⟨r145, T146, er145, h⟩ := bn2_elim h
      refine n_belVi B (pc' := 481) [.int x6, .int x9] (k_X2_setFlag _ _ _ a x6 x9 S er145) gv_RL_44 rfl np_X2_setFlag ⟨Nat.le_of_ble_eq_true rfl, Nat.le_of_ble_eq_true rfl⟩ ⟨by exact Nat.le_of_ble_eq_true rfl, by exact Nat.le_of_ble_eq_true rfl⟩ rfl (Nat.le_of_ble_eq_true rfl) dL_acts_478 rfl ?_
      refine x_iload B (pc' := 483) 5 dL_acts_481 rfl rfl ?_
      refine x_icmp_ne B 490 486 dL_acts_483 (by decide) rfl (fun hc147 => ?_) (fun hc147 => ?_)
      · replace h := ite_f hc147 h
        refine x_iconst B (pc' := 491) 0 dL_acts_490 (by decide) rfl ?_
        obtain ⟨h1, h2⟩ := some2 h
        subst h1
        subst h2
        exact ret rfl (by exact Nat.le_of_ble_eq_true rfl) (by exact Nat.le_of_ble_eq_true rfl) dL_acts_491
      · replace h := ite_t hc147 h
        refine x_iconst B (pc' := 487) 1 dL_acts_486 (by decide) rfl ?_
        refine x_goto B (pc' := 491) dL_acts_487 (by decide) ?_
        obtain ⟨h1, h2⟩ := some2 h
        subst h1
        subst h2
        exact ret rfl (by exact Nat.le_of_ble_eq_true rfl) (by exact Nat.le_of_ble_eq_true rfl) dL_acts_491
    · replace h := ite_f hc144 h
      refine x_aload_n B (pc' := 433) 0 dL_acts_432 rfl rfl rfl ?_
      refine x_iload B (pc' := 435) 2 dL_acts_433 rfl rfl ?_
      obtain ⟨r148, T149, er148, h⟩ := bn2_elim h
      refine n_belVi B (pc' := 438) [.int x6] (k_X2_erase _ _ _ a x6 S er148) gv_RL_88 rfl np_X2_erase ⟨Nat.le_of_ble_eq_true rfl, Nat.le_of_ble_eq_true rfl⟩ ⟨by exact Nat.le_of_ble_eq_true rfl, by exact Nat.le_of_ble_eq_true rfl⟩ rfl (Nat.le_of_ble_eq_true rfl) dL_acts_435 rfl ?_
      refine x_iload B (pc' := 440) 4 dL_acts_438 rfl rfl ?_
      refine x_icmp_ne B 469 443 dL_acts_440 (by decide) rfl (fun hc150 => ?_) (fun hc150 => ?_)
      · replace h := ite_f hc150 h
        refine x_iconst B (pc' := 470) 0 dL_acts_469 (by decide) rfl ?_
        refine x_goto B (pc' := 491) dL_acts_470 (by decide) ?_
        obtain ⟨h1, h2⟩ := some2 h
        subst h1
        subst h2
        exact ret rfl (by exact Nat.le_of_ble_eq_true rfl) (by exact Nat.le_of_ble_eq_true rfl) dL_acts_491
      · replace h := ite_t hc150 h
        refine x_aload_n B (pc' := 444) 0 dL_acts_443 rfl rfl rfl ?_
        obtain ⟨r151, er151, h⟩ := bd_elim h
        refine n_belVi B (pc' := 447) [] (k_X2_recordings _ _ _ a T149 er151) gv_RL_63 rfl np_X2_recordings ⟨Nat.le_of_ble_eq_true rfl, Nat.le_of_ble_eq_true rfl⟩ ⟨by exact Nat.le_of_ble_eq_true rfl, by exact Nat.le_of_ble_eq_true rfl⟩ rfl (Nat.le_of_ble_eq_true rfl) dL_acts_444 rfl ?_
        refine x_iload_n B (pc' := 448) 1 dL_acts_447 rfl rfl rfl ?_
        refine x_iconst B (pc' := 449) 1 dL_acts_448 (by decide) rfl ?_
        refine x_isub B (pc' := 450) dL_acts_449 rfl ?_
        refine x_icmp_ne B 469 453 dL_acts_450 (by decide) rfl (fun hc152 => ?_) (fun hc152 => ?_)
        · replace h := ite_f hc152 h
          refine x_iconst B (pc' := 470) 0 dL_acts_469 (by decide) rfl ?_
          refine x_goto B (pc' := 491) dL_acts_470 (by decide) ?_
          obtain ⟨h1, h2⟩ := some2 h
          subst h1
          subst h2
          exact ret rfl (by exact Nat.le_of_ble_eq_true rfl) (by exact Nat.le_of_ble_eq_true rfl) dL_acts_491
        · replace h := ite_t hc152 h
          refine x_aload_n B (pc' := 454) 0 dL_acts_453 rfl rfl rfl ?_
          obtain ⟨r153, er153, h⟩ := bd_elim h
          refine n_belVi B (pc' := 457) [] (k_X2_free _ _ _ a T149 er153) gv_RL_85 rfl np_X2_free ⟨Nat.le_of_ble_eq_true rfl, Nat.le_of_ble_eq_true rfl⟩ ⟨by exact Nat.le_of_ble_eq_true rfl, by exact Nat.le_of_ble_eq_true rfl⟩ rfl (Nat.le_of_ble_eq_true rfl) dL_acts_454 rfl ?_
          refine x_iload B (pc' := 459) 3 dL_acts_457 rfl rfl ?_
          refine x_iload B (pc' := 461) 4 dL_acts_459 rfl rfl ?_
          refine x_iadd B (pc' := 462) dL_acts_461 rfl ?_
          refine x_icmp_ne B 469 465 dL_acts_462 (by decide) rfl (fun hc154 => ?_) (fun hc154 => ?_)
          · replace h := ite_f hc154 h
            refine x_iconst B (pc' := 470) 0 dL_acts_469 (by decide) rfl ?_
            refine x_goto B (pc' := 491) dL_acts_470 (by decide) ?_
            obtain ⟨h1, h2⟩ := some2 h
            subst h1
            subst h2
            exact ret rfl (by exact Nat.le_of_ble_eq_true rfl) (by exact Nat.le_of_ble_eq_true rfl) dL_acts_491
          · replace h := ite_t hc154 h
            refine x_iconst B (pc' := 466) 1 dL_acts_465 (by decide) rfl ?_
            refine x_goto B (pc' := 491) dL_acts_466 (by decide) ?_
            obtain ⟨h1, h2⟩ := some2 h
            subst h1
            subst h2
            exact ret rfl (by exact Nat.le_of_ble_eq_true rfl) (by exact Nat.le_of_ble_eq_true rfl) dL_acts_491
  have h424 : ∀ (x3 : Int32) (x6 : Int32) (x7 : Int32) (x8 : Int32) (x9 : Int32) (S : BO), c_L_acts_424  x3 x6 x7 x8 x9 S = some (r9, S9) → X Γ 20 2 20 424 [(0, .ref (a 0 0)), (3, .int x3), (6, .int x6), (7, .int x7), (8, .int x8), (9, .int x9)] [] (wB Γ.cs a S) := by
    intro  x3 x6 x7 x8 x9 S h
    unfold c_L_acts_424 at h
    refine x_iconst B (pc' := 425) 0 dL_acts_424 (by decide) rfl ?_
    refine x_widen (k' := 2) (n' := 20) (by exact Nat.le_of_ble_eq_true rfl) (by exact Nat.le_of_ble_eq_true rfl) ?_
    exact h425  _ _ _ _ _ _ _ h
  have h397 : ∀ (t0 : Int32) (t1 : Int32) (S : BO), c_L_acts_397  t0 t1 S = some (r9, S9) → X Γ 20 2 20 397 [] [.int t0, .int t1] (wB Γ.cs a S) := by
    intro  t0 t1 S h
    unfold c_L_acts_397 at h
    refine x_icmp_ne B 404 400 dL_acts_397 (by decide) rfl (fun hc167 => ?_) (fun hc167 => ?_)
    · replace h := ite_f hc167 h
      refine x_iconst B (pc' := 405) 0 dL_acts_404 (by decide) rfl ?_
      obtain ⟨h1, h2⟩ := some2 h
      subst h1
      subst h2
      exact ret rfl (by exact Nat.le_of_ble_eq_true rfl) (by exact Nat.le_of_ble_eq_true rfl) dL_acts_405
    · replace h := ite_t hc167 h
      refine x_iconst B (pc' := 401) 1 dL_acts_400 (by decide) rfl ?_
      refine x_goto B (pc' := 405) dL_acts_401 (by decide) ?_
      obtain ⟨h1, h2⟩ := some2 h
      subst h1
      subst h2
      exact ret rfl (by exact Nat.le_of_ble_eq_true rfl) (by exact Nat.le_of_ble_eq_true rfl) dL_acts_405
  have h369 : ∀ (x2 : Int32) (x6 : Int32) (x9 : Int32) (t0 : Int32) (t1 : Int32) (S : BO), c_L_acts_369  x2 x6 x9 t0 t1 S = some (r9, S9) → X Γ 20 2 20 369 [(0, .ref (a 0 0)), (2, .int x2), (6, .int x6), (9, .int x9)] [.int t0, .int t1, .ref (a 0 0)] (wB Γ.cs a S) := by
    intro  x2 x6 x9 t0 t1 S h
    unfold c_L_acts_369 at h
    obtain ⟨r139, T140, er139, h⟩ := bn2_elim h
    refine n_belVi B (pc' := 372) [.int t1, .int t0] (k_X2_setFlag _ _ _ a t1 t0 S er139) gv_RL_44 rfl np_X2_setFlag ⟨Nat.le_of_ble_eq_true rfl, Nat.le_of_ble_eq_true rfl⟩ ⟨by exact Nat.le_of_ble_eq_true rfl, by exact Nat.le_of_ble_eq_true rfl⟩ rfl (Nat.le_of_ble_eq_true rfl) dL_acts_369 rfl ?_
    refine x_iload B (pc' := 374) 3 dL_acts_372 rfl rfl ?_
    refine x_icmp_ne B 404 377 dL_acts_374 (by decide) rfl (fun hc141 => ?_) (fun hc141 => ?_)
    · replace h := ite_f hc141 h
      refine x_iconst B (pc' := 405) 0 dL_acts_404 (by decide) rfl ?_
      obtain ⟨h1, h2⟩ := some2 h
      subst h1
      subst h2
      exact ret rfl (by exact Nat.le_of_ble_eq_true rfl) (by exact Nat.le_of_ble_eq_true rfl) dL_acts_405
    · replace h := ite_t hc141 h
      refine x_aload_n B (pc' := 378) 0 dL_acts_377 rfl rfl rfl ?_
      refine x_iload B (pc' := 380) 2 dL_acts_378 rfl rfl ?_
      obtain ⟨r142, er142, h⟩ := bn_elim h
      refine n_belVi B (pc' := 383) [.int x6] (k_X2_hasFlag _ _ _ a x6 T140 er142) gv_RL_37 rfl np_X2_hasFlag ⟨Nat.le_of_ble_eq_true rfl, Nat.le_of_ble_eq_true rfl⟩ ⟨by exact Nat.le_of_ble_eq_true rfl, by exact Nat.le_of_ble_eq_true rfl⟩ rfl (Nat.le_of_ble_eq_true rfl) dL_acts_380 rfl ?_
      refine x_iload_n B (pc' := 384) 1 dL_acts_383 rfl rfl rfl ?_
      refine x_bipush B (pc' := 386) 6 dL_acts_384 (by decide) rfl ?_
      refine x_ishr B (pc' := 387) dL_acts_386 rfl ?_
      refine x_iconst B (pc' := 388) 3 dL_acts_387 (by decide) rfl ?_
      refine x_iand B (pc' := 389) dL_acts_388 rfl ?_
      refine x_if_ne B 396 392 dL_acts_389 (by decide) rfl (fun hc143 => ?_) (fun hc143 => ?_)
      · replace h := ite_f hc143 h
        refine x_iconst B (pc' := 397) 0 dL_acts_396 (by decide) rfl ?_
        refine x_widen (k' := 2) (n' := 20) (by exact Nat.le_of_ble_eq_true rfl) (by exact Nat.le_of_ble_eq_true rfl) ?_
        refine x_lv [] (lv' := []) rfl ?_
        exact h397  _ _ _ h
      · replace h := ite_t hc143 h
        refine x_iconst B (pc' := 393) 1 dL_acts_392 (by decide) rfl ?_
        refine x_goto B (pc' := 397) dL_acts_393 (by decide) ?_
        refine x_widen (k' := 2) (n' := 20) (by exact Nat.le_of_ble_eq_true rfl) (by exact Nat.le_of_ble_eq_true rfl) ?_
        refine x_lv [] (lv' := []) rfl ?_
        exact h397  _ _ _ h
  have h343 : ∀ (t0 : Int32) (t1 : Int32) (S : BO), c_L_acts_343  t0 t1 S = some (r9, S9) → X Γ 20 2 20 343 [] [.int t0, .int t1] (wB Γ.cs a S) := by
    intro  t0 t1 S h
    unfold c_L_acts_343 at h
    refine x_icmp_ne B 350 346 dL_acts_343 (by decide) rfl (fun hc138 => ?_) (fun hc138 => ?_)
    · replace h := ite_f hc138 h
      refine x_iconst B (pc' := 351) 0 dL_acts_350 (by decide) rfl ?_
      obtain ⟨h1, h2⟩ := some2 h
      subst h1
      subst h2
      exact ret rfl (by exact Nat.le_of_ble_eq_true rfl) (by exact Nat.le_of_ble_eq_true rfl) dL_acts_351
    · replace h := ite_t hc138 h
      refine x_iconst B (pc' := 347) 1 dL_acts_346 (by decide) rfl ?_
      refine x_goto B (pc' := 351) dL_acts_347 (by decide) ?_
      obtain ⟨h1, h2⟩ := some2 h
      subst h1
      subst h2
      exact ret rfl (by exact Nat.le_of_ble_eq_true rfl) (by exact Nat.le_of_ble_eq_true rfl) dL_acts_351
  have h248 : ∀ (t0 : Int32) (t1 : Int32) (S : BO), c_L_acts_248  t0 t1 S = some (r9, S9) → X Γ 20 2 20 248 [(0, .ref (a 0 0))] [.int t0, .int t1] (wB Γ.cs a S) := by
    intro  t0 t1 S h
    unfold c_L_acts_248 at h
    refine x_icmp_ne B 279 251 dL_acts_248 (by decide) rfl (fun hc160 => ?_) (fun hc160 => ?_)
    · replace h := ite_f hc160 h
      refine x_iconst B (pc' := 280) 0 dL_acts_279 (by decide) rfl ?_
      obtain ⟨h1, h2⟩ := some2 h
      subst h1
      subst h2
      exact ret rfl (by exact Nat.le_of_ble_eq_true rfl) (by exact Nat.le_of_ble_eq_true rfl) dL_acts_280
    · replace h := ite_t hc160 h
      refine x_aload_n B (pc' := 252) 0 dL_acts_251 rfl rfl rfl ?_
      obtain ⟨r161, er161, h⟩ := bd_elim h
      refine n_belVi B (pc' := 255) [] (k_X2_running _ _ _ a S er161) gv_RL_33 rfl np_X2_running ⟨Nat.le_of_ble_eq_true rfl, Nat.le_of_ble_eq_true rfl⟩ ⟨by exact Nat.le_of_ble_eq_true rfl, by exact Nat.le_of_ble_eq_true rfl⟩ rfl (Nat.le_of_ble_eq_true rfl) dL_acts_252 rfl ?_
      refine x_aload_n B (pc' := 256) 0 dL_acts_255 rfl rfl rfl ?_
      obtain ⟨r162, er162, h⟩ := bd_elim h
      refine n_belVi B (pc' := 259) [] (k_X2_recordings _ _ _ a S er162) gv_RL_63 rfl np_X2_recordings ⟨Nat.le_of_ble_eq_true rfl, Nat.le_of_ble_eq_true rfl⟩ ⟨by exact Nat.le_of_ble_eq_true rfl, by exact Nat.le_of_ble_eq_true rfl⟩ rfl (Nat.le_of_ble_eq_true rfl) dL_acts_256 rfl ?_
      refine x_iconst B (pc' := 260) 1 dL_acts_259 (by decide) rfl ?_
      refine x_isub B (pc' := 261) dL_acts_260 rfl ?_
      refine x_icmp_ne B 279 264 dL_acts_261 (by decide) rfl (fun hc163 => ?_) (fun hc163 => ?_)
      · replace h := ite_f hc163 h
        refine x_iconst B (pc' := 280) 0 dL_acts_279 (by decide) rfl ?_
        obtain ⟨h1, h2⟩ := some2 h
        subst h1
        subst h2
        exact ret rfl (by exact Nat.le_of_ble_eq_true rfl) (by exact Nat.le_of_ble_eq_true rfl) dL_acts_280
      · replace h := ite_t hc163 h
        refine x_aload_n B (pc' := 265) 0 dL_acts_264 rfl rfl rfl ?_
        refine x_aload_n B (pc' := 266) 0 dL_acts_265 rfl rfl rfl ?_
        obtain ⟨r164, er164, h⟩ := bd_elim h
        refine n_belVi B (pc' := 269) [] (k_X2_running _ _ _ a S er164) gv_RL_33 rfl np_X2_running ⟨Nat.le_of_ble_eq_true rfl, Nat.le_of_ble_eq_true rfl⟩ ⟨by exact Nat.le_of_ble_eq_true rfl, by exact Nat.le_of_ble_eq_true rfl⟩ rfl (Nat.le_of_ble_eq_true rfl) dL_acts_266 rfl ?_
        obtain ⟨r165, er165, h⟩ := bn_elim h
        refine n_belVi B (pc' := 272) [.int r164] (k_X2_length _ _ _ a r164 S er165) gv_RL_11 rfl np_X2_length ⟨Nat.le_of_ble_eq_true rfl, Nat.le_of_ble_eq_true rfl⟩ ⟨by exact Nat.le_of_ble_eq_true rfl, by exact Nat.le_of_ble_eq_true rfl⟩ rfl (Nat.le_of_ble_eq_true rfl) dL_acts_269 rfl ?_
        refine x_if_ne B 279 275 dL_acts_272 (by decide) rfl (fun hc166 => ?_) (fun hc166 => ?_)
        · replace h := ite_f hc166 h
          refine x_iconst B (pc' := 280) 0 dL_acts_279 (by decide) rfl ?_
          obtain ⟨h1, h2⟩ := some2 h
          subst h1
          subst h2
          exact ret rfl (by exact Nat.le_of_ble_eq_true rfl) (by exact Nat.le_of_ble_eq_true rfl) dL_acts_280
        · replace h := ite_t hc166 h
          refine x_iconst B (pc' := 276) 1 dL_acts_275 (by decide) rfl ?_
          refine x_goto B (pc' := 280) dL_acts_276 (by decide) ?_
          obtain ⟨h1, h2⟩ := some2 h
          subst h1
          subst h2
          exact ret rfl (by exact Nat.le_of_ble_eq_true rfl) (by exact Nat.le_of_ble_eq_true rfl) dL_acts_280
  have h232 : ∀ (x3 : Int32) (x5 : Int32) (S : BO), c_L_acts_232  x3 x5 S = some (r9, S9) → X Γ 20 2 20 232 [(0, .ref (a 0 0)), (3, .int x3), (5, .int x5)] [] (wB Γ.cs a S) := by
    intro  x3 x5 S h
    unfold c_L_acts_232 at h
    refine x_aload_n B (pc' := 233) 0 dL_acts_232 rfl rfl rfl ?_
    obtain ⟨r135, T136, er135, h⟩ := bn2_elim h
    refine n_belVi B (pc' := 236) [] (k_X2_begin _ _ _ a S er135) gv_RL_79 rfl np_X2_begin ⟨Nat.le_of_ble_eq_true rfl, Nat.le_of_ble_eq_true rfl⟩ ⟨by exact Nat.le_of_ble_eq_true rfl, by exact Nat.le_of_ble_eq_true rfl⟩ rfl (Nat.le_of_ble_eq_true rfl) dL_acts_233 rfl ?_
    refine x_iload B (pc' := 238) 2 dL_acts_236 rfl rfl ?_
    refine x_if_eq B 247 241 dL_acts_238 (by decide) rfl (fun hc137 => ?_) (fun hc137 => ?_)
    · replace h := ite_t hc137 h
      refine x_iload_n B (pc' := 248) 1 dL_acts_247 rfl rfl rfl ?_
      refine x_widen (k' := 2) (n' := 20) (by exact Nat.le_of_ble_eq_true rfl) (by exact Nat.le_of_ble_eq_true rfl) ?_
      refine x_lv [0] (lv' := [(0, .ref (a 0 0))]) rfl ?_
      exact h248  _ _ _ h
    · replace h := ite_f hc137 h
      refine x_iload_n B (pc' := 242) 1 dL_acts_241 rfl rfl rfl ?_
      refine x_iconst B (pc' := 243) 1 dL_acts_242 (by decide) rfl ?_
      refine x_isub B (pc' := 244) dL_acts_243 rfl ?_
      refine x_goto B (pc' := 248) dL_acts_244 (by decide) ?_
      refine x_widen (k' := 2) (n' := 20) (by exact Nat.le_of_ble_eq_true rfl) (by exact Nat.le_of_ble_eq_true rfl) ?_
      refine x_lv [0] (lv' := [(0, .ref (a 0 0))]) rfl ?_
      exact h248  _ _ _ h
  have h30 : ∀ (x1 : Int32) (x2 : Int32) (x3 : Int32) (x4 : Int32) (t0 : Int32) (S : BO), c_L_acts_30  x1 x2 x3 x4 t0 S = some (r9, S9) → X Γ 20 0 0 30 [(0, .ref (a 0 0)), (1, .int x1), (2, .int x2), (3, .int x3), (4, .int x4)] [.int t0] (wB Γ.cs a S) := by
    intro  x1 x2 x3 x4 t0 S h
    unfold c_L_acts_30 at h
    refine x_istore B (pc' := 32) [1, 2, 3, 4, 5, 0] [(0, .ref (a 0 0)), (1, .int x1), (2, .int x2), (3, .int x3), (4, .int x4), (5, .int t0)] dL_acts_30 (by decide) rfl rfl ?_
    refine x_iload_n B (pc' := 33) 3 dL_acts_32 rfl rfl rfl ?_
    refine x_if_ne B 80 36 dL_acts_33 (by decide) rfl (fun hc6 => ?_) (fun hc6 => ?_)
    · replace h := ite_f hc6 h
      refine x_iload_n B (pc' := 81) 2 dL_acts_80 rfl rfl rfl ?_
      refine x_iload_n B (pc' := 82) 3 dL_acts_81 rfl rfl rfl ?_
      obtain ⟨r7, er7, h⟩ := bd_elim h
      refine x_pureSi B (pc' := 85) [.int x2, .int x3] (k_L_up _ _ _ x2 x3 er7) gv_RL_82 np_L_up ⟨Nat.le_of_ble_eq_true rfl, Nat.le_of_ble_eq_true rfl⟩ ⟨by exact Nat.le_of_ble_eq_true rfl, by exact Nat.le_of_ble_eq_true rfl⟩ rfl (Nat.le_of_ble_eq_true rfl) dL_acts_82 rfl ?_
      refine x_istore B (pc' := 87) [1, 2, 3, 4, 5, 6, 0] [(0, .ref (a 0 0)), (1, .int x1), (2, .int x2), (3, .int x3), (4, .int x4), (5, .int t0), (6, .int r7)] dL_acts_85 (by decide) rfl rfl ?_
      refine x_aload_n B (pc' := 88) 0 dL_acts_87 rfl rfl rfl ?_
      obtain ⟨r8, er8, h⟩ := bd_elim h
      refine n_belVi B (pc' := 91) [] (k_X2_free _ _ _ a S er8) gv_RL_85 rfl np_X2_free ⟨Nat.le_of_ble_eq_true rfl, Nat.le_of_ble_eq_true rfl⟩ ⟨by exact Nat.le_of_ble_eq_true rfl, by exact Nat.le_of_ble_eq_true rfl⟩ rfl (Nat.le_of_ble_eq_true rfl) dL_acts_88 rfl ?_
      refine x_istore B (pc' := 93) [1, 2, 3, 4, 5, 6, 7, 0] [(0, .ref (a 0 0)), (1, .int x1), (2, .int x2), (3, .int x3), (4, .int x4), (5, .int t0), (6, .int r7), (7, .int r8)] dL_acts_91 (by decide) rfl rfl ?_
      refine x_aload_n B (pc' := 94) 0 dL_acts_93 rfl rfl rfl ?_
      refine x_iload B (pc' := 96) 6 dL_acts_94 rfl rfl ?_
      obtain ⟨r9, er9, h⟩ := bn_elim h
      refine n_belVi B (pc' := 99) [.int r7] (k_X2_length _ _ _ a r7 S er9) gv_RL_11 rfl np_X2_length ⟨Nat.le_of_ble_eq_true rfl, Nat.le_of_ble_eq_true rfl⟩ ⟨by exact Nat.le_of_ble_eq_true rfl, by exact Nat.le_of_ble_eq_true rfl⟩ rfl (Nat.le_of_ble_eq_true rfl) dL_acts_96 rfl ?_
      refine x_istore B (pc' := 101) [1, 2, 3, 4, 5, 6, 7, 8, 0] [(0, .ref (a 0 0)), (1, .int x1), (2, .int x2), (3, .int x3), (4, .int x4), (5, .int t0), (6, .int r7), (7, .int r8), (8, .int r9)] dL_acts_99 (by decide) rfl rfl ?_
      refine x_aload_n B (pc' := 102) 0 dL_acts_101 rfl rfl rfl ?_
      refine x_iload B (pc' := 104) 6 dL_acts_102 rfl rfl ?_
      obtain ⟨r10, er10, h⟩ := bn_elim h
      refine n_belVi B (pc' := 107) [.int r7] (k_X2_hasFlag _ _ _ a r7 S er10) gv_RL_37 rfl np_X2_hasFlag ⟨Nat.le_of_ble_eq_true rfl, Nat.le_of_ble_eq_true rfl⟩ ⟨by exact Nat.le_of_ble_eq_true rfl, by exact Nat.le_of_ble_eq_true rfl⟩ rfl (Nat.le_of_ble_eq_true rfl) dL_acts_104 rfl ?_
      refine x_istore B (pc' := 109) [1, 2, 3, 4, 5, 6, 7, 8, 9, 0] [(0, .ref (a 0 0)), (1, .int x1), (2, .int x2), (3, .int x3), (4, .int x4), (5, .int t0), (6, .int r7), (7, .int r8), (8, .int r9), (9, .int r10)] dL_acts_107 (by decide) rfl rfl ?_
      refine x_iload_n B (pc' := 110) 1 dL_acts_109 rfl rfl rfl ?_
      refine x_bipush B (pc' := 112) 16 dL_acts_110 (by decide) rfl ?_
      obtain ⟨r11, er11, h⟩ := bd_elim h
      refine x_pureSi B (pc' := 115) [.int x1, .int (16 : Int32)] (k_L_up _ _ _ x1 (16 : Int32) er11) gv_RL_82 np_L_up ⟨Nat.le_of_ble_eq_true rfl, Nat.le_of_ble_eq_true rfl⟩ ⟨by exact Nat.le_of_ble_eq_true rfl, by exact Nat.le_of_ble_eq_true rfl⟩ rfl (Nat.le_of_ble_eq_true rfl) dL_acts_112 rfl ?_
      by_cases hc12 : r11 = 0
      · replace h := ite_t hc12 h
        refine x_tableIn B (off := 53) (pc' := 168) dL_acts_115 (by rw [hc12]; decide) (by rw [hc12]; decide) (by rw [hc12]; rfl) (by decide) ?_
        refine x_iload_n B (pc' := 169) 3 dL_acts_168 rfl rfl rfl ?_
        refine x_bipush B (pc' := 171) 10 dL_acts_169 (by decide) rfl ?_
        refine x_icmp_ne B 232 174 dL_acts_171 (by decide) rfl (fun hc13 => ?_) (fun hc13 => ?_)
        · replace h := ite_f hc13 h
          refine x_widen (k' := 2) (n' := 20) (by exact Nat.le_of_ble_eq_true rfl) (by exact Nat.le_of_ble_eq_true rfl) ?_
          refine x_lv [0, 3, 5] (lv' := [(0, .ref (a 0 0)), (3, .int x3), (5, .int t0)]) rfl ?_
          exact h232  _ _ _ h
        · replace h := ite_t hc13 h
          refine x_iload B (pc' := 176) 5 dL_acts_174 rfl rfl ?_
          refine x_if_ne B 232 179 dL_acts_176 (by decide) rfl (fun hc14 => ?_) (fun hc14 => ?_)
          · replace h := ite_f hc14 h
            refine x_widen (k' := 2) (n' := 20) (by exact Nat.le_of_ble_eq_true rfl) (by exact Nat.le_of_ble_eq_true rfl) ?_
            refine x_lv [0, 3, 5] (lv' := [(0, .ref (a 0 0)), (3, .int x3), (5, .int t0)]) rfl ?_
            exact h232  _ _ _ h
          · replace h := ite_t hc14 h
            refine x_iload B (pc' := 181) 9 dL_acts_179 rfl rfl ?_
            refine x_if_eq B 194 184 dL_acts_181 (by decide) rfl (fun hc15 => ?_) (fun hc15 => ?_)
            · replace h := ite_t hc15 h
              refine x_aload_n B (pc' := 195) 0 dL_acts_194 rfl rfl rfl ?_
              refine x_iload B (pc' := 197) 6 dL_acts_195 rfl rfl ?_
              obtain ⟨r16, T17, er16, h⟩ := bn2_elim h
              refine n_belVi B (pc' := 200) [.int r7] (k_X2_erase _ _ _ a r7 S er16) gv_RL_88 rfl np_X2_erase ⟨Nat.le_of_ble_eq_true rfl, Nat.le_of_ble_eq_true rfl⟩ ⟨by exact Nat.le_of_ble_eq_true rfl, by exact Nat.le_of_ble_eq_true rfl⟩ rfl (Nat.le_of_ble_eq_true rfl) dL_acts_197 rfl ?_
              refine x_iload B (pc' := 202) 8 dL_acts_200 rfl rfl ?_
              refine x_icmp_ne B 230 205 dL_acts_202 (by decide) rfl (fun hc18 => ?_) (fun hc18 => ?_)
              · replace h := ite_f hc18 h
                refine x_iconst B (pc' := 231) 0 dL_acts_230 (by decide) rfl ?_
                obtain ⟨h1, h2⟩ := some2 h
                subst h1
                subst h2
                exact ret rfl (by exact Nat.le_of_ble_eq_true rfl) (by exact Nat.le_of_ble_eq_true rfl) dL_acts_231
              · replace h := ite_t hc18 h
                refine x_aload_n B (pc' := 206) 0 dL_acts_205 rfl rfl rfl ?_
                obtain ⟨r19, er19, h⟩ := bd_elim h
                refine n_belVi B (pc' := 209) [] (k_X2_free _ _ _ a T17 er19) gv_RL_85 rfl np_X2_free ⟨Nat.le_of_ble_eq_true rfl, Nat.le_of_ble_eq_true rfl⟩ ⟨by exact Nat.le_of_ble_eq_true rfl, by exact Nat.le_of_ble_eq_true rfl⟩ rfl (Nat.le_of_ble_eq_true rfl) dL_acts_206 rfl ?_
                refine x_iload B (pc' := 211) 7 dL_acts_209 rfl rfl ?_
                refine x_iload B (pc' := 213) 8 dL_acts_211 rfl rfl ?_
                refine x_iadd B (pc' := 214) dL_acts_213 rfl ?_
                refine x_icmp_ne B 230 217 dL_acts_214 (by decide) rfl (fun hc20 => ?_) (fun hc20 => ?_)
                · replace h := ite_f hc20 h
                  refine x_iconst B (pc' := 231) 0 dL_acts_230 (by decide) rfl ?_
                  obtain ⟨h1, h2⟩ := some2 h
                  subst h1
                  subst h2
                  exact ret rfl (by exact Nat.le_of_ble_eq_true rfl) (by exact Nat.le_of_ble_eq_true rfl) dL_acts_231
                · replace h := ite_t hc20 h
                  refine x_aload_n B (pc' := 218) 0 dL_acts_217 rfl rfl rfl ?_
                  obtain ⟨r21, er21, h⟩ := bd_elim h
                  refine n_belVi B (pc' := 221) [] (k_X2_recordings _ _ _ a T17 er21) gv_RL_63 rfl np_X2_recordings ⟨Nat.le_of_ble_eq_true rfl, Nat.le_of_ble_eq_true rfl⟩ ⟨by exact Nat.le_of_ble_eq_true rfl, by exact Nat.le_of_ble_eq_true rfl⟩ rfl (Nat.le_of_ble_eq_true rfl) dL_acts_218 rfl ?_
                  refine x_bipush B (pc' := 223) 9 dL_acts_221 (by decide) rfl ?_
                  refine x_icmp_ne B 230 226 dL_acts_223 (by decide) rfl (fun hc22 => ?_) (fun hc22 => ?_)
                  · replace h := ite_f hc22 h
                    refine x_iconst B (pc' := 231) 0 dL_acts_230 (by decide) rfl ?_
                    obtain ⟨h1, h2⟩ := some2 h
                    subst h1
                    subst h2
                    exact ret rfl (by exact Nat.le_of_ble_eq_true rfl) (by exact Nat.le_of_ble_eq_true rfl) dL_acts_231
                  · replace h := ite_t hc22 h
                    refine x_iconst B (pc' := 227) 1 dL_acts_226 (by decide) rfl ?_
                    refine x_goto B (pc' := 231) dL_acts_227 (by decide) ?_
                    obtain ⟨h1, h2⟩ := some2 h
                    subst h1
                    subst h2
                    exact ret rfl (by exact Nat.le_of_ble_eq_true rfl) (by exact Nat.le_of_ble_eq_true rfl) dL_acts_231
            · replace h := ite_f hc15 h
              refine x_aload_n B (pc' := 185) 0 dL_acts_184 rfl rfl rfl ?_
              refine x_iload B (pc' := 187) 6 dL_acts_185 rfl rfl ?_
              refine x_iconst B (pc' := 188) 0 dL_acts_187 (by decide) rfl ?_
              obtain ⟨r23, T24, er23, h⟩ := bn2_elim h
              refine n_belVi B (pc' := 191) [.int r7, .int (0 : Int32)] (k_X2_setFlag _ _ _ a r7 (0 : Int32) S er23) gv_RL_44 rfl np_X2_setFlag ⟨Nat.le_of_ble_eq_true rfl, Nat.le_of_ble_eq_true rfl⟩ ⟨by exact Nat.le_of_ble_eq_true rfl, by exact Nat.le_of_ble_eq_true rfl⟩ rfl (Nat.le_of_ble_eq_true rfl) dL_acts_188 rfl ?_
              refine x_goto B (pc' := 231) dL_acts_191 (by decide) ?_
              obtain ⟨hz25, h⟩ := zb_elim h
              obtain ⟨h1, h2⟩ := some2 h
              subst h1
              subst h2
              exact ret (zb_nar hz25) (by exact Nat.le_of_ble_eq_true rfl) (by exact Nat.le_of_ble_eq_true rfl) dL_acts_231
      replace h := ite_f hc12 h
      by_cases hc26 : r11 = 1
      · replace h := ite_t hc26 h
        refine x_tableIn B (off := 53) (pc' := 168) dL_acts_115 (by rw [hc26]; decide) (by rw [hc26]; decide) (by rw [hc26]; rfl) (by decide) ?_
        refine x_iload_n B (pc' := 169) 3 dL_acts_168 rfl rfl rfl ?_
        refine x_bipush B (pc' := 171) 10 dL_acts_169 (by decide) rfl ?_
        refine x_icmp_ne B 232 174 dL_acts_171 (by decide) rfl (fun hc27 => ?_) (fun hc27 => ?_)
        · replace h := ite_f hc27 h
          refine x_widen (k' := 2) (n' := 20) (by exact Nat.le_of_ble_eq_true rfl) (by exact Nat.le_of_ble_eq_true rfl) ?_
          refine x_lv [0, 3, 5] (lv' := [(0, .ref (a 0 0)), (3, .int x3), (5, .int t0)]) rfl ?_
          exact h232  _ _ _ h
        · replace h := ite_t hc27 h
          refine x_iload B (pc' := 176) 5 dL_acts_174 rfl rfl ?_
          refine x_if_ne B 232 179 dL_acts_176 (by decide) rfl (fun hc28 => ?_) (fun hc28 => ?_)
          · replace h := ite_f hc28 h
            refine x_widen (k' := 2) (n' := 20) (by exact Nat.le_of_ble_eq_true rfl) (by exact Nat.le_of_ble_eq_true rfl) ?_
            refine x_lv [0, 3, 5] (lv' := [(0, .ref (a 0 0)), (3, .int x3), (5, .int t0)]) rfl ?_
            exact h232  _ _ _ h
          · replace h := ite_t hc28 h
            refine x_iload B (pc' := 181) 9 dL_acts_179 rfl rfl ?_
            refine x_if_eq B 194 184 dL_acts_181 (by decide) rfl (fun hc29 => ?_) (fun hc29 => ?_)
            · replace h := ite_t hc29 h
              refine x_aload_n B (pc' := 195) 0 dL_acts_194 rfl rfl rfl ?_
              refine x_iload B (pc' := 197) 6 dL_acts_195 rfl rfl ?_
              obtain ⟨r30, T31, er30, h⟩ := bn2_elim h
              refine n_belVi B (pc' := 200) [.int r7] (k_X2_erase _ _ _ a r7 S er30) gv_RL_88 rfl np_X2_erase ⟨Nat.le_of_ble_eq_true rfl, Nat.le_of_ble_eq_true rfl⟩ ⟨by exact Nat.le_of_ble_eq_true rfl, by exact Nat.le_of_ble_eq_true rfl⟩ rfl (Nat.le_of_ble_eq_true rfl) dL_acts_197 rfl ?_
              refine x_iload B (pc' := 202) 8 dL_acts_200 rfl rfl ?_
              refine x_icmp_ne B 230 205 dL_acts_202 (by decide) rfl (fun hc32 => ?_) (fun hc32 => ?_)
              · replace h := ite_f hc32 h
                refine x_iconst B (pc' := 231) 0 dL_acts_230 (by decide) rfl ?_
                obtain ⟨h1, h2⟩ := some2 h
                subst h1
                subst h2
                exact ret rfl (by exact Nat.le_of_ble_eq_true rfl) (by exact Nat.le_of_ble_eq_true rfl) dL_acts_231
              · replace h := ite_t hc32 h
                refine x_aload_n B (pc' := 206) 0 dL_acts_205 rfl rfl rfl ?_
                obtain ⟨r33, er33, h⟩ := bd_elim h
                refine n_belVi B (pc' := 209) [] (k_X2_free _ _ _ a T31 er33) gv_RL_85 rfl np_X2_free ⟨Nat.le_of_ble_eq_true rfl, Nat.le_of_ble_eq_true rfl⟩ ⟨by exact Nat.le_of_ble_eq_true rfl, by exact Nat.le_of_ble_eq_true rfl⟩ rfl (Nat.le_of_ble_eq_true rfl) dL_acts_206 rfl ?_
                refine x_iload B (pc' := 211) 7 dL_acts_209 rfl rfl ?_
                refine x_iload B (pc' := 213) 8 dL_acts_211 rfl rfl ?_
                refine x_iadd B (pc' := 214) dL_acts_213 rfl ?_
                refine x_icmp_ne B 230 217 dL_acts_214 (by decide) rfl (fun hc34 => ?_) (fun hc34 => ?_)
                · replace h := ite_f hc34 h
                  refine x_iconst B (pc' := 231) 0 dL_acts_230 (by decide) rfl ?_
                  obtain ⟨h1, h2⟩ := some2 h
                  subst h1
                  subst h2
                  exact ret rfl (by exact Nat.le_of_ble_eq_true rfl) (by exact Nat.le_of_ble_eq_true rfl) dL_acts_231
                · replace h := ite_t hc34 h
                  refine x_aload_n B (pc' := 218) 0 dL_acts_217 rfl rfl rfl ?_
                  obtain ⟨r35, er35, h⟩ := bd_elim h
                  refine n_belVi B (pc' := 221) [] (k_X2_recordings _ _ _ a T31 er35) gv_RL_63 rfl np_X2_recordings ⟨Nat.le_of_ble_eq_true rfl, Nat.le_of_ble_eq_true rfl⟩ ⟨by exact Nat.le_of_ble_eq_true rfl, by exact Nat.le_of_ble_eq_true rfl⟩ rfl (Nat.le_of_ble_eq_true rfl) dL_acts_218 rfl ?_
                  refine x_bipush B (pc' := 223) 9 dL_acts_221 (by decide) rfl ?_
                  refine x_icmp_ne B 230 226 dL_acts_223 (by decide) rfl (fun hc36 => ?_) (fun hc36 => ?_)
                  · replace h := ite_f hc36 h
                    refine x_iconst B (pc' := 231) 0 dL_acts_230 (by decide) rfl ?_
                    obtain ⟨h1, h2⟩ := some2 h
                    subst h1
                    subst h2
                    exact ret rfl (by exact Nat.le_of_ble_eq_true rfl) (by exact Nat.le_of_ble_eq_true rfl) dL_acts_231
                  · replace h := ite_t hc36 h
                    refine x_iconst B (pc' := 227) 1 dL_acts_226 (by decide) rfl ?_
                    refine x_goto B (pc' := 231) dL_acts_227 (by decide) ?_
                    obtain ⟨h1, h2⟩ := some2 h
                    subst h1
                    subst h2
                    exact ret rfl (by exact Nat.le_of_ble_eq_true rfl) (by exact Nat.le_of_ble_eq_true rfl) dL_acts_231
            · replace h := ite_f hc29 h
              refine x_aload_n B (pc' := 185) 0 dL_acts_184 rfl rfl rfl ?_
              refine x_iload B (pc' := 187) 6 dL_acts_185 rfl rfl ?_
              refine x_iconst B (pc' := 188) 0 dL_acts_187 (by decide) rfl ?_
              obtain ⟨r37, T38, er37, h⟩ := bn2_elim h
              refine n_belVi B (pc' := 191) [.int r7, .int (0 : Int32)] (k_X2_setFlag _ _ _ a r7 (0 : Int32) S er37) gv_RL_44 rfl np_X2_setFlag ⟨Nat.le_of_ble_eq_true rfl, Nat.le_of_ble_eq_true rfl⟩ ⟨by exact Nat.le_of_ble_eq_true rfl, by exact Nat.le_of_ble_eq_true rfl⟩ rfl (Nat.le_of_ble_eq_true rfl) dL_acts_188 rfl ?_
              refine x_goto B (pc' := 231) dL_acts_191 (by decide) ?_
              obtain ⟨hz39, h⟩ := zb_elim h
              obtain ⟨h1, h2⟩ := some2 h
              subst h1
              subst h2
              exact ret (zb_nar hz39) (by exact Nat.le_of_ble_eq_true rfl) (by exact Nat.le_of_ble_eq_true rfl) dL_acts_231
      replace h := ite_f hc26 h
      by_cases hc40 : r11 = 2
      · replace h := ite_t hc40 h
        refine x_tableIn B (off := 166) (pc' := 281) dL_acts_115 (by rw [hc40]; decide) (by rw [hc40]; decide) (by rw [hc40]; rfl) (by decide) ?_
        refine x_iload B (pc' := 283) 4 dL_acts_281 rfl rfl ?_
        refine x_if_ge B 312 286 dL_acts_283 (by decide) rfl (fun hc41 => ?_) (fun hc41 => ?_)
        · replace h := ite_t hc41 h
          refine x_aload_n B (pc' := 313) 0 dL_acts_312 rfl rfl rfl ?_
          obtain ⟨r42, T43, er42, h⟩ := bn2_elim h
          refine n_belVi B (pc' := 316) [] (k_X2_halt _ _ _ a S er42) gv_RL_97 rfl np_X2_halt ⟨Nat.le_of_ble_eq_true rfl, Nat.le_of_ble_eq_true rfl⟩ ⟨by exact Nat.le_of_ble_eq_true rfl, by exact Nat.le_of_ble_eq_true rfl⟩ rfl (Nat.le_of_ble_eq_true rfl) dL_acts_313 rfl ?_
          refine x_if_lt B 350 319 dL_acts_316 (by decide) rfl (fun hc44 => ?_) (fun hc44 => ?_)
          · replace h := ite_t hc44 h
            refine x_iconst B (pc' := 351) 0 dL_acts_350 (by decide) rfl ?_
            obtain ⟨h1, h2⟩ := some2 h
            subst h1
            subst h2
            exact ret rfl (by exact Nat.le_of_ble_eq_true rfl) (by exact Nat.le_of_ble_eq_true rfl) dL_acts_351
          · replace h := ite_f hc44 h
            refine x_aload_n B (pc' := 320) 0 dL_acts_319 rfl rfl rfl ?_
            obtain ⟨r45, er45, h⟩ := bd_elim h
            refine n_belVi B (pc' := 323) [] (k_X2_running _ _ _ a T43 er45) gv_RL_33 rfl np_X2_running ⟨Nat.le_of_ble_eq_true rfl, Nat.le_of_ble_eq_true rfl⟩ ⟨by exact Nat.le_of_ble_eq_true rfl, by exact Nat.le_of_ble_eq_true rfl⟩ rfl (Nat.le_of_ble_eq_true rfl) dL_acts_320 rfl ?_
            refine x_iconst B (pc' := 324) (-1) dL_acts_323 (by decide) rfl ?_
            refine x_icmp_ne B 350 327 dL_acts_324 (by decide) rfl (fun hc46 => ?_) (fun hc46 => ?_)
            · replace h := ite_f hc46 h
              refine x_iconst B (pc' := 351) 0 dL_acts_350 (by decide) rfl ?_
              obtain ⟨h1, h2⟩ := some2 h
              subst h1
              subst h2
              exact ret rfl (by exact Nat.le_of_ble_eq_true rfl) (by exact Nat.le_of_ble_eq_true rfl) dL_acts_351
            · replace h := ite_t hc46 h
              refine x_aload_n B (pc' := 328) 0 dL_acts_327 rfl rfl rfl ?_
              obtain ⟨r47, er47, h⟩ := bd_elim h
              refine n_belVi B (pc' := 331) [] (k_X2_recordings _ _ _ a T43 er47) gv_RL_63 rfl np_X2_recordings ⟨Nat.le_of_ble_eq_true rfl, Nat.le_of_ble_eq_true rfl⟩ ⟨by exact Nat.le_of_ble_eq_true rfl, by exact Nat.le_of_ble_eq_true rfl⟩ rfl (Nat.le_of_ble_eq_true rfl) dL_acts_328 rfl ?_
              refine x_iload B (pc' := 333) 5 dL_acts_331 rfl rfl ?_
              refine x_if_eq B 342 336 dL_acts_333 (by decide) rfl (fun hc48 => ?_) (fun hc48 => ?_)
              · replace h := ite_t hc48 h
                refine x_iload_n B (pc' := 343) 3 dL_acts_342 rfl rfl rfl ?_
                refine x_widen (k' := 2) (n' := 20) (by exact Nat.le_of_ble_eq_true rfl) (by exact Nat.le_of_ble_eq_true rfl) ?_
                refine x_lv [] (lv' := []) rfl ?_
                exact h343  _ _ _ h
              · replace h := ite_f hc48 h
                refine x_iload_n B (pc' := 337) 3 dL_acts_336 rfl rfl rfl ?_
                refine x_iconst B (pc' := 338) 1 dL_acts_337 (by decide) rfl ?_
                refine x_isub B (pc' := 339) dL_acts_338 rfl ?_
                refine x_goto B (pc' := 343) dL_acts_339 (by decide) ?_
                refine x_widen (k' := 2) (n' := 20) (by exact Nat.le_of_ble_eq_true rfl) (by exact Nat.le_of_ble_eq_true rfl) ?_
                refine x_lv [] (lv' := []) rfl ?_
                exact h343  _ _ _ h
        · replace h := ite_f hc41 h
          refine x_aload_n B (pc' := 287) 0 dL_acts_286 rfl rfl rfl ?_
          refine x_iload B (pc' := 289) 6 dL_acts_287 rfl rfl ?_
          obtain ⟨r49, T50, er49, h⟩ := bn2_elim h
          refine n_belVi B (pc' := 292) [.int r7] (k_X2_go _ _ _ a r7 S er49) gv_RL_91 rfl np_X2_go ⟨Nat.le_of_ble_eq_true rfl, Nat.le_of_ble_eq_true rfl⟩ ⟨by exact Nat.le_of_ble_eq_true rfl, by exact Nat.le_of_ble_eq_true rfl⟩ rfl (Nat.le_of_ble_eq_true rfl) dL_acts_289 rfl ?_
          refine x_iload B (pc' := 294) 8 dL_acts_292 rfl rfl ?_
          refine x_icmp_ne B 308 297 dL_acts_294 (by decide) rfl (fun hc51 => ?_) (fun hc51 => ?_)
          · replace h := ite_f hc51 h
            refine x_iconst B (pc' := 309) 0 dL_acts_308 (by decide) rfl ?_
            refine x_goto B (pc' := 351) dL_acts_309 (by decide) ?_
            obtain ⟨h1, h2⟩ := some2 h
            subst h1
            subst h2
            exact ret rfl (by exact Nat.le_of_ble_eq_true rfl) (by exact Nat.le_of_ble_eq_true rfl) dL_acts_351
          · replace h := ite_t hc51 h
            refine x_aload_n B (pc' := 298) 0 dL_acts_297 rfl rfl rfl ?_
            obtain ⟨r52, er52, h⟩ := bd_elim h
            refine n_belVi B (pc' := 301) [] (k_X2_place _ _ _ a T50 er52) gv_RL_94 rfl np_X2_place ⟨Nat.le_of_ble_eq_true rfl, Nat.le_of_ble_eq_true rfl⟩ ⟨by exact Nat.le_of_ble_eq_true rfl, by exact Nat.le_of_ble_eq_true rfl⟩ rfl (Nat.le_of_ble_eq_true rfl) dL_acts_298 rfl ?_
            refine x_if_ne B 308 304 dL_acts_301 (by decide) rfl (fun hc53 => ?_) (fun hc53 => ?_)
            · replace h := ite_f hc53 h
              refine x_iconst B (pc' := 309) 0 dL_acts_308 (by decide) rfl ?_
              refine x_goto B (pc' := 351) dL_acts_309 (by decide) ?_
              obtain ⟨h1, h2⟩ := some2 h
              subst h1
              subst h2
              exact ret rfl (by exact Nat.le_of_ble_eq_true rfl) (by exact Nat.le_of_ble_eq_true rfl) dL_acts_351
            · replace h := ite_t hc53 h
              refine x_iconst B (pc' := 305) 1 dL_acts_304 (by decide) rfl ?_
              refine x_goto B (pc' := 351) dL_acts_305 (by decide) ?_
              obtain ⟨h1, h2⟩ := some2 h
              subst h1
              subst h2
              exact ret rfl (by exact Nat.le_of_ble_eq_true rfl) (by exact Nat.le_of_ble_eq_true rfl) dL_acts_351
      replace h := ite_f hc40 h
      by_cases hc54 : r11 = 3
      · replace h := ite_t hc54 h
        refine x_tableIn B (off := 237) (pc' := 352) dL_acts_115 (by rw [hc54]; decide) (by rw [hc54]; decide) (by rw [hc54]; rfl) (by decide) ?_
        refine x_aload_n B (pc' := 353) 0 dL_acts_352 rfl rfl rfl ?_
        refine x_iload B (pc' := 355) 6 dL_acts_353 rfl rfl ?_
        refine x_iload_n B (pc' := 356) 2 dL_acts_355 rfl rfl rfl ?_
        refine x_bipush B (pc' := 358) 6 dL_acts_356 (by decide) rfl ?_
        refine x_ishr B (pc' := 359) dL_acts_358 rfl ?_
        refine x_iconst B (pc' := 360) 3 dL_acts_359 (by decide) rfl ?_
        refine x_iand B (pc' := 361) dL_acts_360 rfl ?_
        refine x_if_ne B 368 364 dL_acts_361 (by decide) rfl (fun hc55 => ?_) (fun hc55 => ?_)
        · replace h := ite_f hc55 h
          refine x_iconst B (pc' := 369) 0 dL_acts_368 (by decide) rfl ?_
          refine x_widen (k' := 2) (n' := 20) (by exact Nat.le_of_ble_eq_true rfl) (by exact Nat.le_of_ble_eq_true rfl) ?_
          refine x_lv [0, 2, 6, 9] (lv' := [(0, .ref (a 0 0)), (2, .int x2), (6, .int r7), (9, .int r10)]) rfl ?_
          exact h369  _ _ _ _ _ _ h
        · replace h := ite_t hc55 h
          refine x_iconst B (pc' := 365) 1 dL_acts_364 (by decide) rfl ?_
          refine x_goto B (pc' := 369) dL_acts_365 (by decide) ?_
          refine x_widen (k' := 2) (n' := 20) (by exact Nat.le_of_ble_eq_true rfl) (by exact Nat.le_of_ble_eq_true rfl) ?_
          refine x_lv [0, 2, 6, 9] (lv' := [(0, .ref (a 0 0)), (2, .int x2), (6, .int r7), (9, .int r10)]) rfl ?_
          exact h369  _ _ _ _ _ _ h
      replace h := ite_f hc54 h
      by_cases hc56 : r11 = 4
      · replace h := ite_t hc56 h
        refine x_tableIn B (off := 291) (pc' := 406) dL_acts_115 (by rw [hc56]; decide) (by rw [hc56]; decide) (by rw [hc56]; rfl) (by decide) ?_
        refine x_iload B (pc' := 408) 9 dL_acts_406 rfl rfl ?_
        refine x_if_ne B 424 411 dL_acts_408 (by decide) rfl (fun hc57 => ?_) (fun hc57 => ?_)
        · replace h := ite_f hc57 h
          refine x_widen (k' := 2) (n' := 20) (by exact Nat.le_of_ble_eq_true rfl) (by exact Nat.le_of_ble_eq_true rfl) ?_
          refine x_lv [0, 3, 6, 7, 8, 9] (lv' := [(0, .ref (a 0 0)), (3, .int x3), (6, .int r7), (7, .int r8), (8, .int r9), (9, .int r10)]) rfl ?_
          exact h424  _ _ _ _ _ _ h
        · replace h := ite_t hc57 h
          refine x_iload_n B (pc' := 412) 2 dL_acts_411 rfl rfl rfl ?_
          refine x_bipush B (pc' := 414) 6 dL_acts_412 (by decide) rfl ?_
          refine x_ishr B (pc' := 415) dL_acts_414 rfl ?_
          refine x_iconst B (pc' := 416) 3 dL_acts_415 (by decide) rfl ?_
          refine x_iand B (pc' := 417) dL_acts_416 rfl ?_
          refine x_if_ne B 424 420 dL_acts_417 (by decide) rfl (fun hc58 => ?_) (fun hc58 => ?_)
          · replace h := ite_f hc58 h
            refine x_widen (k' := 2) (n' := 20) (by exact Nat.le_of_ble_eq_true rfl) (by exact Nat.le_of_ble_eq_true rfl) ?_
            refine x_lv [0, 3, 6, 7, 8, 9] (lv' := [(0, .ref (a 0 0)), (3, .int x3), (6, .int r7), (7, .int r8), (8, .int r9), (9, .int r10)]) rfl ?_
            exact h424  _ _ _ _ _ _ h
          · replace h := ite_t hc58 h
            refine x_iconst B (pc' := 421) 1 dL_acts_420 (by decide) rfl ?_
            refine x_goto B (pc' := 425) dL_acts_421 (by decide) ?_
            refine x_widen (k' := 2) (n' := 20) (by exact Nat.le_of_ble_eq_true rfl) (by exact Nat.le_of_ble_eq_true rfl) ?_
            refine x_lv [0, 3, 6, 7, 8, 9] (lv' := [(0, .ref (a 0 0)), (3, .int x3), (6, .int r7), (7, .int r8), (8, .int r9), (9, .int r10)]) rfl ?_
            exact h425  _ _ _ _ _ _ _ h
      replace h := ite_f hc56 h
      by_cases hc59 : r11 = 5
      · replace h := ite_t hc59 h
        refine x_tableIn B (off := 377) (pc' := 492) dL_acts_115 (by rw [hc59]; decide) (by rw [hc59]; decide) (by rw [hc59]; rfl) (by decide) ?_
        refine x_aload_n B (pc' := 493) 0 dL_acts_492 rfl rfl rfl ?_
        obtain ⟨r60, er60, h⟩ := bd_elim h
        refine n_belVi B (pc' := 496) [] (k_X2_head _ _ _ a S er60) gv_RL_48 rfl np_X2_head ⟨Nat.le_of_ble_eq_true rfl, Nat.le_of_ble_eq_true rfl⟩ ⟨by exact Nat.le_of_ble_eq_true rfl, by exact Nat.le_of_ble_eq_true rfl⟩ rfl (Nat.le_of_ble_eq_true rfl) dL_acts_493 rfl ?_
        refine x_istore B (pc' := 498) [1, 2, 3, 4, 5, 6, 7, 8, 9, 10, 0] [(0, .ref (a 0 0)), (1, .int x1), (2, .int x2), (3, .int x3), (4, .int x4), (5, .int t0), (6, .int r7), (7, .int r8), (8, .int r9), (9, .int r10), (11, .int r60)] dL_acts_496 (by decide) rfl rfl ?_
        refine x_iload B (pc' := 500) 4 dL_acts_498 rfl rfl ?_
        refine x_if_ge B 543 503 dL_acts_500 (by decide) rfl (fun hc61 => ?_) (fun hc61 => ?_)
        · replace h := ite_t hc61 h
          refine x_aload_n B (pc' := 544) 0 dL_acts_543 rfl rfl rfl ?_
          refine x_iload B (pc' := 546) 6 dL_acts_544 rfl rfl ?_
          refine x_iload B (pc' := 548) 9 dL_acts_546 rfl rfl ?_
          obtain ⟨r62, T63, er62, h⟩ := bn2_elim h
          refine n_belVi B (pc' := 551) [.int r7, .int r10] (k_X2_setFlag _ _ _ a r7 r10 S er62) gv_RL_44 rfl np_X2_setFlag ⟨Nat.le_of_ble_eq_true rfl, Nat.le_of_ble_eq_true rfl⟩ ⟨by exact Nat.le_of_ble_eq_true rfl, by exact Nat.le_of_ble_eq_true rfl⟩ rfl (Nat.le_of_ble_eq_true rfl) dL_acts_548 rfl ?_
          refine x_iload B (pc' := 553) 9 dL_acts_551 rfl rfl ?_
          refine x_icmp_ne B 560 556 dL_acts_553 (by decide) rfl (fun hc64 => ?_) (fun hc64 => ?_)
          · replace h := ite_f hc64 h
            refine x_iconst B (pc' := 561) 0 dL_acts_560 (by decide) rfl ?_
            obtain ⟨h1, h2⟩ := some2 h
            subst h1
            subst h2
            exact ret rfl (by exact Nat.le_of_ble_eq_true rfl) (by exact Nat.le_of_ble_eq_true rfl) dL_acts_561
          · replace h := ite_t hc64 h
            refine x_iconst B (pc' := 557) 1 dL_acts_556 (by decide) rfl ?_
            refine x_goto B (pc' := 561) dL_acts_557 (by decide) ?_
            obtain ⟨h1, h2⟩ := some2 h
            subst h1
            subst h2
            exact ret rfl (by exact Nat.le_of_ble_eq_true rfl) (by exact Nat.le_of_ble_eq_true rfl) dL_acts_561
        · replace h := ite_f hc61 h
          refine x_aload_n B (pc' := 504) 0 dL_acts_503 rfl rfl rfl ?_
          refine x_iload_n B (pc' := 505) 2 dL_acts_504 rfl rfl rfl ?_
          refine x_iconst B (pc' := 506) 4 dL_acts_505 (by decide) rfl ?_
          refine x_ishr B (pc' := 507) dL_acts_506 rfl ?_
          refine x_bipush B (pc' := 509) 32 dL_acts_507 (by decide) rfl ?_
          obtain ⟨r65, er65, h⟩ := bd_elim h
          refine x_pureSi B (pc' := 512) [.int (x2 >>> ((4 : Int32) &&& 31)), .int (32 : Int32)] (k_L_up _ _ _ (x2 >>> ((4 : Int32) &&& 31)) (32 : Int32) er65) gv_RL_82 np_L_up ⟨Nat.le_of_ble_eq_true rfl, Nat.le_of_ble_eq_true rfl⟩ ⟨by exact Nat.le_of_ble_eq_true rfl, by exact Nat.le_of_ble_eq_true rfl⟩ rfl (Nat.le_of_ble_eq_true rfl) dL_acts_509 rfl ?_
          obtain ⟨r66, T67, er66, h⟩ := bn2_elim h
          refine n_belVi B (pc' := 515) [.int r65] (k_X2_moveHead _ _ _ a r65 S er66) gv_RL_100 rfl np_X2_moveHead ⟨Nat.le_of_ble_eq_true rfl, Nat.le_of_ble_eq_true rfl⟩ ⟨by exact Nat.le_of_ble_eq_true rfl, by exact Nat.le_of_ble_eq_true rfl⟩ rfl (Nat.le_of_ble_eq_true rfl) dL_acts_512 rfl ?_
          refine x_iload B (pc' := 517) 10 dL_acts_515 rfl rfl ?_
          refine x_icmp_ne B 539 520 dL_acts_517 (by decide) rfl (fun hc68 => ?_) (fun hc68 => ?_)
          · replace h := ite_f hc68 h
            refine x_iconst B (pc' := 540) 0 dL_acts_539 (by decide) rfl ?_
            refine x_goto B (pc' := 561) dL_acts_540 (by decide) ?_
            obtain ⟨h1, h2⟩ := some2 h
            subst h1
            subst h2
            exact ret rfl (by exact Nat.le_of_ble_eq_true rfl) (by exact Nat.le_of_ble_eq_true rfl) dL_acts_561
          · replace h := ite_t hc68 h
            refine x_aload_n B (pc' := 521) 0 dL_acts_520 rfl rfl rfl ?_
            obtain ⟨r69, er69, h⟩ := bd_elim h
            refine n_belVi B (pc' := 524) [] (k_X2_head _ _ _ a T67 er69) gv_RL_48 rfl np_X2_head ⟨Nat.le_of_ble_eq_true rfl, Nat.le_of_ble_eq_true rfl⟩ ⟨by exact Nat.le_of_ble_eq_true rfl, by exact Nat.le_of_ble_eq_true rfl⟩ rfl (Nat.le_of_ble_eq_true rfl) dL_acts_521 rfl ?_
            refine x_iload_n B (pc' := 525) 2 dL_acts_524 rfl rfl rfl ?_
            refine x_iconst B (pc' := 526) 4 dL_acts_525 (by decide) rfl ?_
            refine x_ishr B (pc' := 527) dL_acts_526 rfl ?_
            refine x_bipush B (pc' := 529) 32 dL_acts_527 (by decide) rfl ?_
            obtain ⟨r70, er70, h⟩ := bd_elim h
            refine x_pureSi B (pc' := 532) [.int (x2 >>> ((4 : Int32) &&& 31)), .int (32 : Int32)] (k_L_up _ _ _ (x2 >>> ((4 : Int32) &&& 31)) (32 : Int32) er70) gv_RL_82 np_L_up ⟨Nat.le_of_ble_eq_true rfl, Nat.le_of_ble_eq_true rfl⟩ ⟨by exact Nat.le_of_ble_eq_true rfl, by exact Nat.le_of_ble_eq_true rfl⟩ rfl (Nat.le_of_ble_eq_true rfl) dL_acts_529 rfl ?_
            refine x_icmp_ne B 539 535 dL_acts_532 (by decide) rfl (fun hc71 => ?_) (fun hc71 => ?_)
            · replace h := ite_f hc71 h
              refine x_iconst B (pc' := 540) 0 dL_acts_539 (by decide) rfl ?_
              refine x_goto B (pc' := 561) dL_acts_540 (by decide) ?_
              obtain ⟨h1, h2⟩ := some2 h
              subst h1
              subst h2
              exact ret rfl (by exact Nat.le_of_ble_eq_true rfl) (by exact Nat.le_of_ble_eq_true rfl) dL_acts_561
            · replace h := ite_t hc71 h
              refine x_iconst B (pc' := 536) 1 dL_acts_535 (by decide) rfl ?_
              refine x_goto B (pc' := 561) dL_acts_536 (by decide) ?_
              obtain ⟨h1, h2⟩ := some2 h
              subst h1
              subst h2
              exact ret rfl (by exact Nat.le_of_ble_eq_true rfl) (by exact Nat.le_of_ble_eq_true rfl) dL_acts_561
      replace h := ite_f hc59 h
      by_cases hc72 : r11 = 6
      · replace h := ite_t hc72 h
        refine x_tableIn B (off := 447) (pc' := 562) dL_acts_115 (by rw [hc72]; decide) (by rw [hc72]; decide) (by rw [hc72]; rfl) (by decide) ?_
        refine x_aload_n B (pc' := 563) 0 dL_acts_562 rfl rfl rfl ?_
        refine x_iload B (pc' := 565) 6 dL_acts_563 rfl rfl ?_
        obtain ⟨r73, T74, er73, h⟩ := bn2_elim h
        refine n_belVi B (pc' := 568) [.int r7] (k_X2_go _ _ _ a r7 S er73) gv_RL_91 rfl np_X2_go ⟨Nat.le_of_ble_eq_true rfl, Nat.le_of_ble_eq_true rfl⟩ ⟨by exact Nat.le_of_ble_eq_true rfl, by exact Nat.le_of_ble_eq_true rfl⟩ rfl (Nat.le_of_ble_eq_true rfl) dL_acts_565 rfl ?_
        refine x_iload B (pc' := 570) 8 dL_acts_568 rfl rfl ?_
        refine x_icmp_ne B 593 573 dL_acts_570 (by decide) rfl (fun hc75 => ?_) (fun hc75 => ?_)
        · replace h := ite_f hc75 h
          refine x_iconst B (pc' := 594) 0 dL_acts_593 (by decide) rfl ?_
          obtain ⟨h1, h2⟩ := some2 h
          subst h1
          subst h2
          exact ret rfl (by exact Nat.le_of_ble_eq_true rfl) (by exact Nat.le_of_ble_eq_true rfl) dL_acts_594
        · replace h := ite_t hc75 h
          refine x_aload_n B (pc' := 574) 0 dL_acts_573 rfl rfl rfl ?_
          obtain ⟨r76, er76, h⟩ := bd_elim h
          refine n_belVi B (pc' := 577) [] (k_X2_playing _ _ _ a T74 er76) gv_RL_103 rfl np_X2_playing ⟨Nat.le_of_ble_eq_true rfl, Nat.le_of_ble_eq_true rfl⟩ ⟨by exact Nat.le_of_ble_eq_true rfl, by exact Nat.le_of_ble_eq_true rfl⟩ rfl (Nat.le_of_ble_eq_true rfl) dL_acts_574 rfl ?_
          refine x_iload B (pc' := 579) 6 dL_acts_577 rfl rfl ?_
          refine x_icmp_ne B 593 582 dL_acts_579 (by decide) rfl (fun hc77 => ?_) (fun hc77 => ?_)
          · replace h := ite_f hc77 h
            refine x_iconst B (pc' := 594) 0 dL_acts_593 (by decide) rfl ?_
            obtain ⟨h1, h2⟩ := some2 h
            subst h1
            subst h2
            exact ret rfl (by exact Nat.le_of_ble_eq_true rfl) (by exact Nat.le_of_ble_eq_true rfl) dL_acts_594
          · replace h := ite_t hc77 h
            refine x_aload_n B (pc' := 583) 0 dL_acts_582 rfl rfl rfl ?_
            obtain ⟨r78, er78, h⟩ := bd_elim h
            refine n_belVi B (pc' := 586) [] (k_X2_place _ _ _ a T74 er78) gv_RL_94 rfl np_X2_place ⟨Nat.le_of_ble_eq_true rfl, Nat.le_of_ble_eq_true rfl⟩ ⟨by exact Nat.le_of_ble_eq_true rfl, by exact Nat.le_of_ble_eq_true rfl⟩ rfl (Nat.le_of_ble_eq_true rfl) dL_acts_583 rfl ?_
            refine x_if_ne B 593 589 dL_acts_586 (by decide) rfl (fun hc79 => ?_) (fun hc79 => ?_)
            · replace h := ite_f hc79 h
              refine x_iconst B (pc' := 594) 0 dL_acts_593 (by decide) rfl ?_
              obtain ⟨h1, h2⟩ := some2 h
              subst h1
              subst h2
              exact ret rfl (by exact Nat.le_of_ble_eq_true rfl) (by exact Nat.le_of_ble_eq_true rfl) dL_acts_594
            · replace h := ite_t hc79 h
              refine x_iconst B (pc' := 590) 1 dL_acts_589 (by decide) rfl ?_
              refine x_goto B (pc' := 594) dL_acts_590 (by decide) ?_
              obtain ⟨h1, h2⟩ := some2 h
              subst h1
              subst h2
              exact ret rfl (by exact Nat.le_of_ble_eq_true rfl) (by exact Nat.le_of_ble_eq_true rfl) dL_acts_594
      replace h := ite_f hc72 h
      by_cases hc80 : r11 = 7
      · replace h := ite_t hc80 h
        refine x_tableIn B (off := 480) (pc' := 595) dL_acts_115 (by rw [hc80]; decide) (by rw [hc80]; decide) (by rw [hc80]; rfl) (by decide) ?_
        refine x_aload_n B (pc' := 596) 0 dL_acts_595 rfl rfl rfl ?_
        obtain ⟨r81, er81, h⟩ := bd_elim h
        refine n_belVi B (pc' := 599) [] (k_X2_playing _ _ _ a S er81) gv_RL_103 rfl np_X2_playing ⟨Nat.le_of_ble_eq_true rfl, Nat.le_of_ble_eq_true rfl⟩ ⟨by exact Nat.le_of_ble_eq_true rfl, by exact Nat.le_of_ble_eq_true rfl⟩ rfl (Nat.le_of_ble_eq_true rfl) dL_acts_596 rfl ?_
        refine x_if_ge B 619 602 dL_acts_599 (by decide) rfl (fun hc82 => ?_) (fun hc82 => ?_)
        · replace h := ite_t hc82 h
          refine x_aload_n B (pc' := 620) 0 dL_acts_619 rfl rfl rfl ?_
          obtain ⟨r83, er83, h⟩ := bd_elim h
          refine n_belVi B (pc' := 623) [] (k_X2_place _ _ _ a S er83) gv_RL_94 rfl np_X2_place ⟨Nat.le_of_ble_eq_true rfl, Nat.le_of_ble_eq_true rfl⟩ ⟨by exact Nat.le_of_ble_eq_true rfl, by exact Nat.le_of_ble_eq_true rfl⟩ rfl (Nat.le_of_ble_eq_true rfl) dL_acts_620 rfl ?_
          refine x_istore B (pc' := 625) [1, 2, 3, 4, 5, 6, 7, 8, 9, 10, 0] [(0, .ref (a 0 0)), (1, .int x1), (2, .int x2), (3, .int x3), (4, .int x4), (5, .int t0), (6, .int r7), (7, .int r8), (8, .int r9), (9, .int r10), (12, .int r83)] dL_acts_623 (by decide) rfl rfl ?_
          refine x_aload_n B (pc' := 626) 0 dL_acts_625 rfl rfl rfl ?_
          refine x_aload_n B (pc' := 627) 0 dL_acts_626 rfl rfl rfl ?_
          obtain ⟨r84, er84, h⟩ := bd_elim h
          refine n_belVi B (pc' := 630) [] (k_X2_playing _ _ _ a S er84) gv_RL_103 rfl np_X2_playing ⟨Nat.le_of_ble_eq_true rfl, Nat.le_of_ble_eq_true rfl⟩ ⟨by exact Nat.le_of_ble_eq_true rfl, by exact Nat.le_of_ble_eq_true rfl⟩ rfl (Nat.le_of_ble_eq_true rfl) dL_acts_627 rfl ?_
          refine x_iload B (pc' := 632) 10 dL_acts_630 rfl rfl ?_
          obtain ⟨r85, er85, h⟩ := bn_elim h
          refine n_belVi B (pc' := 635) [.int r84, .int r83] (k_X2_sound _ _ _ a r84 r83 S er85) gv_RL_24 rfl np_X2_sound ⟨Nat.le_of_ble_eq_true rfl, Nat.le_of_ble_eq_true rfl⟩ ⟨by exact Nat.le_of_ble_eq_true rfl, by exact Nat.le_of_ble_eq_true rfl⟩ rfl (Nat.le_of_ble_eq_true rfl) dL_acts_632 rfl ?_
          refine x_istore B (pc' := 637) [1, 2, 3, 4, 5, 6, 7, 8, 9, 10, 11, 0] [(0, .ref (a 0 0)), (1, .int x1), (2, .int x2), (3, .int x3), (4, .int x4), (5, .int t0), (6, .int r7), (7, .int r8), (8, .int r9), (9, .int r10), (12, .int r83), (13, .int r85)] dL_acts_635 (by decide) rfl rfl ?_
          refine x_aload_n B (pc' := 638) 0 dL_acts_637 rfl rfl rfl ?_
          obtain ⟨r86, T87, er86, h⟩ := bn2_elim h
          refine n_belVi B (pc' := 641) [] (k_X2_play _ _ _ a S er86) gv_RL_106 rfl np_X2_play ⟨Nat.le_of_ble_eq_true rfl, Nat.le_of_ble_eq_true rfl⟩ ⟨by exact Nat.le_of_ble_eq_true rfl, by exact Nat.le_of_ble_eq_true rfl⟩ rfl (Nat.le_of_ble_eq_true rfl) dL_acts_638 rfl ?_
          refine x_iload B (pc' := 643) 11 dL_acts_641 rfl rfl ?_
          refine x_icmp_ne B 671 646 dL_acts_643 (by decide) rfl (fun hc88 => ?_) (fun hc88 => ?_)
          · replace h := ite_f hc88 h
            refine x_iconst B (pc' := 672) 0 dL_acts_671 (by decide) rfl ?_
            obtain ⟨h1, h2⟩ := some2 h
            subst h1
            subst h2
            exact ret rfl (by exact Nat.le_of_ble_eq_true rfl) (by exact Nat.le_of_ble_eq_true rfl) dL_acts_672
          · replace h := ite_t hc88 h
            refine x_aload_n B (pc' := 647) 0 dL_acts_646 rfl rfl rfl ?_
            obtain ⟨r89, er89, h⟩ := bd_elim h
            refine n_belVi B (pc' := 650) [] (k_X2_place _ _ _ a T87 er89) gv_RL_94 rfl np_X2_place ⟨Nat.le_of_ble_eq_true rfl, Nat.le_of_ble_eq_true rfl⟩ ⟨by exact Nat.le_of_ble_eq_true rfl, by exact Nat.le_of_ble_eq_true rfl⟩ rfl (Nat.le_of_ble_eq_true rfl) dL_acts_647 rfl ?_
            refine x_iload B (pc' := 652) 11 dL_acts_650 rfl rfl ?_
            refine x_if_ge B 660 655 dL_acts_652 (by decide) rfl (fun hc90 => ?_) (fun hc90 => ?_)
            · replace h := ite_t hc90 h
              refine x_iload B (pc' := 662) 10 dL_acts_660 rfl rfl ?_
              refine x_iconst B (pc' := 663) 1 dL_acts_662 (by decide) rfl ?_
              refine x_iadd B (pc' := 664) dL_acts_663 rfl ?_
              refine x_widen (k' := 2) (n' := 20) (by exact Nat.le_of_ble_eq_true rfl) (by exact Nat.le_of_ble_eq_true rfl) ?_
              refine x_lv [] (lv' := []) rfl ?_
              exact h664  _ _ _ h
            · replace h := ite_f hc90 h
              refine x_iload B (pc' := 657) 10 dL_acts_655 rfl rfl ?_
              refine x_goto B (pc' := 664) dL_acts_657 (by decide) ?_
              refine x_widen (k' := 2) (n' := 20) (by exact Nat.le_of_ble_eq_true rfl) (by exact Nat.le_of_ble_eq_true rfl) ?_
              refine x_lv [] (lv' := []) rfl ?_
              exact h664  _ _ _ h
        · replace h := ite_f hc82 h
          refine x_aload_n B (pc' := 603) 0 dL_acts_602 rfl rfl rfl ?_
          refine x_iload B (pc' := 605) 6 dL_acts_603 rfl rfl ?_
          obtain ⟨r91, T92, er91, h⟩ := bn2_elim h
          refine n_belVi B (pc' := 608) [.int r7] (k_X2_go _ _ _ a r7 S er91) gv_RL_91 rfl np_X2_go ⟨Nat.le_of_ble_eq_true rfl, Nat.le_of_ble_eq_true rfl⟩ ⟨by exact Nat.le_of_ble_eq_true rfl, by exact Nat.le_of_ble_eq_true rfl⟩ rfl (Nat.le_of_ble_eq_true rfl) dL_acts_605 rfl ?_
          refine x_iload B (pc' := 610) 8 dL_acts_608 rfl rfl ?_
          refine x_icmp_ne B 617 613 dL_acts_610 (by decide) rfl (fun hc93 => ?_) (fun hc93 => ?_)
          · replace h := ite_f hc93 h
            refine x_iconst B (pc' := 618) 0 dL_acts_617 (by decide) rfl ?_
            obtain ⟨h1, h2⟩ := some2 h
            subst h1
            subst h2
            exact ret rfl (by exact Nat.le_of_ble_eq_true rfl) (by exact Nat.le_of_ble_eq_true rfl) dL_acts_618
          · replace h := ite_t hc93 h
            refine x_iconst B (pc' := 614) 1 dL_acts_613 (by decide) rfl ?_
            refine x_goto B (pc' := 618) dL_acts_614 (by decide) ?_
            obtain ⟨h1, h2⟩ := some2 h
            subst h1
            subst h2
            exact ret rfl (by exact Nat.le_of_ble_eq_true rfl) (by exact Nat.le_of_ble_eq_true rfl) dL_acts_618
      replace h := ite_f hc80 h
      by_cases hc94 : r11 = 8
      · replace h := ite_t hc94 h
        refine x_tableIn B (off := 558) (pc' := 673) dL_acts_115 (by rw [hc94]; decide) (by rw [hc94]; decide) (by rw [hc94]; rfl) (by decide) ?_
        refine x_aload_n B (pc' := 674) 0 dL_acts_673 rfl rfl rfl ?_
        obtain ⟨r95, er95, h⟩ := bd_elim h
        refine n_belVi B (pc' := 677) [] (k_X2_playing _ _ _ a S er95) gv_RL_103 rfl np_X2_playing ⟨Nat.le_of_ble_eq_true rfl, Nat.le_of_ble_eq_true rfl⟩ ⟨by exact Nat.le_of_ble_eq_true rfl, by exact Nat.le_of_ble_eq_true rfl⟩ rfl (Nat.le_of_ble_eq_true rfl) dL_acts_674 rfl ?_
        refine x_if_ge B 697 680 dL_acts_677 (by decide) rfl (fun hc96 => ?_) (fun hc96 => ?_)
        · replace h := ite_t hc96 h
          refine x_aload_n B (pc' := 698) 0 dL_acts_697 rfl rfl rfl ?_
          obtain ⟨r97, er97, h⟩ := bd_elim h
          refine n_belVi B (pc' := 701) [] (k_X2_place _ _ _ a S er97) gv_RL_94 rfl np_X2_place ⟨Nat.le_of_ble_eq_true rfl, Nat.le_of_ble_eq_true rfl⟩ ⟨by exact Nat.le_of_ble_eq_true rfl, by exact Nat.le_of_ble_eq_true rfl⟩ rfl (Nat.le_of_ble_eq_true rfl) dL_acts_698 rfl ?_
          refine x_istore B (pc' := 703) [1, 2, 3, 4, 5, 6, 7, 8, 9, 10, 0] [(0, .ref (a 0 0)), (1, .int x1), (2, .int x2), (3, .int x3), (4, .int x4), (5, .int t0), (6, .int r7), (7, .int r8), (8, .int r9), (9, .int r10), (14, .int r97)] dL_acts_701 (by decide) rfl rfl ?_
          refine x_iconst B (pc' := 704) 1 dL_acts_703 (by decide) rfl ?_
          refine x_iload_n B (pc' := 705) 2 dL_acts_704 rfl rfl rfl ?_
          refine x_bipush B (pc' := 707) 9 dL_acts_705 (by decide) rfl ?_
          obtain ⟨r98, er98, h⟩ := bd_elim h
          refine x_pureSi B (pc' := 710) [.int x2, .int (9 : Int32)] (k_L_up _ _ _ x2 (9 : Int32) er98) gv_RL_82 np_L_up ⟨Nat.le_of_ble_eq_true rfl, Nat.le_of_ble_eq_true rfl⟩ ⟨by exact Nat.le_of_ble_eq_true rfl, by exact Nat.le_of_ble_eq_true rfl⟩ rfl (Nat.le_of_ble_eq_true rfl) dL_acts_707 rfl ?_
          refine x_iadd B (pc' := 711) dL_acts_710 rfl ?_
          obtain ⟨v99, ev99, h⟩ := nm_elim h
          refine x_topi ev99 ?_
          refine x_istore B (pc' := 713) [1, 2, 3, 4, 5, 6, 7, 8, 9, 10, 11, 0] [(0, .ref (a 0 0)), (1, .int x1), (2, .int x2), (3, .int x3), (4, .int x4), (5, .int t0), (6, .int r7), (7, .int r8), (8, .int r9), (9, .int r10), (14, .int r97), (15, .int v99)] dL_acts_711 (by decide) rfl rfl ?_
          refine x_aload_n B (pc' := 714) 0 dL_acts_713 rfl rfl rfl ?_
          refine x_iload B (pc' := 716) 11 dL_acts_714 rfl rfl ?_
          obtain ⟨r100, T101, er100, h⟩ := bn2_elim h
          refine n_belVi B (pc' := 719) [.int v99] (k_X2_back _ _ _ a v99 S er100) gv_RL_109 rfl np_X2_back ⟨Nat.le_of_ble_eq_true rfl, Nat.le_of_ble_eq_true rfl⟩ ⟨by exact Nat.le_of_ble_eq_true rfl, by exact Nat.le_of_ble_eq_true rfl⟩ rfl (Nat.le_of_ble_eq_true rfl) dL_acts_716 rfl ?_
          refine x_iload B (pc' := 721) 10 dL_acts_719 rfl rfl ?_
          refine x_iload B (pc' := 723) 11 dL_acts_721 rfl rfl ?_
          refine x_icmp_le B 734 726 dL_acts_723 (by decide) rfl (fun hc102 => ?_) (fun hc102 => ?_)
          · replace h := ite_t hc102 h
            refine x_iconst B (pc' := 735) 0 dL_acts_734 (by decide) rfl ?_
            refine x_widen (k' := 2) (n' := 20) (by exact Nat.le_of_ble_eq_true rfl) (by exact Nat.le_of_ble_eq_true rfl) ?_
            refine x_lv [] (lv' := []) rfl ?_
            exact h735  _ _ _ h
          · replace h := ite_f hc102 h
            refine x_iload B (pc' := 728) 10 dL_acts_726 rfl rfl ?_
            refine x_iload B (pc' := 730) 11 dL_acts_728 rfl rfl ?_
            refine x_isub B (pc' := 731) dL_acts_730 rfl ?_
            refine x_goto B (pc' := 735) dL_acts_731 (by decide) ?_
            refine x_widen (k' := 2) (n' := 20) (by exact Nat.le_of_ble_eq_true rfl) (by exact Nat.le_of_ble_eq_true rfl) ?_
            refine x_lv [] (lv' := []) rfl ?_
            exact h735  _ _ _ h
        · replace h := ite_f hc96 h
          refine x_aload_n B (pc' := 681) 0 dL_acts_680 rfl rfl rfl ?_
          refine x_iload B (pc' := 683) 6 dL_acts_681 rfl rfl ?_
          obtain ⟨r103, T104, er103, h⟩ := bn2_elim h
          refine n_belVi B (pc' := 686) [.int r7] (k_X2_go _ _ _ a r7 S er103) gv_RL_91 rfl np_X2_go ⟨Nat.le_of_ble_eq_true rfl, Nat.le_of_ble_eq_true rfl⟩ ⟨by exact Nat.le_of_ble_eq_true rfl, by exact Nat.le_of_ble_eq_true rfl⟩ rfl (Nat.le_of_ble_eq_true rfl) dL_acts_683 rfl ?_
          refine x_iload B (pc' := 688) 8 dL_acts_686 rfl rfl ?_
          refine x_icmp_ne B 695 691 dL_acts_688 (by decide) rfl (fun hc105 => ?_) (fun hc105 => ?_)
          · replace h := ite_f hc105 h
            refine x_iconst B (pc' := 696) 0 dL_acts_695 (by decide) rfl ?_
            obtain ⟨h1, h2⟩ := some2 h
            subst h1
            subst h2
            exact ret rfl (by exact Nat.le_of_ble_eq_true rfl) (by exact Nat.le_of_ble_eq_true rfl) dL_acts_696
          · replace h := ite_t hc105 h
            refine x_iconst B (pc' := 692) 1 dL_acts_691 (by decide) rfl ?_
            refine x_goto B (pc' := 696) dL_acts_692 (by decide) ?_
            obtain ⟨h1, h2⟩ := some2 h
            subst h1
            subst h2
            exact ret rfl (by exact Nat.le_of_ble_eq_true rfl) (by exact Nat.le_of_ble_eq_true rfl) dL_acts_696
      replace h := ite_f hc94 h
      by_cases hc106 : r11 = 9
      · replace h := ite_t hc106 h
        refine x_tableIn B (off := 629) (pc' := 744) dL_acts_115 (by rw [hc106]; decide) (by rw [hc106]; decide) (by rw [hc106]; rfl) (by decide) ?_
        refine x_iload_n B (pc' := 745) 2 dL_acts_744 rfl rfl rfl ?_
        refine x_iconst B (pc' := 746) 4 dL_acts_745 (by decide) rfl ?_
        refine x_ishr B (pc' := 747) dL_acts_746 rfl ?_
        refine x_iconst B (pc' := 748) 5 dL_acts_747 (by decide) rfl ?_
        obtain ⟨r107, er107, h⟩ := bd_elim h
        refine x_pureSi B (pc' := 751) [.int (x2 >>> ((4 : Int32) &&& 31)), .int (5 : Int32)] (k_L_up _ _ _ (x2 >>> ((4 : Int32) &&& 31)) (5 : Int32) er107) gv_RL_82 np_L_up ⟨Nat.le_of_ble_eq_true rfl, Nat.le_of_ble_eq_true rfl⟩ ⟨by exact Nat.le_of_ble_eq_true rfl, by exact Nat.le_of_ble_eq_true rfl⟩ rfl (Nat.le_of_ble_eq_true rfl) dL_acts_748 rfl ?_
        refine x_istore B (pc' := 753) [1, 2, 3, 4, 5, 6, 7, 8, 9, 10, 0] [(0, .ref (a 0 0)), (1, .int x1), (2, .int x2), (3, .int x3), (4, .int x4), (5, .int t0), (6, .int r7), (7, .int r8), (8, .int r9), (9, .int r10), (16, .int r107)] dL_acts_751 (by decide) rfl rfl ?_
        refine x_aload_n B (pc' := 754) 0 dL_acts_753 rfl rfl rfl ?_
        refine x_iload B (pc' := 756) 6 dL_acts_754 rfl rfl ?_
        refine x_iload B (pc' := 758) 10 dL_acts_756 rfl rfl ?_
        obtain ⟨r108, er108, h⟩ := bn_elim h
        refine n_belVi B (pc' := 761) [.int r7, .int r107] (k_X2_sound _ _ _ a r7 r107 S er108) gv_RL_24 rfl np_X2_sound ⟨Nat.le_of_ble_eq_true rfl, Nat.le_of_ble_eq_true rfl⟩ ⟨by exact Nat.le_of_ble_eq_true rfl, by exact Nat.le_of_ble_eq_true rfl⟩ rfl (Nat.le_of_ble_eq_true rfl) dL_acts_758 rfl ?_
        refine x_istore B (pc' := 763) [1, 2, 3, 4, 5, 6, 7, 8, 9, 10, 11, 0] [(0, .ref (a 0 0)), (1, .int x1), (2, .int x2), (3, .int x3), (4, .int x4), (5, .int t0), (6, .int r7), (7, .int r8), (8, .int r9), (9, .int r10), (16, .int r107), (17, .int r108)] dL_acts_761 (by decide) rfl rfl ?_
        refine x_aload_n B (pc' := 764) 0 dL_acts_763 rfl rfl rfl ?_
        refine x_iload B (pc' := 766) 6 dL_acts_764 rfl rfl ?_
        refine x_iload B (pc' := 768) 10 dL_acts_766 rfl rfl ?_
        obtain ⟨r109, er109, h⟩ := bn_elim h
        refine n_belVi B (pc' := 771) [.int r7, .int r107] (k_X2_carbon _ _ _ a r7 r107 S er109) gv_RL_27 rfl np_X2_carbon ⟨Nat.le_of_ble_eq_true rfl, Nat.le_of_ble_eq_true rfl⟩ ⟨by exact Nat.le_of_ble_eq_true rfl, by exact Nat.le_of_ble_eq_true rfl⟩ rfl (Nat.le_of_ble_eq_true rfl) dL_acts_768 rfl ?_
        refine x_istore B (pc' := 773) [1, 2, 3, 4, 5, 6, 7, 8, 9, 10, 11, 12, 0] [(0, .ref (a 0 0)), (1, .int x1), (2, .int x2), (3, .int x3), (4, .int x4), (5, .int t0), (6, .int r7), (7, .int r8), (8, .int r9), (9, .int r10), (16, .int r107), (17, .int r108), (18, .int r109)] dL_acts_771 (by decide) rfl rfl ?_
        refine x_iload_n B (pc' := 774) 2 dL_acts_773 rfl rfl rfl ?_
        refine x_bipush B (pc' := 776) 7 dL_acts_774 (by decide) rfl ?_
        refine x_ishr B (pc' := 777) dL_acts_776 rfl ?_
        refine x_bipush B (pc' := 779) 100 dL_acts_777 (by decide) rfl ?_
        obtain ⟨r110, er110, h⟩ := bd_elim h
        refine x_pureSi B (pc' := 782) [.int (x2 >>> ((7 : Int32) &&& 31)), .int (100 : Int32)] (k_L_up _ _ _ (x2 >>> ((7 : Int32) &&& 31)) (100 : Int32) er110) gv_RL_82 np_L_up ⟨Nat.le_of_ble_eq_true rfl, Nat.le_of_ble_eq_true rfl⟩ ⟨by exact Nat.le_of_ble_eq_true rfl, by exact Nat.le_of_ble_eq_true rfl⟩ rfl (Nat.le_of_ble_eq_true rfl) dL_acts_779 rfl ?_
        refine x_istore B (pc' := 784) [1, 2, 3, 4, 5, 6, 7, 8, 9, 10, 11, 12, 13, 0] [(0, .ref (a 0 0)), (1, .int x1), (2, .int x2), (3, .int x3), (4, .int x4), (5, .int t0), (6, .int r7), (7, .int r8), (8, .int r9), (9, .int r10), (16, .int r107), (17, .int r108), (18, .int r109), (19, .int r110)] dL_acts_782 (by decide) rfl rfl ?_
        refine x_iload B (pc' := 786) 11 dL_acts_784 rfl rfl ?_
        refine x_if_lt B 794 789 dL_acts_786 (by decide) rfl (fun hc111 => ?_) (fun hc111 => ?_)
        · replace h := ite_t hc111 h
          refine x_widen (k' := 2) (n' := 20) (by exact Nat.le_of_ble_eq_true rfl) (by exact Nat.le_of_ble_eq_true rfl) ?_
          refine x_lv [0, 6, 9] (lv' := [(0, .ref (a 0 0)), (6, .int r7), (9, .int r10)]) rfl ?_
          exact h794  _ _ _ h
        · replace h := ite_f hc111 h
          refine x_iload B (pc' := 791) 9 dL_acts_789 rfl rfl ?_
          refine x_if_eq B 815 794 dL_acts_791 (by decide) rfl (fun hc112 => ?_) (fun hc112 => ?_)
          · replace h := ite_t hc112 h
            refine x_aload_n B (pc' := 816) 0 dL_acts_815 rfl rfl rfl ?_
            refine x_iload B (pc' := 818) 6 dL_acts_816 rfl rfl ?_
            refine x_iload B (pc' := 820) 10 dL_acts_818 rfl rfl ?_
            refine x_iload B (pc' := 822) 13 dL_acts_820 rfl rfl ?_
            obtain ⟨r113, T114, er113, h⟩ := bn2_elim h
            refine n_belVi B (pc' := 825) [.int r7, .int r107, .int r110] (k_X2_correct _ _ _ a r7 r107 r110 S er113) gv_RL_112 rfl np_X2_correct ⟨Nat.le_of_ble_eq_true rfl, Nat.le_of_ble_eq_true rfl⟩ ⟨by exact Nat.le_of_ble_eq_true rfl, by exact Nat.le_of_ble_eq_true rfl⟩ rfl (Nat.le_of_ble_eq_true rfl) dL_acts_822 rfl ?_
            refine x_iload B (pc' := 827) 11 dL_acts_825 rfl rfl ?_
            refine x_icmp_ne B 860 830 dL_acts_827 (by decide) rfl (fun hc115 => ?_) (fun hc115 => ?_)
            · replace h := ite_f hc115 h
              refine x_iconst B (pc' := 861) 0 dL_acts_860 (by decide) rfl ?_
              obtain ⟨h1, h2⟩ := some2 h
              subst h1
              subst h2
              exact ret rfl (by exact Nat.le_of_ble_eq_true rfl) (by exact Nat.le_of_ble_eq_true rfl) dL_acts_861
            · replace h := ite_t hc115 h
              refine x_aload_n B (pc' := 831) 0 dL_acts_830 rfl rfl rfl ?_
              refine x_iload B (pc' := 833) 6 dL_acts_831 rfl rfl ?_
              refine x_iload B (pc' := 835) 10 dL_acts_833 rfl rfl ?_
              obtain ⟨r116, er116, h⟩ := bn_elim h
              refine n_belVi B (pc' := 838) [.int r7, .int r107] (k_X2_sound _ _ _ a r7 r107 T114 er116) gv_RL_24 rfl np_X2_sound ⟨Nat.le_of_ble_eq_true rfl, Nat.le_of_ble_eq_true rfl⟩ ⟨by exact Nat.le_of_ble_eq_true rfl, by exact Nat.le_of_ble_eq_true rfl⟩ rfl (Nat.le_of_ble_eq_true rfl) dL_acts_835 rfl ?_
              refine x_iload B (pc' := 840) 13 dL_acts_838 rfl rfl ?_
              refine x_icmp_ne B 860 843 dL_acts_840 (by decide) rfl (fun hc117 => ?_) (fun hc117 => ?_)
              · replace h := ite_f hc117 h
                refine x_iconst B (pc' := 861) 0 dL_acts_860 (by decide) rfl ?_
                obtain ⟨h1, h2⟩ := some2 h
                subst h1
                subst h2
                exact ret rfl (by exact Nat.le_of_ble_eq_true rfl) (by exact Nat.le_of_ble_eq_true rfl) dL_acts_861
              · replace h := ite_t hc117 h
                refine x_aload_n B (pc' := 844) 0 dL_acts_843 rfl rfl rfl ?_
                refine x_iload B (pc' := 846) 6 dL_acts_844 rfl rfl ?_
                refine x_iload B (pc' := 848) 10 dL_acts_846 rfl rfl ?_
                obtain ⟨r118, er118, h⟩ := bn_elim h
                refine n_belVi B (pc' := 851) [.int r7, .int r107] (k_X2_carbon _ _ _ a r7 r107 T114 er118) gv_RL_27 rfl np_X2_carbon ⟨Nat.le_of_ble_eq_true rfl, Nat.le_of_ble_eq_true rfl⟩ ⟨by exact Nat.le_of_ble_eq_true rfl, by exact Nat.le_of_ble_eq_true rfl⟩ rfl (Nat.le_of_ble_eq_true rfl) dL_acts_848 rfl ?_
                refine x_iload B (pc' := 853) 12 dL_acts_851 rfl rfl ?_
                refine x_icmp_ne B 860 856 dL_acts_853 (by decide) rfl (fun hc119 => ?_) (fun hc119 => ?_)
                · replace h := ite_f hc119 h
                  refine x_iconst B (pc' := 861) 0 dL_acts_860 (by decide) rfl ?_
                  obtain ⟨h1, h2⟩ := some2 h
                  subst h1
                  subst h2
                  exact ret rfl (by exact Nat.le_of_ble_eq_true rfl) (by exact Nat.le_of_ble_eq_true rfl) dL_acts_861
                · replace h := ite_t hc119 h
                  refine x_iconst B (pc' := 857) 1 dL_acts_856 (by decide) rfl ?_
                  refine x_goto B (pc' := 861) dL_acts_857 (by decide) ?_
                  obtain ⟨h1, h2⟩ := some2 h
                  subst h1
                  subst h2
                  exact ret rfl (by exact Nat.le_of_ble_eq_true rfl) (by exact Nat.le_of_ble_eq_true rfl) dL_acts_861
          · replace h := ite_f hc112 h
            refine x_widen (k' := 2) (n' := 20) (by exact Nat.le_of_ble_eq_true rfl) (by exact Nat.le_of_ble_eq_true rfl) ?_
            refine x_lv [0, 6, 9] (lv' := [(0, .ref (a 0 0)), (6, .int r7), (9, .int r10)]) rfl ?_
            exact h794  _ _ _ h
      replace h := ite_f hc106 h
      refine x_tableOut B (pc' := 862) dL_acts_115 (by have n0 := lv_neT hc12 (a := 0) (by decide); have n1 := lv_neT hc26 (a := 1) (by decide); have n2 := lv_neT hc40 (a := 2) (by decide); have n3 := lv_neT hc54 (a := 3) (by decide); have n4 := lv_neT hc56 (a := 4) (by decide); have n5 := lv_neT hc59 (a := 5) (by decide); have n6 := lv_neT hc72 (a := 6) (by decide); have n7 := lv_neT hc80 (a := 7) (by decide); have n8 := lv_neT hc94 (a := 8) (by decide); have n9 := lv_neT hc106 (a := 9) (by decide); omega) (by decide) ?_
      refine x_aload_n B (pc' := 863) 0 dL_acts_862 rfl rfl rfl ?_
      refine x_iload_n B (pc' := 864) 2 dL_acts_863 rfl rfl rfl ?_
      refine x_bipush B (pc' := 866) 100 dL_acts_864 (by decide) rfl ?_
      obtain ⟨r120, er120, h⟩ := bd_elim h
      refine x_pureSi B (pc' := 869) [.int x2, .int (100 : Int32)] (k_L_up _ _ _ x2 (100 : Int32) er120) gv_RL_82 np_L_up ⟨Nat.le_of_ble_eq_true rfl, Nat.le_of_ble_eq_true rfl⟩ ⟨by exact Nat.le_of_ble_eq_true rfl, by exact Nat.le_of_ble_eq_true rfl⟩ rfl (Nat.le_of_ble_eq_true rfl) dL_acts_866 rfl ?_
      obtain ⟨r121, T122, er121, h⟩ := bd2_elim h
      refine n_belSi B (pc' := 872) [.ref (a 0 0), .int r120] (k_L_speaks _ _ _ a r120 S er121) gv_RL_116 np_L_speaks ⟨Nat.le_of_ble_eq_true rfl, Nat.le_of_ble_eq_true rfl⟩ ⟨by exact Nat.le_of_ble_eq_true rfl, by exact Nat.le_of_ble_eq_true rfl⟩ rfl (Nat.le_of_ble_eq_true rfl) dL_acts_869 rfl ?_
      obtain ⟨hz123, h⟩ := zb_elim h
      obtain ⟨h1, h2⟩ := some2 h
      subst h1
      subst h2
      exact ret (zb_nar hz123) (by exact Nat.le_of_ble_eq_true rfl) (by exact Nat.le_of_ble_eq_true rfl) dL_acts_872
    · replace h := ite_t hc6 h
      refine x_aload_n B (pc' := 37) 0 dL_acts_36 rfl rfl rfl ?_
      obtain ⟨r124, T125, er124, h⟩ := bn2_elim h
      refine n_belVi B (pc' := 40) [] (k_X2_begin _ _ _ a S er124) gv_RL_79 rfl np_X2_begin ⟨Nat.le_of_ble_eq_true rfl, Nat.le_of_ble_eq_true rfl⟩ ⟨by exact Nat.le_of_ble_eq_true rfl, by exact Nat.le_of_ble_eq_true rfl⟩ rfl (Nat.le_of_ble_eq_true rfl) dL_acts_37 rfl ?_
      refine x_if_ne B 78 43 dL_acts_40 (by decide) rfl (fun hc126 => ?_) (fun hc126 => ?_)
      · replace h := ite_f hc126 h
        refine x_iconst B (pc' := 79) 0 dL_acts_78 (by decide) rfl ?_
        obtain ⟨h1, h2⟩ := some2 h
        subst h1
        subst h2
        exact ret rfl (by exact Nat.le_of_ble_eq_true rfl) (by exact Nat.le_of_ble_eq_true rfl) dL_acts_79
      · replace h := ite_t hc126 h
        refine x_aload_n B (pc' := 44) 0 dL_acts_43 rfl rfl rfl ?_
        obtain ⟨r127, er127, h⟩ := bd_elim h
        refine n_belVi B (pc' := 47) [] (k_X2_running _ _ _ a T125 er127) gv_RL_33 rfl np_X2_running ⟨Nat.le_of_ble_eq_true rfl, Nat.le_of_ble_eq_true rfl⟩ ⟨by exact Nat.le_of_ble_eq_true rfl, by exact Nat.le_of_ble_eq_true rfl⟩ rfl (Nat.le_of_ble_eq_true rfl) dL_acts_44 rfl ?_
        refine x_if_ne B 78 50 dL_acts_47 (by decide) rfl (fun hc128 => ?_) (fun hc128 => ?_)
        · replace h := ite_f hc128 h
          refine x_iconst B (pc' := 79) 0 dL_acts_78 (by decide) rfl ?_
          obtain ⟨h1, h2⟩ := some2 h
          subst h1
          subst h2
          exact ret rfl (by exact Nat.le_of_ble_eq_true rfl) (by exact Nat.le_of_ble_eq_true rfl) dL_acts_79
        · replace h := ite_t hc128 h
          refine x_aload_n B (pc' := 51) 0 dL_acts_50 rfl rfl rfl ?_
          obtain ⟨r129, er129, h⟩ := bd_elim h
          refine n_belVi B (pc' := 54) [] (k_X2_recordings _ _ _ a T125 er129) gv_RL_63 rfl np_X2_recordings ⟨Nat.le_of_ble_eq_true rfl, Nat.le_of_ble_eq_true rfl⟩ ⟨by exact Nat.le_of_ble_eq_true rfl, by exact Nat.le_of_ble_eq_true rfl⟩ rfl (Nat.le_of_ble_eq_true rfl) dL_acts_51 rfl ?_
          refine x_iconst B (pc' := 55) 1 dL_acts_54 (by decide) rfl ?_
          refine x_icmp_ne B 78 58 dL_acts_55 (by decide) rfl (fun hc130 => ?_) (fun hc130 => ?_)
          · replace h := ite_f hc130 h
            refine x_iconst B (pc' := 79) 0 dL_acts_78 (by decide) rfl ?_
            obtain ⟨h1, h2⟩ := some2 h
            subst h1
            subst h2
            exact ret rfl (by exact Nat.le_of_ble_eq_true rfl) (by exact Nat.le_of_ble_eq_true rfl) dL_acts_79
          · replace h := ite_t hc130 h
            refine x_aload_n B (pc' := 59) 0 dL_acts_58 rfl rfl rfl ?_
            refine x_iconst B (pc' := 60) 0 dL_acts_59 (by decide) rfl ?_
            obtain ⟨r131, er131, h⟩ := bn_elim h
            refine n_belVi B (pc' := 63) [.int (0 : Int32)] (k_X2_length _ _ _ a (0 : Int32) T125 er131) gv_RL_11 rfl np_X2_length ⟨Nat.le_of_ble_eq_true rfl, Nat.le_of_ble_eq_true rfl⟩ ⟨by exact Nat.le_of_ble_eq_true rfl, by exact Nat.le_of_ble_eq_true rfl⟩ rfl (Nat.le_of_ble_eq_true rfl) dL_acts_60 rfl ?_
            refine x_if_ne B 78 66 dL_acts_63 (by decide) rfl (fun hc132 => ?_) (fun hc132 => ?_)
            · replace h := ite_f hc132 h
              refine x_iconst B (pc' := 79) 0 dL_acts_78 (by decide) rfl ?_
              obtain ⟨h1, h2⟩ := some2 h
              subst h1
              subst h2
              exact ret rfl (by exact Nat.le_of_ble_eq_true rfl) (by exact Nat.le_of_ble_eq_true rfl) dL_acts_79
            · replace h := ite_t hc132 h
              refine x_aload_n B (pc' := 67) 0 dL_acts_66 rfl rfl rfl ?_
              refine x_iconst B (pc' := 68) 0 dL_acts_67 (by decide) rfl ?_
              obtain ⟨r133, er133, h⟩ := bn_elim h
              refine n_belVi B (pc' := 71) [.int (0 : Int32)] (k_X2_hasFlag _ _ _ a (0 : Int32) T125 er133) gv_RL_37 rfl np_X2_hasFlag ⟨Nat.le_of_ble_eq_true rfl, Nat.le_of_ble_eq_true rfl⟩ ⟨by exact Nat.le_of_ble_eq_true rfl, by exact Nat.le_of_ble_eq_true rfl⟩ rfl (Nat.le_of_ble_eq_true rfl) dL_acts_68 rfl ?_
              refine x_if_ne B 78 74 dL_acts_71 (by decide) rfl (fun hc134 => ?_) (fun hc134 => ?_)
              · replace h := ite_f hc134 h
                refine x_iconst B (pc' := 79) 0 dL_acts_78 (by decide) rfl ?_
                obtain ⟨h1, h2⟩ := some2 h
                subst h1
                subst h2
                exact ret rfl (by exact Nat.le_of_ble_eq_true rfl) (by exact Nat.le_of_ble_eq_true rfl) dL_acts_79
              · replace h := ite_t hc134 h
                refine x_iconst B (pc' := 75) 1 dL_acts_74 (by decide) rfl ?_
                refine x_goto B (pc' := 79) dL_acts_75 (by decide) ?_
                obtain ⟨h1, h2⟩ := some2 h
                subst h1
                subst h2
                exact ret rfl (by exact Nat.le_of_ble_eq_true rfl) (by exact Nat.le_of_ble_eq_true rfl) dL_acts_79
  have h29 : ∀ (x1 : Int32) (x2 : Int32) (x3 : Int32) (x4 : Int32) (S : BO), c_L_acts_29  x1 x2 x3 x4 S = some (r9, S9) → X Γ 20 0 0 29 [(0, .ref (a 0 0)), (1, .int x1), (2, .int x2), (3, .int x3), (4, .int x4)] [] (wB Γ.cs a S) := by
    intro  x1 x2 x3 x4 S h
    unfold c_L_acts_29 at h
    refine x_iconst B (pc' := 30) 0 dL_acts_29 (by decide) rfl ?_
    refine x_widen (k' := 0) (n' := 0) (by exact Nat.le_of_ble_eq_true rfl) (by exact Nat.le_of_ble_eq_true rfl) ?_
    exact h30  _ _ _ _ _ _ h
  unfold f_L_acts at h
  refine x_aload_n B (pc' := 1) 0 dL_acts_0 rfl rfl rfl ?_
  obtain ⟨r1, er1, h⟩ := bd_elim h
  refine n_belVi B (pc' := 4) [] (k_X2_recordings _ _ _ a S er1) gv_RL_63 rfl np_X2_recordings ⟨Nat.le_of_ble_eq_true rfl, Nat.le_of_ble_eq_true rfl⟩ ⟨by exact Nat.le_of_ble_eq_true rfl, by exact Nat.le_of_ble_eq_true rfl⟩ rfl (Nat.le_of_ble_eq_true rfl) dL_acts_1 rfl ?_
  refine x_istore_n B (pc' := 5) [1, 2, 3, 0] [(0, .ref (a 0 0)), (1, .int p1), (2, .int p2), (3, .int r1)] dL_acts_4 rfl (by decide) rfl rfl ?_
  refine x_aload_n B (pc' := 6) 0 dL_acts_5 rfl rfl rfl ?_
  obtain ⟨r2, er2, h⟩ := bd_elim h
  refine n_belVi B (pc' := 9) [] (k_X2_running _ _ _ a S er2) gv_RL_33 rfl np_X2_running ⟨Nat.le_of_ble_eq_true rfl, Nat.le_of_ble_eq_true rfl⟩ ⟨by exact Nat.le_of_ble_eq_true rfl, by exact Nat.le_of_ble_eq_true rfl⟩ rfl (Nat.le_of_ble_eq_true rfl) dL_acts_6 rfl ?_
  refine x_istore B (pc' := 11) [1, 2, 3, 4, 0] [(0, .ref (a 0 0)), (1, .int p1), (2, .int p2), (3, .int r1), (4, .int r2)] dL_acts_9 (by decide) rfl rfl ?_
  refine x_iload B (pc' := 13) 4 dL_acts_11 rfl rfl ?_
  refine x_if_lt B 29 16 dL_acts_13 (by decide) rfl (fun hc3 => ?_) (fun hc3 => ?_)
  · replace h := ite_t hc3 h
    refine x_widen (k' := 0) (n' := 0) (by exact Nat.le_of_ble_eq_true rfl) (by exact Nat.le_of_ble_eq_true rfl) ?_
    exact h29  _ _ _ _ _ h
  · replace h := ite_f hc3 h
    refine x_aload_n B (pc' := 17) 0 dL_acts_16 rfl rfl rfl ?_
    refine x_iload B (pc' := 19) 4 dL_acts_17 rfl rfl ?_
    obtain ⟨r4, er4, h⟩ := bn_elim h
    refine n_belVi B (pc' := 22) [.int r2] (k_X2_length _ _ _ a r2 S er4) gv_RL_11 rfl np_X2_length ⟨Nat.le_of_ble_eq_true rfl, Nat.le_of_ble_eq_true rfl⟩ ⟨by exact Nat.le_of_ble_eq_true rfl, by exact Nat.le_of_ble_eq_true rfl⟩ rfl (Nat.le_of_ble_eq_true rfl) dL_acts_19 rfl ?_
    refine x_if_ne B 29 25 dL_acts_22 (by decide) rfl (fun hc5 => ?_) (fun hc5 => ?_)
    · replace h := ite_f hc5 h
      refine x_widen (k' := 0) (n' := 0) (by exact Nat.le_of_ble_eq_true rfl) (by exact Nat.le_of_ble_eq_true rfl) ?_
      exact h29  _ _ _ _ _ h
    · replace h := ite_t hc5 h
      refine x_iconst B (pc' := 26) 1 dL_acts_25 (by decide) rfl ?_
      refine x_goto B (pc' := 30) dL_acts_26 (by decide) ?_
      refine x_widen (k' := 0) (n' := 0) (by exact Nat.le_of_ble_eq_true rfl) (by exact Nat.le_of_ble_eq_true rfl) ?_
      exact h30  _ _ _ _ _ _ h
