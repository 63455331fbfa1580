/-! the branches of the law's deed, by program out of its function -/
def br_b (S : BO) : Option (Int32 × BO) :=
  bn2 (f_X2_begin S) (fun (r124 : Int32) (T125 : BO) => if r124 = 0 then (bd (f_X2_running T125) (fun (r127 : Int32) => if r127 = 0 then (bd (f_X2_recordings T125) (fun (r129 : Int32) => if r129 = (1 : Int32) then (bn (f_X2_length (0 : Int32) T125) (fun (r131 : Int32) => if r131 = 0 then (bn (f_X2_hasFlag (0 : Int32) T125) (fun (r133 : Int32) => if r133 = 0 then (some ((1 : Int32), T125)) else (some ((0 : Int32), T125)))) else (some ((0 : Int32), T125)))) else (some ((0 : Int32), T125)))) else (some ((0 : Int32), T125)))) else (some ((0 : Int32), T125)))
def br_0 (x2 x3 x4 t0 r7 r8 r9 r10 : Int32) (S : BO) : Option (Int32 × BO) :=
  if x3 = (10 : Int32) then (if t0 = 0 then (if r10 = 0 then (bn2 (f_X2_erase r7 S) (fun (r16 : Int32) (T17 : BO) => if r16 = r9 then (bd (f_X2_free T17) (fun (r19 : Int32) => if r19 = (r8 + r9) then (bd (f_X2_recordings T17) (fun (r21 : Int32) => if r21 = (9 : Int32) then (some ((1 : Int32), T17)) else (some ((0 : Int32), T17)))) else (some ((0 : Int32), T17)))) else (some ((0 : Int32), T17)))) else (bn2 (f_X2_setFlag r7 (0 : Int32) S) (fun (r23 : Int32) (T24 : BO) => zb r23 (some (r23, T24))))) else (c_L_acts_232 x3 t0 S)) else (c_L_acts_232 x3 t0 S)
def br_1 (x2 x3 x4 t0 r7 r8 r9 r10 : Int32) (S : BO) : Option (Int32 × BO) :=
  if x3 = (10 : Int32) then (if t0 = 0 then (if r10 = 0 then (bn2 (f_X2_erase r7 S) (fun (r30 : Int32) (T31 : BO) => if r30 = r9 then (bd (f_X2_free T31) (fun (r33 : Int32) => if r33 = (r8 + r9) then (bd (f_X2_recordings T31) (fun (r35 : Int32) => if r35 = (9 : Int32) then (some ((1 : Int32), T31)) else (some ((0 : Int32), T31)))) else (some ((0 : Int32), T31)))) else (some ((0 : Int32), T31)))) else (bn2 (f_X2_setFlag r7 (0 : Int32) S) (fun (r37 : Int32) (T38 : BO) => zb r37 (some (r37, T38))))) else (c_L_acts_232 x3 t0 S)) else (c_L_acts_232 x3 t0 S)
def br_2 (x2 x3 x4 t0 r7 r8 r9 r10 : Int32) (S : BO) : Option (Int32 × BO) :=
  if 0 ≤ x4 then (bn2 (f_X2_halt S) (fun (r42 : Int32) (T43 : BO) => if r42 < 0 then (some ((0 : Int32), T43)) else (bd (f_X2_running T43) (fun (r45 : Int32) => if r45 = ((-1) : Int32) then (bd (f_X2_recordings T43) (fun (r47 : Int32) => if t0 = 0 then (c_L_acts_343 x3 r47 T43) else (c_L_acts_343 (x3 - (1 : Int32)) r47 T43))) else (some ((0 : Int32), T43)))))) else (bn2 (f_X2_go r7 S) (fun (r49 : Int32) (T50 : BO) => if r49 = r9 then (bd (f_X2_place T50) (fun (r52 : Int32) => if r52 = 0 then (some ((1 : Int32), T50)) else (some ((0 : Int32), T50)))) else (some ((0 : Int32), T50))))
def br_3 (x2 x3 x4 t0 r7 r8 r9 r10 : Int32) (S : BO) : Option (Int32 × BO) :=
  if ((x2 >>> ((6 : Int32) &&& 31)) &&& (3 : Int32)) = 0 then (c_L_acts_369 x2 r7 r10 (1 : Int32) r7 S) else (c_L_acts_369 x2 r7 r10 (0 : Int32) r7 S)
def br_4 (x2 x3 x4 t0 r7 r8 r9 r10 : Int32) (S : BO) : Option (Int32 × BO) :=
  if r10 = 0 then (if ((x2 >>> ((6 : Int32) &&& 31)) &&& (3 : Int32)) = 0 then (c_L_acts_425 x3 r7 r8 r9 r10 (1 : Int32) S) else (c_L_acts_424 x3 r7 r8 r9 r10 S)) else (c_L_acts_424 x3 r7 r8 r9 r10 S)
def br_5 (x2 x3 x4 t0 r7 r8 r9 r10 : Int32) (S : BO) : Option (Int32 × BO) :=
  bd (f_X2_head S) (fun (r60 : Int32) => if 0 ≤ x4 then (bn2 (f_X2_setFlag r7 r10 S) (fun (r62 : Int32) (T63 : BO) => if r62 = r10 then (some ((1 : Int32), T63)) else (some ((0 : Int32), T63)))) else (bd (f_L_up (x2 >>> ((4 : Int32) &&& 31)) (32 : Int32)) (fun (r65 : Int32) => bn2 (f_X2_moveHead r65 S) (fun (r66 : Int32) (T67 : BO) => if r66 = r60 then (bd (f_X2_head T67) (fun (r69 : Int32) => bd (f_L_up (x2 >>> ((4 : Int32) &&& 31)) (32 : Int32)) (fun (r70 : Int32) => if r69 = r70 then (some ((1 : Int32), T67)) else (some ((0 : Int32), T67))))) else (some ((0 : Int32), T67))))))
def br_6 (x2 x3 x4 t0 r7 r8 r9 r10 : Int32) (S : BO) : Option (Int32 × BO) :=
  bn2 (f_X2_go r7 S) (fun (r73 : Int32) (T74 : BO) => if r73 = r9 then (bd (f_X2_playing T74) (fun (r76 : Int32) => if r76 = r7 then (bd (f_X2_place T74) (fun (r78 : Int32) => if r78 = 0 then (some ((1 : Int32), T74)) else (some ((0 : Int32), T74)))) else (some ((0 : Int32), T74)))) else (some ((0 : Int32), T74)))
def br_7 (x2 x3 x4 t0 r7 r8 r9 r10 : Int32) (S : BO) : Option (Int32 × BO) :=
  bd (f_X2_playing S) (fun (r81 : Int32) => if 0 ≤ r81 then (bd (f_X2_place S) (fun (r83 : Int32) => bd (f_X2_playing S) (fun (r84 : Int32) => bn (f_X2_sound r84 r83 S) (fun (r85 : Int32) => bn2 (f_X2_play S) (fun (r86 : Int32) (T87 : BO) => if r86 = r85 then (bd (f_X2_place T87) (fun (r89 : Int32) => if 0 ≤ r85 then (c_L_acts_664 (r83 + (1 : Int32)) r89 T87) else (c_L_acts_664 r83 r89 T87))) else (some ((0 : Int32), T87))))))) else (bn2 (f_X2_go r7 S) (fun (r91 : Int32) (T92 : BO) => if r91 = r9 then (some ((1 : Int32), T92)) else (some ((0 : Int32), T92)))))
def br_8 (x2 x3 x4 t0 r7 r8 r9 r10 : Int32) (S : BO) : Option (Int32 × BO) :=
  bd (f_X2_playing S) (fun (r95 : Int32) => if 0 ≤ r95 then (bd (f_X2_place S) (fun (r97 : Int32) => bd (f_L_up x2 (9 : Int32)) (fun (r98 : Int32) => nm (fun (v99 : Int32) => bn2 (f_X2_back v99 S) (fun (r100 : Int32) (T101 : BO) => if r97 ≤ v99 then (c_L_acts_735 (0 : Int32) r100 T101) else (c_L_acts_735 (r97 - v99) r100 T101))) ((1 : Int32) + r98)))) else (bn2 (f_X2_go r7 S) (fun (r103 : Int32) (T104 : BO) => if r103 = r9 then (some ((1 : Int32), T104)) else (some ((0 : Int32), T104)))))
def br_9 (x2 x3 x4 t0 r7 r8 r9 r10 : Int32) (S : BO) : Option (Int32 × BO) :=
  bd (f_L_up (x2 >>> ((4 : Int32) &&& 31)) (5 : Int32)) (fun (r107 : Int32) => bn (f_X2_sound r7 r107 S) (fun (r108 : Int32) => bn (f_X2_carbon r7 r107 S) (fun (r109 : Int32) => bd (f_L_up (x2 >>> ((7 : Int32) &&& 31)) (100 : Int32)) (fun (r110 : Int32) => if r108 < 0 then (c_L_acts_794 r7 r10 S) else (if r10 = 0 then (bn2 (f_X2_correct r7 r107 r110 S) (fun (r113 : Int32) (T114 : BO) => if r113 = r108 then (bn (f_X2_sound r7 r107 T114) (fun (r116 : Int32) => if r116 = r110 then (bn (f_X2_carbon r7 r107 T114) (fun (r118 : Int32) => if r118 = r109 then (some ((1 : Int32), T114)) else (some ((0 : Int32), T114)))) else (some ((0 : Int32), T114)))) else (some ((0 : Int32), T114)))) else (c_L_acts_794 r7 r10 S))))))
def br_10 (x2 x3 x4 t0 r7 r8 r9 r10 : Int32) (S : BO) : Option (Int32 × BO) :=
  bd (f_L_up x2 (100 : Int32)) (fun (r120 : Int32) => bd2 (f_L_speaks r120 S) (fun (r121 : Int32) (T122 : BO) => zb r121 (some (r121, T122))))
def chain (x2 x3 x4 t0 r7 r8 r9 r10 : Int32) (S : BO) (r11 : Int32) : Option (Int32 × BO) :=
  if r11 = 0 then br_0 x2 x3 x4 t0 r7 r8 r9 r10 S else (if r11 = 1 then br_1 x2 x3 x4 t0 r7 r8 r9 r10 S else (if r11 = 2 then br_2 x2 x3 x4 t0 r7 r8 r9 r10 S else (if r11 = 3 then br_3 x2 x3 x4 t0 r7 r8 r9 r10 S else (if r11 = 4 then br_4 x2 x3 x4 t0 r7 r8 r9 r10 S else (if r11 = 5 then br_5 x2 x3 x4 t0 r7 r8 r9 r10 S else (if r11 = 6 then br_6 x2 x3 x4 t0 r7 r8 r9 r10 S else (if r11 = 7 then br_7 x2 x3 x4 t0 r7 r8 r9 r10 S else (if r11 = 8 then br_8 x2 x3 x4 t0 r7 r8 r9 r10 S else (if r11 = 9 then br_9 x2 x3 x4 t0 r7 r8 r9 r10 S else (br_10 x2 x3 x4 t0 r7 r8 r9 r10 S))))))))))
theorem acts_30 (x1 x2 x3 x4 t0 : Int32) (S : BO) : c_L_acts_30 x1 x2 x3 x4 t0 S = if x3 = 0 then br_b S else bd (f_L_up x2 x3) (fun (r7 : Int32) => bd (f_X2_free S) (fun (r8 : Int32) => bn (f_X2_length r7 S) (fun (r9 : Int32) => bn (f_X2_hasFlag r7 S) (fun (r10 : Int32) => bd (f_L_up x1 (16 : Int32)) (fun (r11 : Int32) => chain x2 x3 x4 t0 r7 r8 r9 r10 S r11))))) := rfl
theorem chain_0 (x2 x3 x4 t0 r7 r8 r9 r10 : Int32) (S : BO) : chain x2 x3 x4 t0 r7 r8 r9 r10 S (nI 0) = br_0 x2 x3 x4 t0 r7 r8 r9 r10 S := by
  unfold chain
  rw [if_pos (by decide)]
theorem chain_1 (x2 x3 x4 t0 r7 r8 r9 r10 : Int32) (S : BO) : chain x2 x3 x4 t0 r7 r8 r9 r10 S (nI 1) = br_1 x2 x3 x4 t0 r7 r8 r9 r10 S := by
  unfold chain
  rw [if_neg (by decide), if_pos (by decide)]
theorem chain_2 (x2 x3 x4 t0 r7 r8 r9 r10 : Int32) (S : BO) : chain x2 x3 x4 t0 r7 r8 r9 r10 S (nI 2) = br_2 x2 x3 x4 t0 r7 r8 r9 r10 S := by
  unfold chain
  rw [if_neg (by decide), if_neg (by decide), if_pos (by decide)]
theorem chain_3 (x2 x3 x4 t0 r7 r8 r9 r10 : Int32) (S : BO) : chain x2 x3 x4 t0 r7 r8 r9 r10 S (nI 3) = br_3 x2 x3 x4 t0 r7 r8 r9 r10 S := by
  unfold chain
  rw [if_neg (by decide), if_neg (by decide), if_neg (by decide), if_pos (by decide)]
theorem chain_4 (x2 x3 x4 t0 r7 r8 r9 r10 : Int32) (S : BO) : chain x2 x3 x4 t0 r7 r8 r9 r10 S (nI 4) = br_4 x2 x3 x4 t0 r7 r8 r9 r10 S := by
  unfold chain
  rw [if_neg (by decide), if_neg (by decide), if_neg (by decide), if_neg (by decide), if_pos (by decide)]
theorem chain_5 (x2 x3 x4 t0 r7 r8 r9 r10 : Int32) (S : BO) : chain x2 x3 x4 t0 r7 r8 r9 r10 S (nI 5) = br_5 x2 x3 x4 t0 r7 r8 r9 r10 S := by
  unfold chain
  rw [if_neg (by decide), if_neg (by decide), if_neg (by decide), if_neg (by decide), if_neg (by decide), if_pos (by decide)]
theorem chain_6 (x2 x3 x4 t0 r7 r8 r9 r10 : Int32) (S : BO) : chain x2 x3 x4 t0 r7 r8 r9 r10 S (nI 6) = br_6 x2 x3 x4 t0 r7 r8 r9 r10 S := by
  unfold chain
  rw [if_neg (by decide), if_neg (by decide), if_neg (by decide), if_neg (by decide), if_neg (by decide), if_neg (by decide), if_pos (by decide)]
theorem chain_7 (x2 x3 x4 t0 r7 r8 r9 r10 : Int32) (S : BO) : chain x2 x3 x4 t0 r7 r8 r9 r10 S (nI 7) = br_7 x2 x3 x4 t0 r7 r8 r9 r10 S := by
  unfold chain
  rw [if_neg (by decide), if_neg (by decide), if_neg (by decide), if_neg (by decide), if_neg (by decide), if_neg (by decide), if_neg (by decide), if_pos (by decide)]
theorem chain_8 (x2 x3 x4 t0 r7 r8 r9 r10 : Int32) (S : BO) : chain x2 x3 x4 t0 r7 r8 r9 r10 S (nI 8) = br_8 x2 x3 x4 t0 r7 r8 r9 r10 S := by
  unfold chain
  rw [if_neg (by decide), if_neg (by decide), if_neg (by decide), if_neg (by decide), if_neg (by decide), if_neg (by decide), if_neg (by decide), if_neg (by decide), if_pos (by decide)]
theorem chain_9 (x2 x3 x4 t0 r7 r8 r9 r10 : Int32) (S : BO) : chain x2 x3 x4 t0 r7 r8 r9 r10 S (nI 9) = br_9 x2 x3 x4 t0 r7 r8 r9 r10 S := by
  unfold chain
  rw [if_neg (by decide), if_neg (by decide), if_neg (by decide), if_neg (by decide), if_neg (by decide), if_neg (by decide), if_neg (by decide), if_neg (by decide), if_neg (by decide), if_pos (by decide)]
theorem chain_10 (x2 x3 x4 t0 r7 r8 r9 r10 : Int32) (S : BO) {t : Nat} (h1 : 10 ≤ t) (h2 : t < 16) : chain x2 x3 x4 t0 r7 r8 r9 r10 S (nI t) = br_10 x2 x3 x4 t0 r7 r8 r9 r10 S := by
  unfold chain
  rw [if_neg (show ¬ nI t = 0 from fun z => absurd ((nI_eq (b := 0) (by omega) (by omega)).mp z) (by omega)), if_neg (show ¬ nI t = 1 from fun z => absurd ((nI_eq (b := 1) (by omega) (by omega)).mp z) (by omega)), if_neg (show ¬ nI t = 2 from fun z => absurd ((nI_eq (b := 2) (by omega) (by omega)).mp z) (by omega)), if_neg (show ¬ nI t = 3 from fun z => absurd ((nI_eq (b := 3) (by omega) (by omega)).mp z) (by omega)), if_neg (show ¬ nI t = 4 from fun z => absurd ((nI_eq (b := 4) (by omega) (by omega)).mp z) (by omega)), if_neg (show ¬ nI t = 5 from fun z => absurd ((nI_eq (b := 5) (by omega) (by omega)).mp z) (by omega)), if_neg (show ¬ nI t = 6 from fun z => absurd ((nI_eq (b := 6) (by omega) (by omega)).mp z) (by omega)), if_neg (show ¬ nI t = 7 from fun z => absurd ((nI_eq (b := 7) (by omega) (by omega)).mp z) (by omega)), if_neg (show ¬ nI t = 8 from fun z => absurd ((nI_eq (b := 8) (by omega) (by omega)).mp z) (by omega)), if_neg (show ¬ nI t = 9 from fun z => absurd ((nI_eq (b := 9) (by omega) (by omega)).mp z) (by omega))]
