def c_L_speaks_391 (K309 : Int32 → Int32 → Int32 → Int32 → Int32 → Int32 → Int32 → Int32 → Int32 → LO → Option (Int32 × BO)) (x1 : Int32) (x2 : Int32) (x3 : Int32) (x6 : Int32) (x7 : Int32) (x8 : Int32) (x13 : Int32) (x15 : Int32) (t0 : Int32) (t1 : Int32) (S : LO) : Option (Int32 × BO) :=
  if t1 = t0 then (nm (fun (v83 : Int32) => K309 x1 x2 x3 x6 x7 x8 x13 (1 : Int32) v83 S) (x15 + 1)) else (nm (fun (v82 : Int32) => K309 x1 x2 x3 x6 x7 x8 x13 (0 : Int32) v82 S) (x15 + 1))
def c_L_speaks_336 (K309 : Int32 → Int32 → Int32 → Int32 → Int32 → Int32 → Int32 → Int32 → Int32 → LO → Option (Int32 × BO)) (x1 : Int32) (x2 : Int32) (x3 : Int32) (x6 : Int32) (x7 : Int32) (x8 : Int32) (x13 : Int32) (x14 : Int32) (x15 : Int32) (t0 : Int32) (S : LO) : Option (Int32 × BO) :=
  if x14 = 0 then (nm (fun (v63 : Int32) => K309 x1 x2 x3 x6 x7 x8 x13 (0 : Int32) v63 S) (x15 + 1)) else (if x15 = x7 then (nm (fun (v65 : Int32) => K309 x1 x2 x3 x6 x7 x8 x13 (1 : Int32) v65 S) (x15 + 1)) else (if x15 = x3 then (nm (fun (v67 : Int32) => K309 x1 x2 x3 x6 x7 x8 x13 (1 : Int32) v67 S) (x15 + 1)) else (bd (f_L_talk t0 S.1) (fun (r68 : Int64) => gd x15 10 (if (lg_cmp r68 (S.2.1 (Int32.toNatClampNeg x15))) = 0 then (bn (f_X2_hasFlag t0 S.1) (fun (r72 : Int32) => gd x15 10 (if (S.2.2 (Int32.toNatClampNeg x15)) = (1 : Int32) then (c_L_speaks_391 K309 x1 x2 x3 x6 x7 x8 x13 x15 (1 : Int32) r72 S) else (c_L_speaks_391 K309 x1 x2 x3 x6 x7 x8 x13 x15 (0 : Int32) r72 S)))) else (nm (fun (v71 : Int32) => K309 x1 x2 x3 x6 x7 x8 x13 (0 : Int32) v71 S) (x15 + 1)))))))
def c_L_speaks_334 (K309 : Int32 → Int32 → Int32 → Int32 → Int32 → Int32 → Int32 → Int32 → Int32 → LO → Option (Int32 × BO)) (x1 : Int32) (x2 : Int32) (x3 : Int32) (x6 : Int32) (x7 : Int32) (x8 : Int32) (x13 : Int32) (x14 : Int32) (x15 : Int32) (S : LO) : Option (Int32 × BO) :=
  c_L_speaks_336 K309 x1 x2 x3 x6 x7 x8 x13 x14 x15 x15 S
def b_L_speaks_309 (K309 : Int32 → Int32 → Int32 → Int32 → Int32 → Int32 → Int32 → Int32 → Int32 → LO → Option (Int32 × BO)) (x1 : Int32) (x2 : Int32) (x3 : Int32) (x6 : Int32) (x7 : Int32) (x8 : Int32) (x13 : Int32) (x14 : Int32) (x15 : Int32) (S : LO) : Option (Int32 × BO) :=
  if x6 ≤ x15 then (bd (f_X2_running S.1) (fun (r48 : Int32) => if x14 = 0 then (some ((0 : Int32), S.1)) else (bn (f_X2_length r48 S.1) (fun (r50 : Int32) => if r50 = (x8 + (1 : Int32)) then (bn (f_X2_sound r48 x8 S.1) (fun (r52 : Int32) => if r52 = x1 then (bn (f_X2_carbon r48 x8 S.1) (fun (r54 : Int32) => if r54 = x1 then (bn (f_X2_cellOf r48 x8 S.1) (fun (r56 : Int32) => if r56 = x2 then (some ((1 : Int32), S.1)) else (some ((0 : Int32), S.1)))) else (some ((0 : Int32), S.1)))) else (some ((0 : Int32), S.1)))) else (some ((0 : Int32), S.1)))))) else (if x13 = 0 then (c_L_speaks_334 K309 x1 x2 x3 x6 x7 x8 x13 x14 x15 S) else (if x15 ≤ x3 then (c_L_speaks_334 K309 x1 x2 x3 x6 x7 x8 x13 x14 x15 S) else (c_L_speaks_336 K309 x1 x2 x3 x6 x7 x8 x13 x14 x15 (x15 - (1 : Int32)) S)))
def c_L_speaks_272 (x1 : Int32) (x2 : Int32) (x3 : Int32) (x6 : Int32) (x7 : Int32) (x8 : Int32) (x9 : Int32) (x13 : Int32) (t0 : Int32) (t1 : Int32) (S : LO) : Option (Int32 × BO) :=
  if t1 = t0 then (bd (f_X2_recordings S.1) (fun (r76 : Int32) => if r76 = (x6 - x9) then (bn (f_X2_owner x2 S.1) (fun (r78 : Int32) => bd (f_X2_running S.1) (fun (r79 : Int32) => if r78 = r79 then (lpf10 (b_L_speaks_309) FU x1 x2 x3 x6 x7 x8 x13 (1 : Int32) (0 : Int32) S) else (lpf10 (b_L_speaks_309) FU x1 x2 x3 x6 x7 x8 x13 (0 : Int32) (0 : Int32) S)))) else (lpf10 (b_L_speaks_309) FU x1 x2 x3 x6 x7 x8 x13 (0 : Int32) (0 : Int32) S))) else (lpf10 (b_L_speaks_309) FU x1 x2 x3 x6 x7 x8 x13 (0 : Int32) (0 : Int32) S)
def c_L_speaks_258 (x1 : Int32) (x2 : Int32) (x3 : Int32) (x6 : Int32) (x7 : Int32) (x8 : Int32) (x9 : Int32) (x10 : Int32) (x13 : Int32) (t0 : Int32) (t1 : Int32) (S : LO) : Option (Int32 × BO) :=
  if t1 = t0 then (if 0 ≤ x3 then (c_L_speaks_272 x1 x2 x3 x6 x7 x8 x9 x13 (1 : Int32) x10 S) else (c_L_speaks_272 x1 x2 x3 x6 x7 x8 x9 x13 (0 : Int32) x10 S)) else (lpf10 (b_L_speaks_309) FU x1 x2 x3 x6 x7 x8 x13 (0 : Int32) (0 : Int32) S)
def c_L_speaks_199 (x1 : Int32) (x2 : Int32) (x3 : Int32) (x4 : Int32) (x5 : Int32) (x6 : Int32) (x7 : Int32) (x8 : Int32) (x9 : Int32) (x10 : Int32) (t0 : Int32) (S : LO) : Option (Int32 × BO) :=
  bn2 (f_X2_speak x1 S.1) (fun (r33 : Int32) (T34 : BO) => nm (fun (S35 : LO) => if r33 = x2 then (bd (f_X2_head S35.1) (fun (r37 : Int32) => if r37 = ((x2 + (1 : Int32)) - (x2 + (1 : Int32)) / (32 : Int32) * (32 : Int32)) then (bd (f_X2_spoken S35.1) (fun (r39 : Int32) => if r39 = (x5 + (1 : Int32)) then (bd (f_X2_gone S35.1) (fun (r41 : Int32) => if r41 = (x4 + x9) then (if t0 = 0 then (c_L_speaks_258 x1 x2 x3 x6 x7 x8 x9 x10 t0 (0 : Int32) x9 S35) else (c_L_speaks_258 x1 x2 x3 x6 x7 x8 x9 x10 t0 (1 : Int32) x9 S35)) else (lpf10 (b_L_speaks_309) FU x1 x2 x3 x6 x7 x8 t0 (0 : Int32) (0 : Int32) S35))) else (lpf10 (b_L_speaks_309) FU x1 x2 x3 x6 x7 x8 t0 (0 : Int32) (0 : Int32) S35))) else (lpf10 (b_L_speaks_309) FU x1 x2 x3 x6 x7 x8 t0 (0 : Int32) (0 : Int32) S35))) else (lpf10 (b_L_speaks_309) FU x1 x2 x3 x6 x7 x8 t0 (0 : Int32) (0 : Int32) S35)) (T34, S.2))
def c_L_speaks_198 (x1 : Int32) (x2 : Int32) (x3 : Int32) (x4 : Int32) (x5 : Int32) (x6 : Int32) (x7 : Int32) (x8 : Int32) (x9 : Int32) (x10 : Int32) (S : LO) : Option (Int32 × BO) :=
  c_L_speaks_199 x1 x2 x3 x4 x5 x6 x7 x8 x9 x10 (0 : Int32) S
def c_L_speaks_174 (K138 : Int32 → Int32 → Int32 → Int32 → Int32 → Int32 → Int32 → Int32 → Int32 → Int32 → Int32 → LO → Option (Int32 × BO)) (x1 : Int32) (x2 : Int32) (x3 : Int32) (x4 : Int32) (x5 : Int32) (x6 : Int32) (x7 : Int32) (x8 : Int32) (x9 : Int32) (x10 : Int32) (x13 : Int32) (t0 : Int32) (t1 : Int32) (S : LO) : Option (Int32 × BO) :=
  gd t1 10 (nm (fun (S45 : LO) => nm (fun (v46 : Int32) => K138 x1 x2 x3 x4 x5 x6 x7 x8 x9 x10 v46 S45) (x13 + 1)) (S.1, S.2.1, (upd S.2.2 (Int32.toNatClampNeg t1) t0)))
def b_L_speaks_138 (K138 : Int32 → Int32 → Int32 → Int32 → Int32 → Int32 → Int32 → Int32 → Int32 → Int32 → Int32 → LO → Option (Int32 × BO)) (x1 : Int32) (x2 : Int32) (x3 : Int32) (x4 : Int32) (x5 : Int32) (x6 : Int32) (x7 : Int32) (x8 : Int32) (x9 : Int32) (x10 : Int32) (x13 : Int32) (S : LO) : Option (Int32 × BO) :=
  if x6 ≤ x13 then (if x3 < 0 then (c_L_speaks_198 x1 x2 x3 x4 x5 x6 x7 x8 x9 x10 S) else (bn (f_X2_length x3 S.1) (fun (r26 : Int32) => if r26 = (1 : Int32) then (c_L_speaks_199 x1 x2 x3 x4 x5 x6 x7 x8 x9 x10 (1 : Int32) S) else (c_L_speaks_198 x1 x2 x3 x4 x5 x6 x7 x8 x9 x10 S)))) else (bd (f_L_talk x13 S.1) (fun (r28 : Int64) => gd x13 10 (nm (fun (S30 : LO) => bn (f_X2_hasFlag x13 S30.1) (fun (r31 : Int32) => if r31 = 0 then (c_L_speaks_174 K138 x1 x2 x3 x4 x5 x6 x7 x8 x9 x10 x13 (0 : Int32) x13 S30) else (c_L_speaks_174 K138 x1 x2 x3 x4 x5 x6 x7 x8 x9 x10 x13 (1 : Int32) x13 S30))) (S.1, vp_updL S.2.1 (Int32.toNatClampNeg x13) r28, S.2.2))))
def c_L_speaks_121 (x1 : Int32) (x2 : Int32) (x3 : Int32) (x4 : Int32) (x5 : Int32) (x6 : Int32) (x7 : Int32) (x8 : Int32) (x9 : Int32) (t0 : Int32) (S : BO) : Option (Int32 × BO) :=
  nm (fun (S23 : LO) => lpf12 (b_L_speaks_138) FU x1 x2 x3 x4 x5 x6 x7 x8 x9 t0 (0 : Int32) S23) (S, (fun _ => 0), (fun _ => 0))
def b_L_speaks_44 (K44 : Int32 → Int32 → BO → Option (Int32 × BO)) (x1 : Int32) (x2 : Int32) (S : BO) : Option (Int32 × BO) :=
  bd (f_L_isWritable x2 S) (fun (r11 : Int32) => if r11 = 0 then (nm (fun (v22 : Int32) => K44 x1 v22 S) ((x2 + (1 : Int32)) - (x2 + (1 : Int32)) / (32 : Int32) * (32 : Int32))) else (bn (f_X2_owner x2 S) (fun (r13 : Int32) => bd (f_X2_gone S) (fun (r14 : Int32) => bd (f_X2_spoken S) (fun (r15 : Int32) => bd (f_X2_recordings S) (fun (r16 : Int32) => bd (f_X2_running S) (fun (r17 : Int32) => bn (f_X2_length r17 S) (fun (r18 : Int32) => bn (f_X2_goneAfter (1 : Int32) S) (fun (r19 : Int32) => if 0 ≤ r13 then (bn (f_X2_lossOf r13 (1 : Int32) S) (fun (r21 : Int32) => c_L_speaks_121 x1 x2 r13 r14 r15 r16 r17 r18 r19 r21 S)) else (c_L_speaks_121 x1 x2 r13 r14 r15 r16 r17 r18 r19 (0 : Int32) S))))))))))
def c_L_speaks_15 (S : BO) : Option (Int32 × BO) :=
  bn (f_X2_hasFlag (0 : Int32) S) (fun (r6 : Int32) => bn2 (f_X2_setFlag (0 : Int32) r6 S) (fun (r7 : Int32) (T8 : BO) => bn (f_X2_hasFlag (0 : Int32) T8) (fun (r9 : Int32) => if r7 = r9 then (some ((1 : Int32), T8)) else (some ((0 : Int32), T8)))))
def f_L_speaks (p1 : Int32) (S : BO) : Option (Int32 × BO) :=
  bd (f_X2_running S) (fun (r1 : Int32) => if r1 = ((-1) : Int32) then (c_L_speaks_15 S) else (bd (f_X2_room S) (fun (r3 : Int32) => if r3 = 0 then (c_L_speaks_15 S) else (bd (f_X2_head S) (fun (r5 : Int32) => lpf3 (b_L_speaks_44) FU p1 r5 S)))))
abbrev rm_L_speaks : Room := { frames := 5, cells := 2, slots := 20, locals := 129 }
theorem np_L_speaks : yL_speaks.cls ≠ "java/lang/invoke/MethodHandle" ∧ yL_speaks.cls ≠ "java/lang/invoke/VarHandle" ∧ (parseMethodDescriptor yL_speaks.desc).map (fun d => d.parameters.length) = some 2 := by decide +kernel
set_option maxHeartbeats 4000000 in
set_option maxRecDepth 100000 in
theorem k_L_speaks (l : Launch) (D : va_G) (cs : CS) (a : Nat → Nat → Nat) (p1 : Int32) (S : BO) {r9 : Int32} {S9 : BO} (h : f_L_speaks p1 S = some (r9, S9)) : MI l D cs yL_speaks cL_speaks 17 .boolean rm_L_speaks [.ref (a 0 0), .int p1] (wB cs a S) r9 (wB cs a S9) := by
  refine MI_of (by decide) (Nat.le_of_ble_eq_true rfl) ?_
  rintro Γ rfl rfl rfl B ret
  show X Γ 17 0 0 0 [(0, .ref (a 0 0)), (1, .int p1)] [] (wB Γ.cs a S)
  have h391 : ∀ (b9 c9 : Nat) (K309 : Int32 → Int32 → Int32 → Int32 → Int32 → Int32 → Int32 → Int32 → Int32 → LO → Option (Int32 × BO)) (_ : ∀ x1 x2 x3 x6 x7 x8 x13 x14 x15 S, K309 x1 x2 x3 x6 x7 x8 x13 x14 x15 S = some (r9, S9) → X Γ 17 2 20 309 [(0, .ref (a 0 0)), (1, .int x1), (2, .int x2), (3, .int x3), (6, .int x6), (7, .int x7), (8, .int x8), (11, .ref b9), (12, .ref c9), (13, .int x13), (14, .int x14), (15, .int x15)] [] (wV Γ.cs a b9 c9 S)) (x1 : Int32) (x2 : Int32) (x3 : Int32) (x6 : Int32) (x7 : Int32) (x8 : Int32) (x13 : Int32) (x15 : Int32) (t0 : Int32) (t1 : Int32) (S : LO), c_L_speaks_391 K309 x1 x2 x3 x6 x7 x8 x13 x15 t0 t1 S = some (r9, S9) → X Γ 17 2 20 391 [(0, .ref (a 0 0)), (1, .int x1), (2, .int x2), (3, .int x3), (6, .int x6), (7, .int x7), (8, .int x8), (11, .ref b9), (12, .ref c9), (13, .int x13), (15, .int x15)] [.int t0, .int t1] (wV Γ.cs a b9 c9 S) := by
    intro b9 c9 K309 hK309 x1 x2 x3 x6 x7 x8 x13 x15 t0 t1 S h
    unfold c_L_speaks_391 at h
    refine x_icmp_ne B 398 394 dL_speaks_391 (by decide) rfl (fun hc81 => ?_) (fun hc81 => ?_)
    · replace h := ite_f hc81 h
      refine x_iconst B (pc' := 399) 0 dL_speaks_398 (by decide) rfl ?_
      refine x_istore B (pc' := 401) [1, 2, 3, 4, 5, 6, 7, 8, 9, 10, 0, 11] [(0, .ref (a 0 0)), (1, .int x1), (2, .int x2), (3, .int x3), (6, .int x6), (7, .int x7), (8, .int x8), (11, .ref b9), (12, .ref c9), (13, .int x13), (14, .int (0 : Int32)), (15, .int x15)] dL_speaks_399 (by decide) rfl rfl ?_
      obtain ⟨v82, ev82, h⟩ := nm_elim h
      refine x_iinc B (pc' := 404) v82 11 [1, 2, 3, 4, 5, 6, 7, 8, 9, 10, 11, 0] [(0, .ref (a 0 0)), (1, .int x1), (2, .int x2), (3, .int x3), (6, .int x6), (7, .int x7), (8, .int x8), (11, .ref b9), (12, .ref c9), (13, .int x13), (14, .int (0 : Int32)), (15, .int v82)] dL_speaks_401 rfl (by rw [ev82]; rfl) (by decide) rfl rfl ?_
      refine x_goto B (pc' := 309) dL_speaks_404 (by decide) ?_
      refine x_widen (k' := 2) (n' := 20) (by exact Nat.le_of_ble_eq_true rfl) (by exact Nat.le_of_ble_eq_true rfl) ?_
      exact hK309 _ _ _ _ _ _ _ _ _ _ h
    · replace h := ite_t hc81 h
      refine x_iconst B (pc' := 395) 1 dL_speaks_394 (by decide) rfl ?_
      refine x_goto B (pc' := 399) dL_speaks_395 (by decide) ?_
      refine x_istore B (pc' := 401) [1, 2, 3, 4, 5, 6, 7, 8, 9, 10, 0, 11] [(0, .ref (a 0 0)), (1, .int x1), (2, .int x2), (3, .int x3), (6, .int x6), (7, .int x7), (8, .int x8), (11, .ref b9), (12, .ref c9), (13, .int x13), (14, .int (1 : Int32)), (15, .int x15)] dL_speaks_399 (by decide) rfl rfl ?_
      obtain ⟨v83, ev83, h⟩ := nm_elim h
      refine x_iinc B (pc' := 404) v83 11 [1, 2, 3, 4, 5, 6, 7, 8, 9, 10, 11, 0] [(0, .ref (a 0 0)), (1, .int x1), (2, .int x2), (3, .int x3), (6, .int x6), (7, .int x7), (8, .int x8), (11, .ref b9), (12, .ref c9), (13, .int x13), (14, .int (1 : Int32)), (15, .int v83)] dL_speaks_401 rfl (by rw [ev83]; rfl) (by decide) rfl rfl ?_
      refine x_goto B (pc' := 309) dL_speaks_404 (by decide) ?_
      refine x_widen (k' := 2) (n' := 20) (by exact Nat.le_of_ble_eq_true rfl) (by exact Nat.le_of_ble_eq_true rfl) ?_
      exact hK309 _ _ _ _ _ _ _ _ _ _ h
  have h336 : ∀ (b9 c9 : Nat) (K309 : Int32 → Int32 → Int32 → Int32 → Int32 → Int32 → Int32 → Int32 → Int32 → LO → Option (Int32 × BO)) (_ : ∀ x1 x2 x3 x6 x7 x8 x13 x14 x15 S, K309 x1 x2 x3 x6 x7 x8 x13 x14 x15 S = some (r9, S9) → X Γ 17 2 20 309 [(0, .ref (a 0 0)), (1, .int x1), (2, .int x2), (3, .int x3), (6, .int x6), (7, .int x7), (8, .int x8), (11, .ref b9), (12, .ref c9), (13, .int x13), (14, .int x14), (15, .int x15)] [] (wV Γ.cs a b9 c9 S)) (x1 : Int32) (x2 : Int32) (x3 : Int32) (x6 : Int32) (x7 : Int32) (x8 : Int32) (x13 : Int32) (x14 : Int32) (x15 : Int32) (t0 : Int32) (S : LO), c_L_speaks_336 K309 x1 x2 x3 x6 x7 x8 x13 x14 x15 t0 S = some (r9, S9) → X Γ 17 2 20 336 [(0, .ref (a 0 0)), (1, .int x1), (2, .int x2), (3, .int x3), (6, .int x6), (7, .int x7), (8, .int x8), (11, .ref b9), (12, .ref c9), (13, .int x13), (14, .int x14), (15, .int x15)] [.int t0] (wV Γ.cs a b9 c9 S) := by
    intro b9 c9 K309 hK309 x1 x2 x3 x6 x7 x8 x13 x14 x15 t0 S h
    unfold c_L_speaks_336 at h
    refine x_istore B (pc' := 338) [1, 2, 3, 4, 5, 6, 7, 8, 9, 10, 11, 12, 0] [(0, .ref (a 0 0)), (1, .int x1), (2, .int x2), (3, .int x3), (6, .int x6), (7, .int x7), (8, .int x8), (11, .ref b9), (12, .ref c9), (13, .int x13), (14, .int x14), (15, .int x15), (16, .int t0)] dL_speaks_336 (by decide) rfl rfl ?_
    refine x_iload B (pc' := 340) 10 dL_speaks_338 rfl rfl ?_
    refine x_if_eq B 398 343 dL_speaks_340 (by decide) rfl (fun hc62 => ?_) (fun hc62 => ?_)
    · replace h := ite_t hc62 h
      refine x_iconst B (pc' := 399) 0 dL_speaks_398 (by decide) rfl ?_
      refine x_istore B (pc' := 401) [1, 2, 3, 4, 5, 6, 7, 8, 9, 10, 0, 11, 12] [(0, .ref (a 0 0)), (1, .int x1), (2, .int x2), (3, .int x3), (6, .int x6), (7, .int x7), (8, .int x8), (11, .ref b9), (12, .ref c9), (13, .int x13), (14, .int (0 : Int32)), (15, .int x15), (16, .int t0)] dL_speaks_399 (by decide) rfl rfl ?_
      obtain ⟨v63, ev63, h⟩ := nm_elim h
      refine x_iinc B (pc' := 404) v63 11 [1, 2, 3, 4, 5, 6, 7, 8, 9, 10, 11, 0, 12] [(0, .ref (a 0 0)), (1, .int x1), (2, .int x2), (3, .int x3), (6, .int x6), (7, .int x7), (8, .int x8), (11, .ref b9), (12, .ref c9), (13, .int x13), (14, .int (0 : Int32)), (15, .int v63), (16, .int t0)] dL_speaks_401 rfl (by rw [ev63]; rfl) (by decide) rfl rfl ?_
      refine x_goto B (pc' := 309) dL_speaks_404 (by decide) ?_
      refine x_widen (k' := 2) (n' := 20) (by exact Nat.le_of_ble_eq_true rfl) (by exact Nat.le_of_ble_eq_true rfl) ?_
      refine x_lv [0, 1, 2, 3, 4, 5, 6, 7, 8, 9, 10, 11] (lv' := [(0, .ref (a 0 0)), (1, .int x1), (2, .int x2), (3, .int x3), (6, .int x6), (7, .int x7), (8, .int x8), (11, .ref b9), (12, .ref c9), (13, .int x13), (14, .int (0 : Int32)), (15, .int v63)]) rfl ?_
      exact hK309 _ _ _ _ _ _ _ _ _ _ h
    · replace h := ite_f hc62 h
      refine x_iload B (pc' := 345) 11 dL_speaks_343 rfl rfl ?_
      refine x_iload B (pc' := 347) 5 dL_speaks_345 rfl rfl ?_
      refine x_icmp_eq B 394 350 dL_speaks_347 (by decide) rfl (fun hc64 => ?_) (fun hc64 => ?_)
      · replace h := ite_t hc64 h
        refine x_iconst B (pc' := 395) 1 dL_speaks_394 (by decide) rfl ?_
        refine x_goto B (pc' := 399) dL_speaks_395 (by decide) ?_
        refine x_istore B (pc' := 401) [1, 2, 3, 4, 5, 6, 7, 8, 9, 10, 0, 11, 12] [(0, .ref (a 0 0)), (1, .int x1), (2, .int x2), (3, .int x3), (6, .int x6), (7, .int x7), (8, .int x8), (11, .ref b9), (12, .ref c9), (13, .int x13), (14, .int (1 : Int32)), (15, .int x15), (16, .int t0)] dL_speaks_399 (by decide) rfl rfl ?_
        obtain ⟨v65, ev65, h⟩ := nm_elim h
        refine x_iinc B (pc' := 404) v65 11 [1, 2, 3, 4, 5, 6, 7, 8, 9, 10, 11, 0, 12] [(0, .ref (a 0 0)), (1, .int x1), (2, .int x2), (3, .int x3), (6, .int x6), (7, .int x7), (8, .int x8), (11, .ref b9), (12, .ref c9), (13, .int x13), (14, .int (1 : Int32)), (15, .int v65), (16, .int t0)] dL_speaks_401 rfl (by rw [ev65]; rfl) (by decide) rfl rfl ?_
        refine x_goto B (pc' := 309) dL_speaks_404 (by decide) ?_
        refine x_widen (k' := 2) (n' := 20) (by exact Nat.le_of_ble_eq_true rfl) (by exact Nat.le_of_ble_eq_true rfl) ?_
        refine x_lv [0, 1, 2, 3, 4, 5, 6, 7, 8, 9, 10, 11] (lv' := [(0, .ref (a 0 0)), (1, .int x1), (2, .int x2), (3, .int x3), (6, .int x6), (7, .int x7), (8, .int x8), (11, .ref b9), (12, .ref c9), (13, .int x13), (14, .int (1 : Int32)), (15, .int v65)]) rfl ?_
        exact hK309 _ _ _ _ _ _ _ _ _ _ h
      · replace h := ite_f hc64 h
        refine x_iload B (pc' := 352) 11 dL_speaks_350 rfl rfl ?_
        refine x_iload_n B (pc' := 353) 3 dL_speaks_352 rfl rfl rfl ?_
        refine x_icmp_eq B 394 356 dL_speaks_353 (by decide) rfl (fun hc66 => ?_) (fun hc66 => ?_)
        · replace h := ite_t hc66 h
          refine x_iconst B (pc' := 395) 1 dL_speaks_394 (by decide) rfl ?_
          refine x_goto B (pc' := 399) dL_speaks_395 (by decide) ?_
          refine x_istore B (pc' := 401) [1, 2, 3, 4, 5, 6, 7, 8, 9, 10, 0, 11, 12] [(0, .ref (a 0 0)), (1, .int x1), (2, .int x2), (3, .int x3), (6, .int x6), (7, .int x7), (8, .int x8), (11, .ref b9), (12, .ref c9), (13, .int x13), (14, .int (1 : Int32)), (15, .int x15), (16, .int t0)] dL_speaks_399 (by decide) rfl rfl ?_
          obtain ⟨v67, ev67, h⟩ := nm_elim h
          refine x_iinc B (pc' := 404) v67 11 [1, 2, 3, 4, 5, 6, 7, 8, 9, 10, 11, 0, 12] [(0, .ref (a 0 0)), (1, .int x1), (2, .int x2), (3, .int x3), (6, .int x6), (7, .int x7), (8, .int x8), (11, .ref b9), (12, .ref c9), (13, .int x13), (14, .int (1 : Int32)), (15, .int v67), (16, .int t0)] dL_speaks_401 rfl (by rw [ev67]; rfl) (by decide) rfl rfl ?_
          refine x_goto B (pc' := 309) dL_speaks_404 (by decide) ?_
          refine x_widen (k' := 2) (n' := 20) (by exact Nat.le_of_ble_eq_true rfl) (by exact Nat.le_of_ble_eq_true rfl) ?_
          refine x_lv [0, 1, 2, 3, 4, 5, 6, 7, 8, 9, 10, 11] (lv' := [(0, .ref (a 0 0)), (1, .int x1), (2, .int x2), (3, .int x3), (6, .int x6), (7, .int x7), (8, .int x8), (11, .ref b9), (12, .ref c9), (13, .int x13), (14, .int (1 : Int32)), (15, .int v67)]) rfl ?_
          exact hK309 _ _ _ _ _ _ _ _ _ _ h
        · replace h := ite_f hc66 h
          refine x_aload_n B (pc' := 357) 0 dL_speaks_356 rfl rfl rfl ?_
          refine x_iload B (pc' := 359) 12 dL_speaks_357 rfl rfl ?_
          obtain ⟨r68, er68, h⟩ := bd_elim h
          refine v_belSl B (pc' := 362) [.ref (a 0 0), .int t0] (k_L_talk _ _ _ a t0 S.1 er68) gv_RL_72 np_L_talk ⟨Nat.le_of_ble_eq_true rfl, Nat.le_of_ble_eq_true rfl⟩ ⟨by exact Nat.le_of_ble_eq_true rfl, by exact Nat.le_of_ble_eq_true rfl⟩ rfl (Nat.le_of_ble_eq_true rfl) dL_speaks_359 rfl ?_
          refine x_aload B (pc' := 364) 7 dL_speaks_362 rfl rfl ?_
          refine x_iload B (pc' := 366) 11 dL_speaks_364 rfl rfl ?_
          obtain ⟨hi69, h⟩ := gd_elim h
          refine v_lald53 B (pc' := 367) hi69 dL_speaks_366 rfl ?_
          refine x_lcmp B (pc' := 368) dL_speaks_367 rfl ?_
          refine x_if_ne B 398 371 dL_speaks_368 (by decide) rfl (fun hc70 => ?_) (fun hc70 => ?_)
          · replace h := ite_f hc70 h
            refine x_iconst B (pc' := 399) 0 dL_speaks_398 (by decide) rfl ?_
            refine x_istore B (pc' := 401) [1, 2, 3, 4, 5, 6, 7, 8, 9, 10, 0, 11, 12] [(0, .ref (a 0 0)), (1, .int x1), (2, .int x2), (3, .int x3), (6, .int x6), (7, .int x7), (8, .int x8), (11, .ref b9), (12, .ref c9), (13, .int x13), (14, .int (0 : Int32)), (15, .int x15), (16, .int t0)] dL_speaks_399 (by decide) rfl rfl ?_
            obtain ⟨v71, ev71, h⟩ := nm_elim h
            refine x_iinc B (pc' := 404) v71 11 [1, 2, 3, 4, 5, 6, 7, 8, 9, 10, 11, 0, 12] [(0, .ref (a 0 0)), (1, .int x1), (2, .int x2), (3, .int x3), (6, .int x6), (7, .int x7), (8, .int x8), (11, .ref b9), (12, .ref c9), (13, .int x13), (14, .int (0 : Int32)), (15, .int v71), (16, .int t0)] dL_speaks_401 rfl (by rw [ev71]; rfl) (by decide) rfl rfl ?_
            refine x_goto B (pc' := 309) dL_speaks_404 (by decide) ?_
            refine x_widen (k' := 2) (n' := 20) (by exact Nat.le_of_ble_eq_true rfl) (by exact Nat.le_of_ble_eq_true rfl) ?_
            refine x_lv [0, 1, 2, 3, 4, 5, 6, 7, 8, 9, 10, 11] (lv' := [(0, .ref (a 0 0)), (1, .int x1), (2, .int x2), (3, .int x3), (6, .int x6), (7, .int x7), (8, .int x8), (11, .ref b9), (12, .ref c9), (13, .int x13), (14, .int (0 : Int32)), (15, .int v71)]) rfl ?_
            exact hK309 _ _ _ _ _ _ _ _ _ _ h
          · replace h := ite_t hc70 h
            refine x_aload_n B (pc' := 372) 0 dL_speaks_371 rfl rfl rfl ?_
            refine x_iload B (pc' := 374) 12 dL_speaks_372 rfl rfl ?_
            obtain ⟨r72, er72, h⟩ := bn_elim h
            refine v_belVi B (pc' := 377) [.int t0] (k_X2_hasFlag _ _ _ a t0 S.1 er72) gv_RL_37 rfl np_X2_hasFlag ⟨Nat.le_of_ble_eq_true rfl, Nat.le_of_ble_eq_true rfl⟩ ⟨by exact Nat.le_of_ble_eq_true rfl, by exact Nat.le_of_ble_eq_true rfl⟩ rfl (Nat.le_of_ble_eq_true rfl) dL_speaks_374 rfl ?_
            refine x_aload B (pc' := 379) 8 dL_speaks_377 rfl rfl ?_
            refine x_iload B (pc' := 381) 11 dL_speaks_379 rfl rfl ?_
            obtain ⟨hi73, h⟩ := gd_elim h
            refine v_ald54 B (pc' := 382) hi73 dL_speaks_381 rfl ?_
            refine x_iconst B (pc' := 383) 1 dL_speaks_382 (by decide) rfl ?_
            refine x_icmp_ne B 390 386 dL_speaks_383 (by decide) rfl (fun hc74 => ?_) (fun hc74 => ?_)
            · replace h := ite_f hc74 h
              refine x_iconst B (pc' := 391) 0 dL_speaks_390 (by decide) rfl ?_
              refine x_widen (k' := 2) (n' := 20) (by exact Nat.le_of_ble_eq_true rfl) (by exact Nat.le_of_ble_eq_true rfl) ?_
              refine x_lv [0, 1, 2, 3, 4, 5, 6, 7, 8, 9, 11] (lv' := [(0, .ref (a 0 0)), (1, .int x1), (2, .int x2), (3, .int x3), (6, .int x6), (7, .int x7), (8, .int x8), (11, .ref b9), (12, .ref c9), (13, .int x13), (15, .int x15)]) rfl ?_
              exact h391 b9 c9 K309 hK309 _ _ _ _ _ _ _ _ _ _ _ h
            · replace h := ite_t hc74 h
              refine x_iconst B (pc' := 387) 1 dL_speaks_386 (by decide) rfl ?_
              refine x_goto B (pc' := 391) dL_speaks_387 (by decide) ?_
              refine x_widen (k' := 2) (n' := 20) (by exact Nat.le_of_ble_eq_true rfl) (by exact Nat.le_of_ble_eq_true rfl) ?_
              refine x_lv [0, 1, 2, 3, 4, 5, 6, 7, 8, 9, 11] (lv' := [(0, .ref (a 0 0)), (1, .int x1), (2, .int x2), (3, .int x3), (6, .int x6), (7, .int x7), (8, .int x8), (11, .ref b9), (12, .ref c9), (13, .int x13), (15, .int x15)]) rfl ?_
              exact h391 b9 c9 K309 hK309 _ _ _ _ _ _ _ _ _ _ _ h
  have h334 : ∀ (b9 c9 : Nat) (K309 : Int32 → Int32 → Int32 → Int32 → Int32 → Int32 → Int32 → Int32 → Int32 → LO → Option (Int32 × BO)) (_ : ∀ x1 x2 x3 x6 x7 x8 x13 x14 x15 S, K309 x1 x2 x3 x6 x7 x8 x13 x14 x15 S = some (r9, S9) → X Γ 17 2 20 309 [(0, .ref (a 0 0)), (1, .int x1), (2, .int x2), (3, .int x3), (6, .int x6), (7, .int x7), (8, .int x8), (11, .ref b9), (12, .ref c9), (13, .int x13), (14, .int x14), (15, .int x15)] [] (wV Γ.cs a b9 c9 S)) (x1 : Int32) (x2 : Int32) (x3 : Int32) (x6 : Int32) (x7 : Int32) (x8 : Int32) (x13 : Int32) (x14 : Int32) (x15 : Int32) (S : LO), c_L_speaks_334 K309 x1 x2 x3 x6 x7 x8 x13 x14 x15 S = some (r9, S9) → X Γ 17 2 20 334 [(0, .ref (a 0 0)), (1, .int x1), (2, .int x2), (3, .int x3), (6, .int x6), (7, .int x7), (8, .int x8), (11, .ref b9), (12, .ref c9), (13, .int x13), (14, .int x14), (15, .int x15)] [] (wV Γ.cs a b9 c9 S) := by
    intro b9 c9 K309 hK309 x1 x2 x3 x6 x7 x8 x13 x14 x15 S h
    unfold c_L_speaks_334 at h
    refine x_iload B (pc' := 336) 11 dL_speaks_334 rfl rfl ?_
    refine x_widen (k' := 2) (n' := 20) (by exact Nat.le_of_ble_eq_true rfl) (by exact Nat.le_of_ble_eq_true rfl) ?_
    exact h336 b9 c9 K309 hK309 _ _ _ _ _ _ _ _ _ _ _ h
  have h309 : ∀ (b9 c9 : Nat) (n9 : Nat) (x1 : Int32) (x2 : Int32) (x3 : Int32) (x6 : Int32) (x7 : Int32) (x8 : Int32) (x13 : Int32) (x14 : Int32) (x15 : Int32) (S : LO), lpf10 (b_L_speaks_309) n9 x1 x2 x3 x6 x7 x8 x13 x14 x15 S = some (r9, S9) → X Γ 17 2 20 309 [(0, .ref (a 0 0)), (1, .int x1), (2, .int x2), (3, .int x3), (6, .int x6), (7, .int x7), (8, .int x8), (11, .ref b9), (12, .ref c9), (13, .int x13), (14, .int x14), (15, .int x15)] [] (wV Γ.cs a b9 c9 S) := by
    intro b9 c9 
    refine lpf10_ind (fun K309 hK309 x1 x2 x3 x6 x7 x8 x13 x14 x15 S h => ?_)
    unfold b_L_speaks_309 at h
    refine x_iload B (pc' := 311) 11 dL_speaks_309 rfl rfl ?_
    refine x_iload B (pc' := 313) 4 dL_speaks_311 rfl rfl ?_
    refine x_icmp_ge B 407 316 dL_speaks_313 (by decide) rfl (fun hc47 => ?_) (fun hc47 => ?_)
    · replace h := ite_t hc47 h
      refine x_aload_n B (pc' := 408) 0 dL_speaks_407 rfl rfl rfl ?_
      obtain ⟨r48, er48, h⟩ := bd_elim h
      refine v_belVi B (pc' := 411) [] (k_X2_running _ _ _ a S.1 er48) gv_RL_33 rfl np_X2_running ⟨Nat.le_of_ble_eq_true rfl, Nat.le_of_ble_eq_true rfl⟩ ⟨by exact Nat.le_of_ble_eq_true rfl, by exact Nat.le_of_ble_eq_true rfl⟩ rfl (Nat.le_of_ble_eq_true rfl) dL_speaks_408 rfl ?_
      refine x_istore B (pc' := 413) [1, 2, 3, 4, 5, 6, 7, 8, 9, 10, 11, 0] [(0, .ref (a 0 0)), (1, .int x1), (2, .int x2), (3, .int x3), (6, .int x6), (7, .int x7), (8, .int x8), (11, .ref b9), (12, .ref c9), (13, .int x13), (14, .int x14), (15, .int r48)] dL_speaks_411 (by decide) rfl rfl ?_
      refine x_iload B (pc' := 415) 10 dL_speaks_413 rfl rfl ?_
      refine x_if_eq B 471 418 dL_speaks_415 (by decide) rfl (fun hc49 => ?_) (fun hc49 => ?_)
      · replace h := ite_t hc49 h
        refine x_iconst B (pc' := 472) 0 dL_speaks_471 (by decide) rfl ?_
        obtain ⟨h1, h2⟩ := some2 h
        subst h1
        subst h2
        refine v_end ?_
        exact ret rfl (by exact Nat.le_of_ble_eq_true rfl) (by exact Nat.le_of_ble_eq_true rfl) dL_speaks_472
      · replace h := ite_f hc49 h
        refine x_aload_n B (pc' := 419) 0 dL_speaks_418 rfl rfl rfl ?_
        refine x_iload B (pc' := 421) 11 dL_speaks_419 rfl rfl ?_
        obtain ⟨r50, er50, h⟩ := bn_elim h
        refine v_belVi B (pc' := 424) [.int r48] (k_X2_length _ _ _ a r48 S.1 er50) gv_RL_11 rfl np_X2_length ⟨Nat.le_of_ble_eq_true rfl, Nat.le_of_ble_eq_true rfl⟩ ⟨by exact Nat.le_of_ble_eq_true rfl, by exact Nat.le_of_ble_eq_true rfl⟩ rfl (Nat.le_of_ble_eq_true rfl) dL_speaks_421 rfl ?_
        refine x_iload B (pc' := 426) 6 dL_speaks_424 rfl rfl ?_
        refine x_iconst B (pc' := 427) 1 dL_speaks_426 (by decide) rfl ?_
        refine x_iadd B (pc' := 428) dL_speaks_427 rfl ?_
        refine x_icmp_ne B 471 431 dL_speaks_428 (by decide) rfl (fun hc51 => ?_) (fun hc51 => ?_)
        · replace h := ite_f hc51 h
          refine x_iconst B (pc' := 472) 0 dL_speaks_471 (by decide) rfl ?_
          obtain ⟨h1, h2⟩ := some2 h
          subst h1
          subst h2
          refine v_end ?_
          exact ret rfl (by exact Nat.le_of_ble_eq_true rfl) (by exact Nat.le_of_ble_eq_true rfl) dL_speaks_472
        · replace h := ite_t hc51 h
          refine x_aload_n B (pc' := 432) 0 dL_speaks_431 rfl rfl rfl ?_
          refine x_iload B (pc' := 434) 11 dL_speaks_432 rfl rfl ?_
          refine x_iload B (pc' := 436) 6 dL_speaks_434 rfl rfl ?_
          obtain ⟨r52, er52, h⟩ := bn_elim h
          refine v_belVi B (pc' := 439) [.int r48, .int x8] (k_X2_sound _ _ _ a r48 x8 S.1 er52) gv_RL_24 rfl np_X2_sound ⟨Nat.le_of_ble_eq_true rfl, Nat.le_of_ble_eq_true rfl⟩ ⟨by exact Nat.le_of_ble_eq_true rfl, by exact Nat.le_of_ble_eq_true rfl⟩ rfl (Nat.le_of_ble_eq_true rfl) dL_speaks_436 rfl ?_
          refine x_iload_n B (pc' := 440) 1 dL_speaks_439 rfl rfl rfl ?_
          refine x_icmp_ne B 471 443 dL_speaks_440 (by decide) rfl (fun hc53 => ?_) (fun hc53 => ?_)
          · replace h := ite_f hc53 h
            refine x_iconst B (pc' := 472) 0 dL_speaks_471 (by decide) rfl ?_
            obtain ⟨h1, h2⟩ := some2 h
            subst h1
            subst h2
            refine v_end ?_
            exact ret rfl (by exact Nat.le_of_ble_eq_true rfl) (by exact Nat.le_of_ble_eq_true rfl) dL_speaks_472
          · replace h := ite_t hc53 h
            refine x_aload_n B (pc' := 444) 0 dL_speaks_443 rfl rfl rfl ?_
            refine x_iload B (pc' := 446) 11 dL_speaks_444 rfl rfl ?_
            refine x_iload B (pc' := 448) 6 dL_speaks_446 rfl rfl ?_
            obtain ⟨r54, er54, h⟩ := bn_elim h
            refine v_belVi B (pc' := 451) [.int r48, .int x8] (k_X2_carbon _ _ _ a r48 x8 S.1 er54) gv_RL_27 rfl np_X2_carbon ⟨Nat.le_of_ble_eq_true rfl, Nat.le_of_ble_eq_true rfl⟩ ⟨by exact Nat.le_of_ble_eq_true rfl, by exact Nat.le_of_ble_eq_true rfl⟩ rfl (Nat.le_of_ble_eq_true rfl) dL_speaks_448 rfl ?_
            refine x_iload_n B (pc' := 452) 1 dL_speaks_451 rfl rfl rfl ?_
            refine x_icmp_ne B 471 455 dL_speaks_452 (by decide) rfl (fun hc55 => ?_) (fun hc55 => ?_)
            · replace h := ite_f hc55 h
              refine x_iconst B (pc' := 472) 0 dL_speaks_471 (by decide) rfl ?_
              obtain ⟨h1, h2⟩ := some2 h
              subst h1
              subst h2
              refine v_end ?_
              exact ret rfl (by exact Nat.le_of_ble_eq_true rfl) (by exact Nat.le_of_ble_eq_true rfl) dL_speaks_472
            · replace h := ite_t hc55 h
              refine x_aload_n B (pc' := 456) 0 dL_speaks_455 rfl rfl rfl ?_
              refine x_iload B (pc' := 458) 11 dL_speaks_456 rfl rfl ?_
              refine x_iload B (pc' := 460) 6 dL_speaks_458 rfl rfl ?_
              obtain ⟨r56, er56, h⟩ := bn_elim h
              refine v_belVi B (pc' := 463) [.int r48, .int x8] (k_X2_cellOf _ _ _ a r48 x8 S.1 er56) gv_RL_20 rfl np_X2_cellOf ⟨Nat.le_of_ble_eq_true rfl, Nat.le_of_ble_eq_true rfl⟩ ⟨by exact Nat.le_of_ble_eq_true rfl, by exact Nat.le_of_ble_eq_true rfl⟩ rfl (Nat.le_of_ble_eq_true rfl) dL_speaks_460 rfl ?_
              refine x_iload_n B (pc' := 464) 2 dL_speaks_463 rfl rfl rfl ?_
              refine x_icmp_ne B 471 467 dL_speaks_464 (by decide) rfl (fun hc57 => ?_) (fun hc57 => ?_)
              · replace h := ite_f hc57 h
                refine x_iconst B (pc' := 472) 0 dL_speaks_471 (by decide) rfl ?_
                obtain ⟨h1, h2⟩ := some2 h
                subst h1
                subst h2
                refine v_end ?_
                exact ret rfl (by exact Nat.le_of_ble_eq_true rfl) (by exact Nat.le_of_ble_eq_true rfl) dL_speaks_472
              · replace h := ite_t hc57 h
                refine x_iconst B (pc' := 468) 1 dL_speaks_467 (by decide) rfl ?_
                refine x_goto B (pc' := 472) dL_speaks_468 (by decide) ?_
                obtain ⟨h1, h2⟩ := some2 h
                subst h1
                subst h2
                refine v_end ?_
                exact ret rfl (by exact Nat.le_of_ble_eq_true rfl) (by exact Nat.le_of_ble_eq_true rfl) dL_speaks_472
    · replace h := ite_f hc47 h
      refine x_iload B (pc' := 318) 9 dL_speaks_316 rfl rfl ?_
      refine x_if_eq B 334 321 dL_speaks_318 (by decide) rfl (fun hc58 => ?_) (fun hc58 => ?_)
      · replace h := ite_t hc58 h
        refine x_widen (k' := 2) (n' := 20) (by exact Nat.le_of_ble_eq_true rfl) (by exact Nat.le_of_ble_eq_true rfl) ?_
        exact h334 b9 c9 K309 hK309 _ _ _ _ _ _ _ _ _ _ h
      · replace h := ite_f hc58 h
        refine x_iload B (pc' := 323) 11 dL_speaks_321 rfl rfl ?_
        refine x_iload_n B (pc' := 324) 3 dL_speaks_323 rfl rfl rfl ?_
        refine x_icmp_le B 334 327 dL_speaks_324 (by decide) rfl (fun hc59 => ?_) (fun hc59 => ?_)
        · replace h := ite_t hc59 h
          refine x_widen (k' := 2) (n' := 20) (by exact Nat.le_of_ble_eq_true rfl) (by exact Nat.le_of_ble_eq_true rfl) ?_
          exact h334 b9 c9 K309 hK309 _ _ _ _ _ _ _ _ _ _ h
        · replace h := ite_f hc59 h
          refine x_iload B (pc' := 329) 11 dL_speaks_327 rfl rfl ?_
          refine x_iconst B (pc' := 330) 1 dL_speaks_329 (by decide) rfl ?_
          refine x_isub B (pc' := 331) dL_speaks_330 rfl ?_
          refine x_goto B (pc' := 336) dL_speaks_331 (by decide) ?_
          refine x_widen (k' := 2) (n' := 20) (by exact Nat.le_of_ble_eq_true rfl) (by exact Nat.le_of_ble_eq_true rfl) ?_
          exact h336 b9 c9 K309 hK309 _ _ _ _ _ _ _ _ _ _ _ h
  have h272 : ∀ (b9 c9 : Nat) (x1 : Int32) (x2 : Int32) (x3 : Int32) (x6 : Int32) (x7 : Int32) (x8 : Int32) (x9 : Int32) (x13 : Int32) (t0 : Int32) (t1 : Int32) (S : LO), c_L_speaks_272  x1 x2 x3 x6 x7 x8 x9 x13 t0 t1 S = some (r9, S9) → X Γ 17 2 20 272 [(0, .ref (a 0 0)), (1, .int x1), (2, .int x2), (3, .int x3), (6, .int x6), (7, .int x7), (8, .int x8), (9, .int x9), (11, .ref b9), (12, .ref c9), (13, .int x13)] [.int t0, .int t1] (wV Γ.cs a b9 c9 S) := by
    intro b9 c9  x1 x2 x3 x6 x7 x8 x9 x13 t0 t1 S h
    unfold c_L_speaks_272 at h
    refine x_icmp_ne B 303 275 dL_speaks_272 (by decide) rfl (fun hc75 => ?_) (fun hc75 => ?_)
    · replace h := ite_f hc75 h
      refine x_iconst B (pc' := 304) 0 dL_speaks_303 (by decide) rfl ?_
      refine x_istore B (pc' := 306) [1, 2, 3, 4, 5, 6, 7, 8, 9, 10, 11, 0] [(0, .ref (a 0 0)), (1, .int x1), (2, .int x2), (3, .int x3), (6, .int x6), (7, .int x7), (8, .int x8), (9, .int x9), (11, .ref b9), (12, .ref c9), (13, .int x13), (14, .int (0 : Int32))] dL_speaks_304 (by decide) rfl rfl ?_
      refine x_iconst B (pc' := 307) 0 dL_speaks_306 (by decide) rfl ?_
      refine x_istore B (pc' := 309) [1, 2, 3, 4, 5, 6, 7, 8, 9, 10, 11, 12, 0] [(0, .ref (a 0 0)), (1, .int x1), (2, .int x2), (3, .int x3), (6, .int x6), (7, .int x7), (8, .int x8), (9, .int x9), (11, .ref b9), (12, .ref c9), (13, .int x13), (14, .int (0 : Int32)), (15, .int (0 : Int32))] dL_speaks_307 (by decide) rfl rfl ?_
      refine x_widen (k' := 2) (n' := 20) (by exact Nat.le_of_ble_eq_true rfl) (by exact Nat.le_of_ble_eq_true rfl) ?_
      refine x_lv [0, 1, 2, 3, 4, 5, 6, 8, 9, 10, 11, 12] (lv' := [(0, .ref (a 0 0)), (1, .int x1), (2, .int x2), (3, .int x3), (6, .int x6), (7, .int x7), (8, .int x8), (11, .ref b9), (12, .ref c9), (13, .int x13), (14, .int (0 : Int32)), (15, .int (0 : Int32))]) rfl ?_
      exact h309 b9 c9  _ _ _ _ _ _ _ _ _ _ _ h
    · replace h := ite_t hc75 h
      refine x_aload_n B (pc' := 276) 0 dL_speaks_275 rfl rfl rfl ?_
      obtain ⟨r76, er76, h⟩ := bd_elim h
      refine v_belVi B (pc' := 279) [] (k_X2_recordings _ _ _ a S.1 er76) gv_RL_63 rfl np_X2_recordings ⟨Nat.le_of_ble_eq_true rfl, Nat.le_of_ble_eq_true rfl⟩ ⟨by exact Nat.le_of_ble_eq_true rfl, by exact Nat.le_of_ble_eq_true rfl⟩ rfl (Nat.le_of_ble_eq_true rfl) dL_speaks_276 rfl ?_
      refine x_iload B (pc' := 281) 4 dL_speaks_279 rfl rfl ?_
      refine x_iload B (pc' := 283) 7 dL_speaks_281 rfl rfl ?_
      refine x_isub B (pc' := 284) dL_speaks_283 rfl ?_
      refine x_icmp_ne B 303 287 dL_speaks_284 (by decide) rfl (fun hc77 => ?_) (fun hc77 => ?_)
      · replace h := ite_f hc77 h
        refine x_iconst B (pc' := 304) 0 dL_speaks_303 (by decide) rfl ?_
        refine x_istore B (pc' := 306) [1, 2, 3, 4, 5, 6, 7, 8, 9, 10, 11, 0] [(0, .ref (a 0 0)), (1, .int x1), (2, .int x2), (3, .int x3), (6, .int x6), (7, .int x7), (8, .int x8), (9, .int x9), (11, .ref b9), (12, .ref c9), (13, .int x13), (14, .int (0 : Int32))] dL_speaks_304 (by decide) rfl rfl ?_
        refine x_iconst B (pc' := 307) 0 dL_speaks_306 (by decide) rfl ?_
        refine x_istore B (pc' := 309) [1, 2, 3, 4, 5, 6, 7, 8, 9, 10, 11, 12, 0] [(0, .ref (a 0 0)), (1, .int x1), (2, .int x2), (3, .int x3), (6, .int x6), (7, .int x7), (8, .int x8), (9, .int x9), (11, .ref b9), (12, .ref c9), (13, .int x13), (14, .int (0 : Int32)), (15, .int (0 : Int32))] dL_speaks_307 (by decide) rfl rfl ?_
        refine x_widen (k' := 2) (n' := 20) (by exact Nat.le_of_ble_eq_true rfl) (by exact Nat.le_of_ble_eq_true rfl) ?_
        refine x_lv [0, 1, 2, 3, 4, 5, 6, 8, 9, 10, 11, 12] (lv' := [(0, .ref (a 0 0)), (1, .int x1), (2, .int x2), (3, .int x3), (6, .int x6), (7, .int x7), (8, .int x8), (11, .ref b9), (12, .ref c9), (13, .int x13), (14, .int (0 : Int32)), (15, .int (0 : Int32))]) rfl ?_
        exact h309 b9 c9  _ _ _ _ _ _ _ _ _ _ _ h
      · replace h := ite_t hc77 h
        refine x_aload_n B (pc' := 288) 0 dL_speaks_287 rfl rfl rfl ?_
        refine x_iload_n B (pc' := 289) 2 dL_speaks_288 rfl rfl rfl ?_
        obtain ⟨r78, er78, h⟩ := bn_elim h
        refine v_belVi B (pc' := 292) [.int x2] (k_X2_owner _ _ _ a x2 S.1 er78) gv_RL_30 rfl np_X2_owner ⟨Nat.le_of_ble_eq_true rfl, Nat.le_of_ble_eq_true rfl⟩ ⟨by exact Nat.le_of_ble_eq_true rfl, by exact Nat.le_of_ble_eq_true rfl⟩ rfl (Nat.le_of_ble_eq_true rfl) dL_speaks_289 rfl ?_
        refine x_aload_n B (pc' := 293) 0 dL_speaks_292 rfl rfl rfl ?_
        obtain ⟨r79, er79, h⟩ := bd_elim h
        refine v_belVi B (pc' := 296) [] (k_X2_running _ _ _ a S.1 er79) gv_RL_33 rfl np_X2_running ⟨Nat.le_of_ble_eq_true rfl, Nat.le_of_ble_eq_true rfl⟩ ⟨by exact Nat.le_of_ble_eq_true rfl, by exact Nat.le_of_ble_eq_true rfl⟩ rfl (Nat.le_of_ble_eq_true rfl) dL_speaks_293 rfl ?_
        refine x_icmp_ne B 303 299 dL_speaks_296 (by decide) rfl (fun hc80 => ?_) (fun hc80 => ?_)
        · replace h := ite_f hc80 h
          refine x_iconst B (pc' := 304) 0 dL_speaks_303 (by decide) rfl ?_
          refine x_istore B (pc' := 306) [1, 2, 3, 4, 5, 6, 7, 8, 9, 10, 11, 0] [(0, .ref (a 0 0)), (1, .int x1), (2, .int x2), (3, .int x3), (6, .int x6), (7, .int x7), (8, .int x8), (9, .int x9), (11, .ref b9), (12, .ref c9), (13, .int x13), (14, .int (0 : Int32))] dL_speaks_304 (by decide) rfl rfl ?_
          refine x_iconst B (pc' := 307) 0 dL_speaks_306 (by decide) rfl ?_
          refine x_istore B (pc' := 309) [1, 2, 3, 4, 5, 6, 7, 8, 9, 10, 11, 12, 0] [(0, .ref (a 0 0)), (1, .int x1), (2, .int x2), (3, .int x3), (6, .int x6), (7, .int x7), (8, .int x8), (9, .int x9), (11, .ref b9), (12, .ref c9), (13, .int x13), (14, .int (0 : Int32)), (15, .int (0 : Int32))] dL_speaks_307 (by decide) rfl rfl ?_
          refine x_widen (k' := 2) (n' := 20) (by exact Nat.le_of_ble_eq_true rfl) (by exact Nat.le_of_ble_eq_true rfl) ?_
          refine x_lv [0, 1, 2, 3, 4, 5, 6, 8, 9, 10, 11, 12] (lv' := [(0, .ref (a 0 0)), (1, .int x1), (2, .int x2), (3, .int x3), (6, .int x6), (7, .int x7), (8, .int x8), (11, .ref b9), (12, .ref c9), (13, .int x13), (14, .int (0 : Int32)), (15, .int (0 : Int32))]) rfl ?_
          exact h309 b9 c9  _ _ _ _ _ _ _ _ _ _ _ h
        · replace h := ite_t hc80 h
          refine x_iconst B (pc' := 300) 1 dL_speaks_299 (by decide) rfl ?_
          refine x_goto B (pc' := 304) dL_speaks_300 (by decide) ?_
          refine x_istore B (pc' := 306) [1, 2, 3, 4, 5, 6, 7, 8, 9, 10, 11, 0] [(0, .ref (a 0 0)), (1, .int x1), (2, .int x2), (3, .int x3), (6, .int x6), (7, .int x7), (8, .int x8), (9, .int x9), (11, .ref b9), (12, .ref c9), (13, .int x13), (14, .int (1 : Int32))] dL_speaks_304 (by decide) rfl rfl ?_
          refine x_iconst B (pc' := 307) 0 dL_speaks_306 (by decide) rfl ?_
          refine x_istore B (pc' := 309) [1, 2, 3, 4, 5, 6, 7, 8, 9, 10, 11, 12, 0] [(0, .ref (a 0 0)), (1, .int x1), (2, .int x2), (3, .int x3), (6, .int x6), (7, .int x7), (8, .int x8), (9, .int x9), (11, .ref b9), (12, .ref c9), (13, .int x13), (14, .int (1 : Int32)), (15, .int (0 : Int32))] dL_speaks_307 (by decide) rfl rfl ?_
          refine x_widen (k' := 2) (n' := 20) (by exact Nat.le_of_ble_eq_true rfl) (by exact Nat.le_of_ble_eq_true rfl) ?_
          refine x_lv [0, 1, 2, 3, 4, 5, 6, 8, 9, 10, 11, 12] (lv' := [(0, .ref (a 0 0)), (1, .int x1), (2, .int x2), (3, .int x3), (6, .int x6), (7, .int x7), (8, .int x8), (11, .ref b9), (12, .ref c9), (13, .int x13), (14, .int (1 : Int32)), (15, .int (0 : Int32))]) rfl ?_
          exact h309 b9 c9  _ _ _ _ _ _ _ _ _ _ _ h
  have h258 : ∀ (b9 c9 : Nat) (x1 : Int32) (x2 : Int32) (x3 : Int32) (x6 : Int32) (x7 : Int32) (x8 : Int32) (x9 : Int32) (x10 : Int32) (x13 : Int32) (t0 : Int32) (t1 : Int32) (S : LO), c_L_speaks_258  x1 x2 x3 x6 x7 x8 x9 x10 x13 t0 t1 S = some (r9, S9) → X Γ 17 2 20 258 [(0, .ref (a 0 0)), (1, .int x1), (2, .int x2), (3, .int x3), (6, .int x6), (7, .int x7), (8, .int x8), (9, .int x9), (10, .int x10), (11, .ref b9), (12, .ref c9), (13, .int x13)] [.int t0, .int t1] (wV Γ.cs a b9 c9 S) := by
    intro b9 c9  x1 x2 x3 x6 x7 x8 x9 x10 x13 t0 t1 S h
    unfold c_L_speaks_258 at h
    refine x_icmp_ne B 303 261 dL_speaks_258 (by decide) rfl (fun hc60 => ?_) (fun hc60 => ?_)
    · replace h := ite_f hc60 h
      refine x_iconst B (pc' := 304) 0 dL_speaks_303 (by decide) rfl ?_
      refine x_istore B (pc' := 306) [1, 2, 3, 4, 5, 6, 7, 8, 9, 10, 11, 12, 0] [(0, .ref (a 0 0)), (1, .int x1), (2, .int x2), (3, .int x3), (6, .int x6), (7, .int x7), (8, .int x8), (9, .int x9), (10, .int x10), (11, .ref b9), (12, .ref c9), (13, .int x13), (14, .int (0 : Int32))] dL_speaks_304 (by decide) rfl rfl ?_
      refine x_iconst B (pc' := 307) 0 dL_speaks_306 (by decide) rfl ?_
      refine x_istore B (pc' := 309) [1, 2, 3, 4, 5, 6, 7, 8, 9, 10, 11, 12, 13, 0] [(0, .ref (a 0 0)), (1, .int x1), (2, .int x2), (3, .int x3), (6, .int x6), (7, .int x7), (8, .int x8), (9, .int x9), (10, .int x10), (11, .ref b9), (12, .ref c9), (13, .int x13), (14, .int (0 : Int32)), (15, .int (0 : Int32))] dL_speaks_307 (by decide) rfl rfl ?_
      refine x_widen (k' := 2) (n' := 20) (by exact Nat.le_of_ble_eq_true rfl) (by exact Nat.le_of_ble_eq_true rfl) ?_
      refine x_lv [0, 1, 2, 3, 4, 5, 6, 9, 10, 11, 12, 13] (lv' := [(0, .ref (a 0 0)), (1, .int x1), (2, .int x2), (3, .int x3), (6, .int x6), (7, .int x7), (8, .int x8), (11, .ref b9), (12, .ref c9), (13, .int x13), (14, .int (0 : Int32)), (15, .int (0 : Int32))]) rfl ?_
      exact h309 b9 c9  _ _ _ _ _ _ _ _ _ _ _ h
    · replace h := ite_t hc60 h
      refine x_iload B (pc' := 263) 8 dL_speaks_261 rfl rfl ?_
      refine x_iload_n B (pc' := 264) 3 dL_speaks_263 rfl rfl rfl ?_
      refine x_if_ge B 271 267 dL_speaks_264 (by decide) rfl (fun hc61 => ?_) (fun hc61 => ?_)
      · replace h := ite_t hc61 h
        refine x_iconst B (pc' := 272) 1 dL_speaks_271 (by decide) rfl ?_
        refine x_widen (k' := 2) (n' := 20) (by exact Nat.le_of_ble_eq_true rfl) (by exact Nat.le_of_ble_eq_true rfl) ?_
        refine x_lv [0, 1, 2, 3, 4, 5, 6, 7, 9, 10, 11] (lv' := [(0, .ref (a 0 0)), (1, .int x1), (2, .int x2), (3, .int x3), (6, .int x6), (7, .int x7), (8, .int x8), (9, .int x9), (11, .ref b9), (12, .ref c9), (13, .int x13)]) rfl ?_
        exact h272 b9 c9  _ _ _ _ _ _ _ _ _ _ _ h
      · replace h := ite_f hc61 h
        refine x_iconst B (pc' := 268) 0 dL_speaks_267 (by decide) rfl ?_
        refine x_goto B (pc' := 272) dL_speaks_268 (by decide) ?_
        refine x_widen (k' := 2) (n' := 20) (by exact Nat.le_of_ble_eq_true rfl) (by exact Nat.le_of_ble_eq_true rfl) ?_
        refine x_lv [0, 1, 2, 3, 4, 5, 6, 7, 9, 10, 11] (lv' := [(0, .ref (a 0 0)), (1, .int x1), (2, .int x2), (3, .int x3), (6, .int x6), (7, .int x7), (8, .int x8), (9, .int x9), (11, .ref b9), (12, .ref c9), (13, .int x13)]) rfl ?_
        exact h272 b9 c9  _ _ _ _ _ _ _ _ _ _ _ h
  have h199 : ∀ (b9 c9 : Nat) (x1 : Int32) (x2 : Int32) (x3 : Int32) (x4 : Int32) (x5 : Int32) (x6 : Int32) (x7 : Int32) (x8 : Int32) (x9 : Int32) (x10 : Int32) (t0 : Int32) (S : LO), c_L_speaks_199  x1 x2 x3 x4 x5 x6 x7 x8 x9 x10 t0 S = some (r9, S9) → X Γ 17 2 20 199 [(0, .ref (a 0 0)), (1, .int x1), (2, .int x2), (3, .int x3), (4, .int x4), (5, .int x5), (6, .int x6), (7, .int x7), (8, .int x8), (9, .int x9), (10, .int x10), (11, .ref b9), (12, .ref c9)] [.int t0] (wV Γ.cs a b9 c9 S) := by
    intro b9 c9  x1 x2 x3 x4 x5 x6 x7 x8 x9 x10 t0 S h
    unfold c_L_speaks_199 at h
    refine x_istore B (pc' := 201) [1, 2, 3, 4, 5, 6, 7, 8, 9, 10, 11, 12, 13, 0] [(0, .ref (a 0 0)), (1, .int x1), (2, .int x2), (3, .int x3), (4, .int x4), (5, .int x5), (6, .int x6), (7, .int x7), (8, .int x8), (9, .int x9), (10, .int x10), (11, .ref b9), (12, .ref c9), (13, .int t0)] dL_speaks_199 (by decide) rfl rfl ?_
    refine x_aload_n B (pc' := 202) 0 dL_speaks_201 rfl rfl rfl ?_
    refine x_iload_n B (pc' := 203) 1 dL_speaks_202 rfl rfl rfl ?_
    obtain ⟨r33, T34, er33, h⟩ := bn2_elim h
    obtain ⟨S35, eS35, h⟩ := nm_elim h
    refine v_belVi B (pc' := 206) [.int x1] (k_X2_speak _ _ _ a x1 S.1 er33) gv_RL_76 rfl np_X2_speak ⟨Nat.le_of_ble_eq_true rfl, Nat.le_of_ble_eq_true rfl⟩ ⟨by exact Nat.le_of_ble_eq_true rfl, by exact Nat.le_of_ble_eq_true rfl⟩ rfl (Nat.le_of_ble_eq_true rfl) dL_speaks_203 rfl ?_
    refine v_wd eS35 ?_
    refine x_iload_n B (pc' := 207) 2 dL_speaks_206 rfl rfl rfl ?_
    refine x_icmp_ne B 303 210 dL_speaks_207 (by decide) rfl (fun hc36 => ?_) (fun hc36 => ?_)
    · replace h := ite_f hc36 h
      refine x_iconst B (pc' := 304) 0 dL_speaks_303 (by decide) rfl ?_
      refine x_istore B (pc' := 306) [1, 2, 3, 4, 5, 6, 7, 8, 9, 10, 11, 12, 13, 14, 0] [(0, .ref (a 0 0)), (1, .int x1), (2, .int x2), (3, .int x3), (4, .int x4), (5, .int x5), (6, .int x6), (7, .int x7), (8, .int x8), (9, .int x9), (10, .int x10), (11, .ref b9), (12, .ref c9), (13, .int t0), (14, .int (0 : Int32))] dL_speaks_304 (by decide) rfl rfl ?_
      refine x_iconst B (pc' := 307) 0 dL_speaks_306 (by decide) rfl ?_
      refine x_istore B (pc' := 309) [1, 2, 3, 4, 5, 6, 7, 8, 9, 10, 11, 12, 13, 14, 15, 0] [(0, .ref (a 0 0)), (1, .int x1), (2, .int x2), (3, .int x3), (4, .int x4), (5, .int x5), (6, .int x6), (7, .int x7), (8, .int x8), (9, .int x9), (10, .int x10), (11, .ref b9), (12, .ref c9), (13, .int t0), (14, .int (0 : Int32)), (15, .int (0 : Int32))] dL_speaks_307 (by decide) rfl rfl ?_
      refine x_widen (k' := 2) (n' := 20) (by exact Nat.le_of_ble_eq_true rfl) (by exact Nat.le_of_ble_eq_true rfl) ?_
      refine x_lv [0, 1, 2, 3, 6, 7, 8, 11, 12, 13, 14, 15] (lv' := [(0, .ref (a 0 0)), (1, .int x1), (2, .int x2), (3, .int x3), (6, .int x6), (7, .int x7), (8, .int x8), (11, .ref b9), (12, .ref c9), (13, .int t0), (14, .int (0 : Int32)), (15, .int (0 : Int32))]) rfl ?_
      exact h309 b9 c9  _ _ _ _ _ _ _ _ _ _ _ h
    · replace h := ite_t hc36 h
      refine x_aload_n B (pc' := 211) 0 dL_speaks_210 rfl rfl rfl ?_
      obtain ⟨r37, er37, h⟩ := bd_elim h
      refine v_belVi B (pc' := 214) [] (k_X2_head _ _ _ a S35.1 er37) gv_RL_48 rfl np_X2_head ⟨Nat.le_of_ble_eq_true rfl, Nat.le_of_ble_eq_true rfl⟩ ⟨by exact Nat.le_of_ble_eq_true rfl, by exact Nat.le_of_ble_eq_true rfl⟩ rfl (Nat.le_of_ble_eq_true rfl) dL_speaks_211 rfl ?_
      refine x_iload_n B (pc' := 215) 2 dL_speaks_214 rfl rfl rfl ?_
      refine x_iconst B (pc' := 216) 1 dL_speaks_215 (by decide) rfl ?_
      refine x_iadd B (pc' := 217) dL_speaks_216 rfl ?_
      refine x_bipush B (pc' := 219) 32 dL_speaks_217 (by decide) rfl ?_
      refine x_irem B (pc' := 220) dL_speaks_219 (by decide) rfl ?_
      refine x_icmp_ne B 303 223 dL_speaks_220 (by decide) rfl (fun hc38 => ?_) (fun hc38 => ?_)
      · replace h := ite_f hc38 h
        refine x_iconst B (pc' := 304) 0 dL_speaks_303 (by decide) rfl ?_
        refine x_istore B (pc' := 306) [1, 2, 3, 4, 5, 6, 7, 8, 9, 10, 11, 12, 13, 14, 0] [(0, .ref (a 0 0)), (1, .int x1), (2, .int x2), (3, .int x3), (4, .int x4), (5, .int x5), (6, .int x6), (7, .int x7), (8, .int x8), (9, .int x9), (10, .int x10), (11, .ref b9), (12, .ref c9), (13, .int t0), (14, .int (0 : Int32))] dL_speaks_304 (by decide) rfl rfl ?_
        refine x_iconst B (pc' := 307) 0 dL_speaks_306 (by decide) rfl ?_
        refine x_istore B (pc' := 309) [1, 2, 3, 4, 5, 6, 7, 8, 9, 10, 11, 12, 13, 14, 15, 0] [(0, .ref (a 0 0)), (1, .int x1), (2, .int x2), (3, .int x3), (4, .int x4), (5, .int x5), (6, .int x6), (7, .int x7), (8, .int x8), (9, .int x9), (10, .int x10), (11, .ref b9), (12, .ref c9), (13, .int t0), (14, .int (0 : Int32)), (15, .int (0 : Int32))] dL_speaks_307 (by decide) rfl rfl ?_
        refine x_widen (k' := 2) (n' := 20) (by exact Nat.le_of_ble_eq_true rfl) (by exact Nat.le_of_ble_eq_true rfl) ?_
        refine x_lv [0, 1, 2, 3, 6, 7, 8, 11, 12, 13, 14, 15] (lv' := [(0, .ref (a 0 0)), (1, .int x1), (2, .int x2), (3, .int x3), (6, .int x6), (7, .int x7), (8, .int x8), (11, .ref b9), (12, .ref c9), (13, .int t0), (14, .int (0 : Int32)), (15, .int (0 : Int32))]) rfl ?_
        exact h309 b9 c9  _ _ _ _ _ _ _ _ _ _ _ h
      · replace h := ite_t hc38 h
        refine x_aload_n B (pc' := 224) 0 dL_speaks_223 rfl rfl rfl ?_
        obtain ⟨r39, er39, h⟩ := bd_elim h
        refine v_belVi B (pc' := 227) [] (k_X2_spoken _ _ _ a S35.1 er39) gv_RL_60 rfl np_X2_spoken ⟨Nat.le_of_ble_eq_true rfl, Nat.le_of_ble_eq_true rfl⟩ ⟨by exact Nat.le_of_ble_eq_true rfl, by exact Nat.le_of_ble_eq_true rfl⟩ rfl (Nat.le_of_ble_eq_true rfl) dL_speaks_224 rfl ?_
        refine x_iload B (pc' := 229) 5 dL_speaks_227 rfl rfl ?_
        refine x_iconst B (pc' := 230) 1 dL_speaks_229 (by decide) rfl ?_
        refine x_iadd B (pc' := 231) dL_speaks_230 rfl ?_
        refine x_icmp_ne B 303 234 dL_speaks_231 (by decide) rfl (fun hc40 => ?_) (fun hc40 => ?_)
        · replace h := ite_f hc40 h
          refine x_iconst B (pc' := 304) 0 dL_speaks_303 (by decide) rfl ?_
          refine x_istore B (pc' := 306) [1, 2, 3, 4, 5, 6, 7, 8, 9, 10, 11, 12, 13, 14, 0] [(0, .ref (a 0 0)), (1, .int x1), (2, .int x2), (3, .int x3), (4, .int x4), (5, .int x5), (6, .int x6), (7, .int x7), (8, .int x8), (9, .int x9), (10, .int x10), (11, .ref b9), (12, .ref c9), (13, .int t0), (14, .int (0 : Int32))] dL_speaks_304 (by decide) rfl rfl ?_
          refine x_iconst B (pc' := 307) 0 dL_speaks_306 (by decide) rfl ?_
          refine x_istore B (pc' := 309) [1, 2, 3, 4, 5, 6, 7, 8, 9, 10, 11, 12, 13, 14, 15, 0] [(0, .ref (a 0 0)), (1, .int x1), (2, .int x2), (3, .int x3), (4, .int x4), (5, .int x5), (6, .int x6), (7, .int x7), (8, .int x8), (9, .int x9), (10, .int x10), (11, .ref b9), (12, .ref c9), (13, .int t0), (14, .int (0 : Int32)), (15, .int (0 : Int32))] dL_speaks_307 (by decide) rfl rfl ?_
          refine x_widen (k' := 2) (n' := 20) (by exact Nat.le_of_ble_eq_true rfl) (by exact Nat.le_of_ble_eq_true rfl) ?_
          refine x_lv [0, 1, 2, 3, 6, 7, 8, 11, 12, 13, 14, 15] (lv' := [(0, .ref (a 0 0)), (1, .int x1), (2, .int x2), (3, .int x3), (6, .int x6), (7, .int x7), (8, .int x8), (11, .ref b9), (12, .ref c9), (13, .int t0), (14, .int (0 : Int32)), (15, .int (0 : Int32))]) rfl ?_
          exact h309 b9 c9  _ _ _ _ _ _ _ _ _ _ _ h
        · replace h := ite_t hc40 h
          refine x_aload_n B (pc' := 235) 0 dL_speaks_234 rfl rfl rfl ?_
          obtain ⟨r41, er41, h⟩ := bd_elim h
          refine v_belVi B (pc' := 238) [] (k_X2_gone _ _ _ a S35.1 er41) gv_RL_57 rfl np_X2_gone ⟨Nat.le_of_ble_eq_true rfl, Nat.le_of_ble_eq_true rfl⟩ ⟨by exact Nat.le_of_ble_eq_true rfl, by exact Nat.le_of_ble_eq_true rfl⟩ rfl (Nat.le_of_ble_eq_true rfl) dL_speaks_235 rfl ?_
          refine x_iload B (pc' := 240) 4 dL_speaks_238 rfl rfl ?_
          refine x_iload B (pc' := 242) 9 dL_speaks_240 rfl rfl ?_
          refine x_iadd B (pc' := 243) dL_speaks_242 rfl ?_
          refine x_icmp_ne B 303 246 dL_speaks_243 (by decide) rfl (fun hc42 => ?_) (fun hc42 => ?_)
          · replace h := ite_f hc42 h
            refine x_iconst B (pc' := 304) 0 dL_speaks_303 (by decide) rfl ?_
            refine x_istore B (pc' := 306) [1, 2, 3, 4, 5, 6, 7, 8, 9, 10, 11, 12, 13, 14, 0] [(0, .ref (a 0 0)), (1, .int x1), (2, .int x2), (3, .int x3), (4, .int x4), (5, .int x5), (6, .int x6), (7, .int x7), (8, .int x8), (9, .int x9), (10, .int x10), (11, .ref b9), (12, .ref c9), (13, .int t0), (14, .int (0 : Int32))] dL_speaks_304 (by decide) rfl rfl ?_
            refine x_iconst B (pc' := 307) 0 dL_speaks_306 (by decide) rfl ?_
            refine x_istore B (pc' := 309) [1, 2, 3, 4, 5, 6, 7, 8, 9, 10, 11, 12, 13, 14, 15, 0] [(0, .ref (a 0 0)), (1, .int x1), (2, .int x2), (3, .int x3), (4, .int x4), (5, .int x5), (6, .int x6), (7, .int x7), (8, .int x8), (9, .int x9), (10, .int x10), (11, .ref b9), (12, .ref c9), (13, .int t0), (14, .int (0 : Int32)), (15, .int (0 : Int32))] dL_speaks_307 (by decide) rfl rfl ?_
            refine x_widen (k' := 2) (n' := 20) (by exact Nat.le_of_ble_eq_true rfl) (by exact Nat.le_of_ble_eq_true rfl) ?_
            refine x_lv [0, 1, 2, 3, 6, 7, 8, 11, 12, 13, 14, 15] (lv' := [(0, .ref (a 0 0)), (1, .int x1), (2, .int x2), (3, .int x3), (6, .int x6), (7, .int x7), (8, .int x8), (11, .ref b9), (12, .ref c9), (13, .int t0), (14, .int (0 : Int32)), (15, .int (0 : Int32))]) rfl ?_
            exact h309 b9 c9  _ _ _ _ _ _ _ _ _ _ _ h
          · replace h := ite_t hc42 h
            refine x_iload B (pc' := 248) 9 dL_speaks_246 rfl rfl ?_
            refine x_iload B (pc' := 250) 13 dL_speaks_248 rfl rfl ?_
            refine x_if_eq B 257 253 dL_speaks_250 (by decide) rfl (fun hc43 => ?_) (fun hc43 => ?_)
            · replace h := ite_t hc43 h
              refine x_iconst B (pc' := 258) 0 dL_speaks_257 (by decide) rfl ?_
              refine x_widen (k' := 2) (n' := 20) (by exact Nat.le_of_ble_eq_true rfl) (by exact Nat.le_of_ble_eq_true rfl) ?_
              refine x_lv [0, 1, 2, 3, 6, 7, 8, 9, 10, 11, 12, 13] (lv' := [(0, .ref (a 0 0)), (1, .int x1), (2, .int x2), (3, .int x3), (6, .int x6), (7, .int x7), (8, .int x8), (9, .int x9), (10, .int x10), (11, .ref b9), (12, .ref c9), (13, .int t0)]) rfl ?_
              exact h258 b9 c9  _ _ _ _ _ _ _ _ _ _ _ _ h
            · replace h := ite_f hc43 h
              refine x_iconst B (pc' := 254) 1 dL_speaks_253 (by decide) rfl ?_
              refine x_goto B (pc' := 258) dL_speaks_254 (by decide) ?_
              refine x_widen (k' := 2) (n' := 20) (by exact Nat.le_of_ble_eq_true rfl) (by exact Nat.le_of_ble_eq_true rfl) ?_
              refine x_lv [0, 1, 2, 3, 6, 7, 8, 9, 10, 11, 12, 13] (lv' := [(0, .ref (a 0 0)), (1, .int x1), (2, .int x2), (3, .int x3), (6, .int x6), (7, .int x7), (8, .int x8), (9, .int x9), (10, .int x10), (11, .ref b9), (12, .ref c9), (13, .int t0)]) rfl ?_
              exact h258 b9 c9  _ _ _ _ _ _ _ _ _ _ _ _ h
  have h198 : ∀ (b9 c9 : Nat) (x1 : Int32) (x2 : Int32) (x3 : Int32) (x4 : Int32) (x5 : Int32) (x6 : Int32) (x7 : Int32) (x8 : Int32) (x9 : Int32) (x10 : Int32) (S : LO), c_L_speaks_198  x1 x2 x3 x4 x5 x6 x7 x8 x9 x10 S = some (r9, S9) → X Γ 17 2 20 198 [(0, .ref (a 0 0)), (1, .int x1), (2, .int x2), (3, .int x3), (4, .int x4), (5, .int x5), (6, .int x6), (7, .int x7), (8, .int x8), (9, .int x9), (10, .int x10), (11, .ref b9), (12, .ref c9)] [] (wV Γ.cs a b9 c9 S) := by
    intro b9 c9  x1 x2 x3 x4 x5 x6 x7 x8 x9 x10 S h
    unfold c_L_speaks_198 at h
    refine x_iconst B (pc' := 199) 0 dL_speaks_198 (by decide) rfl ?_
    refine x_widen (k' := 2) (n' := 20) (by exact Nat.le_of_ble_eq_true rfl) (by exact Nat.le_of_ble_eq_true rfl) ?_
    exact h199 b9 c9  _ _ _ _ _ _ _ _ _ _ _ _ h
  have h174 : ∀ (b9 c9 : Nat) (K138 : Int32 → Int32 → Int32 → Int32 → Int32 → Int32 → Int32 → Int32 → Int32 → Int32 → Int32 → LO → Option (Int32 × BO)) (_ : ∀ x1 x2 x3 x4 x5 x6 x7 x8 x9 x10 x13 S, K138 x1 x2 x3 x4 x5 x6 x7 x8 x9 x10 x13 S = some (r9, S9) → X Γ 17 2 20 138 [(0, .ref (a 0 0)), (1, .int x1), (2, .int x2), (3, .int x3), (4, .int x4), (5, .int x5), (6, .int x6), (7, .int x7), (8, .int x8), (9, .int x9), (10, .int x10), (11, .ref b9), (12, .ref c9), (13, .int x13)] [] (wV Γ.cs a b9 c9 S)) (x1 : Int32) (x2 : Int32) (x3 : Int32) (x4 : Int32) (x5 : Int32) (x6 : Int32) (x7 : Int32) (x8 : Int32) (x9 : Int32) (x10 : Int32) (x13 : Int32) (t0 : Int32) (t1 : Int32) (S : LO), c_L_speaks_174 K138 x1 x2 x3 x4 x5 x6 x7 x8 x9 x10 x13 t0 t1 S = some (r9, S9) → X Γ 17 2 20 174 [(0, .ref (a 0 0)), (1, .int x1), (2, .int x2), (3, .int x3), (4, .int x4), (5, .int x5), (6, .int x6), (7, .int x7), (8, .int x8), (9, .int x9), (10, .int x10), (11, .ref b9), (12, .ref c9), (13, .int x13)] [.int t0, .int t1, .ref c9] (wV Γ.cs a b9 c9 S) := by
    intro b9 c9 K138 hK138 x1 x2 x3 x4 x5 x6 x7 x8 x9 x10 x13 t0 t1 S h
    unfold c_L_speaks_174 at h
    obtain ⟨hi44, h⟩ := gd_elim h
    obtain ⟨S45, eS45, h⟩ := nm_elim h
    refine v_ast54 B (pc' := 175) hi44 dL_speaks_174 rfl ?_
    refine v_wd eS45 ?_
    obtain ⟨v46, ev46, h⟩ := nm_elim h
    refine x_iinc B (pc' := 178) v46 13 [1, 2, 3, 4, 5, 6, 7, 8, 9, 10, 11, 12, 13, 0] [(0, .ref (a 0 0)), (1, .int x1), (2, .int x2), (3, .int x3), (4, .int x4), (5, .int x5), (6, .int x6), (7, .int x7), (8, .int x8), (9, .int x9), (10, .int x10), (11, .ref b9), (12, .ref c9), (13, .int v46)] dL_speaks_175 rfl (by rw [ev46]; rfl) (by decide) rfl rfl ?_
    refine x_goto B (pc' := 138) dL_speaks_178 (by decide) ?_
    refine x_widen (k' := 2) (n' := 20) (by exact Nat.le_of_ble_eq_true rfl) (by exact Nat.le_of_ble_eq_true rfl) ?_
    exact hK138 _ _ _ _ _ _ _ _ _ _ _ _ h
  have h138 : ∀ (b9 c9 : Nat) (n9 : Nat) (x1 : Int32) (x2 : Int32) (x3 : Int32) (x4 : Int32) (x5 : Int32) (x6 : Int32) (x7 : Int32) (x8 : Int32) (x9 : Int32) (x10 : Int32) (x13 : Int32) (S : LO), lpf12 (b_L_speaks_138) n9 x1 x2 x3 x4 x5 x6 x7 x8 x9 x10 x13 S = some (r9, S9) → X Γ 17 2 20 138 [(0, .ref (a 0 0)), (1, .int x1), (2, .int x2), (3, .int x3), (4, .int x4), (5, .int x5), (6, .int x6), (7, .int x7), (8, .int x8), (9, .int x9), (10, .int x10), (11, .ref b9), (12, .ref c9), (13, .int x13)] [] (wV Γ.cs a b9 c9 S) := by
    intro b9 c9 
    refine lpf12_ind (fun K138 hK138 x1 x2 x3 x4 x5 x6 x7 x8 x9 x10 x13 S h => ?_)
    unfold b_L_speaks_138 at h
    refine x_iload B (pc' := 140) 13 dL_speaks_138 rfl rfl ?_
    refine x_iload B (pc' := 142) 6 dL_speaks_140 rfl rfl ?_
    refine x_icmp_ge B 181 145 dL_speaks_142 (by decide) rfl (fun hc24 => ?_) (fun hc24 => ?_)
    · replace h := ite_t hc24 h
      refine x_iload_n B (pc' := 182) 3 dL_speaks_181 rfl rfl rfl ?_
      refine x_if_lt B 198 185 dL_speaks_182 (by decide) rfl (fun hc25 => ?_) (fun hc25 => ?_)
      · replace h := ite_t hc25 h
        refine x_widen (k' := 2) (n' := 20) (by exact Nat.le_of_ble_eq_true rfl) (by exact Nat.le_of_ble_eq_true rfl) ?_
        refine x_lv [0, 1, 2, 3, 4, 5, 6, 7, 8, 9, 10, 11, 12] (lv' := [(0, .ref (a 0 0)), (1, .int x1), (2, .int x2), (3, .int x3), (4, .int x4), (5, .int x5), (6, .int x6), (7, .int x7), (8, .int x8), (9, .int x9), (10, .int x10), (11, .ref b9), (12, .ref c9)]) rfl ?_
        exact h198 b9 c9  _ _ _ _ _ _ _ _ _ _ _ h
      · replace h := ite_f hc25 h
        refine x_aload_n B (pc' := 186) 0 dL_speaks_185 rfl rfl rfl ?_
        refine x_iload_n B (pc' := 187) 3 dL_speaks_186 rfl rfl rfl ?_
        obtain ⟨r26, er26, h⟩ := bn_elim h
        refine v_belVi B (pc' := 190) [.int x3] (k_X2_length _ _ _ a x3 S.1 er26) gv_RL_11 rfl np_X2_length ⟨Nat.le_of_ble_eq_true rfl, Nat.le_of_ble_eq_true rfl⟩ ⟨by exact Nat.le_of_ble_eq_true rfl, by exact Nat.le_of_ble_eq_true rfl⟩ rfl (Nat.le_of_ble_eq_true rfl) dL_speaks_187 rfl ?_
        refine x_iconst B (pc' := 191) 1 dL_speaks_190 (by decide) rfl ?_
        refine x_icmp_ne B 198 194 dL_speaks_191 (by decide) rfl (fun hc27 => ?_) (fun hc27 => ?_)
        · replace h := ite_f hc27 h
          refine x_widen (k' := 2) (n' := 20) (by exact Nat.le_of_ble_eq_true rfl) (by exact Nat.le_of_ble_eq_true rfl) ?_
          refine x_lv [0, 1, 2, 3, 4, 5, 6, 7, 8, 9, 10, 11, 12] (lv' := [(0, .ref (a 0 0)), (1, .int x1), (2, .int x2), (3, .int x3), (4, .int x4), (5, .int x5), (6, .int x6), (7, .int x7), (8, .int x8), (9, .int x9), (10, .int x10), (11, .ref b9), (12, .ref c9)]) rfl ?_
          exact h198 b9 c9  _ _ _ _ _ _ _ _ _ _ _ h
        · replace h := ite_t hc27 h
          refine x_iconst B (pc' := 195) 1 dL_speaks_194 (by decide) rfl ?_
          refine x_goto B (pc' := 199) dL_speaks_195 (by decide) ?_
          refine x_widen (k' := 2) (n' := 20) (by exact Nat.le_of_ble_eq_true rfl) (by exact Nat.le_of_ble_eq_true rfl) ?_
          refine x_lv [0, 1, 2, 3, 4, 5, 6, 7, 8, 9, 10, 11, 12] (lv' := [(0, .ref (a 0 0)), (1, .int x1), (2, .int x2), (3, .int x3), (4, .int x4), (5, .int x5), (6, .int x6), (7, .int x7), (8, .int x8), (9, .int x9), (10, .int x10), (11, .ref b9), (12, .ref c9)]) rfl ?_
          exact h199 b9 c9  _ _ _ _ _ _ _ _ _ _ _ _ h
    · replace h := ite_f hc24 h
      refine x_aload B (pc' := 147) 11 dL_speaks_145 rfl rfl ?_
      refine x_iload B (pc' := 149) 13 dL_speaks_147 rfl rfl ?_
      refine x_aload_n B (pc' := 150) 0 dL_speaks_149 rfl rfl rfl ?_
      refine x_iload B (pc' := 152) 13 dL_speaks_150 rfl rfl ?_
      obtain ⟨r28, er28, h⟩ := bd_elim h
      refine v_belSl B (pc' := 155) [.ref (a 0 0), .int x13] (k_L_talk _ _ _ a x13 S.1 er28) gv_RL_72 np_L_talk ⟨Nat.le_of_ble_eq_true rfl, Nat.le_of_ble_eq_true rfl⟩ ⟨by exact Nat.le_of_ble_eq_true rfl, by exact Nat.le_of_ble_eq_true rfl⟩ rfl (Nat.le_of_ble_eq_true rfl) dL_speaks_152 rfl ?_
      obtain ⟨hi29, h⟩ := gd_elim h
      obtain ⟨S30, eS30, h⟩ := nm_elim h
      refine v_last53 B (pc' := 156) hi29 dL_speaks_155 rfl ?_
      refine v_wd eS30 ?_
      refine x_aload B (pc' := 158) 12 dL_speaks_156 rfl rfl ?_
      refine x_iload B (pc' := 160) 13 dL_speaks_158 rfl rfl ?_
      refine x_aload_n B (pc' := 161) 0 dL_speaks_160 rfl rfl rfl ?_
      refine x_iload B (pc' := 163) 13 dL_speaks_161 rfl rfl ?_
      obtain ⟨r31, er31, h⟩ := bn_elim h
      refine v_belVi B (pc' := 166) [.int x13] (k_X2_hasFlag _ _ _ a x13 S30.1 er31) gv_RL_37 rfl np_X2_hasFlag ⟨Nat.le_of_ble_eq_true rfl, Nat.le_of_ble_eq_true rfl⟩ ⟨by exact Nat.le_of_ble_eq_true rfl, by exact Nat.le_of_ble_eq_true rfl⟩ rfl (Nat.le_of_ble_eq_true rfl) dL_speaks_163 rfl ?_
      refine x_if_eq B 173 169 dL_speaks_166 (by decide) rfl (fun hc32 => ?_) (fun hc32 => ?_)
      · replace h := ite_t hc32 h
        refine x_iconst B (pc' := 174) 0 dL_speaks_173 (by decide) rfl ?_
        refine x_widen (k' := 2) (n' := 20) (by exact Nat.le_of_ble_eq_true rfl) (by exact Nat.le_of_ble_eq_true rfl) ?_
        exact h174 b9 c9 K138 hK138 _ _ _ _ _ _ _ _ _ _ _ _ _ _ h
      · replace h := ite_f hc32 h
        refine x_iconst B (pc' := 170) 1 dL_speaks_169 (by decide) rfl ?_
        refine x_goto B (pc' := 174) dL_speaks_170 (by decide) ?_
        refine x_widen (k' := 2) (n' := 20) (by exact Nat.le_of_ble_eq_true rfl) (by exact Nat.le_of_ble_eq_true rfl) ?_
        exact h174 b9 c9 K138 hK138 _ _ _ _ _ _ _ _ _ _ _ _ _ _ h
  have h121 : ∀ (x1 : Int32) (x2 : Int32) (x3 : Int32) (x4 : Int32) (x5 : Int32) (x6 : Int32) (x7 : Int32) (x8 : Int32) (x9 : Int32) (t0 : Int32) (S : BO), c_L_speaks_121  x1 x2 x3 x4 x5 x6 x7 x8 x9 t0 S = some (r9, S9) → X Γ 17 0 0 121 [(0, .ref (a 0 0)), (1, .int x1), (2, .int x2), (3, .int x3), (4, .int x4), (5, .int x5), (6, .int x6), (7, .int x7), (8, .int x8), (9, .int x9)] [.int t0] (wB Γ.cs a S) := by
    intro  x1 x2 x3 x4 x5 x6 x7 x8 x9 t0 S h
    unfold c_L_speaks_121 at h
    refine x_istore B (pc' := 123) [1, 2, 3, 4, 5, 6, 7, 8, 9, 10, 0] [(0, .ref (a 0 0)), (1, .int x1), (2, .int x2), (3, .int x3), (4, .int x4), (5, .int x5), (6, .int x6), (7, .int x7), (8, .int x8), (9, .int x9), (10, .int t0)] dL_speaks_121 (by decide) rfl rfl ?_
    refine x_bipush B (pc' := 125) 10 dL_speaks_123 (by decide) rfl ?_
    refine x_newal B (pc' := 127) 10 (by decide) (by decide) (Nat.le_of_ble_eq_true rfl) wal ⟨by exact Nat.le_of_ble_eq_true rfl, by exact Nat.le_of_ble_eq_true rfl⟩ dL_speaks_125 rfl (fun b9 => ?_)
    refine x_astore B (pc' := 129) [1, 2, 3, 4, 5, 6, 7, 8, 9, 10, 11, 0] [(0, .ref (a 0 0)), (1, .int x1), (2, .int x2), (3, .int x3), (4, .int x4), (5, .int x5), (6, .int x6), (7, .int x7), (8, .int x8), (9, .int x9), (10, .int t0), (11, .ref b9)] dL_speaks_127 (by decide) rfl rfl ?_
    refine x_bipush B (pc' := 131) 10 dL_speaks_129 (by decide) rfl ?_
    refine x_newa B (pc' := 133) 10 (by decide) (by decide) (Nat.le_of_ble_eq_true rfl) wac ⟨by exact Nat.le_of_ble_eq_true rfl, by exact Nat.le_of_ble_eq_true rfl⟩ dL_speaks_131 rfl (fun c9 => ?_)
    refine x_astore B (pc' := 135) [1, 2, 3, 4, 5, 6, 7, 8, 9, 10, 11, 12, 0] [(0, .ref (a 0 0)), (1, .int x1), (2, .int x2), (3, .int x3), (4, .int x4), (5, .int x5), (6, .int x6), (7, .int x7), (8, .int x8), (9, .int x9), (10, .int t0), (11, .ref b9), (12, .ref c9)] dL_speaks_133 (by decide) rfl rfl ?_
    refine x_perm (ws' := wV Γ.cs a b9 c9 (S, (fun _ => 0), (fun _ => 0))) [0, 1, 2, 3, 4, 5, 6, 7, 8, 9, 10, 11, 12, 13, 14, 15, 16, 17, 18, 19, 20, 21, 22, 23, 24, 25, 26, 27, 28, 29, 30, 31, 32, 33, 34, 35, 36, 37, 38, 39, 40, 41, 42, 43, 44, 45, 46, 47, 48, 49, 50, 51, 52, 53, 54] rfl (by decide) ?_
    obtain ⟨S23, eS23, h⟩ := nm_elim h
    refine v_wd eS23 ?_
    refine x_iconst B (pc' := 136) 0 dL_speaks_135 (by decide) rfl ?_
    refine x_istore B (pc' := 138) [1, 2, 3, 4, 5, 6, 7, 8, 9, 10, 11, 12, 13, 0] [(0, .ref (a 0 0)), (1, .int x1), (2, .int x2), (3, .int x3), (4, .int x4), (5, .int x5), (6, .int x6), (7, .int x7), (8, .int x8), (9, .int x9), (10, .int t0), (11, .ref b9), (12, .ref c9), (13, .int (0 : Int32))] dL_speaks_136 (by decide) rfl rfl ?_
    refine x_widen (k' := 2) (n' := 20) (by exact Nat.le_of_ble_eq_true rfl) (by exact Nat.le_of_ble_eq_true rfl) ?_
    exact h138 b9 c9  _ _ _ _ _ _ _ _ _ _ _ _ _ h
  have h44 : ∀ (n9 : Nat) (x1 : Int32) (x2 : Int32) (S : BO), lpf3 (b_L_speaks_44) n9 x1 x2 S = some (r9, S9) → X Γ 17 0 0 44 [(0, .ref (a 0 0)), (1, .int x1), (2, .int x2)] [] (wB Γ.cs a S) := by
    refine lpf3_ind (fun K44 hK44 x1 x2 S h => ?_)
    unfold b_L_speaks_44 at h
    refine x_aload_n B (pc' := 45) 0 dL_speaks_44 rfl rfl rfl ?_
    refine x_iload_n B (pc' := 46) 2 dL_speaks_45 rfl rfl rfl ?_
    obtain ⟨r11, er11, h⟩ := bd_elim h
    refine n_belSi B (pc' := 49) [.ref (a 0 0), .int x2] (k_L_isWritable _ _ _ a x2 S er11) gv_RL_51 np_L_isWritable ⟨Nat.le_of_ble_eq_true rfl, Nat.le_of_ble_eq_true rfl⟩ ⟨by exact Nat.le_of_ble_eq_true rfl, by exact Nat.le_of_ble_eq_true rfl⟩ rfl (Nat.le_of_ble_eq_true rfl) dL_speaks_46 rfl ?_
    refine x_if_ne B 62 52 dL_speaks_49 (by decide) rfl (fun hc12 => ?_) (fun hc12 => ?_)
    · replace h := ite_f hc12 h
      refine x_aload_n B (pc' := 63) 0 dL_speaks_62 rfl rfl rfl ?_
      refine x_iload_n B (pc' := 64) 2 dL_speaks_63 rfl rfl rfl ?_
      obtain ⟨r13, er13, h⟩ := bn_elim h
      refine n_belVi B (pc' := 67) [.int x2] (k_X2_owner _ _ _ a x2 S er13) gv_RL_30 rfl np_X2_owner ⟨Nat.le_of_ble_eq_true rfl, Nat.le_of_ble_eq_true rfl⟩ ⟨by exact Nat.le_of_ble_eq_true rfl, by exact Nat.le_of_ble_eq_true rfl⟩ rfl (Nat.le_of_ble_eq_true rfl) dL_speaks_64 rfl ?_
      refine x_istore_n B (pc' := 68) [1, 2, 3, 0] [(0, .ref (a 0 0)), (1, .int x1), (2, .int x2), (3, .int r13)] dL_speaks_67 rfl (by decide) rfl rfl ?_
      refine x_aload_n B (pc' := 69) 0 dL_speaks_68 rfl rfl rfl ?_
      obtain ⟨r14, er14, h⟩ := bd_elim h
      refine n_belVi B (pc' := 72) [] (k_X2_gone _ _ _ a S er14) gv_RL_57 rfl np_X2_gone ⟨Nat.le_of_ble_eq_true rfl, Nat.le_of_ble_eq_true rfl⟩ ⟨by exact Nat.le_of_ble_eq_true rfl, by exact Nat.le_of_ble_eq_true rfl⟩ rfl (Nat.le_of_ble_eq_true rfl) dL_speaks_69 rfl ?_
      refine x_istore B (pc' := 74) [1, 2, 3, 4, 0] [(0, .ref (a 0 0)), (1, .int x1), (2, .int x2), (3, .int r13), (4, .int r14)] dL_speaks_72 (by decide) rfl rfl ?_
      refine x_aload_n B (pc' := 75) 0 dL_speaks_74 rfl rfl rfl ?_
      obtain ⟨r15, er15, h⟩ := bd_elim h
      refine n_belVi B (pc' := 78) [] (k_X2_spoken _ _ _ a S er15) gv_RL_60 rfl np_X2_spoken ⟨Nat.le_of_ble_eq_true rfl, Nat.le_of_ble_eq_true rfl⟩ ⟨by exact Nat.le_of_ble_eq_true rfl, by exact Nat.le_of_ble_eq_true rfl⟩ rfl (Nat.le_of_ble_eq_true rfl) dL_speaks_75 rfl ?_
      refine x_istore B (pc' := 80) [1, 2, 3, 4, 5, 0] [(0, .ref (a 0 0)), (1, .int x1), (2, .int x2), (3, .int r13), (4, .int r14), (5, .int r15)] dL_speaks_78 (by decide) rfl rfl ?_
      refine x_aload_n B (pc' := 81) 0 dL_speaks_80 rfl rfl rfl ?_
      obtain ⟨r16, er16, h⟩ := bd_elim h
      refine n_belVi B (pc' := 84) [] (k_X2_recordings _ _ _ a S er16) gv_RL_63 rfl np_X2_recordings ⟨Nat.le_of_ble_eq_true rfl, Nat.le_of_ble_eq_true rfl⟩ ⟨by exact Nat.le_of_ble_eq_true rfl, by exact Nat.le_of_ble_eq_true rfl⟩ rfl (Nat.le_of_ble_eq_true rfl) dL_speaks_81 rfl ?_
      refine x_istore B (pc' := 86) [1, 2, 3, 4, 5, 6, 0] [(0, .ref (a 0 0)), (1, .int x1), (2, .int x2), (3, .int r13), (4, .int r14), (5, .int r15), (6, .int r16)] dL_speaks_84 (by decide) rfl rfl ?_
      refine x_aload_n B (pc' := 87) 0 dL_speaks_86 rfl rfl rfl ?_
      obtain ⟨r17, er17, h⟩ := bd_elim h
      refine n_belVi B (pc' := 90) [] (k_X2_running _ _ _ a S er17) gv_RL_33 rfl np_X2_running ⟨Nat.le_of_ble_eq_true rfl, Nat.le_of_ble_eq_true rfl⟩ ⟨by exact Nat.le_of_ble_eq_true rfl, by exact Nat.le_of_ble_eq_true rfl⟩ rfl (Nat.le_of_ble_eq_true rfl) dL_speaks_87 rfl ?_
      refine x_istore B (pc' := 92) [1, 2, 3, 4, 5, 6, 7, 0] [(0, .ref (a 0 0)), (1, .int x1), (2, .int x2), (3, .int r13), (4, .int r14), (5, .int r15), (6, .int r16), (7, .int r17)] dL_speaks_90 (by decide) rfl rfl ?_
      refine x_aload_n B (pc' := 93) 0 dL_speaks_92 rfl rfl rfl ?_
      refine x_iload B (pc' := 95) 7 dL_speaks_93 rfl rfl ?_
      obtain ⟨r18, er18, h⟩ := bn_elim h
      refine n_belVi B (pc' := 98) [.int r17] (k_X2_length _ _ _ a r17 S er18) gv_RL_11 rfl np_X2_length ⟨Nat.le_of_ble_eq_true rfl, Nat.le_of_ble_eq_true rfl⟩ ⟨by exact Nat.le_of_ble_eq_true rfl, by exact Nat.le_of_ble_eq_true rfl⟩ rfl (Nat.le_of_ble_eq_true rfl) dL_speaks_95 rfl ?_
      refine x_istore B (pc' := 100) [1, 2, 3, 4, 5, 6, 7, 8, 0] [(0, .ref (a 0 0)), (1, .int x1), (2, .int x2), (3, .int r13), (4, .int r14), (5, .int r15), (6, .int r16), (7, .int r17), (8, .int r18)] dL_speaks_98 (by decide) rfl rfl ?_
      refine x_aload_n B (pc' := 101) 0 dL_speaks_100 rfl rfl rfl ?_
      refine x_iconst B (pc' := 102) 1 dL_speaks_101 (by decide) rfl ?_
      obtain ⟨r19, er19, h⟩ := bn_elim h
      refine n_belVi B (pc' := 105) [.int (1 : Int32)] (k_X2_goneAfter _ _ _ a (1 : Int32) S er19) gv_RL_66 rfl np_X2_goneAfter ⟨Nat.le_of_ble_eq_true rfl, Nat.le_of_ble_eq_true rfl⟩ ⟨by exact Nat.le_of_ble_eq_true rfl, by exact Nat.le_of_ble_eq_true rfl⟩ rfl (Nat.le_of_ble_eq_true rfl) dL_speaks_102 rfl ?_
      refine x_istore B (pc' := 107) [1, 2, 3, 4, 5, 6, 7, 8, 9, 0] [(0, .ref (a 0 0)), (1, .int x1), (2, .int x2), (3, .int r13), (4, .int r14), (5, .int r15), (6, .int r16), (7, .int r17), (8, .int r18), (9, .int r19)] dL_speaks_105 (by decide) rfl rfl ?_
      refine x_iload_n B (pc' := 108) 3 dL_speaks_107 rfl rfl rfl ?_
      refine x_if_ge B 115 111 dL_speaks_108 (by decide) rfl (fun hc20 => ?_) (fun hc20 => ?_)
      · replace h := ite_t hc20 h
        refine x_aload_n B (pc' := 116) 0 dL_speaks_115 rfl rfl rfl ?_
        refine x_iload_n B (pc' := 117) 3 dL_speaks_116 rfl rfl rfl ?_
        refine x_iconst B (pc' := 118) 1 dL_speaks_117 (by decide) rfl ?_
        obtain ⟨r21, er21, h⟩ := bn_elim h
        refine n_belVi B (pc' := 121) [.int r13, .int (1 : Int32)] (k_X2_lossOf _ _ _ a r13 (1 : Int32) S er21) gv_RL_69 rfl np_X2_lossOf ⟨Nat.le_of_ble_eq_true rfl, Nat.le_of_ble_eq_true rfl⟩ ⟨by exact Nat.le_of_ble_eq_true rfl, by exact Nat.le_of_ble_eq_true rfl⟩ rfl (Nat.le_of_ble_eq_true rfl) dL_speaks_118 rfl ?_
        refine x_widen (k' := 0) (n' := 0) (by exact Nat.le_of_ble_eq_true rfl) (by exact Nat.le_of_ble_eq_true rfl) ?_
        exact h121  _ _ _ _ _ _ _ _ _ _ _ h
      · replace h := ite_f hc20 h
        refine x_iconst B (pc' := 112) 0 dL_speaks_111 (by decide) rfl ?_
        refine x_goto B (pc' := 121) dL_speaks_112 (by decide) ?_
        refine x_widen (k' := 0) (n' := 0) (by exact Nat.le_of_ble_eq_true rfl) (by exact Nat.le_of_ble_eq_true rfl) ?_
        exact h121  _ _ _ _ _ _ _ _ _ _ _ h
    · replace h := ite_t hc12 h
      refine x_iload_n B (pc' := 53) 2 dL_speaks_52 rfl rfl rfl ?_
      refine x_iconst B (pc' := 54) 1 dL_speaks_53 (by decide) rfl ?_
      refine x_iadd B (pc' := 55) dL_speaks_54 rfl ?_
      refine x_bipush B (pc' := 57) 32 dL_speaks_55 (by decide) rfl ?_
      refine x_irem B (pc' := 58) dL_speaks_57 (by decide) rfl ?_
      obtain ⟨v22, ev22, h⟩ := nm_elim h
      refine x_topi ev22 ?_
      refine x_istore_n B (pc' := 59) [1, 2, 0] [(0, .ref (a 0 0)), (1, .int x1), (2, .int v22)] dL_speaks_58 rfl (by decide) rfl rfl ?_
      refine x_goto B (pc' := 44) dL_speaks_59 (by decide) ?_
      refine x_widen (k' := 0) (n' := 0) (by exact Nat.le_of_ble_eq_true rfl) (by exact Nat.le_of_ble_eq_true rfl) ?_
      exact hK44 _ _ _ h
  have h15 : ∀ (S : BO), c_L_speaks_15  S = some (r9, S9) → X Γ 17 2 20 15 [(0, .ref (a 0 0))] [] (wB Γ.cs a S) := by
    intro  S h
    unfold c_L_speaks_15 at h
    refine x_aload_n B (pc' := 16) 0 dL_speaks_15 rfl rfl rfl ?_
    refine x_iconst B (pc' := 17) 0 dL_speaks_16 (by decide) rfl ?_
    refine x_aload_n B (pc' := 18) 0 dL_speaks_17 rfl rfl rfl ?_
    refine x_iconst B (pc' := 19) 0 dL_speaks_18 (by decide) rfl ?_
    obtain ⟨r6, er6, h⟩ := bn_elim h
    refine n_belVi B (pc' := 22) [.int (0 : Int32)] (k_X2_hasFlag _ _ _ a (0 : Int32) S er6) gv_RL_37 rfl np_X2_hasFlag ⟨Nat.le_of_ble_eq_true rfl, Nat.le_of_ble_eq_true rfl⟩ ⟨by exact Nat.le_of_ble_eq_true rfl, by exact Nat.le_of_ble_eq_true rfl⟩ rfl (Nat.le_of_ble_eq_true rfl) dL_speaks_19 rfl ?_
    obtain ⟨r7, T8, er7, h⟩ := bn2_elim h
    refine n_belVi B (pc' := 25) [.int (0 : Int32), .int r6] (k_X2_setFlag _ _ _ a (0 : Int32) r6 S er7) gv_RL_44 rfl np_X2_setFlag ⟨Nat.le_of_ble_eq_true rfl, Nat.le_of_ble_eq_true rfl⟩ ⟨by exact Nat.le_of_ble_eq_true rfl, by exact Nat.le_of_ble_eq_true rfl⟩ rfl (Nat.le_of_ble_eq_true rfl) dL_speaks_22 rfl ?_
    refine x_aload_n B (pc' := 26) 0 dL_speaks_25 rfl rfl rfl ?_
    refine x_iconst B (pc' := 27) 0 dL_speaks_26 (by decide) rfl ?_
    obtain ⟨r9, er9, h⟩ := bn_elim h
    refine n_belVi B (pc' := 30) [.int (0 : Int32)] (k_X2_hasFlag _ _ _ a (0 : Int32) T8 er9) gv_RL_37 rfl np_X2_hasFlag ⟨Nat.le_of_ble_eq_true rfl, Nat.le_of_ble_eq_true rfl⟩ ⟨by exact Nat.le_of_ble_eq_true rfl, by exact Nat.le_of_ble_eq_true rfl⟩ rfl (Nat.le_of_ble_eq_true rfl) dL_speaks_27 rfl ?_
    refine x_icmp_ne B 37 33 dL_speaks_30 (by decide) rfl (fun hc10 => ?_) (fun hc10 => ?_)
    · replace h := ite_f hc10 h
      refine x_iconst B (pc' := 38) 0 dL_speaks_37 (by decide) rfl ?_
      obtain ⟨h1, h2⟩ := some2 h
      subst h1
      subst h2
      exact ret rfl (by exact Nat.le_of_ble_eq_true rfl) (by exact Nat.le_of_ble_eq_true rfl) dL_speaks_38
    · replace h := ite_t hc10 h
      refine x_iconst B (pc' := 34) 1 dL_speaks_33 (by decide) rfl ?_
      refine x_goto B (pc' := 38) dL_speaks_34 (by decide) ?_
      obtain ⟨h1, h2⟩ := some2 h
      subst h1
      subst h2
      exact ret rfl (by exact Nat.le_of_ble_eq_true rfl) (by exact Nat.le_of_ble_eq_true rfl) dL_speaks_38
  unfold f_L_speaks at h
  refine x_aload_n B (pc' := 1) 0 dL_speaks_0 rfl rfl rfl ?_
  obtain ⟨r1, er1, h⟩ := bd_elim h
  refine n_belVi B (pc' := 4) [] (k_X2_running _ _ _ a S er1) gv_RL_33 rfl np_X2_running ⟨Nat.le_of_ble_eq_true rfl, Nat.le_of_ble_eq_true rfl⟩ ⟨by exact Nat.le_of_ble_eq_true rfl, by exact Nat.le_of_ble_eq_true rfl⟩ rfl (Nat.le_of_ble_eq_true rfl) dL_speaks_1 rfl ?_
  refine x_iconst B (pc' := 5) (-1) dL_speaks_4 (by decide) rfl ?_
  refine x_icmp_eq B 15 8 dL_speaks_5 (by decide) rfl (fun hc2 => ?_) (fun hc2 => ?_)
  · replace h := ite_t hc2 h
    refine x_widen (k' := 2) (n' := 20) (by exact Nat.le_of_ble_eq_true rfl) (by exact Nat.le_of_ble_eq_true rfl) ?_
    refine x_lv [0] (lv' := [(0, .ref (a 0 0))]) rfl ?_
    exact h15  _ h
  · replace h := ite_f hc2 h
    refine x_aload_n B (pc' := 9) 0 dL_speaks_8 rfl rfl rfl ?_
    obtain ⟨r3, er3, h⟩ := bd_elim h
    refine n_belVi B (pc' := 12) [] (k_X2_room _ _ _ a S er3) gv_RL_41 rfl np_X2_room ⟨Nat.le_of_ble_eq_true rfl, Nat.le_of_ble_eq_true rfl⟩ ⟨by exact Nat.le_of_ble_eq_true rfl, by exact Nat.le_of_ble_eq_true rfl⟩ rfl (Nat.le_of_ble_eq_true rfl) dL_speaks_9 rfl ?_
    refine x_if_ne B 39 15 dL_speaks_12 (by decide) rfl (fun hc4 => ?_) (fun hc4 => ?_)
    · replace h := ite_f hc4 h
      refine x_aload_n B (pc' := 40) 0 dL_speaks_39 rfl rfl rfl ?_
      obtain ⟨r5, er5, h⟩ := bd_elim h
      refine n_belVi B (pc' := 43) [] (k_X2_head _ _ _ a S er5) gv_RL_48 rfl np_X2_head ⟨Nat.le_of_ble_eq_true rfl, Nat.le_of_ble_eq_true rfl⟩ ⟨by exact Nat.le_of_ble_eq_true rfl, by exact Nat.le_of_ble_eq_true rfl⟩ rfl (Nat.le_of_ble_eq_true rfl) dL_speaks_40 rfl ?_
      refine x_istore_n B (pc' := 44) [1, 2, 0] [(0, .ref (a 0 0)), (1, .int p1), (2, .int r5)] dL_speaks_43 rfl (by decide) rfl rfl ?_
      refine x_widen (k' := 0) (n' := 0) (by exact Nat.le_of_ble_eq_true rfl) (by exact Nat.le_of_ble_eq_true rfl) ?_
      exact h44  _ _ _ _ h
    · replace h := ite_t hc4 h
      refine x_widen (k' := 2) (n' := 20) (by exact Nat.le_of_ble_eq_true rfl) (by exact Nat.le_of_ble_eq_true rfl) ?_
      refine x_lv [0] (lv' := [(0, .ref (a 0 0))]) rfl ?_
      exact h15  _ h
