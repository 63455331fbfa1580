def f_X2_mixed (p0 : Int64) (p1 : Int64) : Option Int64 :=
  some (((31 : Int64) * p0) + p1)
abbrev rm_X2_mixed : Room := { frames := 0, cells := 0, slots := 0, locals := 0 }
theorem np_X2_mixed : yX2_mixed.cls ≠ "java/lang/invoke/MethodHandle" ∧ yX2_mixed.cls ≠ "java/lang/invoke/VarHandle" ∧ (parseMethodDescriptor yX2_mixed.desc).map (fun d => d.parameters.length) = some 2 := by decide +kernel
set_option maxHeartbeats 4000000 in
set_option maxRecDepth 100000 in
theorem k_X2_mixed (l : Launch) (D : va_G) (cs : CS)  (p0 : Int64) (p1 : Int64) {r9 : Int64} (h : f_X2_mixed p0 p1 = some r9) : ML l D cs yX2_mixed cX2_mixed 4 rm_X2_mixed [.long p0, .long p1] ([]) r9 ([]) := by
  refine ML_of (by decide) (Nat.le_of_ble_eq_true rfl) ?_
  rintro Γ rfl rfl rfl B ret
  show X Γ 4 0 0 0 [(0, .long p0), (2, .long p1)] [] ([])
  unfold f_X2_mixed at h
  refine x_ldc2 B (pc' := 3) 31 wk_RX2_258 dX2_mixed_0 rfl ?_
  refine x_lload_n B (pc' := 4) 0 dX2_mixed_3 rfl rfl rfl ?_
  refine x_lmul B (pc' := 5) dX2_mixed_4 rfl ?_
  refine x_lload_n B (pc' := 6) 1 dX2_mixed_5 rfl rfl rfl ?_
  refine x_ladd B (pc' := 7) dX2_mixed_6 rfl ?_
  have h1 := (Option.some.inj h)
  subst h1
  exact ret (by exact Nat.le_of_ble_eq_true rfl) (by exact Nat.le_of_ble_eq_true rfl) dX2_mixed_7
