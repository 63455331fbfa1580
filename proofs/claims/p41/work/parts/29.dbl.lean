def MD (l : Launch) (D : va_G) (cs : CS) (y : MethodName) (bytes : ByteArray) (maxL : Nat) (rm : Room) (av : List Value) (w : va_W) (r : UInt64) (w' : va_W) : Prop := ∀ sz, Met l y (.code y bytes maxL (some .double) :: GW) rm (PR D cs av w sz) (va_Qd (fun r' _ => r' = r) (PO D w w' sz) (va_A w sz)) rm.cells rm.slots (va_A w sz)
theorem MD_of {l : Launch} {D : va_G} {cs : CS} {y : MethodName} {bytes : ByteArray} {maxL : Nat} {r : UInt64} {rm : Room} {av : List Value} {w w' : va_W} (hy : plainName y.cls = true) (hlen : (lg_sl av).length ≤ maxL)
    (body : ∀ Γ : Ctx, Γ.l = l → Γ.D = D → Γ.cs = cs → CX Γ bytes maxL y.cls rm → (∀ {k n pc : Nat} {lv : List (Nat × Value)}, k ≤ rm.cells → n ≤ rm.slots → decode bytes pc = .ok (.dreturn, 1) → X Γ maxL k n pc lv [.double r] w') → X Γ maxL 0 0 0 (lv_args 0 av) [] w) : MD l D cs y bytes maxL rm av w r w' := by
  intro sz
  refine Met.ofW (cc := bytes) (maxL := maxL) (ret := some .double) hy rfl ?_
  intro p e s m args below meth c s₁ B hml hv
  obtain ⟨rfl, hsz, hP, hK, hD0⟩ := hv
  subst hsz
  have hts := atoms_spec (ws := .code y bytes maxL (some .double) :: GW) B.pre
  have hown : s.vm.findClass y.cls = some m.cls := findClass_of_methodNamed B.named
  have hl := lv_entry av (n := maxL) hlen
  rw [lg_entry_eq]
  have hD := hD0.self (sz := s.heap.size)
  refine body (p, l, e, rm, s, m, av.toArray, below, meth, c, _, va_A w s.heap.size, D, cs) rfl rfl rfl ⟨⟨B.exec, B.bytes, hml, hown, fun w h => hts w (List.mem_cons_of_mem _ h)⟩, hK, fun q h => Or.inr h, B.notSynchronized, rfl⟩ ?_ s.heap [] _ hP hD va_S.rf hl
  intro k n pc lv hk hn d H locs ls hP1 hD1 hS hl1
  have hlocks : meth.locks = false := B.notSynchronized
  exact W.widen hk hn (W.dret B.exec B.bytes B.returns (fun t ht hW => ⟨⟨r, (), rfl, rfl, by rw [ht]; exact hP1, hD1⟩, hS.F ht⟩) hS.2.2 d)
/-- a double that is a number -/
def nn (x : UInt64) : Option UInt64 := if x &&& 0x7fffffffffffffff ≤ 0x7ff0000000000000 then some x else none
theorem nn_elim {x r : UInt64} (h : nn x = some r) : vf_n64 x ∧ r = x := by
  unfold nn at h
  split at h
  · cases h; exact ⟨by assumption, rfl⟩
  · cases h
def f_X2_usedShare (S : BO) : Option UInt64 := nn (FP.ddiv (FP.i2d (S.2.1.1 4)) 4629700416936869888)
abbrev rm_X2_usedShare : Room := { frames := 0, cells := 0, slots := 0, locals := 0 }
theorem np_X2_usedShare : yX2_usedShare.cls ≠ "java/lang/invoke/MethodHandle" ∧ yX2_usedShare.cls ≠ "java/lang/invoke/VarHandle" ∧ (parseMethodDescriptor yX2_usedShare.desc).map (fun d => d.parameters.length) = some 0 := by decide +kernel
set_option maxHeartbeats 4000000 in
set_option maxRecDepth 100000 in
theorem k_X2_usedShare (l : Launch) (D : va_G) (cs : CS) (a : Nat → Nat → Nat) (S : BO) {r9 : UInt64} (h : f_X2_usedShare S = some r9) : MD l D cs yX2_usedShare cX2_usedShare 1 rm_X2_usedShare [.ref (a 0 0)] (wB cs a S) r9 (wB cs a S) := by
  refine MD_of (by decide) (Nat.le_of_ble_eq_true rfl) ?_
  rintro Γ rfl rfl rfl B ret
  show X Γ 1 0 0 0 [(0, .ref (a 0 0))] [] (wB Γ.cs a S)
  obtain ⟨hn, rfl⟩ := nn_elim h
  refine x_aload_n B (pc' := 1) 0 dX2_usedShare_0 rfl rfl rfl ?_
  refine b_ref0 B (pc' := 4) wf_RX2_10 dX2_usedShare_1 rfl ?_
  refine bn_get4 B (pc' := 7) wf_RX2_129 dX2_usedShare_4 rfl ?_
  refine x_i2d B (pc' := 8) dX2_usedShare_7 rfl ?_
  refine x_ldc2d B (pc' := 11) 4629700416936869888 wk_RX2_138 dX2_usedShare_8 rfl ?_
  refine x_ddiv B (pc' := 12) dX2_usedShare_11 hn rfl ?_
  exact ret (Nat.le_of_ble_eq_true rfl) (Nat.le_of_ble_eq_true rfl) dX2_usedShare_12
