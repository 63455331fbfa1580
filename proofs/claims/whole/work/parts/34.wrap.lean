def wBO (cs : CS) (a : Nat → Nat → Nat) (b : Nat) (S : BO) (ob : Nat → Int64) : va_W := wB cs a S ++ [(b, .inl (cs.2.1, 1, .inr (.inl ob)))]
/-- the table of handlers -/
def TBL (Γ : Ctx) (hh : List (Nat × Nat × Nat × Nat)) : Prop := match Γ with
  | (_, _, _, _, _, _, _, _, _, c, _, _, _, _) => c.exceptionTable.toList = tableOf hh
def MW (l : Launch) (D : va_G) (cs : CS) (y : MethodName) (bytes : ByteArray) (maxL : Nat) (hh : List (Nat × Nat × Nat × Nat)) (rm : Room) (av : List Value) (w : va_W) (r : Int32) (w' : va_W) : Prop := ∀ sz, vx_Met l y (.codeWith y bytes maxL (some .int) hh :: GW) rm (PRX D cs av w sz) (va_Qi (fun r' _ => r' = r) (PO D w w' sz) (va_A w sz)) (vx_X (fun _ : Unit => True) (fun _ _ _ => False) (fun _ => False)) rm.cells rm.slots (va_A w sz)
theorem MW_of {l : Launch} {D : va_G} {cs : CS} {y : MethodName} {bytes : ByteArray} {maxL : Nat} {hh : List (Nat × Nat × Nat × Nat)} {r : Int32} {rm : Room} {av : List Value} {w w' : va_W} (hst : l.stackTraces = false) (hy : plainName y.cls = true) (hlen : (lg_sl av).length ≤ maxL)
    (body : ∀ Γ : Ctx, Γ.l = l → Γ.D = D → Γ.cs = cs → CX Γ bytes maxL y.cls rm → CZ Γ → TBL Γ hh → (∀ {k n pc : Nat} {lv : List (Nat × Value)}, k ≤ rm.cells → n ≤ rm.slots → decode bytes pc = .ok (.ireturn, 1) → X Γ maxL k n pc lv [.int r] w') → X Γ maxL 0 0 0 (lv_args 0 av) [] w) : MW l D cs y bytes maxL hh rm av w r w' := by
  intro sz
  refine vx_ofWH (cc := bytes) (maxL := maxL) (ret := some .int) (hh := hh) hy rfl ?_
  intro p e s m args below meth c s₁ B hml hv
  obtain ⟨rfl, hsz, hP, hK, hD0, hz1, hz2⟩ := hv
  subst hsz
  have hts := atoms_spec (ws := .codeWith y bytes maxL (some .int) hh :: GW) B.pre
  have hown : s.vm.findClass y.cls = some m.cls := findClass_of_methodNamed B.named
  have hl := lv_entry av (n := maxL) hlen
  rw [lg_entry_eq]
  have hD := hD0.self (sz := s.heap.size)
  have hlocks : meth.locks = false := B.notSynchronized
  refine body (p, l, e, rm, s, m, av.toArray, below, meth, c, _, va_A w s.heap.size, D, cs) rfl rfl rfl ⟨⟨B.exec, B.bytes, hml, hown, fun w h => hts w (List.mem_cons_of_mem _ h)⟩, hK, fun q h => Or.inr h, hlocks, rfl⟩ ⟨hst, hz1, hz2⟩ (vx_table (x := y) B (hts _ List.mem_cons_self)) ?_ s.heap [] _ hP hD va_S.rf hl
  intro k n pc lv hk hn d H locs ls hP1 hD1 hS hl1
  exact W.widen hk hn (vx_ret (W.iret B.exec B.bytes B.returns (fun t ht hW => ⟨⟨r, (), rfl, rfl, by rw [ht]; exact hP1, hD1⟩, hS.F ht⟩) hS.2.2 d))
theorem some3 {α β γ : Type} {a a' : α} {b b' : β} {c c' : γ} (h : some (a, b, c) = some (a', b', c')) : a = a' ∧ b = b' ∧ c = c' := by cases h; exact ⟨rfl, rfl, rfl⟩
section WRAP
variable {Γ : Ctx} {cc : ByteArray} {nL k n pc pc' : Nat} {own E : String} {R0 : Room} {lv : List (Nat × Value)} {st st0 : List Value} {ws : va_W}
/-- caught by the handler x; the rows ahead of it take other classes -/
theorem x_catch (B : CX Γ cc nL own R0) {hh : List (Nat × Nat × Nat × Nat)} (T : TBL Γ hh) (pre : List (Nat × Nat × Nat × Nat)) (x : Nat × Nat × Nat × Nat) (suf : List (Nat × Nat × Nat × Nat)) (hsplit : hh = pre ++ x :: suf) (hpass : ∀ z ∈ pre, z.2.2.2 ≠ 0 ∧ ∃ nm : String, Cond.classLink own z.2.2.2 nm ∈ GW ∧ (E, nm) ∈ ncW) (hx : covers ⟨x.1, x.2.1, x.2.2.1, x.2.2.2⟩ pc = true) (h0 : x.2.2.2 ≠ 0) (hlink : Cond.classLink own x.2.2.2 E ∈ GW) (hcast : Cond.castable E E ∈ castW) (kk : ∀ q, X Γ nL k n x.2.2.1 lv [.ref q] ws) : XT Γ nL k n pc lv st ws E := by
  obtain ⟨p, l, e, R, s, m, args, below, meth, c, Q, A, D, cs⟩ := Γ
  obtain ⟨hfix, hKN, hA, hlk, rfl⟩ := B
  intro H locs ls q ce hP hD hS hl hce hcv hcl
  have ht : c.exceptionTable.toList = tableOf pre ++ ⟨x.1, x.2.1, x.2.2.1, x.2.2.2⟩ :: tableOf suf := by
    have h1 : c.exceptionTable.toList = tableOf hh := T
    rw [h1, hsplit]
    simp [tableOf]
  refine vx_catch hfix.2.2.2.1 (tableOf pre) ⟨x.1, x.2.1, x.2.2.1, x.2.2.2⟩ (tableOf suf) ht (fun z hz => ?_) hx h0 (hfix.2.2.2.2 _ hlink) (cast_before hKN _ hcast) hce hcv hcl (kk q H locs ls hP hD hS hl)
  obtain ⟨z0, hz0, rfl⟩ := List.mem_map.mp hz
  obtain ⟨h1, nm, h2, h3⟩ := hpass z0 hz0
  exact Or.inr ⟨h1, nm, hfix.2.2.2.2 _ h2, hKN.2.2.2.1 _ h3⟩
theorem w_last (B : CX Γ cc nL own R0) {a : Nat → Nat → Nat} {b : Nat} {S : BO} {ob : Nat → Int64} {v : Int64} (d : decode cc pc = .ok (.lastore, 1)) (hp : pc + 1 = pc') (kk : X Γ nL k n pc' lv st (wBO Γ.cs a b S (vp_updL ob 0 v))) : X Γ nL k n pc lv (.long v :: .int 0 :: .ref b :: st) (wBO Γ.cs a b S ob) :=
  x_last (ws' := wBO Γ.cs a b S (vp_updL ob 0 v)) B 53 rfl (vp_in_nI (n := 0) (by decide) (by decide)) rfl d hp kk
theorem w_call (B : CX Γ cc nL own R0) (Z : CZ Γ) {y : MethodName} {index maxL : Nat} {bytes : ByteArray} {rt : FieldType} {rm : Room} {a : Nat → Nat → Nat} {b : Nat} {S S1 : BO} {ob : Nat → Int64} (As : List Value) {o : String ⊕ Int32} (hM : MXi Γ.l Γ.D Γ.cs y bytes maxL rt rm (.ref (a 0 0) :: As) (wB Γ.cs a S) o (wB Γ.cs a S1)) (hg : GoodIn GW (wsV own index RX2 y (.code y bytes maxL (some rt) :: GW))) (hcc : y.cls = RX2) (hd : y.cls ≠ "java/lang/invoke/MethodHandle" ∧ y.cls ≠ "java/lang/invoke/VarHandle" ∧ (parseMethodDescriptor y.desc).map (fun d => d.parameters.length) = some As.length) (hR : rm.frames + 1 ≤ R0.frames ∧ 8 + (maxL + 11) + rm.locals ≤ R0.locals) (hroom : k + rm.cells ≤ R0.cells ∧ n + rm.slots ≤ R0.slots) (hstk : st0 = As.reverse ++ .ref (a 0 0) :: st) (hsum : (st.map fun v => v.category).sum ≤ 8) (d : decode cc pc = .ok (.invokevirtual index, 3)) (hp : pc + 3 = pc') (kx : ∀ E, o = .inl E → XT Γ nL (k + rm.cells) (n + rm.slots) pc lv st (wBO Γ.cs a b S1 ob) E) (kk : ∀ r, o = .inr r → X Γ nL (k + rm.cells) (n + rm.slots) pc' lv (.int r :: st) (wBO Γ.cs a b S1 ob)) : X Γ nL k n pc lv st0 (wBO Γ.cs a b S ob) :=
  xx_GVi (ws' := wBO Γ.cs a b S1 ob) (wr := [(b, .inl (Γ.cs.2.1, 1, .inr (.inl ob)))]) B Z As hM [0, 1, 2, 3, 4, 5, 6, 7, 8, 9, 10, 11, 12, 13, 14, 15, 16, 17, 18, 19, 20, 21, 22, 23, 24, 25, 26, 27, 28, 29, 30, 31, 32, 33, 34, 35, 36, 37, 38, 39, 40, 41, 42, 43, 44, 45, 46, 47, 48, 49, 50, 51, 52] [53] [1, 2, 3, 4, 5, 6, 7, 8, 9, 10, 11, 12, 13, 14, 15, 16, 17, 18, 19, 20, 21, 22, 23, 24, 25, 26, 27, 28, 29, 30, 31, 32, 33, 34, 35, 36, 37, 38, 39, 40, 41, 42, 43, 44, 45, 46, 47, 48, 49, 50, 51, 52, 53, 0] rfl (by decide) rfl rfl (by decide) rfl (by decide) rfl rfl hg hcc hd hR hroom hstk hsum d hp kx kk
end WRAP
theorem wl_RL_13 : Cond.classLink RL 13 "java/lang/IllegalStateException" ∈ GW := List.mem_of_getElem? (i := 59) (by decide +kernel)
theorem wl_RL_22 : Cond.classLink RL 22 "java/lang/IllegalArgumentException" ∈ GW := List.mem_of_getElem? (i := 168) (by decide +kernel)
theorem wl_RL_28 : Cond.classLink RL 28 "java/lang/IndexOutOfBoundsException" ∈ GW := List.mem_of_getElem? (i := 255) (by decide +kernel)
def f_L_begin (S : BO) (ob : Nat → Int64) : Option (Int32 × BO × (Nat → Int64)) := match f_X2_begin S with
  | none => none
  | some (.inl E, S1) => if E = "java/lang/IllegalStateException" then some (1, S1, ob) else none
  | some (.inr r, S1) => some (0, S1, vp_updL ob 0 (Int32.toInt64 r))
abbrev rm_L_begin : Room := { frames := 7, cells := 1, slots := 6, locals := 126 }
theorem np_L_begin : yL_begin.cls ≠ "java/lang/invoke/MethodHandle" ∧ yL_begin.cls ≠ "java/lang/invoke/VarHandle" ∧ (parseMethodDescriptor yL_begin.desc).map (fun d => d.parameters.length) = some 2 := by decide +kernel
theorem gv_RL_7 : GoodIn GW (wsV RL 7 RX2 yX2_begin (.code yX2_begin cX2_begin 1 (some .int) :: GW)) := gw_app [Cond.methodLink RL 7 yX2_begin, Cond.instanceMethod yX2_begin, Cond.selects RX2 yX2_begin yX2_begin, Cond.initialized RX2, Cond.code yX2_begin cX2_begin 1 (some .int)] [60, 61, 62, 2, 63] (by decide +kernel) (by decide +kernel)
set_option maxHeartbeats 4000000 in
set_option maxRecDepth 100000 in
theorem k_L_begin (l : Launch) (hst : l.stackTraces = false) (D : va_G) (cs : CS) (a : Nat → Nat → Nat) (b : Nat) (S : BO) (ob : Nat → Int64) {r9 : Int32} {S9 : BO} {ob9 : Nat → Int64} (h : f_L_begin S ob = some (r9, S9, ob9)) : MW l D cs yL_begin cL_begin 3 [(0, 8, 11, 13)] rm_L_begin [.ref (a 0 0), .ref b] (wBO cs a b S ob) r9 (wBO cs a b S9 ob9) := by
  refine MW_of hst (by decide) (Nat.le_of_ble_eq_true rfl) ?_
  rintro Γ rfl rfl rfl B Z T ret
  show X Γ 3 0 0 0 [(0, .ref (a 0 0)), (1, .ref b)] [] (wBO Γ.cs a b S ob)
  unfold f_L_begin at h
  obtain ⟨o1, S1, e1, h1, h2⟩ : ∃ o1 S1, f_X2_begin S = some (o1, S1) ∧ (∀ r, o1 = .inr r → some (0, S1, vp_updL ob 0 (Int32.toInt64 r)) = some (r9, S9, ob9)) ∧ (∀ E, o1 = .inl E → (if E = "java/lang/IllegalStateException" then some (1, S1, ob) else none) = some (r9, S9, ob9)) := by
    split at h
    · cases h
    · exact ⟨_, _, by assumption, (fun r hr => by cases hr), fun E hE => by cases hE; exact h⟩
    · exact ⟨_, _, by assumption, (fun r hr => by cases hr; exact h), fun E hE => by cases hE⟩
  refine x_aload_n B (pc' := 1) 1 dL_begin_0 rfl rfl rfl ?_
  refine x_iconst B (pc' := 2) 0 dL_begin_1 (by decide) rfl ?_
  refine x_aload_n B (pc' := 3) 0 dL_begin_2 rfl rfl rfl ?_
  refine w_call B Z [] (k_X2_begin _ hst _ _ a S e1) gv_RL_7 rfl np_X2_begin ⟨Nat.le_of_ble_eq_true rfl, Nat.le_of_ble_eq_true rfl⟩ ⟨by exact Nat.le_of_ble_eq_true rfl, by exact Nat.le_of_ble_eq_true rfl⟩ rfl (Nat.le_of_ble_eq_true rfl) dL_begin_3 (pc' := 6) rfl (fun E hE => ?_) (fun r hr => ?_)
  · subst hE
    replace h := h2 E rfl
    by_cases c0 : E = "java/lang/IllegalStateException"
    · rw [if_pos c0] at h
      obtain ⟨h3, h4, h5⟩ := some3 h
      subst h3
      subst h4
      subst h5
      subst c0
      refine x_catch B T [] (0, 8, 11, 13) [] rfl (fun z hz => absurd hz List.not_mem_nil) (by decide) (by decide) wl_RL_13 (by simp [castW]) (fun q => ?_)
      refine x_astore_n B (pc' := 12) [1, 2, 0] [(0, .ref (a 0 0)), (1, .ref b), (2, .ref q)] dL_begin_11 rfl (by decide) rfl rfl ?_
      refine x_iconst B (pc' := 13) 1 dL_begin_12 (by decide) rfl ?_
      exact ret (by exact Nat.le_of_ble_eq_true rfl) (by exact Nat.le_of_ble_eq_true rfl) dL_begin_13
    rw [if_neg c0] at h
    cases h
  · subst hr
    replace h := h1 r rfl
    obtain ⟨h3, h4, h5⟩ := some3 h
    subst h3
    subst h4
    subst h5
    refine x_i2l B (pc' := 7) dL_begin_6 rfl ?_
    refine w_last B (pc' := 8) dL_begin_7 rfl ?_
    refine x_goto B (pc' := 14) dL_begin_8 (by decide) ?_
    refine x_iconst B (pc' := 15) 0 dL_begin_14 (by decide) rfl ?_
    exact ret (by exact Nat.le_of_ble_eq_true rfl) (by exact Nat.le_of_ble_eq_true rfl) dL_begin_15
def f_L_halt (S : BO) (ob : Nat → Int64) : Option (Int32 × BO × (Nat → Int64)) := match f_X2_halt S with
  | none => none
  | some (.inl E, S1) => if E = "java/lang/IllegalStateException" then some (1, S1, ob) else none
  | some (.inr r, S1) => some (0, S1, vp_updL ob 0 (Int32.toInt64 r))
abbrev rm_L_halt : Room := { frames := 7, cells := 1, slots := 6, locals := 126 }
theorem np_L_halt : yL_halt.cls ≠ "java/lang/invoke/MethodHandle" ∧ yL_halt.cls ≠ "java/lang/invoke/VarHandle" ∧ (parseMethodDescriptor yL_halt.desc).map (fun d => d.parameters.length) = some 2 := by decide +kernel
theorem gv_RL_15 : GoodIn GW (wsV RL 15 RX2 yX2_halt (.code yX2_halt cX2_halt 1 (some .int) :: GW)) := gw_app [Cond.methodLink RL 15 yX2_halt, Cond.instanceMethod yX2_halt, Cond.selects RX2 yX2_halt yX2_halt, Cond.initialized RX2, Cond.code yX2_halt cX2_halt 1 (some .int)] [155, 156, 157, 2, 158] (by decide +kernel) (by decide +kernel)
set_option maxHeartbeats 4000000 in
set_option maxRecDepth 100000 in
theorem k_L_halt (l : Launch) (hst : l.stackTraces = false) (D : va_G) (cs : CS) (a : Nat → Nat → Nat) (b : Nat) (S : BO) (ob : Nat → Int64) {r9 : Int32} {S9 : BO} {ob9 : Nat → Int64} (h : f_L_halt S ob = some (r9, S9, ob9)) : MW l D cs yL_halt cL_halt 3 [(0, 8, 11, 13)] rm_L_halt [.ref (a 0 0), .ref b] (wBO cs a b S ob) r9 (wBO cs a b S9 ob9) := by
  refine MW_of hst (by decide) (Nat.le_of_ble_eq_true rfl) ?_
  rintro Γ rfl rfl rfl B Z T ret
  show X Γ 3 0 0 0 [(0, .ref (a 0 0)), (1, .ref b)] [] (wBO Γ.cs a b S ob)
  unfold f_L_halt at h
  obtain ⟨o1, S1, e1, h1, h2⟩ : ∃ o1 S1, f_X2_halt S = some (o1, S1) ∧ (∀ r, o1 = .inr r → some (0, S1, vp_updL ob 0 (Int32.toInt64 r)) = some (r9, S9, ob9)) ∧ (∀ E, o1 = .inl E → (if E = "java/lang/IllegalStateException" then some (1, S1, ob) else none) = some (r9, S9, ob9)) := by
    split at h
    · cases h
    · exact ⟨_, _, by assumption, (fun r hr => by cases hr), fun E hE => by cases hE; exact h⟩
    · exact ⟨_, _, by assumption, (fun r hr => by cases hr; exact h), fun E hE => by cases hE⟩
  refine x_aload_n B (pc' := 1) 1 dL_halt_0 rfl rfl rfl ?_
  refine x_iconst B (pc' := 2) 0 dL_halt_1 (by decide) rfl ?_
  refine x_aload_n B (pc' := 3) 0 dL_halt_2 rfl rfl rfl ?_
  refine w_call B Z [] (k_X2_halt _ hst _ _ a S e1) gv_RL_15 rfl np_X2_halt ⟨Nat.le_of_ble_eq_true rfl, Nat.le_of_ble_eq_true rfl⟩ ⟨by exact Nat.le_of_ble_eq_true rfl, by exact Nat.le_of_ble_eq_true rfl⟩ rfl (Nat.le_of_ble_eq_true rfl) dL_halt_3 (pc' := 6) rfl (fun E hE => ?_) (fun r hr => ?_)
  · subst hE
    replace h := h2 E rfl
    by_cases c0 : E = "java/lang/IllegalStateException"
    · rw [if_pos c0] at h
      obtain ⟨h3, h4, h5⟩ := some3 h
      subst h3
      subst h4
      subst h5
      subst c0
      refine x_catch B T [] (0, 8, 11, 13) [] rfl (fun z hz => absurd hz List.not_mem_nil) (by decide) (by decide) wl_RL_13 (by simp [castW]) (fun q => ?_)
      refine x_astore_n B (pc' := 12) [1, 2, 0] [(0, .ref (a 0 0)), (1, .ref b), (2, .ref q)] dL_halt_11 rfl (by decide) rfl rfl ?_
      refine x_iconst B (pc' := 13) 1 dL_halt_12 (by decide) rfl ?_
      exact ret (by exact Nat.le_of_ble_eq_true rfl) (by exact Nat.le_of_ble_eq_true rfl) dL_halt_13
    rw [if_neg c0] at h
    cases h
  · subst hr
    replace h := h1 r rfl
    obtain ⟨h3, h4, h5⟩ := some3 h
    subst h3
    subst h4
    subst h5
    refine x_i2l B (pc' := 7) dL_halt_6 rfl ?_
    refine w_last B (pc' := 8) dL_halt_7 rfl ?_
    refine x_goto B (pc' := 14) dL_halt_8 (by decide) ?_
    refine x_iconst B (pc' := 15) 0 dL_halt_14 (by decide) rfl ?_
    exact ret (by exact Nat.le_of_ble_eq_true rfl) (by exact Nat.le_of_ble_eq_true rfl) dL_halt_15
def f_L_speak (p0 : Int32) (S : BO) (ob : Nat → Int64) : Option (Int32 × BO × (Nat → Int64)) := match f_X2_speak p0 S with
  | none => none
  | some (.inl E, S1) => if E = "java/lang/IllegalArgumentException" then some (1, S1, ob) else if E = "java/lang/IllegalStateException" then some (2, S1, ob) else none
  | some (.inr r, S1) => some (0, S1, vp_updL ob 0 (Int32.toInt64 r))
abbrev rm_L_speak : Room := { frames := 8, cells := 2, slots := 12, locals := 127 }
theorem np_L_speak : yL_speak.cls ≠ "java/lang/invoke/MethodHandle" ∧ yL_speak.cls ≠ "java/lang/invoke/VarHandle" ∧ (parseMethodDescriptor yL_speak.desc).map (fun d => d.parameters.length) = some 3 := by decide +kernel
theorem gv_RL_18 : GoodIn GW (wsV RL 18 RX2 yX2_speak (.code yX2_speak cX2_speak 2 (some .int) :: GW)) := gw_app [Cond.methodLink RL 18 yX2_speak, Cond.instanceMethod yX2_speak, Cond.selects RX2 yX2_speak yX2_speak, Cond.initialized RX2, Cond.code yX2_speak cX2_speak 2 (some .int)] [169, 170, 171, 2, 172] (by decide +kernel) (by decide +kernel)
theorem pass_L_speak_1 : ∀ z ∈ ([(0, 9, 12, 22)] : List (Nat × Nat × Nat × Nat)), z.2.2.2 ≠ 0 ∧ ∃ nm : String, Cond.classLink RL z.2.2.2 nm ∈ GW ∧ ("java/lang/IllegalStateException", nm) ∈ ncW := by
  intro z hz
  simp only [List.mem_cons, List.not_mem_nil, or_false] at hz
  subst hz
  exact ⟨by decide, "java/lang/IllegalArgumentException", wl_RL_22, by decide +kernel⟩
set_option maxHeartbeats 4000000 in
set_option maxRecDepth 100000 in
theorem k_L_speak (l : Launch) (hst : l.stackTraces = false) (D : va_G) (cs : CS) (a : Nat → Nat → Nat) (b : Nat) (p0 : Int32) (S : BO) (ob : Nat → Int64) {r9 : Int32} {S9 : BO} {ob9 : Nat → Int64} (h : f_L_speak p0 S ob = some (r9, S9, ob9)) : MW l D cs yL_speak cL_speak 4 [(0, 9, 12, 22), (0, 9, 15, 13)] rm_L_speak [.ref (a 0 0), .int p0, .ref b] (wBO cs a b S ob) r9 (wBO cs a b S9 ob9) := by
  refine MW_of hst (by decide) (Nat.le_of_ble_eq_true rfl) ?_
  rintro Γ rfl rfl rfl B Z T ret
  show X Γ 4 0 0 0 [(0, .ref (a 0 0)), (1, .int p0), (2, .ref b)] [] (wBO Γ.cs a b S ob)
  unfold f_L_speak at h
  obtain ⟨o1, S1, e1, h1, h2⟩ : ∃ o1 S1, f_X2_speak p0 S = some (o1, S1) ∧ (∀ r, o1 = .inr r → some (0, S1, vp_updL ob 0 (Int32.toInt64 r)) = some (r9, S9, ob9)) ∧ (∀ E, o1 = .inl E → (if E = "java/lang/IllegalArgumentException" then some (1, S1, ob) else if E = "java/lang/IllegalStateException" then some (2, S1, ob) else none) = some (r9, S9, ob9)) := by
    split at h
    · cases h
    · exact ⟨_, _, by assumption, (fun r hr => by cases hr), fun E hE => by cases hE; exact h⟩
    · exact ⟨_, _, by assumption, (fun r hr => by cases hr; exact h), fun E hE => by cases hE⟩
  refine x_aload_n B (pc' := 1) 2 dL_speak_0 rfl rfl rfl ?_
  refine x_iconst B (pc' := 2) 0 dL_speak_1 (by decide) rfl ?_
  refine x_aload_n B (pc' := 3) 0 dL_speak_2 rfl rfl rfl ?_
  refine x_iload_n B (pc' := 4) 1 dL_speak_3 rfl rfl rfl ?_
  refine w_call B Z [.int p0] (k_X2_speak _ hst _ _ a p0 S e1) gv_RL_18 rfl np_X2_speak ⟨Nat.le_of_ble_eq_true rfl, Nat.le_of_ble_eq_true rfl⟩ ⟨by exact Nat.le_of_ble_eq_true rfl, by exact Nat.le_of_ble_eq_true rfl⟩ rfl (Nat.le_of_ble_eq_true rfl) dL_speak_4 (pc' := 7) rfl (fun E hE => ?_) (fun r hr => ?_)
  · subst hE
    replace h := h2 E rfl
    by_cases c0 : E = "java/lang/IllegalArgumentException"
    · rw [if_pos c0] at h
      obtain ⟨h3, h4, h5⟩ := some3 h
      subst h3
      subst h4
      subst h5
      subst c0
      refine x_catch B T [] (0, 9, 12, 22) [(0, 9, 15, 13)] rfl (fun z hz => absurd hz List.not_mem_nil) (by decide) (by decide) wl_RL_22 (by simp [castW]) (fun q => ?_)
      refine x_astore_n B (pc' := 13) [1, 2, 3, 0] [(0, .ref (a 0 0)), (1, .int p0), (2, .ref b), (3, .ref q)] dL_speak_12 rfl (by decide) rfl rfl ?_
      refine x_iconst B (pc' := 14) 1 dL_speak_13 (by decide) rfl ?_
      exact ret (by exact Nat.le_of_ble_eq_true rfl) (by exact Nat.le_of_ble_eq_true rfl) dL_speak_14
    rw [if_neg c0] at h
    by_cases c1 : E = "java/lang/IllegalStateException"
    · rw [if_pos c1] at h
      obtain ⟨h3, h4, h5⟩ := some3 h
      subst h3
      subst h4
      subst h5
      subst c1
      refine x_catch B T [(0, 9, 12, 22)] (0, 9, 15, 13) [] rfl (pass_L_speak_1) (by decide) (by decide) wl_RL_13 (by simp [castW]) (fun q => ?_)
      refine x_astore_n B (pc' := 16) [1, 2, 3, 0] [(0, .ref (a 0 0)), (1, .int p0), (2, .ref b), (3, .ref q)] dL_speak_15 rfl (by decide) rfl rfl ?_
      refine x_iconst B (pc' := 17) 2 dL_speak_16 (by decide) rfl ?_
      exact ret (by exact Nat.le_of_ble_eq_true rfl) (by exact Nat.le_of_ble_eq_true rfl) dL_speak_17
    rw [if_neg c1] at h
    cases h
  · subst hr
    replace h := h1 r rfl
    obtain ⟨h3, h4, h5⟩ := some3 h
    subst h3
    subst h4
    subst h5
    refine x_i2l B (pc' := 8) dL_speak_7 rfl ?_
    refine w_last B (pc' := 9) dL_speak_8 rfl ?_
    refine x_goto B (pc' := 18) dL_speak_9 (by decide) ?_
    refine x_iconst B (pc' := 19) 0 dL_speak_18 (by decide) rfl ?_
    exact ret (by exact Nat.le_of_ble_eq_true rfl) (by exact Nat.le_of_ble_eq_true rfl) dL_speak_19
def f_L_setFlag (p0 : Int32) (p1 : Int32) (S : BO) (ob : Nat → Int64) : Option (Int32 × BO × (Nat → Int64)) := match f_X2_setFlag p0 p1 S with
  | none => none
  | some (.inl E, S1) => if E = "java/lang/IndexOutOfBoundsException" then some (1, S1, ob) else none
  | some (.inr r, S1) => some (0, S1, vp_updL ob 0 (if r = 0 then (0 : Int64) else (1 : Int64)))
abbrev rm_L_setFlag : Room := { frames := 8, cells := 1, slots := 6, locals := 129 }
theorem np_L_setFlag : yL_setFlag.cls ≠ "java/lang/invoke/MethodHandle" ∧ yL_setFlag.cls ≠ "java/lang/invoke/VarHandle" ∧ (parseMethodDescriptor yL_setFlag.desc).map (fun d => d.parameters.length) = some 4 := by decide +kernel
theorem gv_RL_24 : GoodIn GW (wsV RL 24 RX2 yX2_setFlag (.code yX2_setFlag cX2_setFlag 4 (some .boolean) :: GW)) := gw_app [Cond.methodLink RL 24 yX2_setFlag, Cond.instanceMethod yX2_setFlag, Cond.selects RX2 yX2_setFlag yX2_setFlag, Cond.initialized RX2, Cond.code yX2_setFlag cX2_setFlag 4 (some .boolean)] [256, 257, 258, 2, 259] (by decide +kernel) (by decide +kernel)
set_option maxHeartbeats 4000000 in
set_option maxRecDepth 100000 in
theorem k_L_setFlag (l : Launch) (hst : l.stackTraces = false) (D : va_G) (cs : CS) (a : Nat → Nat → Nat) (b : Nat) (p0 : Int32) (p1 : Int32) (S : BO) (ob : Nat → Int64) {r9 : Int32} {S9 : BO} {ob9 : Nat → Int64} (h : f_L_setFlag p0 p1 S ob = some (r9, S9, ob9)) : MW l D cs yL_setFlag cL_setFlag 5 [(0, 17, 20, 28)] rm_L_setFlag [.ref (a 0 0), .int p0, .int p1, .ref b] (wBO cs a b S ob) r9 (wBO cs a b S9 ob9) := by
  refine MW_of hst (by decide) (Nat.le_of_ble_eq_true rfl) ?_
  rintro Γ rfl rfl rfl B Z T ret
  show X Γ 5 0 0 0 [(0, .ref (a 0 0)), (1, .int p0), (2, .int p1), (3, .ref b)] [] (wBO Γ.cs a b S ob)
  unfold f_L_setFlag at h
  obtain ⟨o1, S1, e1, h1, h2⟩ : ∃ o1 S1, f_X2_setFlag p0 p1 S = some (o1, S1) ∧ (∀ r, o1 = .inr r → some (0, S1, vp_updL ob 0 (if r = 0 then (0 : Int64) else (1 : Int64))) = some (r9, S9, ob9)) ∧ (∀ E, o1 = .inl E → (if E = "java/lang/IndexOutOfBoundsException" then some (1, S1, ob) else none) = some (r9, S9, ob9)) := by
    split at h
    · cases h
    · exact ⟨_, _, by assumption, (fun r hr => by cases hr), fun E hE => by cases hE; exact h⟩
    · exact ⟨_, _, by assumption, (fun r hr => by cases hr; exact h), fun E hE => by cases hE⟩
  refine x_aload_n B (pc' := 1) 3 dL_setFlag_0 rfl rfl rfl ?_
  refine x_iconst B (pc' := 2) 0 dL_setFlag_1 (by decide) rfl ?_
  refine x_aload_n B (pc' := 3) 0 dL_setFlag_2 rfl rfl rfl ?_
  refine x_iload_n B (pc' := 4) 1 dL_setFlag_3 rfl rfl rfl ?_
  refine x_iload_n B (pc' := 5) 2 dL_setFlag_4 rfl rfl rfl ?_
  refine w_call B Z [.int p0, .int p1] (k_X2_setFlag _ hst _ _ a p0 p1 S e1) gv_RL_24 rfl np_X2_setFlag ⟨Nat.le_of_ble_eq_true rfl, Nat.le_of_ble_eq_true rfl⟩ ⟨by exact Nat.le_of_ble_eq_true rfl, by exact Nat.le_of_ble_eq_true rfl⟩ rfl (Nat.le_of_ble_eq_true rfl) dL_setFlag_5 (pc' := 8) rfl (fun E hE => ?_) (fun r hr => ?_)
  · subst hE
    replace h := h2 E rfl
    by_cases c0 : E = "java/lang/IndexOutOfBoundsException"
    · rw [if_pos c0] at h
      obtain ⟨h3, h4, h5⟩ := some3 h
      subst h3
      subst h4
      subst h5
      subst c0
      refine x_catch B T [] (0, 17, 20, 28) [] rfl (fun z hz => absurd hz List.not_mem_nil) (by decide) (by decide) wl_RL_28 (by simp [castW]) (fun q => ?_)
      refine x_astore B (pc' := 22) [1, 2, 3, 4, 0] [(0, .ref (a 0 0)), (1, .int p0), (2, .int p1), (3, .ref b), (4, .ref q)] dL_setFlag_20 (by decide) rfl rfl ?_
      refine x_iconst B (pc' := 23) 1 dL_setFlag_22 (by decide) rfl ?_
      exact ret (by exact Nat.le_of_ble_eq_true rfl) (by exact Nat.le_of_ble_eq_true rfl) dL_setFlag_23
    rw [if_neg c0] at h
    cases h
  · subst hr
    replace h := h1 r rfl
    obtain ⟨h3, h4, h5⟩ := some3 h
    subst h3
    subst h4
    subst h5
    refine x_if_eq B 15 11 dL_setFlag_8 (by decide) rfl (fun hc => ?_) (fun hc => ?_)
    · rw [if_pos hc] at ret
      refine x_lconst B (pc' := 16) 0 dL_setFlag_15 (by decide) rfl ?_
      refine w_last B (pc' := 17) dL_setFlag_16 rfl ?_
      refine x_goto B (pc' := 24) dL_setFlag_17 (by decide) ?_
      refine x_iconst B (pc' := 25) 0 dL_setFlag_24 (by decide) rfl ?_
      exact ret (by exact Nat.le_of_ble_eq_true rfl) (by exact Nat.le_of_ble_eq_true rfl) dL_setFlag_25
    · rw [if_neg hc] at ret
      refine x_lconst B (pc' := 12) 1 dL_setFlag_11 (by decide) rfl ?_
      refine x_goto B (pc' := 16) dL_setFlag_12 (by decide) ?_
      refine w_last B (pc' := 17) dL_setFlag_16 rfl ?_
      refine x_goto B (pc' := 24) dL_setFlag_17 (by decide) ?_
      refine x_iconst B (pc' := 25) 0 dL_setFlag_24 (by decide) rfl ?_
      exact ret (by exact Nat.le_of_ble_eq_true rfl) (by exact Nat.le_of_ble_eq_true rfl) dL_setFlag_25
def f_L_erase (p0 : Int32) (S : BO) (ob : Nat → Int64) : Option (Int32 × BO × (Nat → Int64)) := match f_X2_erase p0 S with
  | none => none
  | some (.inl E, S1) => if E = "java/lang/IndexOutOfBoundsException" then some (1, S1, ob) else if E = "java/lang/IllegalStateException" then some (2, S1, ob) else none
  | some (.inr r, S1) => some (0, S1, vp_updL ob 0 (Int32.toInt64 r))
abbrev rm_L_erase : Room := { frames := 8, cells := 2, slots := 12, locals := 127 }
theorem np_L_erase : yL_erase.cls ≠ "java/lang/invoke/MethodHandle" ∧ yL_erase.cls ≠ "java/lang/invoke/VarHandle" ∧ (parseMethodDescriptor yL_erase.desc).map (fun d => d.parameters.length) = some 3 := by decide +kernel
theorem gv_RL_30 : GoodIn GW (wsV RL 30 RX2 yX2_erase (.code yX2_erase cX2_erase 2 (some .int) :: GW)) := gw_app [Cond.methodLink RL 30 yX2_erase, Cond.instanceMethod yX2_erase, Cond.selects RX2 yX2_erase yX2_erase, Cond.initialized RX2, Cond.code yX2_erase cX2_erase 2 (some .int)] [289, 290, 291, 2, 292] (by decide +kernel) (by decide +kernel)
theorem pass_L_erase_1 : ∀ z ∈ ([(0, 9, 12, 28)] : List (Nat × Nat × Nat × Nat)), z.2.2.2 ≠ 0 ∧ ∃ nm : String, Cond.classLink RL z.2.2.2 nm ∈ GW ∧ ("java/lang/IllegalStateException", nm) ∈ ncW := by
  intro z hz
  simp only [List.mem_cons, List.not_mem_nil, or_false] at hz
  subst hz
  exact ⟨by decide, "java/lang/IndexOutOfBoundsException", wl_RL_28, by decide +kernel⟩
set_option maxHeartbeats 4000000 in
set_option maxRecDepth 100000 in
theorem k_L_erase (l : Launch) (hst : l.stackTraces = false) (D : va_G) (cs : CS) (a : Nat → Nat → Nat) (b : Nat) (p0 : Int32) (S : BO) (ob : Nat → Int64) {r9 : Int32} {S9 : BO} {ob9 : Nat → Int64} (h : f_L_erase p0 S ob = some (r9, S9, ob9)) : MW l D cs yL_erase cL_erase 4 [(0, 9, 12, 28), (0, 9, 15, 13)] rm_L_erase [.ref (a 0 0), .int p0, .ref b] (wBO cs a b S ob) r9 (wBO cs a b S9 ob9) := by
  refine MW_of hst (by decide) (Nat.le_of_ble_eq_true rfl) ?_
  rintro Γ rfl rfl rfl B Z T ret
  show X Γ 4 0 0 0 [(0, .ref (a 0 0)), (1, .int p0), (2, .ref b)] [] (wBO Γ.cs a b S ob)
  unfold f_L_erase at h
  obtain ⟨o1, S1, e1, h1, h2⟩ : ∃ o1 S1, f_X2_erase p0 S = some (o1, S1) ∧ (∀ r, o1 = .inr r → some (0, S1, vp_updL ob 0 (Int32.toInt64 r)) = some (r9, S9, ob9)) ∧ (∀ E, o1 = .inl E → (if E = "java/lang/IndexOutOfBoundsException" then some (1, S1, ob) else if E = "java/lang/IllegalStateException" then some (2, S1, ob) else none) = some (r9, S9, ob9)) := by
    split at h
    · cases h
    · exact ⟨_, _, by assumption, (fun r hr => by cases hr), fun E hE => by cases hE; exact h⟩
    · exact ⟨_, _, by assumption, (fun r hr => by cases hr; exact h), fun E hE => by cases hE⟩
  refine x_aload_n B (pc' := 1) 2 dL_erase_0 rfl rfl rfl ?_
  refine x_iconst B (pc' := 2) 0 dL_erase_1 (by decide) rfl ?_
  refine x_aload_n B (pc' := 3) 0 dL_erase_2 rfl rfl rfl ?_
  refine x_iload_n B (pc' := 4) 1 dL_erase_3 rfl rfl rfl ?_
  refine w_call B Z [.int p0] (k_X2_erase _ hst _ _ a p0 S e1) gv_RL_30 rfl np_X2_erase ⟨Nat.le_of_ble_eq_true rfl, Nat.le_of_ble_eq_true rfl⟩ ⟨by exact Nat.le_of_ble_eq_true rfl, by exact Nat.le_of_ble_eq_true rfl⟩ rfl (Nat.le_of_ble_eq_true rfl) dL_erase_4 (pc' := 7) rfl (fun E hE => ?_) (fun r hr => ?_)
  · subst hE
    replace h := h2 E rfl
    by_cases c0 : E = "java/lang/IndexOutOfBoundsException"
    · rw [if_pos c0] at h
      obtain ⟨h3, h4, h5⟩ := some3 h
      subst h3
      subst h4
      subst h5
      subst c0
      refine x_catch B T [] (0, 9, 12, 28) [(0, 9, 15, 13)] rfl (fun z hz => absurd hz List.not_mem_nil) (by decide) (by decide) wl_RL_28 (by simp [castW]) (fun q => ?_)
      refine x_astore_n B (pc' := 13) [1, 2, 3, 0] [(0, .ref (a 0 0)), (1, .int p0), (2, .ref b), (3, .ref q)] dL_erase_12 rfl (by decide) rfl rfl ?_
      refine x_iconst B (pc' := 14) 1 dL_erase_13 (by decide) rfl ?_
      exact ret (by exact Nat.le_of_ble_eq_true rfl) (by exact Nat.le_of_ble_eq_true rfl) dL_erase_14
    rw [if_neg c0] at h
    by_cases c1 : E = "java/lang/IllegalStateException"
    · rw [if_pos c1] at h
      obtain ⟨h3, h4, h5⟩ := some3 h
      subst h3
      subst h4
      subst h5
      subst c1
      refine x_catch B T [(0, 9, 12, 28)] (0, 9, 15, 13) [] rfl (pass_L_erase_1) (by decide) (by decide) wl_RL_13 (by simp [castW]) (fun q => ?_)
      refine x_astore_n B (pc' := 16) [1, 2, 3, 0] [(0, .ref (a 0 0)), (1, .int p0), (2, .ref b), (3, .ref q)] dL_erase_15 rfl (by decide) rfl rfl ?_
      refine x_iconst B (pc' := 17) 2 dL_erase_16 (by decide) rfl ?_
      exact ret (by exact Nat.le_of_ble_eq_true rfl) (by exact Nat.le_of_ble_eq_true rfl) dL_erase_17
    rw [if_neg c1] at h
    cases h
  · subst hr
    replace h := h1 r rfl
    obtain ⟨h3, h4, h5⟩ := some3 h
    subst h3
    subst h4
    subst h5
    refine x_i2l B (pc' := 8) dL_erase_7 rfl ?_
    refine w_last B (pc' := 9) dL_erase_8 rfl ?_
    refine x_goto B (pc' := 18) dL_erase_9 (by decide) ?_
    refine x_iconst B (pc' := 19) 0 dL_erase_18 (by decide) rfl ?_
    exact ret (by exact Nat.le_of_ble_eq_true rfl) (by exact Nat.le_of_ble_eq_true rfl) dL_erase_19
def f_L_moveHead (p0 : Int32) (S : BO) (ob : Nat → Int64) : Option (Int32 × BO × (Nat → Int64)) := match f_X2_moveHead p0 S with
  | none => none
  | some (.inl E, S1) => if E = "java/lang/IndexOutOfBoundsException" then some (1, S1, ob) else if E = "java/lang/IllegalStateException" then some (2, S1, ob) else none
  | some (.inr r, S1) => some (0, S1, vp_updL ob 0 (Int32.toInt64 r))
abbrev rm_L_moveHead : Room := { frames := 8, cells := 2, slots := 12, locals := 128 }
theorem np_L_moveHead : yL_moveHead.cls ≠ "java/lang/invoke/MethodHandle" ∧ yL_moveHead.cls ≠ "java/lang/invoke/VarHandle" ∧ (parseMethodDescriptor yL_moveHead.desc).map (fun d => d.parameters.length) = some 3 := by decide +kernel
theorem gv_RL_33 : GoodIn GW (wsV RL 33 RX2 yX2_moveHead (.code yX2_moveHead cX2_moveHead 3 (some .int) :: GW)) := gw_app [Cond.methodLink RL 33 yX2_moveHead, Cond.instanceMethod yX2_moveHead, Cond.selects RX2 yX2_moveHead yX2_moveHead, Cond.initialized RX2, Cond.code yX2_moveHead cX2_moveHead 3 (some .int)] [304, 305, 306, 2, 307] (by decide +kernel) (by decide +kernel)
theorem pass_L_moveHead_1 : ∀ z ∈ ([(0, 9, 12, 28)] : List (Nat × Nat × Nat × Nat)), z.2.2.2 ≠ 0 ∧ ∃ nm : String, Cond.classLink RL z.2.2.2 nm ∈ GW ∧ ("java/lang/IllegalStateException", nm) ∈ ncW := by
  intro z hz
  simp only [List.mem_cons, List.not_mem_nil, or_false] at hz
  subst hz
  exact ⟨by decide, "java/lang/IndexOutOfBoundsException", wl_RL_28, by decide +kernel⟩
set_option maxHeartbeats 4000000 in
set_option maxRecDepth 100000 in
theorem k_L_moveHead (l : Launch) (hst : l.stackTraces = false) (D : va_G) (cs : CS) (a : Nat → Nat → Nat) (b : Nat) (p0 : Int32) (S : BO) (ob : Nat → Int64) {r9 : Int32} {S9 : BO} {ob9 : Nat → Int64} (h : f_L_moveHead p0 S ob = some (r9, S9, ob9)) : MW l D cs yL_moveHead cL_moveHead 4 [(0, 9, 12, 28), (0, 9, 15, 13)] rm_L_moveHead [.ref (a 0 0), .int p0, .ref b] (wBO cs a b S ob) r9 (wBO cs a b S9 ob9) := by
  refine MW_of hst (by decide) (Nat.le_of_ble_eq_true rfl) ?_
  rintro Γ rfl rfl rfl B Z T ret
  show X Γ 4 0 0 0 [(0, .ref (a 0 0)), (1, .int p0), (2, .ref b)] [] (wBO Γ.cs a b S ob)
  unfold f_L_moveHead at h
  obtain ⟨o1, S1, e1, h1, h2⟩ : ∃ o1 S1, f_X2_moveHead p0 S = some (o1, S1) ∧ (∀ r, o1 = .inr r → some (0, S1, vp_updL ob 0 (Int32.toInt64 r)) = some (r9, S9, ob9)) ∧ (∀ E, o1 = .inl E → (if E = "java/lang/IndexOutOfBoundsException" then some (1, S1, ob) else if E = "java/lang/IllegalStateException" then some (2, S1, ob) else none) = some (r9, S9, ob9)) := by
    split at h
    · cases h
    · exact ⟨_, _, by assumption, (fun r hr => by cases hr), fun E hE => by cases hE; exact h⟩
    · exact ⟨_, _, by assumption, (fun r hr => by cases hr; exact h), fun E hE => by cases hE⟩
  refine x_aload_n B (pc' := 1) 2 dL_moveHead_0 rfl rfl rfl ?_
  refine x_iconst B (pc' := 2) 0 dL_moveHead_1 (by decide) rfl ?_
  refine x_aload_n B (pc' := 3) 0 dL_moveHead_2 rfl rfl rfl ?_
  refine x_iload_n B (pc' := 4) 1 dL_moveHead_3 rfl rfl rfl ?_
  refine w_call B Z [.int p0] (k_X2_moveHead _ hst _ _ a p0 S e1) gv_RL_33 rfl np_X2_moveHead ⟨Nat.le_of_ble_eq_true rfl, Nat.le_of_ble_eq_true rfl⟩ ⟨by exact Nat.le_of_ble_eq_true rfl, by exact Nat.le_of_ble_eq_true rfl⟩ rfl (Nat.le_of_ble_eq_true rfl) dL_moveHead_4 (pc' := 7) rfl (fun E hE => ?_) (fun r hr => ?_)
  · subst hE
    replace h := h2 E rfl
    by_cases c0 : E = "java/lang/IndexOutOfBoundsException"
    · rw [if_pos c0] at h
      obtain ⟨h3, h4, h5⟩ := some3 h
      subst h3
      subst h4
      subst h5
      subst c0
      refine x_catch B T [] (0, 9, 12, 28) [(0, 9, 15, 13)] rfl (fun z hz => absurd hz List.not_mem_nil) (by decide) (by decide) wl_RL_28 (by simp [castW]) (fun q => ?_)
      refine x_astore_n B (pc' := 13) [1, 2, 3, 0] [(0, .ref (a 0 0)), (1, .int p0), (2, .ref b), (3, .ref q)] dL_moveHead_12 rfl (by decide) rfl rfl ?_
      refine x_iconst B (pc' := 14) 1 dL_moveHead_13 (by decide) rfl ?_
      exact ret (by exact Nat.le_of_ble_eq_true rfl) (by exact Nat.le_of_ble_eq_true rfl) dL_moveHead_14
    rw [if_neg c0] at h
    by_cases c1 : E = "java/lang/IllegalStateException"
    · rw [if_pos c1] at h
      obtain ⟨h3, h4, h5⟩ := some3 h
      subst h3
      subst h4
      subst h5
      subst c1
      refine x_catch B T [(0, 9, 12, 28)] (0, 9, 15, 13) [] rfl (pass_L_moveHead_1) (by decide) (by decide) wl_RL_13 (by simp [castW]) (fun q => ?_)
      refine x_astore_n B (pc' := 16) [1, 2, 3, 0] [(0, .ref (a 0 0)), (1, .int p0), (2, .ref b), (3, .ref q)] dL_moveHead_15 rfl (by decide) rfl rfl ?_
      refine x_iconst B (pc' := 17) 2 dL_moveHead_16 (by decide) rfl ?_
      exact ret (by exact Nat.le_of_ble_eq_true rfl) (by exact Nat.le_of_ble_eq_true rfl) dL_moveHead_17
    rw [if_neg c1] at h
    cases h
  · subst hr
    replace h := h1 r rfl
    obtain ⟨h3, h4, h5⟩ := some3 h
    subst h3
    subst h4
    subst h5
    refine x_i2l B (pc' := 8) dL_moveHead_7 rfl ?_
    refine w_last B (pc' := 9) dL_moveHead_8 rfl ?_
    refine x_goto B (pc' := 18) dL_moveHead_9 (by decide) ?_
    refine x_iconst B (pc' := 19) 0 dL_moveHead_18 (by decide) rfl ?_
    exact ret (by exact Nat.le_of_ble_eq_true rfl) (by exact Nat.le_of_ble_eq_true rfl) dL_moveHead_19
def f_L_length (p0 : Int32) (S : BO) (ob : Nat → Int64) : Option (Int32 × BO × (Nat → Int64)) := match f_X2_length p0 S with
  | none => none
  | some (.inl E) => if E = "java/lang/IndexOutOfBoundsException" then some (1, S, ob) else none
  | some (.inr r) => some (0, S, vp_updL ob 0 (Int32.toInt64 r))
abbrev rm_L_length : Room := { frames := 8, cells := 1, slots := 6, locals := 126 }
theorem np_L_length : yL_length.cls ≠ "java/lang/invoke/MethodHandle" ∧ yL_length.cls ≠ "java/lang/invoke/VarHandle" ∧ (parseMethodDescriptor yL_length.desc).map (fun d => d.parameters.length) = some 3 := by decide +kernel
theorem gv_RL_36 : GoodIn GW (wsV RL 36 RX2 yX2_length (.code yX2_length cX2_length 2 (some .int) :: GW)) := gw_app [Cond.methodLink RL 36 yX2_length, Cond.instanceMethod yX2_length, Cond.selects RX2 yX2_length yX2_length, Cond.initialized RX2, Cond.code yX2_length cX2_length 2 (some .int)] [352, 353, 354, 2, 355] (by decide +kernel) (by decide +kernel)
set_option maxHeartbeats 4000000 in
set_option maxRecDepth 100000 in
theorem k_L_length (l : Launch) (hst : l.stackTraces = false) (D : va_G) (cs : CS) (a : Nat → Nat → Nat) (b : Nat) (p0 : Int32) (S : BO) (ob : Nat → Int64) {r9 : Int32} {S9 : BO} {ob9 : Nat → Int64} (h : f_L_length p0 S ob = some (r9, S9, ob9)) : MW l D cs yL_length cL_length 4 [(0, 9, 12, 28)] rm_L_length [.ref (a 0 0), .int p0, .ref b] (wBO cs a b S ob) r9 (wBO cs a b S9 ob9) := by
  refine MW_of hst (by decide) (Nat.le_of_ble_eq_true rfl) ?_
  rintro Γ rfl rfl rfl B Z T ret
  show X Γ 4 0 0 0 [(0, .ref (a 0 0)), (1, .int p0), (2, .ref b)] [] (wBO Γ.cs a b S ob)
  unfold f_L_length at h
  obtain ⟨o1, e1, h1, h2⟩ : ∃ o1, f_X2_length p0 S = some o1 ∧ (∀ r, o1 = .inr r → some (0, S, vp_updL ob 0 (Int32.toInt64 r)) = some (r9, S9, ob9)) ∧ (∀ E, o1 = .inl E → (if E = "java/lang/IndexOutOfBoundsException" then some (1, S, ob) else none) = some (r9, S9, ob9)) := by
    split at h
    · cases h
    · exact ⟨_, by assumption, (fun r hr => by cases hr), fun E hE => by cases hE; exact h⟩
    · exact ⟨_, by assumption, (fun r hr => by cases hr; exact h), fun E hE => by cases hE⟩
  refine x_aload_n B (pc' := 1) 2 dL_length_0 rfl rfl rfl ?_
  refine x_iconst B (pc' := 2) 0 dL_length_1 (by decide) rfl ?_
  refine x_aload_n B (pc' := 3) 0 dL_length_2 rfl rfl rfl ?_
  refine x_iload_n B (pc' := 4) 1 dL_length_3 rfl rfl rfl ?_
  refine w_call B Z [.int p0] (k_X2_length _ hst _ _ a p0 S e1) gv_RL_36 rfl np_X2_length ⟨Nat.le_of_ble_eq_true rfl, Nat.le_of_ble_eq_true rfl⟩ ⟨by exact Nat.le_of_ble_eq_true rfl, by exact Nat.le_of_ble_eq_true rfl⟩ rfl (Nat.le_of_ble_eq_true rfl) dL_length_4 (pc' := 7) rfl (fun E hE => ?_) (fun r hr => ?_)
  · subst hE
    replace h := h2 E rfl
    by_cases c0 : E = "java/lang/IndexOutOfBoundsException"
    · rw [if_pos c0] at h
      obtain ⟨h3, h4, h5⟩ := some3 h
      subst h3
      subst h4
      subst h5
      subst c0
      refine x_catch B T [] (0, 9, 12, 28) [] rfl (fun z hz => absurd hz List.not_mem_nil) (by decide) (by decide) wl_RL_28 (by simp [castW]) (fun q => ?_)
      refine x_astore_n B (pc' := 13) [1, 2, 3, 0] [(0, .ref (a 0 0)), (1, .int p0), (2, .ref b), (3, .ref q)] dL_length_12 rfl (by decide) rfl rfl ?_
      refine x_iconst B (pc' := 14) 1 dL_length_13 (by decide) rfl ?_
      exact ret (by exact Nat.le_of_ble_eq_true rfl) (by exact Nat.le_of_ble_eq_true rfl) dL_length_14
    rw [if_neg c0] at h
    cases h
  · subst hr
    replace h := h1 r rfl
    obtain ⟨h3, h4, h5⟩ := some3 h
    subst h3
    subst h4
    subst h5
    refine x_i2l B (pc' := 8) dL_length_7 rfl ?_
    refine w_last B (pc' := 9) dL_length_8 rfl ?_
    refine x_goto B (pc' := 15) dL_length_9 (by decide) ?_
    refine x_iconst B (pc' := 16) 0 dL_length_15 (by decide) rfl ?_
    exact ret (by exact Nat.le_of_ble_eq_true rfl) (by exact Nat.le_of_ble_eq_true rfl) dL_length_16
def f_L_sound (p0 : Int32) (p1 : Int32) (S : BO) (ob : Nat → Int64) : Option (Int32 × BO × (Nat → Int64)) := match f_X2_sound p0 p1 S with
  | none => none
  | some (.inl E) => if E = "java/lang/IndexOutOfBoundsException" then some (1, S, ob) else none
  | some (.inr r) => some (0, S, vp_updL ob 0 (Int32.toInt64 r))
abbrev rm_L_sound : Room := { frames := 8, cells := 1, slots := 6, locals := 128 }
theorem np_L_sound : yL_sound.cls ≠ "java/lang/invoke/MethodHandle" ∧ yL_sound.cls ≠ "java/lang/invoke/VarHandle" ∧ (parseMethodDescriptor yL_sound.desc).map (fun d => d.parameters.length) = some 4 := by decide +kernel
theorem gv_RL_39 : GoodIn GW (wsV RL 39 RX2 yX2_sound (.code yX2_sound cX2_sound 3 (some .int) :: GW)) := gw_app [Cond.methodLink RL 39 yX2_sound, Cond.instanceMethod yX2_sound, Cond.selects RX2 yX2_sound yX2_sound, Cond.initialized RX2, Cond.code yX2_sound cX2_sound 3 (some .int)] [364, 365, 366, 2, 367] (by decide +kernel) (by decide +kernel)
set_option maxHeartbeats 4000000 in
set_option maxRecDepth 100000 in
theorem k_L_sound (l : Launch) (hst : l.stackTraces = false) (D : va_G) (cs : CS) (a : Nat → Nat → Nat) (b : Nat) (p0 : Int32) (p1 : Int32) (S : BO) (ob : Nat → Int64) {r9 : Int32} {S9 : BO} {ob9 : Nat → Int64} (h : f_L_sound p0 p1 S ob = some (r9, S9, ob9)) : MW l D cs yL_sound cL_sound 5 [(0, 10, 13, 28)] rm_L_sound [.ref (a 0 0), .int p0, .int p1, .ref b] (wBO cs a b S ob) r9 (wBO cs a b S9 ob9) := by
  refine MW_of hst (by decide) (Nat.le_of_ble_eq_true rfl) ?_
  rintro Γ rfl rfl rfl B Z T ret
  show X Γ 5 0 0 0 [(0, .ref (a 0 0)), (1, .int p0), (2, .int p1), (3, .ref b)] [] (wBO Γ.cs a b S ob)
  unfold f_L_sound at h
  obtain ⟨o1, e1, h1, h2⟩ : ∃ o1, f_X2_sound p0 p1 S = some o1 ∧ (∀ r, o1 = .inr r → some (0, S, vp_updL ob 0 (Int32.toInt64 r)) = some (r9, S9, ob9)) ∧ (∀ E, o1 = .inl E → (if E = "java/lang/IndexOutOfBoundsException" then some (1, S, ob) else none) = some (r9, S9, ob9)) := by
    split at h
    · cases h
    · exact ⟨_, by assumption, (fun r hr => by cases hr), fun E hE => by cases hE; exact h⟩
    · exact ⟨_, by assumption, (fun r hr => by cases hr; exact h), fun E hE => by cases hE⟩
  refine x_aload_n B (pc' := 1) 3 dL_sound_0 rfl rfl rfl ?_
  refine x_iconst B (pc' := 2) 0 dL_sound_1 (by decide) rfl ?_
  refine x_aload_n B (pc' := 3) 0 dL_sound_2 rfl rfl rfl ?_
  refine x_iload_n B (pc' := 4) 1 dL_sound_3 rfl rfl rfl ?_
  refine x_iload_n B (pc' := 5) 2 dL_sound_4 rfl rfl rfl ?_
  refine w_call B Z [.int p0, .int p1] (k_X2_sound _ hst _ _ a p0 p1 S e1) gv_RL_39 rfl np_X2_sound ⟨Nat.le_of_ble_eq_true rfl, Nat.le_of_ble_eq_true rfl⟩ ⟨by exact Nat.le_of_ble_eq_true rfl, by exact Nat.le_of_ble_eq_true rfl⟩ rfl (Nat.le_of_ble_eq_true rfl) dL_sound_5 (pc' := 8) rfl (fun E hE => ?_) (fun r hr => ?_)
  · subst hE
    replace h := h2 E rfl
    by_cases c0 : E = "java/lang/IndexOutOfBoundsException"
    · rw [if_pos c0] at h
      obtain ⟨h3, h4, h5⟩ := some3 h
      subst h3
      subst h4
      subst h5
      subst c0
      refine x_catch B T [] (0, 10, 13, 28) [] rfl (fun z hz => absurd hz List.not_mem_nil) (by decide) (by decide) wl_RL_28 (by simp [castW]) (fun q => ?_)
      refine x_astore B (pc' := 15) [1, 2, 3, 4, 0] [(0, .ref (a 0 0)), (1, .int p0), (2, .int p1), (3, .ref b), (4, .ref q)] dL_sound_13 (by decide) rfl rfl ?_
      refine x_iconst B (pc' := 16) 1 dL_sound_15 (by decide) rfl ?_
      exact ret (by exact Nat.le_of_ble_eq_true rfl) (by exact Nat.le_of_ble_eq_true rfl) dL_sound_16
    rw [if_neg c0] at h
    cases h
  · subst hr
    replace h := h1 r rfl
    obtain ⟨h3, h4, h5⟩ := some3 h
    subst h3
    subst h4
    subst h5
    refine x_i2l B (pc' := 9) dL_sound_8 rfl ?_
    refine w_last B (pc' := 10) dL_sound_9 rfl ?_
    refine x_goto B (pc' := 17) dL_sound_10 (by decide) ?_
    refine x_iconst B (pc' := 18) 0 dL_sound_17 (by decide) rfl ?_
    exact ret (by exact Nat.le_of_ble_eq_true rfl) (by exact Nat.le_of_ble_eq_true rfl) dL_sound_18
def f_L_cellOf (p0 : Int32) (p1 : Int32) (S : BO) (ob : Nat → Int64) : Option (Int32 × BO × (Nat → Int64)) := match f_X2_cellOf p0 p1 S with
  | none => none
  | some (.inl E) => if E = "java/lang/IndexOutOfBoundsException" then some (1, S, ob) else none
  | some (.inr r) => some (0, S, vp_updL ob 0 (Int32.toInt64 r))
abbrev rm_L_cellOf : Room := { frames := 8, cells := 1, slots := 6, locals := 128 }
theorem np_L_cellOf : yL_cellOf.cls ≠ "java/lang/invoke/MethodHandle" ∧ yL_cellOf.cls ≠ "java/lang/invoke/VarHandle" ∧ (parseMethodDescriptor yL_cellOf.desc).map (fun d => d.parameters.length) = some 4 := by decide +kernel
theorem gv_RL_43 : GoodIn GW (wsV RL 43 RX2 yX2_cellOf (.code yX2_cellOf cX2_cellOf 3 (some .int) :: GW)) := gw_app [Cond.methodLink RL 43 yX2_cellOf, Cond.instanceMethod yX2_cellOf, Cond.selects RX2 yX2_cellOf yX2_cellOf, Cond.initialized RX2, Cond.code yX2_cellOf cX2_cellOf 3 (some .int)] [393, 394, 395, 2, 396] (by decide +kernel) (by decide +kernel)
set_option maxHeartbeats 4000000 in
set_option maxRecDepth 100000 in
theorem k_L_cellOf (l : Launch) (hst : l.stackTraces = false) (D : va_G) (cs : CS) (a : Nat → Nat → Nat) (b : Nat) (p0 : Int32) (p1 : Int32) (S : BO) (ob : Nat → Int64) {r9 : Int32} {S9 : BO} {ob9 : Nat → Int64} (h : f_L_cellOf p0 p1 S ob = some (r9, S9, ob9)) : MW l D cs yL_cellOf cL_cellOf 5 [(0, 10, 13, 28)] rm_L_cellOf [.ref (a 0 0), .int p0, .int p1, .ref b] (wBO cs a b S ob) r9 (wBO cs a b S9 ob9) := by
  refine MW_of hst (by decide) (Nat.le_of_ble_eq_true rfl) ?_
  rintro Γ rfl rfl rfl B Z T ret
  show X Γ 5 0 0 0 [(0, .ref (a 0 0)), (1, .int p0), (2, .int p1), (3, .ref b)] [] (wBO Γ.cs a b S ob)
  unfold f_L_cellOf at h
  obtain ⟨o1, e1, h1, h2⟩ : ∃ o1, f_X2_cellOf p0 p1 S = some o1 ∧ (∀ r, o1 = .inr r → some (0, S, vp_updL ob 0 (Int32.toInt64 r)) = some (r9, S9, ob9)) ∧ (∀ E, o1 = .inl E → (if E = "java/lang/IndexOutOfBoundsException" then some (1, S, ob) else none) = some (r9, S9, ob9)) := by
    split at h
    · cases h
    · exact ⟨_, by assumption, (fun r hr => by cases hr), fun E hE => by cases hE; exact h⟩
    · exact ⟨_, by assumption, (fun r hr => by cases hr; exact h), fun E hE => by cases hE⟩
  refine x_aload_n B (pc' := 1) 3 dL_cellOf_0 rfl rfl rfl ?_
  refine x_iconst B (pc' := 2) 0 dL_cellOf_1 (by decide) rfl ?_
  refine x_aload_n B (pc' := 3) 0 dL_cellOf_2 rfl rfl rfl ?_
  refine x_iload_n B (pc' := 4) 1 dL_cellOf_3 rfl rfl rfl ?_
  refine x_iload_n B (pc' := 5) 2 dL_cellOf_4 rfl rfl rfl ?_
  refine w_call B Z [.int p0, .int p1] (k_X2_cellOf _ hst _ _ a p0 p1 S e1) gv_RL_43 rfl np_X2_cellOf ⟨Nat.le_of_ble_eq_true rfl, Nat.le_of_ble_eq_true rfl⟩ ⟨by exact Nat.le_of_ble_eq_true rfl, by exact Nat.le_of_ble_eq_true rfl⟩ rfl (Nat.le_of_ble_eq_true rfl) dL_cellOf_5 (pc' := 8) rfl (fun E hE => ?_) (fun r hr => ?_)
  · subst hE
    replace h := h2 E rfl
    by_cases c0 : E = "java/lang/IndexOutOfBoundsException"
    · rw [if_pos c0] at h
      obtain ⟨h3, h4, h5⟩ := some3 h
      subst h3
      subst h4
      subst h5
      subst c0
      refine x_catch B T [] (0, 10, 13, 28) [] rfl (fun z hz => absurd hz List.not_mem_nil) (by decide) (by decide) wl_RL_28 (by simp [castW]) (fun q => ?_)
      refine x_astore B (pc' := 15) [1, 2, 3, 4, 0] [(0, .ref (a 0 0)), (1, .int p0), (2, .int p1), (3, .ref b), (4, .ref q)] dL_cellOf_13 (by decide) rfl rfl ?_
      refine x_iconst B (pc' := 16) 1 dL_cellOf_15 (by decide) rfl ?_
      exact ret (by exact Nat.le_of_ble_eq_true rfl) (by exact Nat.le_of_ble_eq_true rfl) dL_cellOf_16
    rw [if_neg c0] at h
    cases h
  · subst hr
    replace h := h1 r rfl
    obtain ⟨h3, h4, h5⟩ := some3 h
    subst h3
    subst h4
    subst h5
    refine x_i2l B (pc' := 9) dL_cellOf_8 rfl ?_
    refine w_last B (pc' := 10) dL_cellOf_9 rfl ?_
    refine x_goto B (pc' := 17) dL_cellOf_10 (by decide) ?_
    refine x_iconst B (pc' := 18) 0 dL_cellOf_17 (by decide) rfl ?_
    exact ret (by exact Nat.le_of_ble_eq_true rfl) (by exact Nat.le_of_ble_eq_true rfl) dL_cellOf_18
def f_L_hasFlag (p0 : Int32) (S : BO) (ob : Nat → Int64) : Option (Int32 × BO × (Nat → Int64)) := match f_X2_hasFlag p0 S with
  | none => none
  | some (.inl E) => if E = "java/lang/IndexOutOfBoundsException" then some (1, S, ob) else none
  | some (.inr r) => some (0, S, vp_updL ob 0 (if r = 0 then (0 : Int64) else (1 : Int64)))
abbrev rm_L_hasFlag : Room := { frames := 8, cells := 1, slots := 6, locals := 126 }
theorem np_L_hasFlag : yL_hasFlag.cls ≠ "java/lang/invoke/MethodHandle" ∧ yL_hasFlag.cls ≠ "java/lang/invoke/VarHandle" ∧ (parseMethodDescriptor yL_hasFlag.desc).map (fun d => d.parameters.length) = some 3 := by decide +kernel
theorem gv_RL_46 : GoodIn GW (wsV RL 46 RX2 yX2_hasFlag (.code yX2_hasFlag cX2_hasFlag 2 (some .boolean) :: GW)) := gw_app [Cond.methodLink RL 46 yX2_hasFlag, Cond.instanceMethod yX2_hasFlag, Cond.selects RX2 yX2_hasFlag yX2_hasFlag, Cond.initialized RX2, Cond.code yX2_hasFlag cX2_hasFlag 2 (some .boolean)] [404, 405, 406, 2, 407] (by decide +kernel) (by decide +kernel)
set_option maxHeartbeats 4000000 in
set_option maxRecDepth 100000 in
theorem k_L_hasFlag (l : Launch) (hst : l.stackTraces = false) (D : va_G) (cs : CS) (a : Nat → Nat → Nat) (b : Nat) (p0 : Int32) (S : BO) (ob : Nat → Int64) {r9 : Int32} {S9 : BO} {ob9 : Nat → Int64} (h : f_L_hasFlag p0 S ob = some (r9, S9, ob9)) : MW l D cs yL_hasFlag cL_hasFlag 4 [(0, 16, 19, 28)] rm_L_hasFlag [.ref (a 0 0), .int p0, .ref b] (wBO cs a b S ob) r9 (wBO cs a b S9 ob9) := by
  refine MW_of hst (by decide) (Nat.le_of_ble_eq_true rfl) ?_
  rintro Γ rfl rfl rfl B Z T ret
  show X Γ 4 0 0 0 [(0, .ref (a 0 0)), (1, .int p0), (2, .ref b)] [] (wBO Γ.cs a b S ob)
  unfold f_L_hasFlag at h
  obtain ⟨o1, e1, h1, h2⟩ : ∃ o1, f_X2_hasFlag p0 S = some o1 ∧ (∀ r, o1 = .inr r → some (0, S, vp_updL ob 0 (if r = 0 then (0 : Int64) else (1 : Int64))) = some (r9, S9, ob9)) ∧ (∀ E, o1 = .inl E → (if E = "java/lang/IndexOutOfBoundsException" then some (1, S, ob) else none) = some (r9, S9, ob9)) := by
    split at h
    · cases h
    · exact ⟨_, by assumption, (fun r hr => by cases hr), fun E hE => by cases hE; exact h⟩
    · exact ⟨_, by assumption, (fun r hr => by cases hr; exact h), fun E hE => by cases hE⟩
  refine x_aload_n B (pc' := 1) 2 dL_hasFlag_0 rfl rfl rfl ?_
  refine x_iconst B (pc' := 2) 0 dL_hasFlag_1 (by decide) rfl ?_
  refine x_aload_n B (pc' := 3) 0 dL_hasFlag_2 rfl rfl rfl ?_
  refine x_iload_n B (pc' := 4) 1 dL_hasFlag_3 rfl rfl rfl ?_
  refine w_call B Z [.int p0] (k_X2_hasFlag _ hst _ _ a p0 S e1) gv_RL_46 rfl np_X2_hasFlag ⟨Nat.le_of_ble_eq_true rfl, Nat.le_of_ble_eq_true rfl⟩ ⟨by exact Nat.le_of_ble_eq_true rfl, by exact Nat.le_of_ble_eq_true rfl⟩ rfl (Nat.le_of_ble_eq_true rfl) dL_hasFlag_4 (pc' := 7) rfl (fun E hE => ?_) (fun r hr => ?_)
  · subst hE
    replace h := h2 E rfl
    by_cases c0 : E = "java/lang/IndexOutOfBoundsException"
    · rw [if_pos c0] at h
      obtain ⟨h3, h4, h5⟩ := some3 h
      subst h3
      subst h4
      subst h5
      subst c0
      refine x_catch B T [] (0, 16, 19, 28) [] rfl (fun z hz => absurd hz List.not_mem_nil) (by decide) (by decide) wl_RL_28 (by simp [castW]) (fun q => ?_)
      refine x_astore_n B (pc' := 20) [1, 2, 3, 0] [(0, .ref (a 0 0)), (1, .int p0), (2, .ref b), (3, .ref q)] dL_hasFlag_19 rfl (by decide) rfl rfl ?_
      refine x_iconst B (pc' := 21) 1 dL_hasFlag_20 (by decide) rfl ?_
      exact ret (by exact Nat.le_of_ble_eq_true rfl) (by exact Nat.le_of_ble_eq_true rfl) dL_hasFlag_21
    rw [if_neg c0] at h
    cases h
  · subst hr
    replace h := h1 r rfl
    obtain ⟨h3, h4, h5⟩ := some3 h
    subst h3
    subst h4
    subst h5
    refine x_if_eq B 14 10 dL_hasFlag_7 (by decide) rfl (fun hc => ?_) (fun hc => ?_)
    · rw [if_pos hc] at ret
      refine x_lconst B (pc' := 15) 0 dL_hasFlag_14 (by decide) rfl ?_
      refine w_last B (pc' := 16) dL_hasFlag_15 rfl ?_
      refine x_goto B (pc' := 22) dL_hasFlag_16 (by decide) ?_
      refine x_iconst B (pc' := 23) 0 dL_hasFlag_22 (by decide) rfl ?_
      exact ret (by exact Nat.le_of_ble_eq_true rfl) (by exact Nat.le_of_ble_eq_true rfl) dL_hasFlag_23
    · rw [if_neg hc] at ret
      refine x_lconst B (pc' := 11) 1 dL_hasFlag_10 (by decide) rfl ?_
      refine x_goto B (pc' := 15) dL_hasFlag_11 (by decide) ?_
      refine w_last B (pc' := 16) dL_hasFlag_15 rfl ?_
      refine x_goto B (pc' := 22) dL_hasFlag_16 (by decide) ?_
      refine x_iconst B (pc' := 23) 0 dL_hasFlag_22 (by decide) rfl ?_
      exact ret (by exact Nat.le_of_ble_eq_true rfl) (by exact Nat.le_of_ble_eq_true rfl) dL_hasFlag_23
def f_L_lost (p0 : Int32) (S : BO) (ob : Nat → Int64) : Option (Int32 × BO × (Nat → Int64)) := match f_X2_lost p0 S with
  | none => none
  | some (.inl E) => if E = "java/lang/IndexOutOfBoundsException" then some (1, S, ob) else none
  | some (.inr r) => some (0, S, vp_updL ob 0 (Int32.toInt64 r))
abbrev rm_L_lost : Room := { frames := 8, cells := 1, slots := 6, locals := 126 }
theorem np_L_lost : yL_lost.cls ≠ "java/lang/invoke/MethodHandle" ∧ yL_lost.cls ≠ "java/lang/invoke/VarHandle" ∧ (parseMethodDescriptor yL_lost.desc).map (fun d => d.parameters.length) = some 3 := by decide +kernel
theorem gv_RL_50 : GoodIn GW (wsV RL 50 RX2 yX2_lost (.code yX2_lost cX2_lost 2 (some .int) :: GW)) := gw_app [Cond.methodLink RL 50 yX2_lost, Cond.instanceMethod yX2_lost, Cond.selects RX2 yX2_lost yX2_lost, Cond.initialized RX2, Cond.code yX2_lost cX2_lost 2 (some .int)] [415, 416, 417, 2, 418] (by decide +kernel) (by decide +kernel)
set_option maxHeartbeats 4000000 in
set_option maxRecDepth 100000 in
theorem k_L_lost (l : Launch) (hst : l.stackTraces = false) (D : va_G) (cs : CS) (a : Nat → Nat → Nat) (b : Nat) (p0 : Int32) (S : BO) (ob : Nat → Int64) {r9 : Int32} {S9 : BO} {ob9 : Nat → Int64} (h : f_L_lost p0 S ob = some (r9, S9, ob9)) : MW l D cs yL_lost cL_lost 4 [(0, 9, 12, 28)] rm_L_lost [.ref (a 0 0), .int p0, .ref b] (wBO cs a b S ob) r9 (wBO cs a b S9 ob9) := by
  refine MW_of hst (by decide) (Nat.le_of_ble_eq_true rfl) ?_
  rintro Γ rfl rfl rfl B Z T ret
  show X Γ 4 0 0 0 [(0, .ref (a 0 0)), (1, .int p0), (2, .ref b)] [] (wBO Γ.cs a b S ob)
  unfold f_L_lost at h
  obtain ⟨o1, e1, h1, h2⟩ : ∃ o1, f_X2_lost p0 S = some o1 ∧ (∀ r, o1 = .inr r → some (0, S, vp_updL ob 0 (Int32.toInt64 r)) = some (r9, S9, ob9)) ∧ (∀ E, o1 = .inl E → (if E = "java/lang/IndexOutOfBoundsException" then some (1, S, ob) else none) = some (r9, S9, ob9)) := by
    split at h
    · cases h
    · exact ⟨_, by assumption, (fun r hr => by cases hr), fun E hE => by cases hE; exact h⟩
    · exact ⟨_, by assumption, (fun r hr => by cases hr; exact h), fun E hE => by cases hE⟩
  refine x_aload_n B (pc' := 1) 2 dL_lost_0 rfl rfl rfl ?_
  refine x_iconst B (pc' := 2) 0 dL_lost_1 (by decide) rfl ?_
  refine x_aload_n B (pc' := 3) 0 dL_lost_2 rfl rfl rfl ?_
  refine x_iload_n B (pc' := 4) 1 dL_lost_3 rfl rfl rfl ?_
  refine w_call B Z [.int p0] (k_X2_lost _ hst _ _ a p0 S e1) gv_RL_50 rfl np_X2_lost ⟨Nat.le_of_ble_eq_true rfl, Nat.le_of_ble_eq_true rfl⟩ ⟨by exact Nat.le_of_ble_eq_true rfl, by exact Nat.le_of_ble_eq_true rfl⟩ rfl (Nat.le_of_ble_eq_true rfl) dL_lost_4 (pc' := 7) rfl (fun E hE => ?_) (fun r hr => ?_)
  · subst hE
    replace h := h2 E rfl
    by_cases c0 : E = "java/lang/IndexOutOfBoundsException"
    · rw [if_pos c0] at h
      obtain ⟨h3, h4, h5⟩ := some3 h
      subst h3
      subst h4
      subst h5
      subst c0
      refine x_catch B T [] (0, 9, 12, 28) [] rfl (fun z hz => absurd hz List.not_mem_nil) (by decide) (by decide) wl_RL_28 (by simp [castW]) (fun q => ?_)
      refine x_astore_n B (pc' := 13) [1, 2, 3, 0] [(0, .ref (a 0 0)), (1, .int p0), (2, .ref b), (3, .ref q)] dL_lost_12 rfl (by decide) rfl rfl ?_
      refine x_iconst B (pc' := 14) 1 dL_lost_13 (by decide) rfl ?_
      exact ret (by exact Nat.le_of_ble_eq_true rfl) (by exact Nat.le_of_ble_eq_true rfl) dL_lost_14
    rw [if_neg c0] at h
    cases h
  · subst hr
    replace h := h1 r rfl
    obtain ⟨h3, h4, h5⟩ := some3 h
    subst h3
    subst h4
    subst h5
    refine x_i2l B (pc' := 8) dL_lost_7 rfl ?_
    refine w_last B (pc' := 9) dL_lost_8 rfl ?_
    refine x_goto B (pc' := 15) dL_lost_9 (by decide) ?_
    refine x_iconst B (pc' := 16) 0 dL_lost_15 (by decide) rfl ?_
    exact ret (by exact Nat.le_of_ble_eq_true rfl) (by exact Nat.le_of_ble_eq_true rfl) dL_lost_16
def f_L_owner (p0 : Int32) (S : BO) (ob : Nat → Int64) : Option (Int32 × BO × (Nat → Int64)) := match f_X2_owner p0 S with
  | none => none
  | some (.inl E) => if E = "java/lang/IndexOutOfBoundsException" then some (1, S, ob) else none
  | some (.inr r) => some (0, S, vp_updL ob 0 (Int32.toInt64 r))
abbrev rm_L_owner : Room := { frames := 8, cells := 1, slots := 6, locals := 125 }
theorem np_L_owner : yL_owner.cls ≠ "java/lang/invoke/MethodHandle" ∧ yL_owner.cls ≠ "java/lang/invoke/VarHandle" ∧ (parseMethodDescriptor yL_owner.desc).map (fun d => d.parameters.length) = some 3 := by decide +kernel
theorem gv_RL_53 : GoodIn GW (wsV RL 53 RX2 yX2_owner (.code yX2_owner cX2_owner 2 (some .int) :: GW)) := gw_app [Cond.methodLink RL 53 yX2_owner, Cond.instanceMethod yX2_owner, Cond.selects RX2 yX2_owner yX2_owner, Cond.initialized RX2, Cond.code yX2_owner cX2_owner 2 (some .int)] [427, 428, 429, 2, 430] (by decide +kernel) (by decide +kernel)
set_option maxHeartbeats 4000000 in
set_option maxRecDepth 100000 in
theorem k_L_owner (l : Launch) (hst : l.stackTraces = false) (D : va_G) (cs : CS) (a : Nat → Nat → Nat) (b : Nat) (p0 : Int32) (S : BO) (ob : Nat → Int64) {r9 : Int32} {S9 : BO} {ob9 : Nat → Int64} (h : f_L_owner p0 S ob = some (r9, S9, ob9)) : MW l D cs yL_owner cL_owner 4 [(0, 9, 12, 28)] rm_L_owner [.ref (a 0 0), .int p0, .ref b] (wBO cs a b S ob) r9 (wBO cs a b S9 ob9) := by
  refine MW_of hst (by decide) (Nat.le_of_ble_eq_true rfl) ?_
  rintro Γ rfl rfl rfl B Z T ret
  show X Γ 4 0 0 0 [(0, .ref (a 0 0)), (1, .int p0), (2, .ref b)] [] (wBO Γ.cs a b S ob)
  unfold f_L_owner at h
  obtain ⟨o1, e1, h1, h2⟩ : ∃ o1, f_X2_owner p0 S = some o1 ∧ (∀ r, o1 = .inr r → some (0, S, vp_updL ob 0 (Int32.toInt64 r)) = some (r9, S9, ob9)) ∧ (∀ E, o1 = .inl E → (if E = "java/lang/IndexOutOfBoundsException" then some (1, S, ob) else none) = some (r9, S9, ob9)) := by
    split at h
    · cases h
    · exact ⟨_, by assumption, (fun r hr => by cases hr), fun E hE => by cases hE; exact h⟩
    · exact ⟨_, by assumption, (fun r hr => by cases hr; exact h), fun E hE => by cases hE⟩
  refine x_aload_n B (pc' := 1) 2 dL_owner_0 rfl rfl rfl ?_
  refine x_iconst B (pc' := 2) 0 dL_owner_1 (by decide) rfl ?_
  refine x_aload_n B (pc' := 3) 0 dL_owner_2 rfl rfl rfl ?_
  refine x_iload_n B (pc' := 4) 1 dL_owner_3 rfl rfl rfl ?_
  refine w_call B Z [.int p0] (k_X2_owner _ hst _ _ a p0 S e1) gv_RL_53 rfl np_X2_owner ⟨Nat.le_of_ble_eq_true rfl, Nat.le_of_ble_eq_true rfl⟩ ⟨by exact Nat.le_of_ble_eq_true rfl, by exact Nat.le_of_ble_eq_true rfl⟩ rfl (Nat.le_of_ble_eq_true rfl) dL_owner_4 (pc' := 7) rfl (fun E hE => ?_) (fun r hr => ?_)
  · subst hE
    replace h := h2 E rfl
    by_cases c0 : E = "java/lang/IndexOutOfBoundsException"
    · rw [if_pos c0] at h
      obtain ⟨h3, h4, h5⟩ := some3 h
      subst h3
      subst h4
      subst h5
      subst c0
      refine x_catch B T [] (0, 9, 12, 28) [] rfl (fun z hz => absurd hz List.not_mem_nil) (by decide) (by decide) wl_RL_28 (by simp [castW]) (fun q => ?_)
      refine x_astore_n B (pc' := 13) [1, 2, 3, 0] [(0, .ref (a 0 0)), (1, .int p0), (2, .ref b), (3, .ref q)] dL_owner_12 rfl (by decide) rfl rfl ?_
      refine x_iconst B (pc' := 14) 1 dL_owner_13 (by decide) rfl ?_
      exact ret (by exact Nat.le_of_ble_eq_true rfl) (by exact Nat.le_of_ble_eq_true rfl) dL_owner_14
    rw [if_neg c0] at h
    cases h
  · subst hr
    replace h := h1 r rfl
    obtain ⟨h3, h4, h5⟩ := some3 h
    subst h3
    subst h4
    subst h5
    refine x_i2l B (pc' := 8) dL_owner_7 rfl ?_
    refine w_last B (pc' := 9) dL_owner_8 rfl ?_
    refine x_goto B (pc' := 15) dL_owner_9 (by decide) ?_
    refine x_iconst B (pc' := 16) 0 dL_owner_15 (by decide) rfl ?_
    exact ret (by exact Nat.le_of_ble_eq_true rfl) (by exact Nat.le_of_ble_eq_true rfl) dL_owner_16
def f_L_go (p0 : Int32) (S : BO) (ob : Nat → Int64) : Option (Int32 × BO × (Nat → Int64)) := match f_X2_go p0 S with
  | none => none
  | some (.inl E, S1) => if E = "java/lang/IndexOutOfBoundsException" then some (1, S1, ob) else none
  | some (.inr r, S1) => some (0, S1, vp_updL ob 0 (Int32.toInt64 r))
abbrev rm_L_go : Room := { frames := 8, cells := 1, slots := 6, locals := 127 }
theorem np_L_go : yL_go.cls ≠ "java/lang/invoke/MethodHandle" ∧ yL_go.cls ≠ "java/lang/invoke/VarHandle" ∧ (parseMethodDescriptor yL_go.desc).map (fun d => d.parameters.length) = some 3 := by decide +kernel
theorem gv_RL_56 : GoodIn GW (wsV RL 56 RX2 yX2_go (.code yX2_go cX2_go 2 (some .int) :: GW)) := gw_app [Cond.methodLink RL 56 yX2_go, Cond.instanceMethod yX2_go, Cond.selects RX2 yX2_go yX2_go, Cond.initialized RX2, Cond.code yX2_go cX2_go 2 (some .int)] [476, 477, 478, 2, 479] (by decide +kernel) (by decide +kernel)
set_option maxHeartbeats 4000000 in
set_option maxRecDepth 100000 in
theorem k_L_go (l : Launch) (hst : l.stackTraces = false) (D : va_G) (cs : CS) (a : Nat → Nat → Nat) (b : Nat) (p0 : Int32) (S : BO) (ob : Nat → Int64) {r9 : Int32} {S9 : BO} {ob9 : Nat → Int64} (h : f_L_go p0 S ob = some (r9, S9, ob9)) : MW l D cs yL_go cL_go 4 [(0, 9, 12, 28)] rm_L_go [.ref (a 0 0), .int p0, .ref b] (wBO cs a b S ob) r9 (wBO cs a b S9 ob9) := by
  refine MW_of hst (by decide) (Nat.le_of_ble_eq_true rfl) ?_
  rintro Γ rfl rfl rfl B Z T ret
  show X Γ 4 0 0 0 [(0, .ref (a 0 0)), (1, .int p0), (2, .ref b)] [] (wBO Γ.cs a b S ob)
  unfold f_L_go at h
  obtain ⟨o1, S1, e1, h1, h2⟩ : ∃ o1 S1, f_X2_go p0 S = some (o1, S1) ∧ (∀ r, o1 = .inr r → some (0, S1, vp_updL ob 0 (Int32.toInt64 r)) = some (r9, S9, ob9)) ∧ (∀ E, o1 = .inl E → (if E = "java/lang/IndexOutOfBoundsException" then some (1, S1, ob) else none) = some (r9, S9, ob9)) := by
    split at h
    · cases h
    · exact ⟨_, _, by assumption, (fun r hr => by cases hr), fun E hE => by cases hE; exact h⟩
    · exact ⟨_, _, by assumption, (fun r hr => by cases hr; exact h), fun E hE => by cases hE⟩
  refine x_aload_n B (pc' := 1) 2 dL_go_0 rfl rfl rfl ?_
  refine x_iconst B (pc' := 2) 0 dL_go_1 (by decide) rfl ?_
  refine x_aload_n B (pc' := 3) 0 dL_go_2 rfl rfl rfl ?_
  refine x_iload_n B (pc' := 4) 1 dL_go_3 rfl rfl rfl ?_
  refine w_call B Z [.int p0] (k_X2_go _ hst _ _ a p0 S e1) gv_RL_56 rfl np_X2_go ⟨Nat.le_of_ble_eq_true rfl, Nat.le_of_ble_eq_true rfl⟩ ⟨by exact Nat.le_of_ble_eq_true rfl, by exact Nat.le_of_ble_eq_true rfl⟩ rfl (Nat.le_of_ble_eq_true rfl) dL_go_4 (pc' := 7) rfl (fun E hE => ?_) (fun r hr => ?_)
  · subst hE
    replace h := h2 E rfl
    by_cases c0 : E = "java/lang/IndexOutOfBoundsException"
    · rw [if_pos c0] at h
      obtain ⟨h3, h4, h5⟩ := some3 h
      subst h3
      subst h4
      subst h5
      subst c0
      refine x_catch B T [] (0, 9, 12, 28) [] rfl (fun z hz => absurd hz List.not_mem_nil) (by decide) (by decide) wl_RL_28 (by simp [castW]) (fun q => ?_)
      refine x_astore_n B (pc' := 13) [1, 2, 3, 0] [(0, .ref (a 0 0)), (1, .int p0), (2, .ref b), (3, .ref q)] dL_go_12 rfl (by decide) rfl rfl ?_
      refine x_iconst B (pc' := 14) 1 dL_go_13 (by decide) rfl ?_
      exact ret (by exact Nat.le_of_ble_eq_true rfl) (by exact Nat.le_of_ble_eq_true rfl) dL_go_14
    rw [if_neg c0] at h
    cases h
  · subst hr
    replace h := h1 r rfl
    obtain ⟨h3, h4, h5⟩ := some3 h
    subst h3
    subst h4
    subst h5
    refine x_i2l B (pc' := 8) dL_go_7 rfl ?_
    refine w_last B (pc' := 9) dL_go_8 rfl ?_
    refine x_goto B (pc' := 15) dL_go_9 (by decide) ?_
    refine x_iconst B (pc' := 16) 0 dL_go_15 (by decide) rfl ?_
    exact ret (by exact Nat.le_of_ble_eq_true rfl) (by exact Nat.le_of_ble_eq_true rfl) dL_go_16
def f_L_play (S : BO) (ob : Nat → Int64) : Option (Int32 × BO × (Nat → Int64)) := match f_X2_play S with
  | none => none
  | some (.inl E, S1) => if E = "java/lang/IllegalStateException" then some (1, S1, ob) else none
  | some (.inr r, S1) => some (0, S1, vp_updL ob 0 (Int32.toInt64 r))
abbrev rm_L_play : Room := { frames := 8, cells := 1, slots := 6, locals := 126 }
theorem np_L_play : yL_play.cls ≠ "java/lang/invoke/MethodHandle" ∧ yL_play.cls ≠ "java/lang/invoke/VarHandle" ∧ (parseMethodDescriptor yL_play.desc).map (fun d => d.parameters.length) = some 2 := by decide +kernel
theorem gv_RL_59 : GoodIn GW (wsV RL 59 RX2 yX2_play (.code yX2_play cX2_play 1 (some .int) :: GW)) := gw_app [Cond.methodLink RL 59 yX2_play, Cond.instanceMethod yX2_play, Cond.selects RX2 yX2_play yX2_play, Cond.initialized RX2, Cond.code yX2_play cX2_play 1 (some .int)] [495, 496, 497, 2, 498] (by decide +kernel) (by decide +kernel)
set_option maxHeartbeats 4000000 in
set_option maxRecDepth 100000 in
theorem k_L_play (l : Launch) (hst : l.stackTraces = false) (D : va_G) (cs : CS) (a : Nat → Nat → Nat) (b : Nat) (S : BO) (ob : Nat → Int64) {r9 : Int32} {S9 : BO} {ob9 : Nat → Int64} (h : f_L_play S ob = some (r9, S9, ob9)) : MW l D cs yL_play cL_play 3 [(0, 8, 11, 13)] rm_L_play [.ref (a 0 0), .ref b] (wBO cs a b S ob) r9 (wBO cs a b S9 ob9) := by
  refine MW_of hst (by decide) (Nat.le_of_ble_eq_true rfl) ?_
  rintro Γ rfl rfl rfl B Z T ret
  show X Γ 3 0 0 0 [(0, .ref (a 0 0)), (1, .ref b)] [] (wBO Γ.cs a b S ob)
  unfold f_L_play at h
  obtain ⟨o1, S1, e1, h1, h2⟩ : ∃ o1 S1, f_X2_play S = some (o1, S1) ∧ (∀ r, o1 = .inr r → some (0, S1, vp_updL ob 0 (Int32.toInt64 r)) = some (r9, S9, ob9)) ∧ (∀ E, o1 = .inl E → (if E = "java/lang/IllegalStateException" then some (1, S1, ob) else none) = some (r9, S9, ob9)) := by
    split at h
    · cases h
    · exact ⟨_, _, by assumption, (fun r hr => by cases hr), fun E hE => by cases hE; exact h⟩
    · exact ⟨_, _, by assumption, (fun r hr => by cases hr; exact h), fun E hE => by cases hE⟩
  refine x_aload_n B (pc' := 1) 1 dL_play_0 rfl rfl rfl ?_
  refine x_iconst B (pc' := 2) 0 dL_play_1 (by decide) rfl ?_
  refine x_aload_n B (pc' := 3) 0 dL_play_2 rfl rfl rfl ?_
  refine w_call B Z [] (k_X2_play _ hst _ _ a S e1) gv_RL_59 rfl np_X2_play ⟨Nat.le_of_ble_eq_true rfl, Nat.le_of_ble_eq_true rfl⟩ ⟨by exact Nat.le_of_ble_eq_true rfl, by exact Nat.le_of_ble_eq_true rfl⟩ rfl (Nat.le_of_ble_eq_true rfl) dL_play_3 (pc' := 6) rfl (fun E hE => ?_) (fun r hr => ?_)
  · subst hE
    replace h := h2 E rfl
    by_cases c0 : E = "java/lang/IllegalStateException"
    · rw [if_pos c0] at h
      obtain ⟨h3, h4, h5⟩ := some3 h
      subst h3
      subst h4
      subst h5
      subst c0
      refine x_catch B T [] (0, 8, 11, 13) [] rfl (fun z hz => absurd hz List.not_mem_nil) (by decide) (by decide) wl_RL_13 (by simp [castW]) (fun q => ?_)
      refine x_astore_n B (pc' := 12) [1, 2, 0] [(0, .ref (a 0 0)), (1, .ref b), (2, .ref q)] dL_play_11 rfl (by decide) rfl rfl ?_
      refine x_iconst B (pc' := 13) 1 dL_play_12 (by decide) rfl ?_
      exact ret (by exact Nat.le_of_ble_eq_true rfl) (by exact Nat.le_of_ble_eq_true rfl) dL_play_13
    rw [if_neg c0] at h
    cases h
  · subst hr
    replace h := h1 r rfl
    obtain ⟨h3, h4, h5⟩ := some3 h
    subst h3
    subst h4
    subst h5
    refine x_i2l B (pc' := 7) dL_play_6 rfl ?_
    refine w_last B (pc' := 8) dL_play_7 rfl ?_
    refine x_goto B (pc' := 14) dL_play_8 (by decide) ?_
    refine x_iconst B (pc' := 15) 0 dL_play_14 (by decide) rfl ?_
    exact ret (by exact Nat.le_of_ble_eq_true rfl) (by exact Nat.le_of_ble_eq_true rfl) dL_play_15
def f_L_back (p0 : Int32) (S : BO) (ob : Nat → Int64) : Option (Int32 × BO × (Nat → Int64)) := match f_X2_back p0 S with
  | none => none
  | some (.inl E, S1) => if E = "java/lang/IllegalArgumentException" then some (1, S1, ob) else if E = "java/lang/IllegalStateException" then some (2, S1, ob) else none
  | some (.inr r, S1) => some (0, S1, vp_updL ob 0 (Int32.toInt64 r))
abbrev rm_L_back : Room := { frames := 8, cells := 2, slots := 12, locals := 127 }
theorem np_L_back : yL_back.cls ≠ "java/lang/invoke/MethodHandle" ∧ yL_back.cls ≠ "java/lang/invoke/VarHandle" ∧ (parseMethodDescriptor yL_back.desc).map (fun d => d.parameters.length) = some 3 := by decide +kernel
theorem gv_RL_62 : GoodIn GW (wsV RL 62 RX2 yX2_back (.code yX2_back cX2_back 2 (some .int) :: GW)) := gw_app [Cond.methodLink RL 62 yX2_back, Cond.instanceMethod yX2_back, Cond.selects RX2 yX2_back yX2_back, Cond.initialized RX2, Cond.code yX2_back cX2_back 2 (some .int)] [520, 521, 522, 2, 523] (by decide +kernel) (by decide +kernel)
theorem pass_L_back_1 : ∀ z ∈ ([(0, 9, 12, 22)] : List (Nat × Nat × Nat × Nat)), z.2.2.2 ≠ 0 ∧ ∃ nm : String, Cond.classLink RL z.2.2.2 nm ∈ GW ∧ ("java/lang/IllegalStateException", nm) ∈ ncW := by
  intro z hz
  simp only [List.mem_cons, List.not_mem_nil, or_false] at hz
  subst hz
  exact ⟨by decide, "java/lang/IllegalArgumentException", wl_RL_22, by decide +kernel⟩
set_option maxHeartbeats 4000000 in
set_option maxRecDepth 100000 in
theorem k_L_back (l : Launch) (hst : l.stackTraces = false) (D : va_G) (cs : CS) (a : Nat → Nat → Nat) (b : Nat) (p0 : Int32) (S : BO) (ob : Nat → Int64) {r9 : Int32} {S9 : BO} {ob9 : Nat → Int64} (h : f_L_back p0 S ob = some (r9, S9, ob9)) : MW l D cs yL_back cL_back 4 [(0, 9, 12, 22), (0, 9, 15, 13)] rm_L_back [.ref (a 0 0), .int p0, .ref b] (wBO cs a b S ob) r9 (wBO cs a b S9 ob9) := by
  refine MW_of hst (by decide) (Nat.le_of_ble_eq_true rfl) ?_
  rintro Γ rfl rfl rfl B Z T ret
  show X Γ 4 0 0 0 [(0, .ref (a 0 0)), (1, .int p0), (2, .ref b)] [] (wBO Γ.cs a b S ob)
  unfold f_L_back at h
  obtain ⟨o1, S1, e1, h1, h2⟩ : ∃ o1 S1, f_X2_back p0 S = some (o1, S1) ∧ (∀ r, o1 = .inr r → some (0, S1, vp_updL ob 0 (Int32.toInt64 r)) = some (r9, S9, ob9)) ∧ (∀ E, o1 = .inl E → (if E = "java/lang/IllegalArgumentException" then some (1, S1, ob) else if E = "java/lang/IllegalStateException" then some (2, S1, ob) else none) = some (r9, S9, ob9)) := by
    split at h
    · cases h
    · exact ⟨_, _, by assumption, (fun r hr => by cases hr), fun E hE => by cases hE; exact h⟩
    · exact ⟨_, _, by assumption, (fun r hr => by cases hr; exact h), fun E hE => by cases hE⟩
  refine x_aload_n B (pc' := 1) 2 dL_back_0 rfl rfl rfl ?_
  refine x_iconst B (pc' := 2) 0 dL_back_1 (by decide) rfl ?_
  refine x_aload_n B (pc' := 3) 0 dL_back_2 rfl rfl rfl ?_
  refine x_iload_n B (pc' := 4) 1 dL_back_3 rfl rfl rfl ?_
  refine w_call B Z [.int p0] (k_X2_back _ hst _ _ a p0 S e1) gv_RL_62 rfl np_X2_back ⟨Nat.le_of_ble_eq_true rfl, Nat.le_of_ble_eq_true rfl⟩ ⟨by exact Nat.le_of_ble_eq_true rfl, by exact Nat.le_of_ble_eq_true rfl⟩ rfl (Nat.le_of_ble_eq_true rfl) dL_back_4 (pc' := 7) rfl (fun E hE => ?_) (fun r hr => ?_)
  · subst hE
    replace h := h2 E rfl
    by_cases c0 : E = "java/lang/IllegalArgumentException"
    · rw [if_pos c0] at h
      obtain ⟨h3, h4, h5⟩ := some3 h
      subst h3
      subst h4
      subst h5
      subst c0
      refine x_catch B T [] (0, 9, 12, 22) [(0, 9, 15, 13)] rfl (fun z hz => absurd hz List.not_mem_nil) (by decide) (by decide) wl_RL_22 (by simp [castW]) (fun q => ?_)
      refine x_astore_n B (pc' := 13) [1, 2, 3, 0] [(0, .ref (a 0 0)), (1, .int p0), (2, .ref b), (3, .ref q)] dL_back_12 rfl (by decide) rfl rfl ?_
      refine x_iconst B (pc' := 14) 1 dL_back_13 (by decide) rfl ?_
      exact ret (by exact Nat.le_of_ble_eq_true rfl) (by exact Nat.le_of_ble_eq_true rfl) dL_back_14
    rw [if_neg c0] at h
    by_cases c1 : E = "java/lang/IllegalStateException"
    · rw [if_pos c1] at h
      obtain ⟨h3, h4, h5⟩ := some3 h
      subst h3
      subst h4
      subst h5
      subst c1
      refine x_catch B T [(0, 9, 12, 22)] (0, 9, 15, 13) [] rfl (pass_L_back_1) (by decide) (by decide) wl_RL_13 (by simp [castW]) (fun q => ?_)
      refine x_astore_n B (pc' := 16) [1, 2, 3, 0] [(0, .ref (a 0 0)), (1, .int p0), (2, .ref b), (3, .ref q)] dL_back_15 rfl (by decide) rfl rfl ?_
      refine x_iconst B (pc' := 17) 2 dL_back_16 (by decide) rfl ?_
      exact ret (by exact Nat.le_of_ble_eq_true rfl) (by exact Nat.le_of_ble_eq_true rfl) dL_back_17
    rw [if_neg c1] at h
    cases h
  · subst hr
    replace h := h1 r rfl
    obtain ⟨h3, h4, h5⟩ := some3 h
    subst h3
    subst h4
    subst h5
    refine x_i2l B (pc' := 8) dL_back_7 rfl ?_
    refine w_last B (pc' := 9) dL_back_8 rfl ?_
    refine x_goto B (pc' := 18) dL_back_9 (by decide) ?_
    refine x_iconst B (pc' := 19) 0 dL_back_18 (by decide) rfl ?_
    exact ret (by exact Nat.le_of_ble_eq_true rfl) (by exact Nat.le_of_ble_eq_true rfl) dL_back_19
def f_L_correct (p0 : Int32) (p1 : Int32) (p2 : Int32) (S : BO) (ob : Nat → Int64) : Option (Int32 × BO × (Nat → Int64)) := match f_X2_correct p0 p1 p2 S with
  | none => none
  | some (.inl E, S1) => if E = "java/lang/IndexOutOfBoundsException" then some (1, S1, ob) else if E = "java/lang/IllegalArgumentException" then some (2, S1, ob) else if E = "java/lang/IllegalStateException" then some (3, S1, ob) else none
  | some (.inr r, S1) => some (0, S1, vp_updL ob 0 (Int32.toInt64 r))
abbrev rm_L_correct : Room := { frames := 8, cells := 4, slots := 24, locals := 131 }
theorem np_L_correct : yL_correct.cls ≠ "java/lang/invoke/MethodHandle" ∧ yL_correct.cls ≠ "java/lang/invoke/VarHandle" ∧ (parseMethodDescriptor yL_correct.desc).map (fun d => d.parameters.length) = some 5 := by decide +kernel
theorem gv_RL_65 : GoodIn GW (wsV RL 65 RX2 yX2_correct (.code yX2_correct cX2_correct 6 (some .int) :: GW)) := gw_app [Cond.methodLink RL 65 yX2_correct, Cond.instanceMethod yX2_correct, Cond.selects RX2 yX2_correct yX2_correct, Cond.initialized RX2, Cond.code yX2_correct cX2_correct 6 (some .int)] [560, 561, 562, 2, 563] (by decide +kernel) (by decide +kernel)
theorem pass_L_correct_1 : ∀ z ∈ ([(0, 12, 15, 28)] : List (Nat × Nat × Nat × Nat)), z.2.2.2 ≠ 0 ∧ ∃ nm : String, Cond.classLink RL z.2.2.2 nm ∈ GW ∧ ("java/lang/IllegalArgumentException", nm) ∈ ncW := by
  intro z hz
  simp only [List.mem_cons, List.not_mem_nil, or_false] at hz
  subst hz
  exact ⟨by decide, "java/lang/IndexOutOfBoundsException", wl_RL_28, by decide +kernel⟩
theorem pass_L_correct_2 : ∀ z ∈ ([(0, 12, 15, 28), (0, 12, 19, 22)] : List (Nat × Nat × Nat × Nat)), z.2.2.2 ≠ 0 ∧ ∃ nm : String, Cond.classLink RL z.2.2.2 nm ∈ GW ∧ ("java/lang/IllegalStateException", nm) ∈ ncW := by
  intro z hz
  simp only [List.mem_cons, List.not_mem_nil, or_false] at hz
  rcases hz with rfl | rfl
  · exact ⟨by decide, "java/lang/IndexOutOfBoundsException", wl_RL_28, by decide +kernel⟩
  · exact ⟨by decide, "java/lang/IllegalArgumentException", wl_RL_22, by decide +kernel⟩
set_option maxHeartbeats 4000000 in
set_option maxRecDepth 100000 in
theorem k_L_correct (l : Launch) (hst : l.stackTraces = false) (D : va_G) (cs : CS) (a : Nat → Nat → Nat) (b : Nat) (p0 : Int32) (p1 : Int32) (p2 : Int32) (S : BO) (ob : Nat → Int64) {r9 : Int32} {S9 : BO} {ob9 : Nat → Int64} (h : f_L_correct p0 p1 p2 S ob = some (r9, S9, ob9)) : MW l D cs yL_correct cL_correct 6 [(0, 12, 15, 28), (0, 12, 19, 22), (0, 12, 23, 13)] rm_L_correct [.ref (a 0 0), .int p0, .int p1, .int p2, .ref b] (wBO cs a b S ob) r9 (wBO cs a b S9 ob9) := by
  refine MW_of hst (by decide) (Nat.le_of_ble_eq_true rfl) ?_
  rintro Γ rfl rfl rfl B Z T ret
  show X Γ 6 0 0 0 [(0, .ref (a 0 0)), (1, .int p0), (2, .int p1), (3, .int p2), (4, .ref b)] [] (wBO Γ.cs a b S ob)
  unfold f_L_correct at h
  obtain ⟨o1, S1, e1, h1, h2⟩ : ∃ o1 S1, f_X2_correct p0 p1 p2 S = some (o1, S1) ∧ (∀ r, o1 = .inr r → some (0, S1, vp_updL ob 0 (Int32.toInt64 r)) = some (r9, S9, ob9)) ∧ (∀ E, o1 = .inl E → (if E = "java/lang/IndexOutOfBoundsException" then some (1, S1, ob) else if E = "java/lang/IllegalArgumentException" then some (2, S1, ob) else if E = "java/lang/IllegalStateException" then some (3, S1, ob) else none) = some (r9, S9, ob9)) := by
    split at h
    · cases h
    · exact ⟨_, _, by assumption, (fun r hr => by cases hr), fun E hE => by cases hE; exact h⟩
    · exact ⟨_, _, by assumption, (fun r hr => by cases hr; exact h), fun E hE => by cases hE⟩
  refine x_aload B (pc' := 2) 4 dL_correct_0 rfl rfl ?_
  refine x_iconst B (pc' := 3) 0 dL_correct_2 (by decide) rfl ?_
  refine x_aload_n B (pc' := 4) 0 dL_correct_3 rfl rfl rfl ?_
  refine x_iload_n B (pc' := 5) 1 dL_correct_4 rfl rfl rfl ?_
  refine x_iload_n B (pc' := 6) 2 dL_correct_5 rfl rfl rfl ?_
  refine x_iload_n B (pc' := 7) 3 dL_correct_6 rfl rfl rfl ?_
  refine w_call B Z [.int p0, .int p1, .int p2] (k_X2_correct _ hst _ _ a p0 p1 p2 S e1) gv_RL_65 rfl np_X2_correct ⟨Nat.le_of_ble_eq_true rfl, Nat.le_of_ble_eq_true rfl⟩ ⟨by exact Nat.le_of_ble_eq_true rfl, by exact Nat.le_of_ble_eq_true rfl⟩ rfl (Nat.le_of_ble_eq_true rfl) dL_correct_7 (pc' := 10) rfl (fun E hE => ?_) (fun r hr => ?_)
  · subst hE
    replace h := h2 E rfl
    by_cases c0 : E = "java/lang/IndexOutOfBoundsException"
    · rw [if_pos c0] at h
      obtain ⟨h3, h4, h5⟩ := some3 h
      subst h3
      subst h4
      subst h5
      subst c0
      refine x_catch B T [] (0, 12, 15, 28) [(0, 12, 19, 22), (0, 12, 23, 13)] rfl (fun z hz => absurd hz List.not_mem_nil) (by decide) (by decide) wl_RL_28 (by simp [castW]) (fun q => ?_)
      refine x_astore B (pc' := 17) [1, 2, 3, 4, 5, 0] [(0, .ref (a 0 0)), (1, .int p0), (2, .int p1), (3, .int p2), (4, .ref b), (5, .ref q)] dL_correct_15 (by decide) rfl rfl ?_
      refine x_iconst B (pc' := 18) 1 dL_correct_17 (by decide) rfl ?_
      exact ret (by exact Nat.le_of_ble_eq_true rfl) (by exact Nat.le_of_ble_eq_true rfl) dL_correct_18
    rw [if_neg c0] at h
    by_cases c1 : E = "java/lang/IllegalArgumentException"
    · rw [if_pos c1] at h
      obtain ⟨h3, h4, h5⟩ := some3 h
      subst h3
      subst h4
      subst h5
      subst c1
      refine x_catch B T [(0, 12, 15, 28)] (0, 12, 19, 22) [(0, 12, 23, 13)] rfl (pass_L_correct_1) (by decide) (by decide) wl_RL_22 (by simp [castW]) (fun q => ?_)
      refine x_astore B (pc' := 21) [1, 2, 3, 4, 5, 0] [(0, .ref (a 0 0)), (1, .int p0), (2, .int p1), (3, .int p2), (4, .ref b), (5, .ref q)] dL_correct_19 (by decide) rfl rfl ?_
      refine x_iconst B (pc' := 22) 2 dL_correct_21 (by decide) rfl ?_
      exact ret (by exact Nat.le_of_ble_eq_true rfl) (by exact Nat.le_of_ble_eq_true rfl) dL_correct_22
    rw [if_neg c1] at h
    by_cases c2 : E = "java/lang/IllegalStateException"
    · rw [if_pos c2] at h
      obtain ⟨h3, h4, h5⟩ := some3 h
      subst h3
      subst h4
      subst h5
      subst c2
      refine x_catch B T [(0, 12, 15, 28), (0, 12, 19, 22)] (0, 12, 23, 13) [] rfl (pass_L_correct_2) (by decide) (by decide) wl_RL_13 (by simp [castW]) (fun q => ?_)
      refine x_astore B (pc' := 25) [1, 2, 3, 4, 5, 0] [(0, .ref (a 0 0)), (1, .int p0), (2, .int p1), (3, .int p2), (4, .ref b), (5, .ref q)] dL_correct_23 (by decide) rfl rfl ?_
      refine x_iconst B (pc' := 26) 3 dL_correct_25 (by decide) rfl ?_
      exact ret (by exact Nat.le_of_ble_eq_true rfl) (by exact Nat.le_of_ble_eq_true rfl) dL_correct_26
    rw [if_neg c2] at h
    cases h
  · subst hr
    replace h := h1 r rfl
    obtain ⟨h3, h4, h5⟩ := some3 h
    subst h3
    subst h4
    subst h5
    refine x_i2l B (pc' := 11) dL_correct_10 rfl ?_
    refine w_last B (pc' := 12) dL_correct_11 rfl ?_
    refine x_goto B (pc' := 27) dL_correct_12 (by decide) ?_
    refine x_iconst B (pc' := 28) 0 dL_correct_27 (by decide) rfl ?_
    exact ret (by exact Nat.le_of_ble_eq_true rfl) (by exact Nat.le_of_ble_eq_true rfl) dL_correct_28
def f_L_carbon (p0 : Int32) (p1 : Int32) (S : BO) (ob : Nat → Int64) : Option (Int32 × BO × (Nat → Int64)) := match f_X2_carbon p0 p1 S with
  | none => none
  | some (.inl E) => if E = "java/lang/IndexOutOfBoundsException" then some (1, S, ob) else none
  | some (.inr r) => some (0, S, vp_updL ob 0 (Int32.toInt64 r))
abbrev rm_L_carbon : Room := { frames := 8, cells := 1, slots := 6, locals := 128 }
theorem np_L_carbon : yL_carbon.cls ≠ "java/lang/invoke/MethodHandle" ∧ yL_carbon.cls ≠ "java/lang/invoke/VarHandle" ∧ (parseMethodDescriptor yL_carbon.desc).map (fun d => d.parameters.length) = some 4 := by decide +kernel
theorem gv_RL_69 : GoodIn GW (wsV RL 69 RX2 yX2_carbon (.code yX2_carbon cX2_carbon 3 (some .int) :: GW)) := gw_app [Cond.methodLink RL 69 yX2_carbon, Cond.instanceMethod yX2_carbon, Cond.selects RX2 yX2_carbon yX2_carbon, Cond.initialized RX2, Cond.code yX2_carbon cX2_carbon 3 (some .int)] [572, 573, 574, 2, 575] (by decide +kernel) (by decide +kernel)
set_option maxHeartbeats 4000000 in
set_option maxRecDepth 100000 in
theorem k_L_carbon (l : Launch) (hst : l.stackTraces = false) (D : va_G) (cs : CS) (a : Nat → Nat → Nat) (b : Nat) (p0 : Int32) (p1 : Int32) (S : BO) (ob : Nat → Int64) {r9 : Int32} {S9 : BO} {ob9 : Nat → Int64} (h : f_L_carbon p0 p1 S ob = some (r9, S9, ob9)) : MW l D cs yL_carbon cL_carbon 5 [(0, 10, 13, 28)] rm_L_carbon [.ref (a 0 0), .int p0, .int p1, .ref b] (wBO cs a b S ob) r9 (wBO cs a b S9 ob9) := by
  refine MW_of hst (by decide) (Nat.le_of_ble_eq_true rfl) ?_
  rintro Γ rfl rfl rfl B Z T ret
  show X Γ 5 0 0 0 [(0, .ref (a 0 0)), (1, .int p0), (2, .int p1), (3, .ref b)] [] (wBO Γ.cs a b S ob)
  unfold f_L_carbon at h
  obtain ⟨o1, e1, h1, h2⟩ : ∃ o1, f_X2_carbon p0 p1 S = some o1 ∧ (∀ r, o1 = .inr r → some (0, S, vp_updL ob 0 (Int32.toInt64 r)) = some (r9, S9, ob9)) ∧ (∀ E, o1 = .inl E → (if E = "java/lang/IndexOutOfBoundsException" then some (1, S, ob) else none) = some (r9, S9, ob9)) := by
    split at h
    · cases h
    · exact ⟨_, by assumption, (fun r hr => by cases hr), fun E hE => by cases hE; exact h⟩
    · exact ⟨_, by assumption, (fun r hr => by cases hr; exact h), fun E hE => by cases hE⟩
  refine x_aload_n B (pc' := 1) 3 dL_carbon_0 rfl rfl rfl ?_
  refine x_iconst B (pc' := 2) 0 dL_carbon_1 (by decide) rfl ?_
  refine x_aload_n B (pc' := 3) 0 dL_carbon_2 rfl rfl rfl ?_
  refine x_iload_n B (pc' := 4) 1 dL_carbon_3 rfl rfl rfl ?_
  refine x_iload_n B (pc' := 5) 2 dL_carbon_4 rfl rfl rfl ?_
  refine w_call B Z [.int p0, .int p1] (k_X2_carbon _ hst _ _ a p0 p1 S e1) gv_RL_69 rfl np_X2_carbon ⟨Nat.le_of_ble_eq_true rfl, Nat.le_of_ble_eq_true rfl⟩ ⟨by exact Nat.le_of_ble_eq_true rfl, by exact Nat.le_of_ble_eq_true rfl⟩ rfl (Nat.le_of_ble_eq_true rfl) dL_carbon_5 (pc' := 8) rfl (fun E hE => ?_) (fun r hr => ?_)
  · subst hE
    replace h := h2 E rfl
    by_cases c0 : E = "java/lang/IndexOutOfBoundsException"
    · rw [if_pos c0] at h
      obtain ⟨h3, h4, h5⟩ := some3 h
      subst h3
      subst h4
      subst h5
      subst c0
      refine x_catch B T [] (0, 10, 13, 28) [] rfl (fun z hz => absurd hz List.not_mem_nil) (by decide) (by decide) wl_RL_28 (by simp [castW]) (fun q => ?_)
      refine x_astore B (pc' := 15) [1, 2, 3, 4, 0] [(0, .ref (a 0 0)), (1, .int p0), (2, .int p1), (3, .ref b), (4, .ref q)] dL_carbon_13 (by decide) rfl rfl ?_
      refine x_iconst B (pc' := 16) 1 dL_carbon_15 (by decide) rfl ?_
      exact ret (by exact Nat.le_of_ble_eq_true rfl) (by exact Nat.le_of_ble_eq_true rfl) dL_carbon_16
    rw [if_neg c0] at h
    cases h
  · subst hr
    replace h := h1 r rfl
    obtain ⟨h3, h4, h5⟩ := some3 h
    subst h3
    subst h4
    subst h5
    refine x_i2l B (pc' := 9) dL_carbon_8 rfl ?_
    refine w_last B (pc' := 10) dL_carbon_9 rfl ?_
    refine x_goto B (pc' := 17) dL_carbon_10 (by decide) ?_
    refine x_iconst B (pc' := 18) 0 dL_carbon_17 (by decide) rfl ?_
    exact ret (by exact Nat.le_of_ble_eq_true rfl) (by exact Nat.le_of_ble_eq_true rfl) dL_carbon_18
def f_L_lossOf (p0 : Int32) (p1 : Int32) (S : BO) (ob : Nat → Int64) : Option (Int32 × BO × (Nat → Int64)) := match f_X2_lossOf p0 p1 S with
  | none => none
  | some (.inl E) => if E = "java/lang/IndexOutOfBoundsException" then some (1, S, ob) else if E = "java/lang/IllegalArgumentException" then some (2, S, ob) else none
  | some (.inr r) => some (0, S, vp_updL ob 0 (Int32.toInt64 r))
abbrev rm_L_lossOf : Room := { frames := 8, cells := 2, slots := 12, locals := 127 }
theorem np_L_lossOf : yL_lossOf.cls ≠ "java/lang/invoke/MethodHandle" ∧ yL_lossOf.cls ≠ "java/lang/invoke/VarHandle" ∧ (parseMethodDescriptor yL_lossOf.desc).map (fun d => d.parameters.length) = some 4 := by decide +kernel
theorem gv_RL_72 : GoodIn GW (wsV RL 72 RX2 yX2_lossOf (.code yX2_lossOf cX2_lossOf 3 (some .int) :: GW)) := gw_app [Cond.methodLink RL 72 yX2_lossOf, Cond.instanceMethod yX2_lossOf, Cond.selects RX2 yX2_lossOf yX2_lossOf, Cond.initialized RX2, Cond.code yX2_lossOf cX2_lossOf 3 (some .int)] [625, 626, 627, 2, 628] (by decide +kernel) (by decide +kernel)
theorem pass_L_lossOf_1 : ∀ z ∈ ([(0, 10, 13, 28)] : List (Nat × Nat × Nat × Nat)), z.2.2.2 ≠ 0 ∧ ∃ nm : String, Cond.classLink RL z.2.2.2 nm ∈ GW ∧ ("java/lang/IllegalArgumentException", nm) ∈ ncW := by
  intro z hz
  simp only [List.mem_cons, List.not_mem_nil, or_false] at hz
  subst hz
  exact ⟨by decide, "java/lang/IndexOutOfBoundsException", wl_RL_28, by decide +kernel⟩
set_option maxHeartbeats 4000000 in
set_option maxRecDepth 100000 in
theorem k_L_lossOf (l : Launch) (hst : l.stackTraces = false) (D : va_G) (cs : CS) (a : Nat → Nat → Nat) (b : Nat) (p0 : Int32) (p1 : Int32) (S : BO) (ob : Nat → Int64) {r9 : Int32} {S9 : BO} {ob9 : Nat → Int64} (h : f_L_lossOf p0 p1 S ob = some (r9, S9, ob9)) : MW l D cs yL_lossOf cL_lossOf 5 [(0, 10, 13, 28), (0, 10, 17, 22)] rm_L_lossOf [.ref (a 0 0), .int p0, .int p1, .ref b] (wBO cs a b S ob) r9 (wBO cs a b S9 ob9) := by
  refine MW_of hst (by decide) (Nat.le_of_ble_eq_true rfl) ?_
  rintro Γ rfl rfl rfl B Z T ret
  show X Γ 5 0 0 0 [(0, .ref (a 0 0)), (1, .int p0), (2, .int p1), (3, .ref b)] [] (wBO Γ.cs a b S ob)
  unfold f_L_lossOf at h
  obtain ⟨o1, e1, h1, h2⟩ : ∃ o1, f_X2_lossOf p0 p1 S = some o1 ∧ (∀ r, o1 = .inr r → some (0, S, vp_updL ob 0 (Int32.toInt64 r)) = some (r9, S9, ob9)) ∧ (∀ E, o1 = .inl E → (if E = "java/lang/IndexOutOfBoundsException" then some (1, S, ob) else if E = "java/lang/IllegalArgumentException" then some (2, S, ob) else none) = some (r9, S9, ob9)) := by
    split at h
    · cases h
    · exact ⟨_, by assumption, (fun r hr => by cases hr), fun E hE => by cases hE; exact h⟩
    · exact ⟨_, by assumption, (fun r hr => by cases hr; exact h), fun E hE => by cases hE⟩
  refine x_aload_n B (pc' := 1) 3 dL_lossOf_0 rfl rfl rfl ?_
  refine x_iconst B (pc' := 2) 0 dL_lossOf_1 (by decide) rfl ?_
  refine x_aload_n B (pc' := 3) 0 dL_lossOf_2 rfl rfl rfl ?_
  refine x_iload_n B (pc' := 4) 1 dL_lossOf_3 rfl rfl rfl ?_
  refine x_iload_n B (pc' := 5) 2 dL_lossOf_4 rfl rfl rfl ?_
  refine w_call B Z [.int p0, .int p1] (k_X2_lossOf _ hst _ _ a p0 p1 S e1) gv_RL_72 rfl np_X2_lossOf ⟨Nat.le_of_ble_eq_true rfl, Nat.le_of_ble_eq_true rfl⟩ ⟨by exact Nat.le_of_ble_eq_true rfl, by exact Nat.le_of_ble_eq_true rfl⟩ rfl (Nat.le_of_ble_eq_true rfl) dL_lossOf_5 (pc' := 8) rfl (fun E hE => ?_) (fun r hr => ?_)
  · subst hE
    replace h := h2 E rfl
    by_cases c0 : E = "java/lang/IndexOutOfBoundsException"
    · rw [if_pos c0] at h
      obtain ⟨h3, h4, h5⟩ := some3 h
      subst h3
      subst h4
      subst h5
      subst c0
      refine x_catch B T [] (0, 10, 13, 28) [(0, 10, 17, 22)] rfl (fun z hz => absurd hz List.not_mem_nil) (by decide) (by decide) wl_RL_28 (by simp [castW]) (fun q => ?_)
      refine x_astore B (pc' := 15) [1, 2, 3, 4, 0] [(0, .ref (a 0 0)), (1, .int p0), (2, .int p1), (3, .ref b), (4, .ref q)] dL_lossOf_13 (by decide) rfl rfl ?_
      refine x_iconst B (pc' := 16) 1 dL_lossOf_15 (by decide) rfl ?_
      exact ret (by exact Nat.le_of_ble_eq_true rfl) (by exact Nat.le_of_ble_eq_true rfl) dL_lossOf_16
    rw [if_neg c0] at h
    by_cases c1 : E = "java/lang/IllegalArgumentException"
    · rw [if_pos c1] at h
      obtain ⟨h3, h4, h5⟩ := some3 h
      subst h3
      subst h4
      subst h5
      subst c1
      refine x_catch B T [(0, 10, 13, 28)] (0, 10, 17, 22) [] rfl (pass_L_lossOf_1) (by decide) (by decide) wl_RL_22 (by simp [castW]) (fun q => ?_)
      refine x_astore B (pc' := 19) [1, 2, 3, 4, 0] [(0, .ref (a 0 0)), (1, .int p0), (2, .int p1), (3, .ref b), (4, .ref q)] dL_lossOf_17 (by decide) rfl rfl ?_
      refine x_iconst B (pc' := 20) 2 dL_lossOf_19 (by decide) rfl ?_
      exact ret (by exact Nat.le_of_ble_eq_true rfl) (by exact Nat.le_of_ble_eq_true rfl) dL_lossOf_20
    rw [if_neg c1] at h
    cases h
  · subst hr
    replace h := h1 r rfl
    obtain ⟨h3, h4, h5⟩ := some3 h
    subst h3
    subst h4
    subst h5
    refine x_i2l B (pc' := 9) dL_lossOf_8 rfl ?_
    refine w_last B (pc' := 10) dL_lossOf_9 rfl ?_
    refine x_goto B (pc' := 21) dL_lossOf_10 (by decide) ?_
    refine x_iconst B (pc' := 22) 0 dL_lossOf_21 (by decide) rfl ?_
    exact ret (by exact Nat.le_of_ble_eq_true rfl) (by exact Nat.le_of_ble_eq_true rfl) dL_lossOf_22
def f_L_goneAfter (p0 : Int32) (S : BO) (ob : Nat → Int64) : Option (Int32 × BO × (Nat → Int64)) := match f_X2_goneAfter p0 S with
  | none => none
  | some (.inl E) => if E = "java/lang/IllegalArgumentException" then some (1, S, ob) else none
  | some (.inr r) => some (0, S, vp_updL ob 0 (Int32.toInt64 r))
abbrev rm_L_goneAfter : Room := { frames := 8, cells := 1, slots := 6, locals := 128 }
theorem np_L_goneAfter : yL_goneAfter.cls ≠ "java/lang/invoke/MethodHandle" ∧ yL_goneAfter.cls ≠ "java/lang/invoke/VarHandle" ∧ (parseMethodDescriptor yL_goneAfter.desc).map (fun d => d.parameters.length) = some 3 := by decide +kernel
theorem gv_RL_75 : GoodIn GW (wsV RL 75 RX2 yX2_goneAfter (.code yX2_goneAfter cX2_goneAfter 5 (some .int) :: GW)) := gw_app [Cond.methodLink RL 75 yX2_goneAfter, Cond.instanceMethod yX2_goneAfter, Cond.selects RX2 yX2_goneAfter yX2_goneAfter, Cond.initialized RX2, Cond.code yX2_goneAfter cX2_goneAfter 5 (some .int)] [647, 648, 649, 2, 650] (by decide +kernel) (by decide +kernel)
set_option maxHeartbeats 4000000 in
set_option maxRecDepth 100000 in
theorem k_L_goneAfter (l : Launch) (hst : l.stackTraces = false) (D : va_G) (cs : CS) (a : Nat → Nat → Nat) (b : Nat) (p0 : Int32) (S : BO) (ob : Nat → Int64) {r9 : Int32} {S9 : BO} {ob9 : Nat → Int64} (h : f_L_goneAfter p0 S ob = some (r9, S9, ob9)) : MW l D cs yL_goneAfter cL_goneAfter 4 [(0, 9, 12, 22)] rm_L_goneAfter [.ref (a 0 0), .int p0, .ref b] (wBO cs a b S ob) r9 (wBO cs a b S9 ob9) := by
  refine MW_of hst (by decide) (Nat.le_of_ble_eq_true rfl) ?_
  rintro Γ rfl rfl rfl B Z T ret
  show X Γ 4 0 0 0 [(0, .ref (a 0 0)), (1, .int p0), (2, .ref b)] [] (wBO Γ.cs a b S ob)
  unfold f_L_goneAfter at h
  obtain ⟨o1, e1, h1, h2⟩ : ∃ o1, f_X2_goneAfter p0 S = some o1 ∧ (∀ r, o1 = .inr r → some (0, S, vp_updL ob 0 (Int32.toInt64 r)) = some (r9, S9, ob9)) ∧ (∀ E, o1 = .inl E → (if E = "java/lang/IllegalArgumentException" then some (1, S, ob) else none) = some (r9, S9, ob9)) := by
    split at h
    · cases h
    · exact ⟨_, by assumption, (fun r hr => by cases hr), fun E hE => by cases hE; exact h⟩
    · exact ⟨_, by assumption, (fun r hr => by cases hr; exact h), fun E hE => by cases hE⟩
  refine x_aload_n B (pc' := 1) 2 dL_goneAfter_0 rfl rfl rfl ?_
  refine x_iconst B (pc' := 2) 0 dL_goneAfter_1 (by decide) rfl ?_
  refine x_aload_n B (pc' := 3) 0 dL_goneAfter_2 rfl rfl rfl ?_
  refine x_iload_n B (pc' := 4) 1 dL_goneAfter_3 rfl rfl rfl ?_
  refine w_call B Z [.int p0] (k_X2_goneAfter _ hst _ _ a p0 S e1) gv_RL_75 rfl np_X2_goneAfter ⟨Nat.le_of_ble_eq_true rfl, Nat.le_of_ble_eq_true rfl⟩ ⟨by exact Nat.le_of_ble_eq_true rfl, by exact Nat.le_of_ble_eq_true rfl⟩ rfl (Nat.le_of_ble_eq_true rfl) dL_goneAfter_4 (pc' := 7) rfl (fun E hE => ?_) (fun r hr => ?_)
  · subst hE
    replace h := h2 E rfl
    by_cases c0 : E = "java/lang/IllegalArgumentException"
    · rw [if_pos c0] at h
      obtain ⟨h3, h4, h5⟩ := some3 h
      subst h3
      subst h4
      subst h5
      subst c0
      refine x_catch B T [] (0, 9, 12, 22) [] rfl (fun z hz => absurd hz List.not_mem_nil) (by decide) (by decide) wl_RL_22 (by simp [castW]) (fun q => ?_)
      refine x_astore_n B (pc' := 13) [1, 2, 3, 0] [(0, .ref (a 0 0)), (1, .int p0), (2, .ref b), (3, .ref q)] dL_goneAfter_12 rfl (by decide) rfl rfl ?_
      refine x_iconst B (pc' := 14) 1 dL_goneAfter_13 (by decide) rfl ?_
      exact ret (by exact Nat.le_of_ble_eq_true rfl) (by exact Nat.le_of_ble_eq_true rfl) dL_goneAfter_14
    rw [if_neg c0] at h
    cases h
  · subst hr
    replace h := h1 r rfl
    obtain ⟨h3, h4, h5⟩ := some3 h
    subst h3
    subst h4
    subst h5
    refine x_i2l B (pc' := 8) dL_goneAfter_7 rfl ?_
    refine w_last B (pc' := 9) dL_goneAfter_8 rfl ?_
    refine x_goto B (pc' := 15) dL_goneAfter_9 (by decide) ?_
    refine x_iconst B (pc' := 16) 0 dL_goneAfter_15 (by decide) rfl ?_
    exact ret (by exact Nat.le_of_ble_eq_true rfl) (by exact Nat.le_of_ble_eq_true rfl) dL_goneAfter_16
def f_L_append (p0 : Int32) (S : BO) (ob : Nat → Int64) : Option (Int32 × BO × (Nat → Int64)) := match f_X2_append p0 S with
  | none => none
  | some (.inl E, S1) => if E = "java/lang/IllegalArgumentException" then some (1, S1, ob) else if E = "java/lang/IllegalStateException" then some (2, S1, ob) else none
  | some (.inr r, S1) => some (0, S1, vp_updL ob 0 (Int32.toInt64 r))
abbrev rm_L_append : Room := { frames := 7, cells := 2, slots := 12, locals := 105 }
theorem np_L_append : yL_append.cls ≠ "java/lang/invoke/MethodHandle" ∧ yL_append.cls ≠ "java/lang/invoke/VarHandle" ∧ (parseMethodDescriptor yL_append.desc).map (fun d => d.parameters.length) = some 3 := by decide +kernel
theorem gv_RL_78 : GoodIn GW (wsV RL 78 RX2 yX2_append (.code yX2_append cX2_append 2 (some .int) :: GW)) := gw_app [Cond.methodLink RL 78 yX2_append, Cond.instanceMethod yX2_append, Cond.selects RX2 yX2_append yX2_append, Cond.initialized RX2, Cond.code yX2_append cX2_append 2 (some .int)] [658, 659, 660, 2, 661] (by decide +kernel) (by decide +kernel)
theorem pass_L_append_1 : ∀ z ∈ ([(0, 9, 12, 22)] : List (Nat × Nat × Nat × Nat)), z.2.2.2 ≠ 0 ∧ ∃ nm : String, Cond.classLink RL z.2.2.2 nm ∈ GW ∧ ("java/lang/IllegalStateException", nm) ∈ ncW := by
  intro z hz
  simp only [List.mem_cons, List.not_mem_nil, or_false] at hz
  subst hz
  exact ⟨by decide, "java/lang/IllegalArgumentException", wl_RL_22, by decide +kernel⟩
set_option maxHeartbeats 4000000 in
set_option maxRecDepth 100000 in
theorem k_L_append (l : Launch) (hst : l.stackTraces = false) (D : va_G) (cs : CS) (a : Nat → Nat → Nat) (b : Nat) (p0 : Int32) (S : BO) (ob : Nat → Int64) {r9 : Int32} {S9 : BO} {ob9 : Nat → Int64} (h : f_L_append p0 S ob = some (r9, S9, ob9)) : MW l D cs yL_append cL_append 4 [(0, 9, 12, 22), (0, 9, 15, 13)] rm_L_append [.ref (a 0 0), .int p0, .ref b] (wBO cs a b S ob) r9 (wBO cs a b S9 ob9) := by
  refine MW_of hst (by decide) (Nat.le_of_ble_eq_true rfl) ?_
  rintro Γ rfl rfl rfl B Z T ret
  show X Γ 4 0 0 0 [(0, .ref (a 0 0)), (1, .int p0), (2, .ref b)] [] (wBO Γ.cs a b S ob)
  unfold f_L_append at h
  obtain ⟨o1, S1, e1, h1, h2⟩ : ∃ o1 S1, f_X2_append p0 S = some (o1, S1) ∧ (∀ r, o1 = .inr r → some (0, S1, vp_updL ob 0 (Int32.toInt64 r)) = some (r9, S9, ob9)) ∧ (∀ E, o1 = .inl E → (if E = "java/lang/IllegalArgumentException" then some (1, S1, ob) else if E = "java/lang/IllegalStateException" then some (2, S1, ob) else none) = some (r9, S9, ob9)) := by
    split at h
    · cases h
    · exact ⟨_, _, by assumption, (fun r hr => by cases hr), fun E hE => by cases hE; exact h⟩
    · exact ⟨_, _, by assumption, (fun r hr => by cases hr; exact h), fun E hE => by cases hE⟩
  refine x_aload_n B (pc' := 1) 2 dL_append_0 rfl rfl rfl ?_
  refine x_iconst B (pc' := 2) 0 dL_append_1 (by decide) rfl ?_
  refine x_aload_n B (pc' := 3) 0 dL_append_2 rfl rfl rfl ?_
  refine x_iload_n B (pc' := 4) 1 dL_append_3 rfl rfl rfl ?_
  refine w_call B Z [.int p0] (k_X2_append _ hst _ _ a p0 S e1) gv_RL_78 rfl np_X2_append ⟨Nat.le_of_ble_eq_true rfl, Nat.le_of_ble_eq_true rfl⟩ ⟨by exact Nat.le_of_ble_eq_true rfl, by exact Nat.le_of_ble_eq_true rfl⟩ rfl (Nat.le_of_ble_eq_true rfl) dL_append_4 (pc' := 7) rfl (fun E hE => ?_) (fun r hr => ?_)
  · subst hE
    replace h := h2 E rfl
    by_cases c0 : E = "java/lang/IllegalArgumentException"
    · rw [if_pos c0] at h
      obtain ⟨h3, h4, h5⟩ := some3 h
      subst h3
      subst h4
      subst h5
      subst c0
      refine x_catch B T [] (0, 9, 12, 22) [(0, 9, 15, 13)] rfl (fun z hz => absurd hz List.not_mem_nil) (by decide) (by decide) wl_RL_22 (by simp [castW]) (fun q => ?_)
      refine x_astore_n B (pc' := 13) [1, 2, 3, 0] [(0, .ref (a 0 0)), (1, .int p0), (2, .ref b), (3, .ref q)] dL_append_12 rfl (by decide) rfl rfl ?_
      refine x_iconst B (pc' := 14) 1 dL_append_13 (by decide) rfl ?_
      exact ret (by exact Nat.le_of_ble_eq_true rfl) (by exact Nat.le_of_ble_eq_true rfl) dL_append_14
    rw [if_neg c0] at h
    by_cases c1 : E = "java/lang/IllegalStateException"
    · rw [if_pos c1] at h
      obtain ⟨h3, h4, h5⟩ := some3 h
      subst h3
      subst h4
      subst h5
      subst c1
      refine x_catch B T [(0, 9, 12, 22)] (0, 9, 15, 13) [] rfl (pass_L_append_1) (by decide) (by decide) wl_RL_13 (by simp [castW]) (fun q => ?_)
      refine x_astore_n B (pc' := 16) [1, 2, 3, 0] [(0, .ref (a 0 0)), (1, .int p0), (2, .ref b), (3, .ref q)] dL_append_15 rfl (by decide) rfl rfl ?_
      refine x_iconst B (pc' := 17) 2 dL_append_16 (by decide) rfl ?_
      exact ret (by exact Nat.le_of_ble_eq_true rfl) (by exact Nat.le_of_ble_eq_true rfl) dL_append_17
    rw [if_neg c1] at h
    cases h
  · subst hr
    replace h := h1 r rfl
    obtain ⟨h3, h4, h5⟩ := some3 h
    subst h3
    subst h4
    subst h5
    refine x_i2l B (pc' := 8) dL_append_7 rfl ?_
    refine w_last B (pc' := 9) dL_append_8 rfl ?_
    refine x_goto B (pc' := 18) dL_append_9 (by decide) ?_
    refine x_iconst B (pc' := 19) 0 dL_append_18 (by decide) rfl ?_
    exact ret (by exact Nat.le_of_ble_eq_true rfl) (by exact Nat.le_of_ble_eq_true rfl) dL_append_19
def f_L_run (S : BO) (ob : Nat → Int64) : Option (Int32 × BO × (Nat → Int64)) := match f_X2_run S with
  | none => none
  | some (.inl E, S1) => if E = "java/lang/IllegalArgumentException" then some (1, S1, ob) else none
  | some (.inr r, S1) => some (0, S1, vp_updL ob 0 (Int32.toInt64 r))
abbrev rm_L_run : Room := { frames := 7, cells := 1, slots := 6, locals := 164 }
theorem np_L_run : yL_run.cls ≠ "java/lang/invoke/MethodHandle" ∧ yL_run.cls ≠ "java/lang/invoke/VarHandle" ∧ (parseMethodDescriptor yL_run.desc).map (fun d => d.parameters.length) = some 2 := by decide +kernel
theorem gv_RL_81 : GoodIn GW (wsV RL 81 RX2 yX2_run (.code yX2_run cX2_run 2 (some .int) :: GW)) := gw_app [Cond.methodLink RL 81 yX2_run, Cond.instanceMethod yX2_run, Cond.selects RX2 yX2_run yX2_run, Cond.initialized RX2, Cond.code yX2_run cX2_run 2 (some .int)] [731, 732, 733, 2, 734] (by decide +kernel) (by decide +kernel)
set_option maxHeartbeats 4000000 in
set_option maxRecDepth 100000 in
theorem k_L_run (l : Launch) (hst : l.stackTraces = false) (D : va_G) (cs : CS) (a : Nat → Nat → Nat) (b : Nat) (S : BO) (ob : Nat → Int64) {r9 : Int32} {S9 : BO} {ob9 : Nat → Int64} (h : f_L_run S ob = some (r9, S9, ob9)) : MW l D cs yL_run cL_run 3 [(0, 8, 11, 22)] rm_L_run [.ref (a 0 0), .ref b] (wBO cs a b S ob) r9 (wBO cs a b S9 ob9) := by
  refine MW_of hst (by decide) (Nat.le_of_ble_eq_true rfl) ?_
  rintro Γ rfl rfl rfl B Z T ret
  show X Γ 3 0 0 0 [(0, .ref (a 0 0)), (1, .ref b)] [] (wBO Γ.cs a b S ob)
  unfold f_L_run at h
  obtain ⟨o1, S1, e1, h1, h2⟩ : ∃ o1 S1, f_X2_run S = some (o1, S1) ∧ (∀ r, o1 = .inr r → some (0, S1, vp_updL ob 0 (Int32.toInt64 r)) = some (r9, S9, ob9)) ∧ (∀ E, o1 = .inl E → (if E = "java/lang/IllegalArgumentException" then some (1, S1, ob) else none) = some (r9, S9, ob9)) := by
    split at h
    · cases h
    · exact ⟨_, _, by assumption, (fun r hr => by cases hr), fun E hE => by cases hE; exact h⟩
    · exact ⟨_, _, by assumption, (fun r hr => by cases hr; exact h), fun E hE => by cases hE⟩
  refine x_aload_n B (pc' := 1) 1 dL_run_0 rfl rfl rfl ?_
  refine x_iconst B (pc' := 2) 0 dL_run_1 (by decide) rfl ?_
  refine x_aload_n B (pc' := 3) 0 dL_run_2 rfl rfl rfl ?_
  refine w_call B Z [] (k_X2_run _ hst _ _ a S e1) gv_RL_81 rfl np_X2_run ⟨Nat.le_of_ble_eq_true rfl, Nat.le_of_ble_eq_true rfl⟩ ⟨by exact Nat.le_of_ble_eq_true rfl, by exact Nat.le_of_ble_eq_true rfl⟩ rfl (Nat.le_of_ble_eq_true rfl) dL_run_3 (pc' := 6) rfl (fun E hE => ?_) (fun r hr => ?_)
  · subst hE
    replace h := h2 E rfl
    by_cases c0 : E = "java/lang/IllegalArgumentException"
    · rw [if_pos c0] at h
      obtain ⟨h3, h4, h5⟩ := some3 h
      subst h3
      subst h4
      subst h5
      subst c0
      refine x_catch B T [] (0, 8, 11, 22) [] rfl (fun z hz => absurd hz List.not_mem_nil) (by decide) (by decide) wl_RL_22 (by simp [castW]) (fun q => ?_)
      refine x_astore_n B (pc' := 12) [1, 2, 0] [(0, .ref (a 0 0)), (1, .ref b), (2, .ref q)] dL_run_11 rfl (by decide) rfl rfl ?_
      refine x_iconst B (pc' := 13) 1 dL_run_12 (by decide) rfl ?_
      exact ret (by exact Nat.le_of_ble_eq_true rfl) (by exact Nat.le_of_ble_eq_true rfl) dL_run_13
    rw [if_neg c0] at h
    cases h
  · subst hr
    replace h := h1 r rfl
    obtain ⟨h3, h4, h5⟩ := some3 h
    subst h3
    subst h4
    subst h5
    refine x_i2l B (pc' := 7) dL_run_6 rfl ?_
    refine w_last B (pc' := 8) dL_run_7 rfl ?_
    refine x_goto B (pc' := 14) dL_run_8 (by decide) ?_
    refine x_iconst B (pc' := 15) 0 dL_run_14 (by decide) rfl ?_
    exact ret (by exact Nat.le_of_ble_eq_true rfl) (by exact Nat.le_of_ble_eq_true rfl) dL_run_15
def f_L_undo (S : BO) (ob : Nat → Int64) : Option (Int32 × BO × (Nat → Int64)) := match f_X2_undo S with
  | none => none
  | some (.inl E, S1) => if E = "java/lang/IllegalStateException" then some (1, S1, ob) else none
  | some (.inr r, S1) => some (0, S1, vp_updL ob 0 (Int32.toInt64 r))
abbrev rm_L_undo : Room := { frames := 7, cells := 1, slots := 6, locals := 106 }
theorem np_L_undo : yL_undo.cls ≠ "java/lang/invoke/MethodHandle" ∧ yL_undo.cls ≠ "java/lang/invoke/VarHandle" ∧ (parseMethodDescriptor yL_undo.desc).map (fun d => d.parameters.length) = some 2 := by decide +kernel
theorem gv_RL_84 : GoodIn GW (wsV RL 84 RX2 yX2_undo (.code yX2_undo cX2_undo 2 (some .int) :: GW)) := gw_app [Cond.methodLink RL 84 yX2_undo, Cond.instanceMethod yX2_undo, Cond.selects RX2 yX2_undo yX2_undo, Cond.initialized RX2, Cond.code yX2_undo cX2_undo 2 (some .int)] [770, 771, 772, 2, 773] (by decide +kernel) (by decide +kernel)
set_option maxHeartbeats 4000000 in
set_option maxRecDepth 100000 in
theorem k_L_undo (l : Launch) (hst : l.stackTraces = false) (D : va_G) (cs : CS) (a : Nat → Nat → Nat) (b : Nat) (S : BO) (ob : Nat → Int64) {r9 : Int32} {S9 : BO} {ob9 : Nat → Int64} (h : f_L_undo S ob = some (r9, S9, ob9)) : MW l D cs yL_undo cL_undo 3 [(0, 8, 11, 13)] rm_L_undo [.ref (a 0 0), .ref b] (wBO cs a b S ob) r9 (wBO cs a b S9 ob9) := by
  refine MW_of hst (by decide) (Nat.le_of_ble_eq_true rfl) ?_
  rintro Γ rfl rfl rfl B Z T ret
  show X Γ 3 0 0 0 [(0, .ref (a 0 0)), (1, .ref b)] [] (wBO Γ.cs a b S ob)
  unfold f_L_undo at h
  obtain ⟨o1, S1, e1, h1, h2⟩ : ∃ o1 S1, f_X2_undo S = some (o1, S1) ∧ (∀ r, o1 = .inr r → some (0, S1, vp_updL ob 0 (Int32.toInt64 r)) = some (r9, S9, ob9)) ∧ (∀ E, o1 = .inl E → (if E = "java/lang/IllegalStateException" then some (1, S1, ob) else none) = some (r9, S9, ob9)) := by
    split at h
    · cases h
    · exact ⟨_, _, by assumption, (fun r hr => by cases hr), fun E hE => by cases hE; exact h⟩
    · exact ⟨_, _, by assumption, (fun r hr => by cases hr; exact h), fun E hE => by cases hE⟩
  refine x_aload_n B (pc' := 1) 1 dL_undo_0 rfl rfl rfl ?_
  refine x_iconst B (pc' := 2) 0 dL_undo_1 (by decide) rfl ?_
  refine x_aload_n B (pc' := 3) 0 dL_undo_2 rfl rfl rfl ?_
  refine w_call B Z [] (k_X2_undo _ hst _ _ a S e1) gv_RL_84 rfl np_X2_undo ⟨Nat.le_of_ble_eq_true rfl, Nat.le_of_ble_eq_true rfl⟩ ⟨by exact Nat.le_of_ble_eq_true rfl, by exact Nat.le_of_ble_eq_true rfl⟩ rfl (Nat.le_of_ble_eq_true rfl) dL_undo_3 (pc' := 6) rfl (fun E hE => ?_) (fun r hr => ?_)
  · subst hE
    replace h := h2 E rfl
    by_cases c0 : E = "java/lang/IllegalStateException"
    · rw [if_pos c0] at h
      obtain ⟨h3, h4, h5⟩ := some3 h
      subst h3
      subst h4
      subst h5
      subst c0
      refine x_catch B T [] (0, 8, 11, 13) [] rfl (fun z hz => absurd hz List.not_mem_nil) (by decide) (by decide) wl_RL_13 (by simp [castW]) (fun q => ?_)
      refine x_astore_n B (pc' := 12) [1, 2, 0] [(0, .ref (a 0 0)), (1, .ref b), (2, .ref q)] dL_undo_11 rfl (by decide) rfl rfl ?_
      refine x_iconst B (pc' := 13) 1 dL_undo_12 (by decide) rfl ?_
      exact ret (by exact Nat.le_of_ble_eq_true rfl) (by exact Nat.le_of_ble_eq_true rfl) dL_undo_13
    rw [if_neg c0] at h
    cases h
  · subst hr
    replace h := h1 r rfl
    obtain ⟨h3, h4, h5⟩ := some3 h
    subst h3
    subst h4
    subst h5
    refine x_i2l B (pc' := 7) dL_undo_6 rfl ?_
    refine w_last B (pc' := 8) dL_undo_7 rfl ?_
    refine x_goto B (pc' := 14) dL_undo_8 (by decide) ?_
    refine x_iconst B (pc' := 15) 0 dL_undo_14 (by decide) rfl ?_
    exact ret (by exact Nat.le_of_ble_eq_true rfl) (by exact Nat.le_of_ble_eq_true rfl) dL_undo_15
