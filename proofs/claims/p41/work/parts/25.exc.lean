/-! methods that may throw -/
def CZ (Γ : Ctx) : Prop := match Γ with
  | (_, l, _, _, s, _, _, _, _, _, _, A, _, _) => l.stackTraces = false ∧ vx_Zq Bundle.tN "UNASSIGNED_STACK" Bundle.steD A s s.heap ∧ vx_Zq Bundle.tN "SUPPRESSED_SENTINEL" Bundle.listD A s s.heap
/-- no table of handlers -/
def NT (Γ : Ctx) : Prop := match Γ with
  | (_, _, _, _, _, _, _, _, _, c, _, _, _, _) => ∀ x ∈ c.exceptionTable.toList, False
/-- the frame at pc with an exception E thrown over it reaches the end -/
def XT (Γ : Ctx) (nL k n pc : Nat) (lv : List (Nat × Value)) (st : List Value) (ws : va_W) (E : String) : Prop := match Γ with
  | (p, l, e, R, s, m, args, below, meth, c, Q, A, D, _) => ∀ (H : Heap) (locs : List Loc) (ls : Array Slot) (q : Addr) (ce : Cell), va_P D vwCl ws H → va_D A ws → va_S A s.heap H locs → lv_has ls nL lv → H[q]? = some ce → ce.vm = .none → s.vm.findClass E = some ce.cls → vx_W p l e R s m args below meth c H locs k n Q (F0 m pc ls st) q
/-- the end to reach takes an exception E with the world w' -/
def TH (Γ : Ctx) (E : String) (w' : va_W) (mc ms : Nat) : Prop := match Γ with
  | (_, _, _, _, s, _, args, below, _, _, Q, A, D, _) => ∃ (Qc : Array Value → State → Outcome → State → Prop) (XC : String → State → State → Prop) (free : Addr → Prop), Q = vx_MQ below Qc XC args s mc ms free ∧ (∀ q, A q → free q) ∧ ∀ (H : Heap) (locs : List Loc) (t : State), va_P D vwCl w' H → va_D A w' → va_S A s.heap H locs → s.vm.Alike t.vm → H.size ≤ t.heap.size → (∀ q : Nat, q < H.size → t.heap[q]? = H[q]?) → XC E s t
abbrev EN : List String := ["java/lang/RuntimeException", "java/lang/Exception"]
/-- an exception's words -/
def TE (cls : String) (ik ic : Nat) : Prop := Bundle.fit cls = true ∧ Cond.classLink RX2 ik cls ∈ GW ∧ Cond.initialized cls ∈ GW ∧ (∀ w ∈ (vx_atS RX2 ic cls EN).filter goodWord, w ∈ GW) ∧ (∀ w ∈ (vx_atS RX2 ic cls EN).filter (fun w => !goodWord w), w ∈ castW) ∧ ∀ w ∈ Cond.classLink RX2 ik cls :: Cond.initialized cls :: vx_atS RX2 ic cls EN, vx_ot w = true
set_option maxRecDepth 100000 in
theorem te_IndexOutOfBoundsException : TE "java/lang/IndexOutOfBoundsException" 279 283 := ⟨by decide +kernel, List.mem_of_getElem? (i := 76) (by decide +kernel), List.mem_of_getElem? (i := 77) (by decide +kernel), fun w h => List.mem_append_left _ (List.mem_append_left _ (List.mem_append_right _ h)), by decide +kernel, by decide +kernel⟩
set_option maxRecDepth 100000 in
theorem te_IllegalStateException : TE "java/lang/IllegalStateException" 38 42 := ⟨by decide +kernel, List.mem_of_getElem? (i := 232) (by decide +kernel), List.mem_of_getElem? (i := 233) (by decide +kernel), fun w h => List.mem_append_left _ (List.mem_append_right _ h), by decide +kernel, by decide +kernel⟩
set_option maxRecDepth 100000 in
theorem te_IllegalArgumentException : TE "java/lang/IllegalArgumentException" 149 153 := ⟨by decide +kernel, List.mem_of_getElem? (i := 329) (by decide +kernel), List.mem_of_getElem? (i := 330) (by decide +kernel), fun w h => List.mem_append_right _ h, by decide +kernel, by decide +kernel⟩
theorem en_fit : ∀ n ∈ EN, Bundle.fit n = true := by decide +kernel
theorem cast_before {s : State} {args : Array Value} {D : va_G} {cs : CS} (h : KN D cs s) : ∀ w ∈ castW, w.before args s = true := fun w hw => by
  have h1 := h.2.2.1 w hw
  rcases cast_shape hw with ⟨a, b, rfl⟩ | ⟨x, rfl⟩ | rfl
  · exact va_Nw.use rfl h1
  · exact va_Nw.use rfl h1
  · exact h1
section EXC
variable {Γ : Ctx} {cc : ByteArray} {nL k n pc pc' mc ms : Nat} {own E : String} {R0 : Room} {lv : List (Nat × Value)} {st : List Value} {w : va_W}
theorem x_out (B : CX Γ cc nL own R0) (N : NT Γ) (T : TH Γ E w mc ms) (hk : k ≤ mc) (hn : n ≤ ms) : XT Γ nL k n pc lv st w E := by
  obtain ⟨p, l, e, R, s, m, args, below, meth, c, Q, A, D, cs⟩ := Γ
  obtain ⟨Qc, XC, free, rfl, hfree, hx⟩ := T
  intro H locs ls q ce hP hD hS hl hce hcv hcl
  exact vx_out (fun x h => (N x h).elim) B.2.2.2.1 hce hcv hcl (fun t ht ha => hx H locs t hP hD hS ha (by rw [ht]; exact Nat.le_refl _) (fun q _ => by rw [ht])) (fun z hz => hfree _ (hS.2.2 z hz)) hk hn
theorem x_throwS (B : CX Γ cc nL RX2 R0) (Z : CZ Γ) (N : NT Γ) (T : TH Γ E w mc ms) {ik ic is : Nat} {text : String} (te : TE E ik ic) (hstr : (is, text) ∈ strW) (d0 : decode cc pc = .ok (.new ik, 3)) (d3 : decode cc (pc + 3) = .ok (.dup, 1)) (d4 : decode cc (pc + 4) = .ok (.ldc is, 2)) (d6 : decode cc (pc + 6) = .ok (.invokespecial ic, 3)) (d9 : decode cc (pc + 9) = .ok (.athrow, 1)) (hR : 5 < R0.frames ∧ (st.map fun v => v.category).sum + 82 ≤ R0.locals) (hroom : k + 1 ≤ R0.cells ∧ n + 6 ≤ R0.slots) (hc : k + 1 ≤ mc) (hs : n + 6 ≤ ms) : X Γ nL k n pc lv st w := by
  obtain ⟨p, l, e, R, s, m, args, below, meth, c, Q, A, D, cs⟩ := Γ
  obtain ⟨Qc, XC, free, rfl, hfree, hx⟩ := T
  obtain ⟨hfix, hKN, hA, hlk, rfl⟩ := B
  obtain ⟨sa, hsa⟩ := hKN.2.2.2.2 _ hstr
  obtain ⟨t1, t2, t3, t4, t5, t6⟩ := te
  intro H locs ls hP hD hS hl
  exact vx_throwS hfix.1 hfix.2.1 Z.1 hfix.2.2.2.1 t1 en_fit (hfix.2.2.2.2 _ t2) (hfix.2.2.2.2 _ t3) hsa (vx_hat (fun w hw => hfix.2.2.2.2 _ (t4 w hw)) t5 (cast_before hKN)) t6 Z.2.1 Z.2.2 hS (hl.1.trans hfix.2.2.1.symm) d0 d3 d4 d6 d9 (fun x h => (N x h).elim) hR.1 hR.2 hroom.1 hroom.2 hlk (fun t ha hz ho => hx H locs t hP hD hS ha hz ho) (fun z hz => hfree _ (hS.2.2 z hz)) hc hs
theorem x_throwSW (B : CX Γ cc nL RX2 R0) (Z : CZ Γ) (N : NT Γ) (T : TH Γ E w mc ms) {ik ic is : Nat} {text : String} (te : TE E ik ic) (hstr : (is, text) ∈ strW) (d0 : decode cc pc = .ok (.new ik, 3)) (d3 : decode cc (pc + 3) = .ok (.dup, 1)) (d4 : decode cc (pc + 4) = .ok (.ldc_w is, 3)) (d7 : decode cc (pc + 7) = .ok (.invokespecial ic, 3)) (d10 : decode cc (pc + 10) = .ok (.athrow, 1)) (hR : 5 < R0.frames ∧ (st.map fun v => v.category).sum + 82 ≤ R0.locals) (hroom : k + 1 ≤ R0.cells ∧ n + 6 ≤ R0.slots) (hc : k + 1 ≤ mc) (hs : n + 6 ≤ ms) : X Γ nL k n pc lv st w := by
  obtain ⟨p, l, e, R, s, m, args, below, meth, c, Q, A, D, cs⟩ := Γ
  obtain ⟨Qc, XC, free, rfl, hfree, hx⟩ := T
  obtain ⟨hfix, hKN, hA, hlk, rfl⟩ := B
  obtain ⟨sa, hsa⟩ := hKN.2.2.2.2 _ hstr
  obtain ⟨t1, t2, t3, t4, t5, t6⟩ := te
  intro H locs ls hP hD hS hl
  exact vx_throwSW hfix.1 hfix.2.1 Z.1 hfix.2.2.2.1 t1 en_fit (hfix.2.2.2.2 _ t2) (hfix.2.2.2.2 _ t3) hsa (vx_hat (fun w hw => hfix.2.2.2.2 _ (t4 w hw)) t5 (cast_before hKN)) t6 Z.2.1 Z.2.2 hS (hl.1.trans hfix.2.2.1.symm) d0 d3 d4 d7 d10 (fun x h => (N x h).elim) hR.1 hR.2 hroom.1 hroom.2 hlk (fun t ha hz ho => hx H locs t hP hD hS ha hz ho) (fun z hz => hfree _ (hS.2.2 z hz)) hc hs
end EXC
/-- a start where the machine's statics that a throw reads are known -/
def PRX (D : va_G) (cs : CS) (av : List Value) (w : va_W) (sz : Nat) : Array Value → State → Prop := va_Pc av (fun U => U.heap.size = sz ∧ va_P D vwCl w U.heap ∧ KN D cs U ∧ va_D (fun _ => True) w ∧ vx_Zq Bundle.tN "UNASSIGNED_STACK" Bundle.steD (va_A w sz) U U.heap ∧ vx_Zq Bundle.tN "SUPPRESSED_SENTINEL" Bundle.listD (va_A w sz) U U.heap)
theorem prx_blind (D : va_G) (cs : CS) (av : List Value) (w : va_W) (sz : Nat) : FrameBlind (PRX D cs av w sz) := fun a U g mk q => by
  obtain ⟨q0, q1, qP, qK, qD, z1, z2⟩ := q
  exact ⟨q0, q1, qP, KN.same (s := U) (U := U.calling g mk a) rfl qK, qD, vx_Zq.moved (u := U) (U := U.calling g mk a) (Vm.Alike.refl U.vm) z1, vx_Zq.moved (u := U) (U := U.calling g mk a) (Vm.Alike.refl U.vm) z2⟩
def MXi (l : Launch) (D : va_G) (cs : CS) (y : MethodName) (bytes : ByteArray) (maxL : Nat) (rt : FieldType) (rm : Room) (av : List Value) (w : va_W) (o : String ⊕ Int32) (w' : va_W) : Prop := ∀ sz, vx_Met l y (.code y bytes maxL (some rt) :: GW) rm (PRX D cs av w sz) (va_Qi (fun r' _ => o = .inr r') (PO D w w' sz) (va_A w sz)) (vx_X (fun _ : Unit => True) (fun E u t => o = .inl E ∧ PO D w w' sz u t) (va_A w sz)) rm.cells rm.slots (va_A w sz)
def MXv (l : Launch) (D : va_G) (cs : CS) (y : MethodName) (bytes : ByteArray) (maxL : Nat) (rm : Room) (av : List Value) (w : va_W) (o : String ⊕ Unit) (w' : va_W) : Prop := ∀ sz, vx_Met l y (.code y bytes maxL none :: GW) rm (PRX D cs av w sz) (va_Qv (fun _ => o = .inr ()) (PO D w w' sz) (va_A w sz)) (vx_X (fun _ : Unit => True) (fun E u t => o = .inl E ∧ PO D w w' sz u t) (va_A w sz)) rm.cells rm.slots (va_A w sz)
/-! words of the code read out -/
def bxr {α β : Type} (o : Option (String ⊕ α)) (k : α → Option (String ⊕ β)) : Option (String ⊕ β) := match o with
  | none => none
  | some (.inl e) => some (.inl e)
  | some (.inr a) => k a
def bxw {α β σ : Type} (S : σ) (o : Option (String ⊕ α)) (k : α → Option ((String ⊕ β) × σ)) : Option ((String ⊕ β) × σ) := match o with
  | none => none
  | some (.inl e) => some (.inl e, S)
  | some (.inr a) => k a
theorem bxr_elim {α β : Type} {o : Option (String ⊕ α)} {k : α → Option (String ⊕ β)} {r : String ⊕ β} (h : bxr o k = some r) : ∃ o1, o = some o1 ∧ (∀ E, o1 = .inl E → r = .inl E) ∧ ∀ a, o1 = .inr a → k a = some r := by
  rcases o with _ | (e | a)
  · cases h
  · exact ⟨_, rfl, (fun E he => by cases he; cases h; rfl), fun a ha => by cases ha⟩
  · exact ⟨_, rfl, (fun E he => by cases he), fun b hb => by cases hb; exact h⟩
theorem bxw_elim {α β σ : Type} {S : σ} {o : Option (String ⊕ α)} {k : α → Option ((String ⊕ β) × σ)} {r : (String ⊕ β) × σ} (h : bxw S o k = some r) : ∃ o1, o = some o1 ∧ (∀ E, o1 = .inl E → r = (.inl E, S)) ∧ ∀ a, o1 = .inr a → k a = some r := by
  rcases o with _ | (e | a)
  · cases h
  · exact ⟨_, rfl, (fun E he => by cases he; cases h; rfl), fun a ha => by cases ha⟩
  · exact ⟨_, rfl, (fun E he => by cases he), fun b hb => by cases hb; exact h⟩
theorem MXi_of {l : Launch} {D : va_G} {cs : CS} {y : MethodName} {bytes : ByteArray} {maxL : Nat} {rt : FieldType} {o : String ⊕ Int32} {rm : Room} {av : List Value} {w w' : va_W} (hst : l.stackTraces = false) (hy : plainName y.cls = true) (hlen : (lg_sl av).length ≤ maxL)
    (body : ∀ Γ : Ctx, Γ.l = l → Γ.D = D → Γ.cs = cs → CX Γ bytes maxL y.cls rm → CZ Γ → NT Γ → (∀ {k n pc : Nat} {lv : List (Nat × Value)} (r : Int32), o = .inr r → narrow rt (.int r) = .int r → k ≤ rm.cells → n ≤ rm.slots → decode bytes pc = .ok (.ireturn, 1) → X Γ maxL k n pc lv [.int r] w') → (∀ E, o = .inl E → TH Γ E w' rm.cells rm.slots) → X Γ maxL 0 0 0 (lv_args 0 av) [] w) : MXi l D cs y bytes maxL rt rm av w o w' := by
  intro sz
  refine vx_ofW (cc := bytes) (maxL := maxL) (ret := some rt) hy rfl ?_
  intro p e s m args below meth c s₁ B hml hnt hv
  obtain ⟨rfl, hsz, hP, hK, hD0, hz1, hz2⟩ := hv
  subst hsz
  have hts := atoms_spec (ws := .code y bytes maxL (some rt) :: GW) B.pre
  have hown : s.vm.findClass y.cls = some m.cls := findClass_of_methodNamed B.named
  have hl := lv_entry av (n := maxL) hlen
  rw [lg_entry_eq]
  have hD := hD0.self (sz := s.heap.size)
  have hlocks : meth.locks = false := B.notSynchronized
  refine body (p, l, e, rm, s, m, av.toArray, below, meth, c, _, va_A w s.heap.size, D, cs) rfl rfl rfl ⟨⟨B.exec, B.bytes, hml, hown, fun w h => hts w (List.mem_cons_of_mem _ h)⟩, hK, fun q h => Or.inr h, hlocks, rfl⟩ ⟨hst, hz1, hz2⟩ hnt ?_ ?_ s.heap [] _ hP hD va_S.rf hl
  · intro k n pc lv r ho hnar hk hn d H locs ls hP1 hD1 hS hl1
    exact W.widen hk hn (vx_ret (W.zret B.exec B.bytes B.returns hnar (fun t ht hW => ⟨⟨r, (), rfl, ho, by rw [ht]; exact hP1, hD1⟩, hS.F ht⟩) hS.2.2 d))
  · intro E hE
    refine ⟨_, _, va_A w s.heap.size, rfl, fun _ h => h, fun H locs t hP1 hD1 hS hal hz ho => ?_⟩
    exact ⟨(), trivial, ⟨hE, hP1.kept (fun k9 q9 h9 => ho q9.1 (hP1 k9 q9 h9).lt), hD1⟩, Nat.le_trans hS.1 hz, fun q h1 h2 => (ho q (Nat.lt_of_lt_of_le h1 hS.1)).trans (hS.2.1 q h1 h2)⟩
theorem MXv_of {l : Launch} {D : va_G} {cs : CS} {y : MethodName} {bytes : ByteArray} {maxL : Nat} {o : String ⊕ Unit} {rm : Room} {av : List Value} {w w' : va_W} (hst : l.stackTraces = false) (hy : plainName y.cls = true) (hlen : (lg_sl av).length ≤ maxL)
    (body : ∀ Γ : Ctx, Γ.l = l → Γ.D = D → Γ.cs = cs → CX Γ bytes maxL y.cls rm → CZ Γ → NT Γ → (∀ {k n pc : Nat} {lv : List (Nat × Value)}, o = .inr () → k ≤ rm.cells → n ≤ rm.slots → decode bytes pc = .ok (.return_, 1) → X Γ maxL k n pc lv [] w') → (∀ E, o = .inl E → TH Γ E w' rm.cells rm.slots) → X Γ maxL 0 0 0 (lv_args 0 av) [] w) : MXv l D cs y bytes maxL rm av w o w' := by
  intro sz
  refine vx_ofW (cc := bytes) (maxL := maxL) (ret := none) hy rfl ?_
  intro p e s m args below meth c s₁ B hml hnt hv
  obtain ⟨rfl, hsz, hP, hK, hD0, hz1, hz2⟩ := hv
  subst hsz
  have hts := atoms_spec (ws := .code y bytes maxL (none) :: GW) B.pre
  have hown : s.vm.findClass y.cls = some m.cls := findClass_of_methodNamed B.named
  have hl := lv_entry av (n := maxL) hlen
  rw [lg_entry_eq]
  have hD := hD0.self (sz := s.heap.size)
  have hlocks : meth.locks = false := B.notSynchronized
  refine body (p, l, e, rm, s, m, av.toArray, below, meth, c, _, va_A w s.heap.size, D, cs) rfl rfl rfl ⟨⟨B.exec, B.bytes, hml, hown, fun w h => hts w (List.mem_cons_of_mem _ h)⟩, hK, fun q h => Or.inr h, hlocks, rfl⟩ ⟨hst, hz1, hz2⟩ hnt ?_ ?_ s.heap [] _ hP hD va_S.rf hl
  · intro k n pc lv ho hk hn d H locs ls hP1 hD1 hS hl1
    exact W.widen hk hn (vx_ret (W.vret B.exec B.bytes B.returns (fun t ht hW => ⟨⟨(), rfl, ho, by rw [ht]; exact hP1, hD1⟩, hS.F ht⟩) hS.2.2 d))
  · intro E hE
    refine ⟨_, _, va_A w s.heap.size, rfl, fun _ h => h, fun H locs t hP1 hD1 hS hal hz ho => ?_⟩
    exact ⟨(), trivial, ⟨hE, hP1.kept (fun k9 q9 h9 => ho q9.1 (hP1 k9 q9 h9).lt), hD1⟩, Nat.le_trans hS.1 hz, fun q h1 h2 => (ho q (Nat.lt_of_lt_of_le h1 hS.1)).trans (hS.2.1 q h1 h2)⟩
theorem xx_selfVi {Γ : Ctx} {cc : ByteArray} {nL k n pc pc' : Nat} {own : String} {R0 : Room} {lv : List (Nat × Value)} {st st0 : List Value} {ws ws' : va_W} (B : CX Γ cc nL own R0) (Z : CZ Γ) {y : MethodName} {index maxL : Nat} {bytes : ByteArray} {rt : FieldType} {rm : Room} {b : Addr} (As : List Value) {o : String ⊕ Int32} (hM : MXi Γ.l Γ.D Γ.cs y bytes maxL rt rm (.ref b :: As) ws o ws') {ci : Nat} {fs : List Value} {q3 : vw_C} (hrec : (ws : va_W)[0]? = some (b, .inr (ci, fs))) (hcl : vwCl[ci]? = some q3) (hg : GoodIn GW (wsV own index q3.1 y (.code y bytes maxL (some rt) :: GW))) (hcc : y.cls = q3.1) (hd : y.cls ≠ "java/lang/invoke/MethodHandle" ∧ y.cls ≠ "java/lang/invoke/VarHandle" ∧ (parseMethodDescriptor y.desc).map (fun d => d.parameters.length) = some As.length) (hR : rm.frames + 1 ≤ R0.frames ∧ 8 + (maxL + 11) + rm.locals ≤ R0.locals) (hroom : k + rm.cells ≤ R0.cells ∧ n + rm.slots ≤ R0.slots) (hstk : st0 = As.reverse ++ .ref b :: st) (hsum : (st.map fun v => v.category).sum ≤ 8) (d : decode cc pc = .ok (.invokevirtual index, 3)) (hp : pc + 3 = pc') (kx : ∀ E, o = .inl E → XT Γ nL (k + rm.cells) (n + rm.slots) pc lv st ws' E) (kk : ∀ r, o = .inr r → X Γ nL (k + rm.cells) (n + rm.slots) pc' lv (.int r :: st) ws') : X Γ nL k n pc lv st0 ws := by
  obtain ⟨p, l, e, R, s, m, args, below, meth, c, Q, A, D, cs⟩ := Γ
  subst hp
  subst hstk
  obtain ⟨hfix, hKN, hA, hlk, rfl⟩ := B
  obtain ⟨hst, hz1, hz2⟩ := Z
  intro H locs ls hP hD hS hl
  have hPc : va_P D vwCl ws H := hP
  have hDc : va_D A ws := hD
  have hFc : ∀ q, va_A ws H.size q → A q := fun q h => h.elim (fun ⟨k9, e9, h9⟩ => hD.2 k9 (q, e9) h9) (fun h9 => hA q (Nat.le_trans hS.1 h9))
  refine vx_calli (vx_runV (As := As) (rest := st) hfix (hM H.size) (cwV As.length hfix.2.2.2.2 hg rfl rfl rfl ⟨hcc, hd⟩ hR) ⟨prx_blind _ _ _ _ _, va_recv hKN.1 hPc (q := q3) hcl (q0 := 0) hrec, fun U hU hW => ⟨rfl, by rw [hU], by rw [hU]; exact hPc, KN.warm hW hKN, hDc.weaken (fun _ _ _ _ => trivial), by rw [hU]; exact vx_Zq.moved hW.alike ((hz1.kept hS.2.1).narrow hFc), by rw [hU]; exact vx_Zq.moved hW.alike ((hz2.kept hS.2.1).narrow hFc)⟩⟩ rfl rfl hl.1 rfl (lv_room hsum) d hroom) hS (fun q _ h => hFc q h) hFc (fun q _ h => hFc q h) (fun E ce q9 u t H1 locs1 ht hvm _ hB hz1 hk1 hS1 hce hcv hcl9 => ?_) (fun r2 u t H1 locs1 ht hvm hw hB hz1 hk1 hS1 => ?_)
  · obtain ⟨ho, hP1, hD1⟩ := hB
    rw [ht] at hP1
    exact kx E ho H1 locs1 ls q9 ce hP1 (hD1.weaken (fun k9 q9 _ h9 => hFc q9.1 h9)) hS1 hl hce hcv hcl9
  · obtain ⟨hP1, hD1⟩ := hB
    rw [ht] at hP1
    exact kk r2 hw H1 locs1 ls hP1 (hD1.weaken (fun k9 q9 _ h9 => hFc q9.1 h9)) hS1 hl
theorem xx_selfVv {Γ : Ctx} {cc : ByteArray} {nL k n pc pc' : Nat} {own : String} {R0 : Room} {lv : List (Nat × Value)} {st st0 : List Value} {ws ws' : va_W} (B : CX Γ cc nL own R0) (Z : CZ Γ) {y : MethodName} {index maxL : Nat} {bytes : ByteArray} {rm : Room} {b : Addr} (As : List Value) {o : String ⊕ Unit} (hM : MXv Γ.l Γ.D Γ.cs y bytes maxL rm (.ref b :: As) ws o ws') {ci : Nat} {fs : List Value} {q3 : vw_C} (hrec : (ws : va_W)[0]? = some (b, .inr (ci, fs))) (hcl : vwCl[ci]? = some q3) (hg : GoodIn GW (wsV own index q3.1 y (.code y bytes maxL none :: GW))) (hcc : y.cls = q3.1) (hd : y.cls ≠ "java/lang/invoke/MethodHandle" ∧ y.cls ≠ "java/lang/invoke/VarHandle" ∧ (parseMethodDescriptor y.desc).map (fun d => d.parameters.length) = some As.length) (hR : rm.frames + 1 ≤ R0.frames ∧ 8 + (maxL + 11) + rm.locals ≤ R0.locals) (hroom : k + rm.cells ≤ R0.cells ∧ n + rm.slots ≤ R0.slots) (hstk : st0 = As.reverse ++ .ref b :: st) (hsum : (st.map fun v => v.category).sum ≤ 8) (d : decode cc pc = .ok (.invokevirtual index, 3)) (hp : pc + 3 = pc') (kx : ∀ E, o = .inl E → XT Γ nL (k + rm.cells) (n + rm.slots) pc lv st ws' E) (kk : o = .inr () → X Γ nL (k + rm.cells) (n + rm.slots) pc' lv st ws') : X Γ nL k n pc lv st0 ws := by
  obtain ⟨p, l, e, R, s, m, args, below, meth, c, Q, A, D, cs⟩ := Γ
  subst hp
  subst hstk
  obtain ⟨hfix, hKN, hA, hlk, rfl⟩ := B
  obtain ⟨hst, hz1, hz2⟩ := Z
  intro H locs ls hP hD hS hl
  have hPc : va_P D vwCl ws H := hP
  have hDc : va_D A ws := hD
  have hFc : ∀ q, va_A ws H.size q → A q := fun q h => h.elim (fun ⟨k9, e9, h9⟩ => hD.2 k9 (q, e9) h9) (fun h9 => hA q (Nat.le_trans hS.1 h9))
  refine vx_callv (vx_runV (As := As) (rest := st) hfix (hM H.size) (cwV As.length hfix.2.2.2.2 hg rfl rfl rfl ⟨hcc, hd⟩ hR) ⟨prx_blind _ _ _ _ _, va_recv hKN.1 hPc (q := q3) hcl (q0 := 0) hrec, fun U hU hW => ⟨rfl, by rw [hU], by rw [hU]; exact hPc, KN.warm hW hKN, hDc.weaken (fun _ _ _ _ => trivial), by rw [hU]; exact vx_Zq.moved hW.alike ((hz1.kept hS.2.1).narrow hFc), by rw [hU]; exact vx_Zq.moved hW.alike ((hz2.kept hS.2.1).narrow hFc)⟩⟩ rfl rfl hl.1 rfl (lv_room hsum) d hroom) hS (fun q _ h => hFc q h) hFc (fun q _ h => hFc q h) (fun E ce q9 u t H1 locs1 ht hvm _ hB hz1 hk1 hS1 hce hcv hcl9 => ?_) (fun u t H1 locs1 ht hvm hw hB hz1 hk1 hS1 => ?_)
  · obtain ⟨ho, hP1, hD1⟩ := hB
    rw [ht] at hP1
    exact kx E ho H1 locs1 ls q9 ce hP1 (hD1.weaken (fun k9 q9 _ h9 => hFc q9.1 h9)) hS1 hl hce hcv hcl9
  · obtain ⟨hP1, hD1⟩ := hB
    rw [ht] at hP1
    exact kk hw H1 locs1 ls hP1 (hD1.weaken (fun k9 q9 _ h9 => hFc q9.1 h9)) hS1 hl
theorem xx_pureSv {Γ : Ctx} {cc : ByteArray} {nL k n pc pc' : Nat} {own : String} {R0 : Room} {lv : List (Nat × Value)} {st st0 : List Value} {ws : va_W} (B : CX Γ cc nL own R0) (Z : CZ Γ) {y : MethodName} {index maxL : Nat} {bytes : ByteArray} {rm : Room} (As : List Value) {o : String ⊕ Unit} (hM : MXv Γ.l Γ.D Γ.cs y bytes maxL rm As [] o []) (hg : GoodIn GW (va_wsS own index y (.code y bytes maxL none :: GW))) (hd : y.cls ≠ "java/lang/invoke/MethodHandle" ∧ y.cls ≠ "java/lang/invoke/VarHandle" ∧ (parseMethodDescriptor y.desc).map (fun d => d.parameters.length) = some As.length) (hR : rm.frames + 1 ≤ R0.frames ∧ 8 + (maxL + 11) + rm.locals ≤ R0.locals) (hroom : k + rm.cells ≤ R0.cells ∧ n + rm.slots ≤ R0.slots) (hstk : st0 = As.reverse ++ st) (hsum : (st.map fun v => v.category).sum ≤ 8) (d : decode cc pc = .ok (.invokestatic index, 3)) (hp : pc + 3 = pc') (kx : ∀ E, o = .inl E → XT Γ nL (k + rm.cells) (n + rm.slots) pc lv st ws E) (kk : o = .inr () → X Γ nL (k + rm.cells) (n + rm.slots) pc' lv st ws) : X Γ nL k n pc lv st0 ws := by
  obtain ⟨p, l, e, R, s, m, args, below, meth, c, Q, A, D, cs⟩ := Γ
  subst hp
  subst hstk
  obtain ⟨hfix, hKN, hA, hlk, rfl⟩ := B
  obtain ⟨hst, hz1, hz2⟩ := Z
  intro H locs ls hP hD hS hl
  have hPc : va_P D vwCl [] H := fun k9 q9 h9 => by simp at h9
  have hDc : va_D A [] := ⟨fun i j p9 q9 h9 => by simp at h9, fun k9 q9 h9 => by simp at h9⟩
  have hFc : ∀ q, va_A [] H.size q → A q := fun q h => h.elim (fun ⟨k9, e9, h9⟩ => by simp at h9) (fun h9 => hA q (Nat.le_trans hS.1 h9))
  refine vx_callv (vx_runS (As := As) (rest := st) hfix (hM H.size) (va_cwS As.length hfix.2.2.2.2 hg rfl rfl rfl hd hR) ⟨prx_blind _ _ _ _ _, fun U hU hW => ⟨rfl, by rw [hU], by rw [hU]; exact hPc, KN.warm hW hKN, hDc.weaken (fun _ _ _ _ => trivial), by rw [hU]; exact vx_Zq.moved hW.alike ((hz1.kept hS.2.1).narrow hFc), by rw [hU]; exact vx_Zq.moved hW.alike ((hz2.kept hS.2.1).narrow hFc)⟩⟩ rfl rfl hl.1 rfl (lv_room hsum) d hroom) hS (fun q _ h => hFc q h) hFc (fun q _ h => hFc q h) (fun E ce q9 u t H1 locs1 ht hvm _ hB hz1 hk1 hS1 hce hcv hcl9 => ?_) (fun u t H1 locs1 ht hvm hw hB hz1 hk1 hS1 => ?_)
  · obtain ⟨ho, hP1, hD1⟩ := hB
    rw [ht] at hP1
    exact kx E ho H1 locs1 ls q9 ce (hP.kept (fun k9 q9 h9 => hk1 q9.1 (hP k9 q9 h9).lt (fun h8 => h8.elim (fun ⟨k8, e8, h7⟩ => by simp at h7) (fun h7 => Nat.lt_irrefl _ (Nat.lt_of_lt_of_le (hP k9 q9 h9).lt h7))))) hD hS1 hl hce hcv hcl9
  · obtain ⟨hP1, hD1⟩ := hB
    rw [ht] at hP1
    exact kk hw H1 locs1 ls (hP.kept (fun k9 q9 h9 => hk1 q9.1 (hP k9 q9 h9).lt (fun h8 => h8.elim (fun ⟨k8, e8, h7⟩ => by simp at h7) (fun h7 => Nat.lt_irrefl _ (Nat.lt_of_lt_of_le (hP k9 q9 h9).lt h7))))) hD hS1 hl
theorem xx_GVi {Γ : Ctx} {cc : ByteArray} {nL k n pc pc' : Nat} {own : String} {R0 : Room} {lv : List (Nat × Value)} {st st0 : List Value} {ws ws' : va_W} (B : CX Γ cc nL own R0) (Z : CZ Γ) {y : MethodName} {index maxL : Nat} {bytes : ByteArray} {rt : FieldType} {rm : Room} {b : Addr} (As : List Value) {w w' wr : va_W} {o : String ⊕ Int32} (hM : MXi Γ.l Γ.D Γ.cs y bytes maxL rt rm (.ref b :: As) w o w') (isC isR is : List Nat) (hC : isC.map (fun i => ws[i]?) = w.map some) (hcn : va_nd isC = true) (hRr : isR.map (fun i => ws[i]?) = wr.map some) (hrn : va_nd isR = true) (hdis : ∀ i ∈ isR, i ∉ isC) (hN : is.map (fun i => (wr ++ w')[i]?) = ws'.map some) (hn2 : va_nd is = true) {ci : Nat} {fs : List Value} {q3 : vw_C} (hrec : (w : va_W)[0]? = some (b, .inr (ci, fs))) (hcl : vwCl[ci]? = some q3) (hg : GoodIn GW (wsV own index q3.1 y (.code y bytes maxL (some rt) :: GW))) (hcc : y.cls = q3.1) (hd : y.cls ≠ "java/lang/invoke/MethodHandle" ∧ y.cls ≠ "java/lang/invoke/VarHandle" ∧ (parseMethodDescriptor y.desc).map (fun d => d.parameters.length) = some As.length) (hR : rm.frames + 1 ≤ R0.frames ∧ 8 + (maxL + 11) + rm.locals ≤ R0.locals) (hroom : k + rm.cells ≤ R0.cells ∧ n + rm.slots ≤ R0.slots) (hstk : st0 = As.reverse ++ .ref b :: st) (hsum : (st.map fun v => v.category).sum ≤ 8) (d : decode cc pc = .ok (.invokevirtual index, 3)) (hp : pc + 3 = pc') (kx : ∀ E, o = .inl E → XT Γ nL (k + rm.cells) (n + rm.slots) pc lv st ws' E) (kk : ∀ r, o = .inr r → X Γ nL (k + rm.cells) (n + rm.slots) pc' lv (.int r :: st) ws') : X Γ nL k n pc lv st0 ws := by
  obtain ⟨p, l, e, R, s, m, args, below, meth, c, Q, A, D, cs⟩ := Γ
  subst hp
  subst hstk
  obtain ⟨hfix, hKN, hA, hlk, rfl⟩ := B
  obtain ⟨hst, hz1, hz2⟩ := Z
  intro H locs ls hP hD hS hl
  have hPc : va_P D vwCl w H := hP.sub isC (fm_of hC)
  have hDc : va_D A w := hD.sub isC hcn hC
  have hFc := va_free hD hS hA isC hC
  refine vx_calli (vx_runV (As := As) (rest := st) hfix (hM H.size) (cwV As.length hfix.2.2.2.2 hg rfl rfl rfl ⟨hcc, hd⟩ hR) ⟨prx_blind _ _ _ _ _, va_recv hKN.1 hPc (q := q3) hcl (q0 := 0) hrec, fun U hU hW => ⟨rfl, by rw [hU], by rw [hU]; exact hPc, KN.warm hW hKN, hDc.weaken (fun _ _ _ _ => trivial), by rw [hU]; exact vx_Zq.moved hW.alike ((hz1.kept hS.2.1).narrow hFc), by rw [hU]; exact vx_Zq.moved hW.alike ((hz2.kept hS.2.1).narrow hFc)⟩⟩ rfl rfl hl.1 rfl (lv_room hsum) d hroom) hS (fun q _ h => hFc q h) hFc (fun q _ h => hFc q h) (fun E ce q9 u t H1 locs1 ht hvm _ hB hz1 hk1 hS1 hce hcv hcl9 => ?_) (fun r2 u t H1 locs1 ht hvm hw hB hz1 hk1 hS1 => ?_)
  · obtain ⟨ho, hP1, hD1⟩ := hB
    rw [ht] at hP1
    obtain ⟨hP2, hD2⟩ := va_join hP hD isC isR hC hRr hrn hdis hk1 hFc hP1 hD1
    exact kx E ho H1 locs1 ls q9 ce (hP2.sub is (fm_of hN)) (hD2.sub is hn2 hN) hS1 hl hce hcv hcl9
  · obtain ⟨hP1, hD1⟩ := hB
    rw [ht] at hP1
    obtain ⟨hP2, hD2⟩ := va_join hP hD isC isR hC hRr hrn hdis hk1 hFc hP1 hD1
    exact kk r2 hw H1 locs1 ls (hP2.sub is (fm_of hN)) (hD2.sub is hn2 hN) hS1 hl
theorem b_nowRi {Γ : Ctx} {cc : ByteArray} {nL k n pc pc' : Nat} {R0 : Room} {lv : List (Nat × Value)} {st st0 : List Value} (B : CX Γ cc nL RX2 R0) {y : MethodName} {index maxL : Nat} {bytes : ByteArray} {rt : FieldType} {r : Int32} {rm : Room} {a : Nat → Nat → Nat} {S : BO} (As : List Value) (hM : MI Γ.l Γ.D Γ.cs y bytes maxL rt rm (.ref (a 1 0) :: As) (wS Γ.cs.1 (a 1) (S.2.1)) r (wS Γ.cs.1 (a 1) (S.2.1))) (hg : GoodIn GW (wsV RX2 index RX1 y (.code y bytes maxL (some rt) :: GW))) (hcc : y.cls = RX1) (hd : y.cls ≠ "java/lang/invoke/MethodHandle" ∧ y.cls ≠ "java/lang/invoke/VarHandle" ∧ (parseMethodDescriptor y.desc).map (fun d => d.parameters.length) = some As.length) (hR : rm.frames + 1 ≤ R0.frames ∧ 8 + (maxL + 11) + rm.locals ≤ R0.locals) (hroom : k + rm.cells ≤ R0.cells ∧ n + rm.slots ≤ R0.slots) (hstk : st0 = As.reverse ++ .ref (a 1 0) :: st) (hsum : (st.map fun v => v.category).sum ≤ 8) (d : decode cc pc = .ok (.invokevirtual index, 3)) (hp : pc + 3 = pc') (kk : X Γ nL (k + rm.cells) (n + rm.slots) pc' lv (.int r :: st) (wB Γ.cs a S)) : X Γ nL k n pc lv st0 (wB Γ.cs a S) :=
  x_GVi (ws' := wB Γ.cs a S) (wr := (wB Γ.cs a S).take 2 ++ (wB Γ.cs a S).drop 9) B As hM [2, 3, 4, 5, 6, 7, 8] [0, 1, 9, 10, 11, 12, 13, 14, 15, 16, 17, 18, 19, 20, 21, 22, 23, 24, 25, 26, 27, 28, 29, 30, 31, 32, 33, 34, 35, 36, 37, 38, 39, 40, 41, 42, 43, 44, 45, 46, 47, 48, 49, 50, 51, 52] [0, 1, 46, 47, 48, 49, 50, 51, 52, 2, 3, 4, 5, 6, 7, 8, 9, 10, 11, 12, 13, 14, 15, 16, 17, 18, 19, 20, 21, 22, 23, 24, 25, 26, 27, 28, 29, 30, 31, 32, 33, 34, 35, 36, 37, 38, 39, 40, 41, 42, 43, 44, 45] rfl rfl rfl rfl (by decide) rfl rfl rfl rfl hg hcc hd hR hroom hstk hsum d hp kk
theorem b_nowVi {Γ : Ctx} {cc : ByteArray} {nL k n pc pc' : Nat} {R0 : Room} {lv : List (Nat × Value)} {st st0 : List Value} (B : CX Γ cc nL RX2 R0) {y : MethodName} {index maxL : Nat} {bytes : ByteArray} {rt : FieldType} {r : Int32} {rm : Room} {a : Nat → Nat → Nat} {S : BO} {S1 : OB} (As : List Value) (hM : MI Γ.l Γ.D Γ.cs y bytes maxL rt rm (.ref (a 1 0) :: As) (wS Γ.cs.1 (a 1) (S.2.1)) r (wS Γ.cs.1 (a 1) S1)) (hg : GoodIn GW (wsV RX2 index RX1 y (.code y bytes maxL (some rt) :: GW))) (hcc : y.cls = RX1) (hd : y.cls ≠ "java/lang/invoke/MethodHandle" ∧ y.cls ≠ "java/lang/invoke/VarHandle" ∧ (parseMethodDescriptor y.desc).map (fun d => d.parameters.length) = some As.length) (hR : rm.frames + 1 ≤ R0.frames ∧ 8 + (maxL + 11) + rm.locals ≤ R0.locals) (hroom : k + rm.cells ≤ R0.cells ∧ n + rm.slots ≤ R0.slots) (hstk : st0 = As.reverse ++ .ref (a 1 0) :: st) (hsum : (st.map fun v => v.category).sum ≤ 8) (d : decode cc pc = .ok (.invokevirtual index, 3)) (hp : pc + 3 = pc') (kk : X Γ nL (k + rm.cells) (n + rm.slots) pc' lv (.int r :: st) (wB Γ.cs a (S.1, S1, S.2.2))) : X Γ nL k n pc lv st0 (wB Γ.cs a S) :=
  x_GVi (ws' := wB Γ.cs a (S.1, S1, S.2.2)) (wr := (wB Γ.cs a S).take 2 ++ (wB Γ.cs a S).drop 9) B As hM [2, 3, 4, 5, 6, 7, 8] [0, 1, 9, 10, 11, 12, 13, 14, 15, 16, 17, 18, 19, 20, 21, 22, 23, 24, 25, 26, 27, 28, 29, 30, 31, 32, 33, 34, 35, 36, 37, 38, 39, 40, 41, 42, 43, 44, 45, 46, 47, 48, 49, 50, 51, 52] [0, 1, 46, 47, 48, 49, 50, 51, 52, 2, 3, 4, 5, 6, 7, 8, 9, 10, 11, 12, 13, 14, 15, 16, 17, 18, 19, 20, 21, 22, 23, 24, 25, 26, 27, 28, 29, 30, 31, 32, 33, 34, 35, 36, 37, 38, 39, 40, 41, 42, 43, 44, 45] rfl rfl rfl rfl (by decide) rfl rfl rfl rfl hg hcc hd hR hroom hstk hsum d hp kk
theorem b_nowVv {Γ : Ctx} {cc : ByteArray} {nL k n pc pc' : Nat} {R0 : Room} {lv : List (Nat × Value)} {st st0 : List Value} (B : CX Γ cc nL RX2 R0) {y : MethodName} {index maxL : Nat} {bytes : ByteArray} {rm : Room} {a : Nat → Nat → Nat} {S : BO} {S1 : OB} (As : List Value) (hM : MV Γ.l Γ.D Γ.cs y bytes maxL rm (.ref (a 1 0) :: As) (wS Γ.cs.1 (a 1) (S.2.1)) (wS Γ.cs.1 (a 1) S1)) (hg : GoodIn GW (wsV RX2 index RX1 y (.code y bytes maxL none :: GW))) (hcc : y.cls = RX1) (hd : y.cls ≠ "java/lang/invoke/MethodHandle" ∧ y.cls ≠ "java/lang/invoke/VarHandle" ∧ (parseMethodDescriptor y.desc).map (fun d => d.parameters.length) = some As.length) (hR : rm.frames + 1 ≤ R0.frames ∧ 8 + (maxL + 11) + rm.locals ≤ R0.locals) (hroom : k + rm.cells ≤ R0.cells ∧ n + rm.slots ≤ R0.slots) (hstk : st0 = As.reverse ++ .ref (a 1 0) :: st) (hsum : (st.map fun v => v.category).sum ≤ 8) (d : decode cc pc = .ok (.invokevirtual index, 3)) (hp : pc + 3 = pc') (kk : X Γ nL (k + rm.cells) (n + rm.slots) pc' lv st (wB Γ.cs a (S.1, S1, S.2.2))) : X Γ nL k n pc lv st0 (wB Γ.cs a S) :=
  x_GVv (ws' := wB Γ.cs a (S.1, S1, S.2.2)) (wr := (wB Γ.cs a S).take 2 ++ (wB Γ.cs a S).drop 9) B As hM [2, 3, 4, 5, 6, 7, 8] [0, 1, 9, 10, 11, 12, 13, 14, 15, 16, 17, 18, 19, 20, 21, 22, 23, 24, 25, 26, 27, 28, 29, 30, 31, 32, 33, 34, 35, 36, 37, 38, 39, 40, 41, 42, 43, 44, 45, 46, 47, 48, 49, 50, 51, 52] [0, 1, 46, 47, 48, 49, 50, 51, 52, 2, 3, 4, 5, 6, 7, 8, 9, 10, 11, 12, 13, 14, 15, 16, 17, 18, 19, 20, 21, 22, 23, 24, 25, 26, 27, 28, 29, 30, 31, 32, 33, 34, 35, 36, 37, 38, 39, 40, 41, 42, 43, 44, 45] rfl rfl rfl rfl (by decide) rfl rfl rfl rfl hg hcc hd hR hroom hstk hsum d hp kk
theorem b_txtRi {Γ : Ctx} {cc : ByteArray} {nL k n pc pc' : Nat} {R0 : Room} {lv : List (Nat × Value)} {st st0 : List Value} (B : CX Γ cc nL RX2 R0) {y : MethodName} {index maxL : Nat} {bytes : ByteArray} {rt : FieldType} {r : Int32} {rm : Room} {a : Nat → Nat → Nat} {S : BO} (As : List Value) (hM : MI Γ.l Γ.D Γ.cs y bytes maxL rt rm (.ref (a 2 0) :: As) (wT Γ.cs.1 (a 2) (S.2.2.2)) r (wT Γ.cs.1 (a 2) (S.2.2.2))) (hg : GoodIn GW (wsV RX2 index RX0 y (.code y bytes maxL (some rt) :: GW))) (hcc : y.cls = RX0) (hd : y.cls ≠ "java/lang/invoke/MethodHandle" ∧ y.cls ≠ "java/lang/invoke/VarHandle" ∧ (parseMethodDescriptor y.desc).map (fun d => d.parameters.length) = some As.length) (hR : rm.frames + 1 ≤ R0.frames ∧ 8 + (maxL + 11) + rm.locals ≤ R0.locals) (hroom : k + rm.cells ≤ R0.cells ∧ n + rm.slots ≤ R0.slots) (hstk : st0 = As.reverse ++ .ref (a 2 0) :: st) (hsum : (st.map fun v => v.category).sum ≤ 8) (d : decode cc pc = .ok (.invokevirtual index, 3)) (hp : pc + 3 = pc') (kk : X Γ nL (k + rm.cells) (n + rm.slots) pc' lv (.int r :: st) (wB Γ.cs a S)) : X Γ nL k n pc lv st0 (wB Γ.cs a S) :=
  x_GVi (ws' := wB Γ.cs a S) (wr := (wB Γ.cs a S).take 9 ++ (wB Γ.cs a S).drop 11) B As hM [9, 10] [0, 1, 2, 3, 4, 5, 6, 7, 8, 11, 12, 13, 14, 15, 16, 17, 18, 19, 20, 21, 22, 23, 24, 25, 26, 27, 28, 29, 30, 31, 32, 33, 34, 35, 36, 37, 38, 39, 40, 41, 42, 43, 44, 45, 46, 47, 48, 49, 50, 51, 52] [0, 1, 2, 3, 4, 5, 6, 7, 8, 51, 52, 9, 10, 11, 12, 13, 14, 15, 16, 17, 18, 19, 20, 21, 22, 23, 24, 25, 26, 27, 28, 29, 30, 31, 32, 33, 34, 35, 36, 37, 38, 39, 40, 41, 42, 43, 44, 45, 46, 47, 48, 49, 50] rfl rfl rfl rfl (by decide) rfl rfl rfl rfl hg hcc hd hR hroom hstk hsum d hp kk
theorem b_txtVi {Γ : Ctx} {cc : ByteArray} {nL k n pc pc' : Nat} {R0 : Room} {lv : List (Nat × Value)} {st st0 : List Value} (B : CX Γ cc nL RX2 R0) {y : MethodName} {index maxL : Nat} {bytes : ByteArray} {rt : FieldType} {r : Int32} {rm : Room} {a : Nat → Nat → Nat} {S : BO} {S1 : OB} (As : List Value) (hM : MI Γ.l Γ.D Γ.cs y bytes maxL rt rm (.ref (a 2 0) :: As) (wT Γ.cs.1 (a 2) (S.2.2.2)) r (wT Γ.cs.1 (a 2) S1)) (hg : GoodIn GW (wsV RX2 index RX0 y (.code y bytes maxL (some rt) :: GW))) (hcc : y.cls = RX0) (hd : y.cls ≠ "java/lang/invoke/MethodHandle" ∧ y.cls ≠ "java/lang/invoke/VarHandle" ∧ (parseMethodDescriptor y.desc).map (fun d => d.parameters.length) = some As.length) (hR : rm.frames + 1 ≤ R0.frames ∧ 8 + (maxL + 11) + rm.locals ≤ R0.locals) (hroom : k + rm.cells ≤ R0.cells ∧ n + rm.slots ≤ R0.slots) (hstk : st0 = As.reverse ++ .ref (a 2 0) :: st) (hsum : (st.map fun v => v.category).sum ≤ 8) (d : decode cc pc = .ok (.invokevirtual index, 3)) (hp : pc + 3 = pc') (kk : X Γ nL (k + rm.cells) (n + rm.slots) pc' lv (.int r :: st) (wB Γ.cs a (S.1, S.2.1, S.2.2.1, S1))) : X Γ nL k n pc lv st0 (wB Γ.cs a S) :=
  x_GVi (ws' := wB Γ.cs a (S.1, S.2.1, S.2.2.1, S1)) (wr := (wB Γ.cs a S).take 9 ++ (wB Γ.cs a S).drop 11) B As hM [9, 10] [0, 1, 2, 3, 4, 5, 6, 7, 8, 11, 12, 13, 14, 15, 16, 17, 18, 19, 20, 21, 22, 23, 24, 25, 26, 27, 28, 29, 30, 31, 32, 33, 34, 35, 36, 37, 38, 39, 40, 41, 42, 43, 44, 45, 46, 47, 48, 49, 50, 51, 52] [0, 1, 2, 3, 4, 5, 6, 7, 8, 51, 52, 9, 10, 11, 12, 13, 14, 15, 16, 17, 18, 19, 20, 21, 22, 23, 24, 25, 26, 27, 28, 29, 30, 31, 32, 33, 34, 35, 36, 37, 38, 39, 40, 41, 42, 43, 44, 45, 46, 47, 48, 49, 50] rfl rfl rfl rfl (by decide) rfl rfl rfl rfl hg hcc hd hR hroom hstk hsum d hp kk
theorem b_txtVv {Γ : Ctx} {cc : ByteArray} {nL k n pc pc' : Nat} {R0 : Room} {lv : List (Nat × Value)} {st st0 : List Value} (B : CX Γ cc nL RX2 R0) {y : MethodName} {index maxL : Nat} {bytes : ByteArray} {rm : Room} {a : Nat → Nat → Nat} {S : BO} {S1 : OB} (As : List Value) (hM : MV Γ.l Γ.D Γ.cs y bytes maxL rm (.ref (a 2 0) :: As) (wT Γ.cs.1 (a 2) (S.2.2.2)) (wT Γ.cs.1 (a 2) S1)) (hg : GoodIn GW (wsV RX2 index RX0 y (.code y bytes maxL none :: GW))) (hcc : y.cls = RX0) (hd : y.cls ≠ "java/lang/invoke/MethodHandle" ∧ y.cls ≠ "java/lang/invoke/VarHandle" ∧ (parseMethodDescriptor y.desc).map (fun d => d.parameters.length) = some As.length) (hR : rm.frames + 1 ≤ R0.frames ∧ 8 + (maxL + 11) + rm.locals ≤ R0.locals) (hroom : k + rm.cells ≤ R0.cells ∧ n + rm.slots ≤ R0.slots) (hstk : st0 = As.reverse ++ .ref (a 2 0) :: st) (hsum : (st.map fun v => v.category).sum ≤ 8) (d : decode cc pc = .ok (.invokevirtual index, 3)) (hp : pc + 3 = pc') (kk : X Γ nL (k + rm.cells) (n + rm.slots) pc' lv st (wB Γ.cs a (S.1, S.2.1, S.2.2.1, S1))) : X Γ nL k n pc lv st0 (wB Γ.cs a S) :=
  x_GVv (ws' := wB Γ.cs a (S.1, S.2.1, S.2.2.1, S1)) (wr := (wB Γ.cs a S).take 9 ++ (wB Γ.cs a S).drop 11) B As hM [9, 10] [0, 1, 2, 3, 4, 5, 6, 7, 8, 11, 12, 13, 14, 15, 16, 17, 18, 19, 20, 21, 22, 23, 24, 25, 26, 27, 28, 29, 30, 31, 32, 33, 34, 35, 36, 37, 38, 39, 40, 41, 42, 43, 44, 45, 46, 47, 48, 49, 50, 51, 52] [0, 1, 2, 3, 4, 5, 6, 7, 8, 51, 52, 9, 10, 11, 12, 13, 14, 15, 16, 17, 18, 19, 20, 21, 22, 23, 24, 25, 26, 27, 28, 29, 30, 31, 32, 33, 34, 35, 36, 37, 38, 39, 40, 41, 42, 43, 44, 45, 46, 47, 48, 49, 50] rfl rfl rfl rfl (by decide) rfl rfl rfl rfl hg hcc hd hR hroom hstk hsum d hp kk
