section ROWS3
variable {Γ : Ctx} {cc : ByteArray} {nL k n pc pc' : Nat} {own : String} {R0 : Room} {lv lv' : List (Nat × Value)} {st : List Value} {ws ws' : va_W}
theorem x_lv (is : List Nat) (h : lv_pick lv is = lv') (kk : X Γ nL k n pc lv' st ws) : X Γ nL k n pc lv st ws := by
  obtain ⟨p, l, e, R, s, m, args, below, meth, c, Q, A, D, cs⟩ := Γ
  intro H locs ls hP hD hS hl
  exact kk H locs ls hP hD hS (lv_sub hl is h)
theorem x_topi {x v : Int32} (h : v = x) (kk : X Γ nL k n pc lv (.int v :: st) ws) : X Γ nL k n pc lv (.int x :: st) ws := h ▸ kk
theorem x_topl {x v : Int64} (h : v = x) (kk : X Γ nL k n pc lv (.long v :: st) ws) : X Γ nL k n pc lv (.long x :: st) ws := h ▸ kk
theorem x_wd {σ : Type} {f : σ → va_W} {S S' : σ} (h : S' = S) (kk : X Γ nL k n pc lv st (f S')) : X Γ nL k n pc lv st (f S) := h ▸ kk
theorem x_widen {k' n' : Nat} (h1 : k ≤ k') (h2 : n ≤ n') (kk : X Γ nL k' n' pc lv st ws) : X Γ nL k n pc lv st ws := by
  obtain ⟨p, l, e, R, s, m, args, below, meth, c, Q, A, D, cs⟩ := Γ
  intro H locs ls hP hD hS hl
  exact W.widen h1 h2 (kk H locs ls hP hD hS hl)
theorem x_getf (B : CX Γ cc nL own R0) {index ci N : Nat} {C : String} {T : u_T} {a : Nat} {fs : List Value} {v : Value} (q0 k0 : Nat) (he : ws[q0]? = some (a, .inr (ci, fs))) (hc : vwCl[ci]? = some (C, T, N)) (hin : ∀ w ∈ u_ws C T N, w ∈ GW) (hk : k0 < N) (hw : Cond.fieldLink own index (T k0).1 (T k0).2.1 (T k0).2.2.1 ∈ GW) (hv : fs[k0]? = some v) (d : decode cc pc = .ok (.getfield index, 3)) (hp : pc + 3 = pc') (kk : X Γ nL k n pc' lv (v :: st) ws) : X Γ nL k n pc lv (.ref a :: st) ws := by
  obtain ⟨p, l, e, R, s, m, args, below, meth, c, Q, A, D, cs⟩ := Γ
  subst hp
  intro H locs ls hP hD hS hl
  exact va_get B.1.1 B.1.2.1 B.1.2.2.2.2 hin B.1.2.2.2.1 B.2.1.1 hP q0 he hc k0 hk (B.1.2.2.2.2 _ hw) (fun _ h => h) hv d (kk H locs ls hP hD hS hl)
theorem x_putf (B : CX Γ cc nL own R0) {index ci N : Nat} {C : String} {T : u_T} {a : Nat} {fs : List Value} {v : Value} (q0 k0 : Nat) (ty0 : Nat → FieldType) (hty : ∀ k, k < N → parseFieldDescriptor (T k).2.2.1 = some (ty0 k)) (hnm : ∀ a, a < N → ∀ b, b < N → a ≠ b → (T a).2.1 ≠ (T b).2.1) (he : ws[q0]? = some (a, .inr (ci, fs))) (hc : vwCl[ci]? = some (C, T, N)) (hin : ∀ w ∈ u_ws C T N, w ∈ GW) (hk : k0 < N) (hw : Cond.fieldLink own index (T k0).1 (T k0).2.1 (T k0).2.2.1 ∈ GW) (hfin : (T k0).2.2.2 = false) (hn : narrow (ty0 k0) v = v) (hfit : fits (ty0 k0) v = true) (hlen : k0 < fs.length) (hws : ws.set q0 (a, .inr (ci, fs.set k0 v)) = ws') (d : decode cc pc = .ok (.putfield index, 3)) (hp : pc + 3 = pc') (kk : X Γ nL k n pc' lv st ws') : X Γ nL k n pc lv (v :: .ref a :: st) ws := by
  obtain ⟨p, l, e, R, s, m, args, below, meth, c, Q, A, D, cs⟩ := Γ
  subst hp
  subst hws
  intro H locs ls hP hD hS hl
  exact va_put B.1.1 B.1.2.1 B.1.2.2.2.2 hin ty0 hty hnm B.1.2.2.2.1 B.2.1.1 hP hD hS q0 he hc k0 hk (B.1.2.2.2.2 _ hw) (fun _ h => h) hfin (hty k0 hk) hn hfit hlen d (fun H1 locs1 hP1 hD1 hS1 => kk H1 locs1 ls hP1 hD1 hS1 hl)
theorem x_putF (B : CX Γ cc nL own R0) (hin2 : Γ.2.2.2.2.2.2.2.2.1.name = "<init>") {index ci N : Nat} {C : String} {T : u_T} {a : Nat} {fs : List Value} {v : Value} (q0 k0 : Nat) (ty0 : Nat → FieldType) (hty : ∀ k, k < N → parseFieldDescriptor (T k).2.2.1 = some (ty0 k)) (hnm : ∀ a, a < N → ∀ b, b < N → a ≠ b → (T a).2.1 ≠ (T b).2.1) (he : ws[q0]? = some (a, .inr (ci, fs))) (hc : vwCl[ci]? = some (C, T, N)) (hin : ∀ w ∈ u_ws C T N, w ∈ GW) (hk : k0 < N) (hw : Cond.fieldLink own index (T k0).1 (T k0).2.1 (T k0).2.2.1 ∈ GW) (hfin : (T k0).2.2.2 = true) (hdecl : (T k0).1 = own) (hn : narrow (ty0 k0) v = v) (hfit : fits (ty0 k0) v = true) (hlen : k0 < fs.length) (hws : ws.set q0 (a, .inr (ci, fs.set k0 v)) = ws') (d : decode cc pc = .ok (.putfield index, 3)) (hp : pc + 3 = pc') (kk : X Γ nL k n pc' lv st ws') : X Γ nL k n pc lv (v :: .ref a :: st) ws := by
  obtain ⟨p, l, e, R, s, m, args, below, meth, c, Q, A, D, cs⟩ := Γ
  subst hp
  subst hws
  intro H locs ls hP hD hS hl
  exact va_putF B.1.1 B.1.2.1 B.1.2.2.2.2 hin ty0 hty hnm B.1.2.2.2.1 B.2.1.1 hP hD hS q0 he hc k0 hk (B.1.2.2.2.2 _ hw) (fun _ h => h) hfin hin2 hdecl (hty k0 hk) hn hfit hlen d (fun H1 locs1 hP1 hD1 hS1 => kk H1 locs1 ls hP1 hD1 hS1 hl)
theorem x_iald (B : CX Γ cc nL own R0) {a N : Nat} {f : Nat → Int32} {i : Int32} (q0 : Nat) (he : ws[q0]? = some (a, .inl (Γ.cs.1, N, .inl f))) (hi : vp_in i N) (d : decode cc pc = .ok (.iaload, 1)) (hp : pc + 1 = pc') (kk : X Γ nL k n pc' lv (.int (f i.toNatClampNeg) :: st) ws) : X Γ nL k n pc lv (.int i :: .ref a :: st) ws := by
  obtain ⟨p, l, e, R, s, m, args, below, meth, c, Q, A, D, cs⟩ := Γ
  subst hp
  intro H locs ls hP hD hS hl
  exact va_iald B.1.1 B.1.2.1 B.2.1.1 hP q0 0 he rfl hi d (kk H locs ls hP hD hS hl)
theorem x_iast (B : CX Γ cc nL own R0) {a N : Nat} {f : Nat → Int32} {i v : Int32} (q0 : Nat) (he : ws[q0]? = some (a, .inl (Γ.cs.1, N, .inl f))) (hi : vp_in i N) (hws : ws.set q0 (a, .inl (Γ.cs.1, N, .inl (upd f i.toNatClampNeg v))) = ws') (d : decode cc pc = .ok (.iastore, 1)) (hp : pc + 1 = pc') (kk : X Γ nL k n pc' lv st ws') : X Γ nL k n pc lv (.int v :: .int i :: .ref a :: st) ws := by
  obtain ⟨p, l, e, R, s, m, args, below, meth, c, Q, A, D, cs⟩ := Γ
  subst hp
  subst hws
  intro H locs ls hP hD hS hl
  exact va_iast B.1.1 B.1.2.1 B.2.1.1 hP hD hS q0 0 he rfl hi d (fun H1 locs1 hP1 hD1 hS1 => kk H1 locs1 ls hP1 hD1 hS1 hl)
theorem x_lald (B : CX Γ cc nL own R0) {a N : Nat} {f : Nat → Int64} {i : Int32} (q0 : Nat) (he : ws[q0]? = some (a, .inl (Γ.cs.2.1, N, .inr (.inl f)))) (hi : vp_in i N) (d : decode cc pc = .ok (.laload, 1)) (hp : pc + 1 = pc') (kk : X Γ nL k n pc' lv (.long (f i.toNatClampNeg) :: st) ws) : X Γ nL k n pc lv (.int i :: .ref a :: st) ws := by
  obtain ⟨p, l, e, R, s, m, args, below, meth, c, Q, A, D, cs⟩ := Γ
  subst hp
  intro H locs ls hP hD hS hl
  exact va_lald B.1.1 B.1.2.1 B.2.1.1 hP q0 1 he rfl hi d (kk H locs ls hP hD hS hl)
theorem x_last (B : CX Γ cc nL own R0) {a N : Nat} {f : Nat → Int64} {i : Int32} {v : Int64} (q0 : Nat) (he : ws[q0]? = some (a, .inl (Γ.cs.2.1, N, .inr (.inl f)))) (hi : vp_in i N) (hws : ws.set q0 (a, .inl (Γ.cs.2.1, N, .inr (.inl (vp_updL f i.toNatClampNeg v)))) = ws') (d : decode cc pc = .ok (.lastore, 1)) (hp : pc + 1 = pc') (kk : X Γ nL k n pc' lv st ws') : X Γ nL k n pc lv (.long v :: .int i :: .ref a :: st) ws := by
  obtain ⟨p, l, e, R, s, m, args, below, meth, c, Q, A, D, cs⟩ := Γ
  subst hp
  subst hws
  intro H locs ls hP hD hS hl
  exact va_last B.1.1 B.1.2.1 B.2.1.1 hP hD hS q0 1 he rfl hi d (fun H1 locs1 hP1 hD1 hS1 => kk H1 locs1 ls hP1 hD1 hS1 hl)
theorem x_alen (B : CX Γ cc nL own R0) {a N : Nat} {f : Nat → Int32} (v : Int32) (q0 : Nat) (he : ws[q0]? = some (a, .inl (Γ.cs.1, N, .inl f))) (hv : nI N = v) (d : decode cc pc = .ok (.arraylength, 1)) (hp : pc + 1 = pc') (kk : X Γ nL k n pc' lv (.int v :: st) ws) : X Γ nL k n pc lv (.ref a :: st) ws := by
  obtain ⟨p, l, e, R, s, m, args, below, meth, c, Q, A, D, cs⟩ := Γ
  subst hp
  intro H locs ls hP hD hS hl
  exact va_alen B.1.1 B.1.2.1 B.2.1.1 hP q0 0 he rfl (by rw [← hv]; rfl) d (kk H locs ls hP hD hS hl)
/-! contracts -/
/-- a method's start: its arguments, its world -/
def PR (D : va_G) (cs : CS) (av : List Value) (w : va_W) (sz : Nat) : Array Value → State → Prop := va_Pc av (fun U => U.heap.size = sz ∧ va_P D vwCl w U.heap ∧ KN D cs U ∧ va_D (fun _ => True) w)
def PO (D : va_G) (w w' : va_W) (sz : Nat) : Unit → State → Prop := fun _ t => va_P D vwCl w' t.heap ∧ va_D (va_A w sz) w'
def MI (l : Launch) (D : va_G) (cs : CS) (y : MethodName) (bytes : ByteArray) (maxL : Nat) (rt : FieldType) (rm : Room) (av : List Value) (w : va_W) (r : Int32) (w' : va_W) : Prop := ∀ sz, Met l y (.code y bytes maxL (some rt) :: GW) rm (PR D cs av w sz) (va_Qi (fun r' _ => r' = r) (PO D w w' sz) (va_A w sz)) rm.cells rm.slots (va_A w sz)
def ML (l : Launch) (D : va_G) (cs : CS) (y : MethodName) (bytes : ByteArray) (maxL : Nat) (rm : Room) (av : List Value) (w : va_W) (r : Int64) (w' : va_W) : Prop := ∀ sz, Met l y (.code y bytes maxL (some .long) :: GW) rm (PR D cs av w sz) (va_Ql (fun r' _ => r' = r) (PO D w w' sz) (va_A w sz)) rm.cells rm.slots (va_A w sz)
def MV (l : Launch) (D : va_G) (cs : CS) (y : MethodName) (bytes : ByteArray) (maxL : Nat) (rm : Room) (av : List Value) (w w' : va_W) : Prop := ∀ sz, Met l y (.code y bytes maxL none :: GW) rm (PR D cs av w sz) (va_Qv (fun _ => True) (PO D w w' sz) (va_A w sz)) rm.cells rm.slots (va_A w sz)
theorem pr_blind (D : va_G) (cs : CS) (av : List Value) (w : va_W) (sz : Nat) : FrameBlind (PR D cs av w sz) := fun a U g mk q => by
  obtain ⟨q0, q1, qP, qK, qD⟩ := q
  exact ⟨q0, q1, qP, KN.same (s := U) (U := U.calling g mk a) rfl qK, qD⟩
theorem MI_of {l : Launch} {D : va_G} {cs : CS} {y : MethodName} {bytes : ByteArray} {maxL : Nat} {rt : FieldType} {r : Int32} {rm : Room} {av : List Value} {w w' : va_W} (hy : plainName y.cls = true) (hlen : (lg_sl av).length ≤ maxL)
    (body : ∀ Γ : Ctx, Γ.l = l → Γ.D = D → Γ.cs = cs → CX Γ bytes maxL y.cls rm → (∀ {k n pc : Nat} {lv : List (Nat × Value)}, narrow rt (.int r) = .int r → k ≤ rm.cells → n ≤ rm.slots → decode bytes pc = .ok (.ireturn, 1) → X Γ maxL k n pc lv [.int r] w') → X Γ maxL 0 0 0 (lv_args 0 av) [] w) : MI l D cs y bytes maxL rt rm av w r w' := by
  intro sz
  refine Met.ofW (cc := bytes) (maxL := maxL) (ret := some rt) hy rfl ?_
  intro p e s m args below meth c s₁ B hml hv
  obtain ⟨rfl, hsz, hP, hK, hD0⟩ := hv
  subst hsz
  have hts := atoms_spec (ws := .code y bytes maxL (some rt) :: GW) B.pre
  have hown : s.vm.findClass y.cls = some m.cls := findClass_of_methodNamed B.named
  have hl := lv_entry av (n := maxL) hlen
  rw [lg_entry_eq]
  have hD := hD0.self (sz := s.heap.size)
  refine body (p, l, e, rm, s, m, av.toArray, below, meth, c, _, va_A w s.heap.size, D, cs) rfl rfl rfl ⟨⟨B.exec, B.bytes, hml, hown, fun w h => hts w (List.mem_cons_of_mem _ h)⟩, hK, fun q h => Or.inr h, B.notSynchronized, rfl⟩ ?_ s.heap [] _ hP hD va_S.rf hl
  intro k n pc lv hnar hk hn d H locs ls hP1 hD1 hS hl1
  have hlocks : meth.locks = false := B.notSynchronized
  exact W.widen hk hn (W.zret B.exec B.bytes B.returns hnar (fun t ht hW => ⟨⟨r, (), rfl, rfl, by rw [ht]; exact hP1, hD1⟩, hS.F ht⟩) hS.2.2 d)
theorem ML_of {l : Launch} {D : va_G} {cs : CS} {y : MethodName} {bytes : ByteArray} {maxL : Nat} {r : Int64} {rm : Room} {av : List Value} {w w' : va_W} (hy : plainName y.cls = true) (hlen : (lg_sl av).length ≤ maxL)
    (body : ∀ Γ : Ctx, Γ.l = l → Γ.D = D → Γ.cs = cs → CX Γ bytes maxL y.cls rm → (∀ {k n pc : Nat} {lv : List (Nat × Value)}, k ≤ rm.cells → n ≤ rm.slots → decode bytes pc = .ok (.lreturn, 1) → X Γ maxL k n pc lv [.long r] w') → X Γ maxL 0 0 0 (lv_args 0 av) [] w) : ML l D cs y bytes maxL rm av w r w' := by
  intro sz
  refine Met.ofW (cc := bytes) (maxL := maxL) (ret := some .long) hy rfl ?_
  intro p e s m args below meth c s₁ B hml hv
  obtain ⟨rfl, hsz, hP, hK, hD0⟩ := hv
  subst hsz
  have hts := atoms_spec (ws := .code y bytes maxL (some .long) :: GW) B.pre
  have hown : s.vm.findClass y.cls = some m.cls := findClass_of_methodNamed B.named
  have hl := lv_entry av (n := maxL) hlen
  rw [lg_entry_eq]
  have hD := hD0.self (sz := s.heap.size)
  refine body (p, l, e, rm, s, m, av.toArray, below, meth, c, _, va_A w s.heap.size, D, cs) rfl rfl rfl ⟨⟨B.exec, B.bytes, hml, hown, fun w h => hts w (List.mem_cons_of_mem _ h)⟩, hK, fun q h => Or.inr h, B.notSynchronized, rfl⟩ ?_ s.heap [] _ hP hD va_S.rf hl
  intro k n pc lv hk hn d H locs ls hP1 hD1 hS hl1
  have hlocks : meth.locks = false := B.notSynchronized
  exact W.widen hk hn (W.lret B.exec B.bytes B.returns (fun t ht hW => ⟨⟨r, (), rfl, rfl, by rw [ht]; exact hP1, hD1⟩, hS.F ht⟩) hS.2.2 d)
theorem MV_of {l : Launch} {D : va_G} {cs : CS} {y : MethodName} {bytes : ByteArray} {maxL : Nat} {rm : Room} {av : List Value} {w w' : va_W} (hy : plainName y.cls = true) (hlen : (lg_sl av).length ≤ maxL)
    (body : ∀ Γ : Ctx, Γ.l = l → Γ.D = D → Γ.cs = cs → CX Γ bytes maxL y.cls rm → (∀ {k n pc : Nat} {lv : List (Nat × Value)}, k ≤ rm.cells → n ≤ rm.slots → decode bytes pc = .ok (.return_, 1) → X Γ maxL k n pc lv [] w') → X Γ maxL 0 0 0 (lv_args 0 av) [] w) : MV l D cs y bytes maxL rm av w w' := by
  intro sz
  refine Met.ofW (cc := bytes) (maxL := maxL) (ret := none) hy rfl ?_
  intro p e s m args below meth c s₁ B hml hv
  obtain ⟨rfl, hsz, hP, hK, hD0⟩ := hv
  subst hsz
  have hts := atoms_spec (ws := .code y bytes maxL (none) :: GW) B.pre
  have hown : s.vm.findClass y.cls = some m.cls := findClass_of_methodNamed B.named
  have hl := lv_entry av (n := maxL) hlen
  rw [lg_entry_eq]
  have hD := hD0.self (sz := s.heap.size)
  refine body (p, l, e, rm, s, m, av.toArray, below, meth, c, _, va_A w s.heap.size, D, cs) rfl rfl rfl ⟨⟨B.exec, B.bytes, hml, hown, fun w h => hts w (List.mem_cons_of_mem _ h)⟩, hK, fun q h => Or.inr h, B.notSynchronized, rfl⟩ ?_ s.heap [] _ hP hD va_S.rf hl
  intro k n pc lv hk hn d H locs ls hP1 hD1 hS hl1
  have hlocks : meth.locks = false := B.notSynchronized
  exact W.widen hk hn (W.vret B.exec B.bytes B.returns (fun t ht hW => ⟨⟨(), rfl, trivial, by rw [ht]; exact hP1, hD1⟩, hS.F ht⟩) hS.2.2 d)
theorem fm_of {α : Type} {f : Nat → Option α} : ∀ {is : List Nat} {w : List α}, is.map f = w.map some → is.filterMap f = w
  | [], [], _ => rfl
  | [], _ :: _, h => by cases h
  | _ :: _, [], h => by cases h
  | i :: is, a :: w, h => by
    rw [List.map_cons, List.map_cons, List.cons.injEq] at h
    rw [List.filterMap_cons, h.1]
    exact congrArg (a :: ·) (fm_of h.2)
theorem x_GVi {Γ : Ctx} {cc : ByteArray} {nL k n pc pc' : Nat} {own : String} {R0 : Room} {lv : List (Nat × Value)} {st st0 : List Value} {ws ws' : va_W} (B : CX Γ cc nL own R0) {y : MethodName} {index maxL : Nat} {bytes : ByteArray} {rt : FieldType} {r : Int32} {rm : Room} {b : Addr} (As : List Value) {w w' wr : va_W} (hM : MI Γ.l Γ.D Γ.cs y bytes maxL rt rm (.ref b :: As) w r w') (isC isR is : List Nat) (hC : isC.map (fun i => ws[i]?) = w.map some) (hcn : va_nd isC = true) (hRr : isR.map (fun i => ws[i]?) = wr.map some) (hrn : va_nd isR = true) (hdis : ∀ i ∈ isR, i ∉ isC) (hN : is.map (fun i => (wr ++ w')[i]?) = ws'.map some) (hn2 : va_nd is = true) {ci : Nat} {fs : List Value} {q3 : vw_C} (hrec : (w : va_W)[0]? = some (b, .inr (ci, fs))) (hcl : vwCl[ci]? = some q3) (hg : GoodIn GW (wsV own index q3.1 y (.code y bytes maxL (some rt) :: GW))) (hcc : y.cls = q3.1) (hd : y.cls ≠ "java/lang/invoke/MethodHandle" ∧ y.cls ≠ "java/lang/invoke/VarHandle" ∧ (parseMethodDescriptor y.desc).map (fun d => d.parameters.length) = some As.length) (hR : rm.frames + 1 ≤ R0.frames ∧ 8 + (maxL + 11) + rm.locals ≤ R0.locals) (hroom : k + rm.cells ≤ R0.cells ∧ n + rm.slots ≤ R0.slots) (hstk : st0 = As.reverse ++ .ref b :: st) (hsum : (st.map fun v => v.category).sum ≤ 8) (d : decode cc pc = .ok (.invokevirtual index, 3)) (hp : pc + 3 = pc') (kk : X Γ nL (k + rm.cells) (n + rm.slots) pc' lv (.int r :: st) ws') : X Γ nL k n pc lv st0 ws := by
  obtain ⟨p, l, e, R, s, m, args, below, meth, c, Q, A, D, cs⟩ := Γ
  subst hp
  subst hstk
  obtain ⟨hfix, hKN, hA, hlk, rfl⟩ := B
  intro H locs ls hP hD hS hl
  have hPc : va_P D vwCl w H := hP.sub isC (fm_of hC)
  have hDc : va_D A w := hD.sub isC hcn hC
  have hFc := va_free hD hS hA isC hC
  refine va_calli (va_runV (As := As) (rest := st) hfix (hM H.size) (cwV As.length hfix.2.2.2.2 hg rfl rfl rfl ⟨hcc, hd⟩ hR) ⟨pr_blind _ _ _ _ _, va_recv hKN.1 hPc (q := q3) hcl (q0 := 0) hrec, fun U hU hW => ⟨rfl, by rw [hU], by rw [hU]; exact hPc, KN.warm hW hKN, hDc.weaken (fun _ _ _ _ => trivial)⟩⟩ rfl rfl hl.1 rfl (lv_room hsum) d hroom) hS (fun q _ h => hFc q h) hFc (fun r2 u t H1 locs1 ht hvm hw hB hz1 hk1 hS1 => ?_)
  subst hw
  obtain ⟨hP1, hD1⟩ := hB
  rw [ht] at hP1
  obtain ⟨hP2, hD2⟩ := va_join hP hD isC isR hC hRr hrn hdis hk1 hFc hP1 hD1
  exact kk H1 locs1 ls (hP2.sub is (fm_of hN)) (hD2.sub is hn2 hN) hS1 hl
theorem x_selfVi {Γ : Ctx} {cc : ByteArray} {nL k n pc pc' : Nat} {own : String} {R0 : Room} {lv : List (Nat × Value)} {st st0 : List Value} {ws ws' : va_W} (B : CX Γ cc nL own R0) {y : MethodName} {index maxL : Nat} {bytes : ByteArray} {rt : FieldType} {r : Int32} {rm : Room} {b : Addr} (As : List Value) (hM : MI Γ.l Γ.D Γ.cs y bytes maxL rt rm (.ref b :: As) ws r ws') {ci : Nat} {fs : List Value} {q3 : vw_C} (hrec : (ws : va_W)[0]? = some (b, .inr (ci, fs))) (hcl : vwCl[ci]? = some q3) (hg : GoodIn GW (wsV own index q3.1 y (.code y bytes maxL (some rt) :: GW))) (hcc : y.cls = q3.1) (hd : y.cls ≠ "java/lang/invoke/MethodHandle" ∧ y.cls ≠ "java/lang/invoke/VarHandle" ∧ (parseMethodDescriptor y.desc).map (fun d => d.parameters.length) = some As.length) (hR : rm.frames + 1 ≤ R0.frames ∧ 8 + (maxL + 11) + rm.locals ≤ R0.locals) (hroom : k + rm.cells ≤ R0.cells ∧ n + rm.slots ≤ R0.slots) (hstk : st0 = As.reverse ++ .ref b :: st) (hsum : (st.map fun v => v.category).sum ≤ 8) (d : decode cc pc = .ok (.invokevirtual index, 3)) (hp : pc + 3 = pc') (kk : X Γ nL (k + rm.cells) (n + rm.slots) pc' lv (.int r :: st) ws') : X Γ nL k n pc lv st0 ws := by
  obtain ⟨p, l, e, R, s, m, args, below, meth, c, Q, A, D, cs⟩ := Γ
  subst hp
  subst hstk
  obtain ⟨hfix, hKN, hA, hlk, rfl⟩ := B
  intro H locs ls hP hD hS hl
  have hPc : va_P D vwCl ws H := hP
  have hDc : va_D A ws := hD
  have hFc : ∀ q, va_A ws H.size q → A q := fun q h => h.elim (fun ⟨k9, e9, h9⟩ => hD.2 k9 (q, e9) h9) (fun h9 => hA q (Nat.le_trans hS.1 h9))
  refine va_calli (va_runV (As := As) (rest := st) hfix (hM H.size) (cwV As.length hfix.2.2.2.2 hg rfl rfl rfl ⟨hcc, hd⟩ hR) ⟨pr_blind _ _ _ _ _, va_recv hKN.1 hPc (q := q3) hcl (q0 := 0) hrec, fun U hU hW => ⟨rfl, by rw [hU], by rw [hU]; exact hPc, KN.warm hW hKN, hDc.weaken (fun _ _ _ _ => trivial)⟩⟩ rfl rfl hl.1 rfl (lv_room hsum) d hroom) hS (fun q _ h => hFc q h) hFc (fun r2 u t H1 locs1 ht hvm hw hB hz1 hk1 hS1 => ?_)
  subst hw
  obtain ⟨hP1, hD1⟩ := hB
  rw [ht] at hP1
  exact kk H1 locs1 ls hP1 (hD1.weaken (fun k9 q9 _ h9 => hFc q9.1 h9)) hS1 hl
theorem x_GVl {Γ : Ctx} {cc : ByteArray} {nL k n pc pc' : Nat} {own : String} {R0 : Room} {lv : List (Nat × Value)} {st st0 : List Value} {ws ws' : va_W} (B : CX Γ cc nL own R0) {y : MethodName} {index maxL : Nat} {bytes : ByteArray} {r : Int64} {rm : Room} {b : Addr} (As : List Value) {w w' wr : va_W} (hM : ML Γ.l Γ.D Γ.cs y bytes maxL rm (.ref b :: As) w r w') (isC isR is : List Nat) (hC : isC.map (fun i => ws[i]?) = w.map some) (hcn : va_nd isC = true) (hRr : isR.map (fun i => ws[i]?) = wr.map some) (hrn : va_nd isR = true) (hdis : ∀ i ∈ isR, i ∉ isC) (hN : is.map (fun i => (wr ++ w')[i]?) = ws'.map some) (hn2 : va_nd is = true) {ci : Nat} {fs : List Value} {q3 : vw_C} (hrec : (w : va_W)[0]? = some (b, .inr (ci, fs))) (hcl : vwCl[ci]? = some q3) (hg : GoodIn GW (wsV own index q3.1 y (.code y bytes maxL (some .long) :: GW))) (hcc : y.cls = q3.1) (hd : y.cls ≠ "java/lang/invoke/MethodHandle" ∧ y.cls ≠ "java/lang/invoke/VarHandle" ∧ (parseMethodDescriptor y.desc).map (fun d => d.parameters.length) = some As.length) (hR : rm.frames + 1 ≤ R0.frames ∧ 8 + (maxL + 11) + rm.locals ≤ R0.locals) (hroom : k + rm.cells ≤ R0.cells ∧ n + rm.slots ≤ R0.slots) (hstk : st0 = As.reverse ++ .ref b :: st) (hsum : (st.map fun v => v.category).sum ≤ 8) (d : decode cc pc = .ok (.invokevirtual index, 3)) (hp : pc + 3 = pc') (kk : X Γ nL (k + rm.cells) (n + rm.slots) pc' lv (.long r :: st) ws') : X Γ nL k n pc lv st0 ws := by
  obtain ⟨p, l, e, R, s, m, args, below, meth, c, Q, A, D, cs⟩ := Γ
  subst hp
  subst hstk
  obtain ⟨hfix, hKN, hA, hlk, rfl⟩ := B
  intro H locs ls hP hD hS hl
  have hPc : va_P D vwCl w H := hP.sub isC (fm_of hC)
  have hDc : va_D A w := hD.sub isC hcn hC
  have hFc := va_free hD hS hA isC hC
  refine va_calll (va_runV (As := As) (rest := st) hfix (hM H.size) (cwV As.length hfix.2.2.2.2 hg rfl rfl rfl ⟨hcc, hd⟩ hR) ⟨pr_blind _ _ _ _ _, va_recv hKN.1 hPc (q := q3) hcl (q0 := 0) hrec, fun U hU hW => ⟨rfl, by rw [hU], by rw [hU]; exact hPc, KN.warm hW hKN, hDc.weaken (fun _ _ _ _ => trivial)⟩⟩ rfl rfl hl.1 rfl (lv_room hsum) d hroom) hS (fun q _ h => hFc q h) hFc (fun r2 u t H1 locs1 ht hvm hw hB hz1 hk1 hS1 => ?_)
  subst hw
  obtain ⟨hP1, hD1⟩ := hB
  rw [ht] at hP1
  obtain ⟨hP2, hD2⟩ := va_join hP hD isC isR hC hRr hrn hdis hk1 hFc hP1 hD1
  exact kk H1 locs1 ls (hP2.sub is (fm_of hN)) (hD2.sub is hn2 hN) hS1 hl
theorem x_selfVl {Γ : Ctx} {cc : ByteArray} {nL k n pc pc' : Nat} {own : String} {R0 : Room} {lv : List (Nat × Value)} {st st0 : List Value} {ws ws' : va_W} (B : CX Γ cc nL own R0) {y : MethodName} {index maxL : Nat} {bytes : ByteArray} {r : Int64} {rm : Room} {b : Addr} (As : List Value) (hM : ML Γ.l Γ.D Γ.cs y bytes maxL rm (.ref b :: As) ws r ws') {ci : Nat} {fs : List Value} {q3 : vw_C} (hrec : (ws : va_W)[0]? = some (b, .inr (ci, fs))) (hcl : vwCl[ci]? = some q3) (hg : GoodIn GW (wsV own index q3.1 y (.code y bytes maxL (some .long) :: GW))) (hcc : y.cls = q3.1) (hd : y.cls ≠ "java/lang/invoke/MethodHandle" ∧ y.cls ≠ "java/lang/invoke/VarHandle" ∧ (parseMethodDescriptor y.desc).map (fun d => d.parameters.length) = some As.length) (hR : rm.frames + 1 ≤ R0.frames ∧ 8 + (maxL + 11) + rm.locals ≤ R0.locals) (hroom : k + rm.cells ≤ R0.cells ∧ n + rm.slots ≤ R0.slots) (hstk : st0 = As.reverse ++ .ref b :: st) (hsum : (st.map fun v => v.category).sum ≤ 8) (d : decode cc pc = .ok (.invokevirtual index, 3)) (hp : pc + 3 = pc') (kk : X Γ nL (k + rm.cells) (n + rm.slots) pc' lv (.long r :: st) ws') : X Γ nL k n pc lv st0 ws := by
  obtain ⟨p, l, e, R, s, m, args, below, meth, c, Q, A, D, cs⟩ := Γ
  subst hp
  subst hstk
  obtain ⟨hfix, hKN, hA, hlk, rfl⟩ := B
  intro H locs ls hP hD hS hl
  have hPc : va_P D vwCl ws H := hP
  have hDc : va_D A ws := hD
  have hFc : ∀ q, va_A ws H.size q → A q := fun q h => h.elim (fun ⟨k9, e9, h9⟩ => hD.2 k9 (q, e9) h9) (fun h9 => hA q (Nat.le_trans hS.1 h9))
  refine va_calll (va_runV (As := As) (rest := st) hfix (hM H.size) (cwV As.length hfix.2.2.2.2 hg rfl rfl rfl ⟨hcc, hd⟩ hR) ⟨pr_blind _ _ _ _ _, va_recv hKN.1 hPc (q := q3) hcl (q0 := 0) hrec, fun U hU hW => ⟨rfl, by rw [hU], by rw [hU]; exact hPc, KN.warm hW hKN, hDc.weaken (fun _ _ _ _ => trivial)⟩⟩ rfl rfl hl.1 rfl (lv_room hsum) d hroom) hS (fun q _ h => hFc q h) hFc (fun r2 u t H1 locs1 ht hvm hw hB hz1 hk1 hS1 => ?_)
  subst hw
  obtain ⟨hP1, hD1⟩ := hB
  rw [ht] at hP1
  exact kk H1 locs1 ls hP1 (hD1.weaken (fun k9 q9 _ h9 => hFc q9.1 h9)) hS1 hl
theorem x_GVv {Γ : Ctx} {cc : ByteArray} {nL k n pc pc' : Nat} {own : String} {R0 : Room} {lv : List (Nat × Value)} {st st0 : List Value} {ws ws' : va_W} (B : CX Γ cc nL own R0) {y : MethodName} {index maxL : Nat} {bytes : ByteArray} {rm : Room} {b : Addr} (As : List Value) {w w' wr : va_W} (hM : MV Γ.l Γ.D Γ.cs y bytes maxL rm (.ref b :: As) w w') (isC isR is : List Nat) (hC : isC.map (fun i => ws[i]?) = w.map some) (hcn : va_nd isC = true) (hRr : isR.map (fun i => ws[i]?) = wr.map some) (hrn : va_nd isR = true) (hdis : ∀ i ∈ isR, i ∉ isC) (hN : is.map (fun i => (wr ++ w')[i]?) = ws'.map some) (hn2 : va_nd is = true) {ci : Nat} {fs : List Value} {q3 : vw_C} (hrec : (w : va_W)[0]? = some (b, .inr (ci, fs))) (hcl : vwCl[ci]? = some q3) (hg : GoodIn GW (wsV own index q3.1 y (.code y bytes maxL none :: GW))) (hcc : y.cls = q3.1) (hd : y.cls ≠ "java/lang/invoke/MethodHandle" ∧ y.cls ≠ "java/lang/invoke/VarHandle" ∧ (parseMethodDescriptor y.desc).map (fun d => d.parameters.length) = some As.length) (hR : rm.frames + 1 ≤ R0.frames ∧ 8 + (maxL + 11) + rm.locals ≤ R0.locals) (hroom : k + rm.cells ≤ R0.cells ∧ n + rm.slots ≤ R0.slots) (hstk : st0 = As.reverse ++ .ref b :: st) (hsum : (st.map fun v => v.category).sum ≤ 8) (d : decode cc pc = .ok (.invokevirtual index, 3)) (hp : pc + 3 = pc') (kk : X Γ nL (k + rm.cells) (n + rm.slots) pc' lv (st) ws') : X Γ nL k n pc lv st0 ws := by
  obtain ⟨p, l, e, R, s, m, args, below, meth, c, Q, A, D, cs⟩ := Γ
  subst hp
  subst hstk
  obtain ⟨hfix, hKN, hA, hlk, rfl⟩ := B
  intro H locs ls hP hD hS hl
  have hPc : va_P D vwCl w H := hP.sub isC (fm_of hC)
  have hDc : va_D A w := hD.sub isC hcn hC
  have hFc := va_free hD hS hA isC hC
  refine va_callv (va_runV (As := As) (rest := st) hfix (hM H.size) (cwV As.length hfix.2.2.2.2 hg rfl rfl rfl ⟨hcc, hd⟩ hR) ⟨pr_blind _ _ _ _ _, va_recv hKN.1 hPc (q := q3) hcl (q0 := 0) hrec, fun U hU hW => ⟨rfl, by rw [hU], by rw [hU]; exact hPc, KN.warm hW hKN, hDc.weaken (fun _ _ _ _ => trivial)⟩⟩ rfl rfl hl.1 rfl (lv_room hsum) d hroom) hS (fun q _ h => hFc q h) hFc (fun u t H1 locs1 ht hvm hw hB hz1 hk1 hS1 => ?_)
  obtain ⟨hP1, hD1⟩ := hB
  rw [ht] at hP1
  obtain ⟨hP2, hD2⟩ := va_join hP hD isC isR hC hRr hrn hdis hk1 hFc hP1 hD1
  exact kk H1 locs1 ls (hP2.sub is (fm_of hN)) (hD2.sub is hn2 hN) hS1 hl
theorem x_selfVv {Γ : Ctx} {cc : ByteArray} {nL k n pc pc' : Nat} {own : String} {R0 : Room} {lv : List (Nat × Value)} {st st0 : List Value} {ws ws' : va_W} (B : CX Γ cc nL own R0) {y : MethodName} {index maxL : Nat} {bytes : ByteArray} {rm : Room} {b : Addr} (As : List Value) (hM : MV Γ.l Γ.D Γ.cs y bytes maxL rm (.ref b :: As) ws ws') {ci : Nat} {fs : List Value} {q3 : vw_C} (hrec : (ws : va_W)[0]? = some (b, .inr (ci, fs))) (hcl : vwCl[ci]? = some q3) (hg : GoodIn GW (wsV own index q3.1 y (.code y bytes maxL none :: GW))) (hcc : y.cls = q3.1) (hd : y.cls ≠ "java/lang/invoke/MethodHandle" ∧ y.cls ≠ "java/lang/invoke/VarHandle" ∧ (parseMethodDescriptor y.desc).map (fun d => d.parameters.length) = some As.length) (hR : rm.frames + 1 ≤ R0.frames ∧ 8 + (maxL + 11) + rm.locals ≤ R0.locals) (hroom : k + rm.cells ≤ R0.cells ∧ n + rm.slots ≤ R0.slots) (hstk : st0 = As.reverse ++ .ref b :: st) (hsum : (st.map fun v => v.category).sum ≤ 8) (d : decode cc pc = .ok (.invokevirtual index, 3)) (hp : pc + 3 = pc') (kk : X Γ nL (k + rm.cells) (n + rm.slots) pc' lv (st) ws') : X Γ nL k n pc lv st0 ws := by
  obtain ⟨p, l, e, R, s, m, args, below, meth, c, Q, A, D, cs⟩ := Γ
  subst hp
  subst hstk
  obtain ⟨hfix, hKN, hA, hlk, rfl⟩ := B
  intro H locs ls hP hD hS hl
  have hPc : va_P D vwCl ws H := hP
  have hDc : va_D A ws := hD
  have hFc : ∀ q, va_A ws H.size q → A q := fun q h => h.elim (fun ⟨k9, e9, h9⟩ => hD.2 k9 (q, e9) h9) (fun h9 => hA q (Nat.le_trans hS.1 h9))
  refine va_callv (va_runV (As := As) (rest := st) hfix (hM H.size) (cwV As.length hfix.2.2.2.2 hg rfl rfl rfl ⟨hcc, hd⟩ hR) ⟨pr_blind _ _ _ _ _, va_recv hKN.1 hPc (q := q3) hcl (q0 := 0) hrec, fun U hU hW => ⟨rfl, by rw [hU], by rw [hU]; exact hPc, KN.warm hW hKN, hDc.weaken (fun _ _ _ _ => trivial)⟩⟩ rfl rfl hl.1 rfl (lv_room hsum) d hroom) hS (fun q _ h => hFc q h) hFc (fun u t H1 locs1 ht hvm hw hB hz1 hk1 hS1 => ?_)
  obtain ⟨hP1, hD1⟩ := hB
  rw [ht] at hP1
  exact kk H1 locs1 ls hP1 (hD1.weaken (fun k9 q9 _ h9 => hFc q9.1 h9)) hS1 hl
theorem x_GSi {Γ : Ctx} {cc : ByteArray} {nL k n pc pc' : Nat} {own : String} {R0 : Room} {lv : List (Nat × Value)} {st st0 : List Value} {ws ws' : va_W} (B : CX Γ cc nL own R0) {y : MethodName} {index maxL : Nat} {bytes : ByteArray} {rt : FieldType} {r : Int32} {rm : Room} (As : List Value) {w w' wr : va_W} (hM : MI Γ.l Γ.D Γ.cs y bytes maxL rt rm As w r w') (isC isR is : List Nat) (hC : isC.map (fun i => ws[i]?) = w.map some) (hcn : va_nd isC = true) (hRr : isR.map (fun i => ws[i]?) = wr.map some) (hrn : va_nd isR = true) (hdis : ∀ i ∈ isR, i ∉ isC) (hN : is.map (fun i => (wr ++ w')[i]?) = ws'.map some) (hn2 : va_nd is = true) (hg : GoodIn GW (va_wsS own index y (.code y bytes maxL (some rt) :: GW))) (hd : y.cls ≠ "java/lang/invoke/MethodHandle" ∧ y.cls ≠ "java/lang/invoke/VarHandle" ∧ (parseMethodDescriptor y.desc).map (fun d => d.parameters.length) = some As.length) (hR : rm.frames + 1 ≤ R0.frames ∧ 8 + (maxL + 11) + rm.locals ≤ R0.locals) (hroom : k + rm.cells ≤ R0.cells ∧ n + rm.slots ≤ R0.slots) (hstk : st0 = As.reverse ++ st) (hsum : (st.map fun v => v.category).sum ≤ 8) (d : decode cc pc = .ok (.invokestatic index, 3)) (hp : pc + 3 = pc') (kk : X Γ nL (k + rm.cells) (n + rm.slots) pc' lv (.int r :: st) ws') : X Γ nL k n pc lv st0 ws := by
  obtain ⟨p, l, e, R, s, m, args, below, meth, c, Q, A, D, cs⟩ := Γ
  subst hp
  subst hstk
  obtain ⟨hfix, hKN, hA, hlk, rfl⟩ := B
  intro H locs ls hP hD hS hl
  have hPc : va_P D vwCl w H := hP.sub isC (fm_of hC)
  have hDc : va_D A w := hD.sub isC hcn hC
  have hFc := va_free hD hS hA isC hC
  refine va_calli (va_runS (As := As) (rest := st) hfix (hM H.size) (va_cwS As.length hfix.2.2.2.2 hg rfl rfl rfl hd hR) ⟨pr_blind _ _ _ _ _, fun U hU hW => ⟨rfl, by rw [hU], by rw [hU]; exact hPc, KN.warm hW hKN, hDc.weaken (fun _ _ _ _ => trivial)⟩⟩ rfl rfl hl.1 rfl (lv_room hsum) d hroom) hS (fun q _ h => hFc q h) hFc (fun r2 u t H1 locs1 ht hvm hw hB hz1 hk1 hS1 => ?_)
  subst hw
  obtain ⟨hP1, hD1⟩ := hB
  rw [ht] at hP1
  obtain ⟨hP2, hD2⟩ := va_join hP hD isC isR hC hRr hrn hdis hk1 hFc hP1 hD1
  exact kk H1 locs1 ls (hP2.sub is (fm_of hN)) (hD2.sub is hn2 hN) hS1 hl
theorem x_pureSi {Γ : Ctx} {cc : ByteArray} {nL k n pc pc' : Nat} {own : String} {R0 : Room} {lv : List (Nat × Value)} {st st0 : List Value} {ws : va_W} (B : CX Γ cc nL own R0) {y : MethodName} {index maxL : Nat} {bytes : ByteArray} {rt : FieldType} {r : Int32} {rm : Room} (As : List Value) (hM : MI Γ.l Γ.D Γ.cs y bytes maxL rt rm As [] r []) (hg : GoodIn GW (va_wsS own index y (.code y bytes maxL (some rt) :: GW))) (hd : y.cls ≠ "java/lang/invoke/MethodHandle" ∧ y.cls ≠ "java/lang/invoke/VarHandle" ∧ (parseMethodDescriptor y.desc).map (fun d => d.parameters.length) = some As.length) (hR : rm.frames + 1 ≤ R0.frames ∧ 8 + (maxL + 11) + rm.locals ≤ R0.locals) (hroom : k + rm.cells ≤ R0.cells ∧ n + rm.slots ≤ R0.slots) (hstk : st0 = As.reverse ++ st) (hsum : (st.map fun v => v.category).sum ≤ 8) (d : decode cc pc = .ok (.invokestatic index, 3)) (hp : pc + 3 = pc') (kk : X Γ nL (k + rm.cells) (n + rm.slots) pc' lv (.int r :: st) ws) : X Γ nL k n pc lv st0 ws := by
  obtain ⟨p, l, e, R, s, m, args, below, meth, c, Q, A, D, cs⟩ := Γ
  subst hp
  subst hstk
  obtain ⟨hfix, hKN, hA, hlk, rfl⟩ := B
  intro H locs ls hP hD hS hl
  have hPc : va_P D vwCl [] H := fun k9 q9 h9 => by simp at h9
  have hDc : va_D A [] := ⟨fun i j p9 q9 h9 => by simp at h9, fun k9 q9 h9 => by simp at h9⟩
  have hFc : ∀ q, va_A [] H.size q → A q := fun q h => h.elim (fun ⟨k9, e9, h9⟩ => by simp at h9) (fun h9 => hA q (Nat.le_trans hS.1 h9))
  refine va_calli (va_runS (As := As) (rest := st) hfix (hM H.size) (va_cwS As.length hfix.2.2.2.2 hg rfl rfl rfl hd hR) ⟨pr_blind _ _ _ _ _, fun U hU hW => ⟨rfl, by rw [hU], by rw [hU]; exact hPc, KN.warm hW hKN, hDc.weaken (fun _ _ _ _ => trivial)⟩⟩ rfl rfl hl.1 rfl (lv_room hsum) d hroom) hS (fun q _ h => hFc q h) hFc (fun r2 u t H1 locs1 ht hvm hw hB hz1 hk1 hS1 => ?_)
  subst hw
  obtain ⟨hP1, hD1⟩ := hB
  rw [ht] at hP1
  exact kk H1 locs1 ls (hP.kept (fun k9 q9 h9 => hk1 q9.1 (hP k9 q9 h9).lt (fun h8 => h8.elim (fun ⟨k8, e8, h7⟩ => by simp at h7) (fun h7 => Nat.lt_irrefl _ (Nat.lt_of_lt_of_le (hP k9 q9 h9).lt h7))))) hD hS1 hl
theorem x_GSl {Γ : Ctx} {cc : ByteArray} {nL k n pc pc' : Nat} {own : String} {R0 : Room} {lv : List (Nat × Value)} {st st0 : List Value} {ws ws' : va_W} (B : CX Γ cc nL own R0) {y : MethodName} {index maxL : Nat} {bytes : ByteArray} {r : Int64} {rm : Room} (As : List Value) {w w' wr : va_W} (hM : ML Γ.l Γ.D Γ.cs y bytes maxL rm As w r w') (isC isR is : List Nat) (hC : isC.map (fun i => ws[i]?) = w.map some) (hcn : va_nd isC = true) (hRr : isR.map (fun i => ws[i]?) = wr.map some) (hrn : va_nd isR = true) (hdis : ∀ i ∈ isR, i ∉ isC) (hN : is.map (fun i => (wr ++ w')[i]?) = ws'.map some) (hn2 : va_nd is = true) (hg : GoodIn GW (va_wsS own index y (.code y bytes maxL (some .long) :: GW))) (hd : y.cls ≠ "java/lang/invoke/MethodHandle" ∧ y.cls ≠ "java/lang/invoke/VarHandle" ∧ (parseMethodDescriptor y.desc).map (fun d => d.parameters.length) = some As.length) (hR : rm.frames + 1 ≤ R0.frames ∧ 8 + (maxL + 11) + rm.locals ≤ R0.locals) (hroom : k + rm.cells ≤ R0.cells ∧ n + rm.slots ≤ R0.slots) (hstk : st0 = As.reverse ++ st) (hsum : (st.map fun v => v.category).sum ≤ 8) (d : decode cc pc = .ok (.invokestatic index, 3)) (hp : pc + 3 = pc') (kk : X Γ nL (k + rm.cells) (n + rm.slots) pc' lv (.long r :: st) ws') : X Γ nL k n pc lv st0 ws := by
  obtain ⟨p, l, e, R, s, m, args, below, meth, c, Q, A, D, cs⟩ := Γ
  subst hp
  subst hstk
  obtain ⟨hfix, hKN, hA, hlk, rfl⟩ := B
  intro H locs ls hP hD hS hl
  have hPc : va_P D vwCl w H := hP.sub isC (fm_of hC)
  have hDc : va_D A w := hD.sub isC hcn hC
  have hFc := va_free hD hS hA isC hC
  refine va_calll (va_runS (As := As) (rest := st) hfix (hM H.size) (va_cwS As.length hfix.2.2.2.2 hg rfl rfl rfl hd hR) ⟨pr_blind _ _ _ _ _, fun U hU hW => ⟨rfl, by rw [hU], by rw [hU]; exact hPc, KN.warm hW hKN, hDc.weaken (fun _ _ _ _ => trivial)⟩⟩ rfl rfl hl.1 rfl (lv_room hsum) d hroom) hS (fun q _ h => hFc q h) hFc (fun r2 u t H1 locs1 ht hvm hw hB hz1 hk1 hS1 => ?_)
  subst hw
  obtain ⟨hP1, hD1⟩ := hB
  rw [ht] at hP1
  obtain ⟨hP2, hD2⟩ := va_join hP hD isC isR hC hRr hrn hdis hk1 hFc hP1 hD1
  exact kk H1 locs1 ls (hP2.sub is (fm_of hN)) (hD2.sub is hn2 hN) hS1 hl
theorem x_pureSl {Γ : Ctx} {cc : ByteArray} {nL k n pc pc' : Nat} {own : String} {R0 : Room} {lv : List (Nat × Value)} {st st0 : List Value} {ws : va_W} (B : CX Γ cc nL own R0) {y : MethodName} {index maxL : Nat} {bytes : ByteArray} {r : Int64} {rm : Room} (As : List Value) (hM : ML Γ.l Γ.D Γ.cs y bytes maxL rm As [] r []) (hg : GoodIn GW (va_wsS own index y (.code y bytes maxL (some .long) :: GW))) (hd : y.cls ≠ "java/lang/invoke/MethodHandle" ∧ y.cls ≠ "java/lang/invoke/VarHandle" ∧ (parseMethodDescriptor y.desc).map (fun d => d.parameters.length) = some As.length) (hR : rm.frames + 1 ≤ R0.frames ∧ 8 + (maxL + 11) + rm.locals ≤ R0.locals) (hroom : k + rm.cells ≤ R0.cells ∧ n + rm.slots ≤ R0.slots) (hstk : st0 = As.reverse ++ st) (hsum : (st.map fun v => v.category).sum ≤ 8) (d : decode cc pc = .ok (.invokestatic index, 3)) (hp : pc + 3 = pc') (kk : X Γ nL (k + rm.cells) (n + rm.slots) pc' lv (.long r :: st) ws) : X Γ nL k n pc lv st0 ws := by
  obtain ⟨p, l, e, R, s, m, args, below, meth, c, Q, A, D, cs⟩ := Γ
  subst hp
  subst hstk
  obtain ⟨hfix, hKN, hA, hlk, rfl⟩ := B
  intro H locs ls hP hD hS hl
  have hPc : va_P D vwCl [] H := fun k9 q9 h9 => by simp at h9
  have hDc : va_D A [] := ⟨fun i j p9 q9 h9 => by simp at h9, fun k9 q9 h9 => by simp at h9⟩
  have hFc : ∀ q, va_A [] H.size q → A q := fun q h => h.elim (fun ⟨k9, e9, h9⟩ => by simp at h9) (fun h9 => hA q (Nat.le_trans hS.1 h9))
  refine va_calll (va_runS (As := As) (rest := st) hfix (hM H.size) (va_cwS As.length hfix.2.2.2.2 hg rfl rfl rfl hd hR) ⟨pr_blind _ _ _ _ _, fun U hU hW => ⟨rfl, by rw [hU], by rw [hU]; exact hPc, KN.warm hW hKN, hDc.weaken (fun _ _ _ _ => trivial)⟩⟩ rfl rfl hl.1 rfl (lv_room hsum) d hroom) hS (fun q _ h => hFc q h) hFc (fun r2 u t H1 locs1 ht hvm hw hB hz1 hk1 hS1 => ?_)
  subst hw
  obtain ⟨hP1, hD1⟩ := hB
  rw [ht] at hP1
  exact kk H1 locs1 ls (hP.kept (fun k9 q9 h9 => hk1 q9.1 (hP k9 q9 h9).lt (fun h8 => h8.elim (fun ⟨k8, e8, h7⟩ => by simp at h7) (fun h7 => Nat.lt_irrefl _ (Nat.lt_of_lt_of_le (hP k9 q9 h9).lt h7))))) hD hS1 hl
theorem x_GSv {Γ : Ctx} {cc : ByteArray} {nL k n pc pc' : Nat} {own : String} {R0 : Room} {lv : List (Nat × Value)} {st st0 : List Value} {ws ws' : va_W} (B : CX Γ cc nL own R0) {y : MethodName} {index maxL : Nat} {bytes : ByteArray} {rm : Room} (As : List Value) {w w' wr : va_W} (hM : MV Γ.l Γ.D Γ.cs y bytes maxL rm As w w') (isC isR is : List Nat) (hC : isC.map (fun i => ws[i]?) = w.map some) (hcn : va_nd isC = true) (hRr : isR.map (fun i => ws[i]?) = wr.map some) (hrn : va_nd isR = true) (hdis : ∀ i ∈ isR, i ∉ isC) (hN : is.map (fun i => (wr ++ w')[i]?) = ws'.map some) (hn2 : va_nd is = true) (hg : GoodIn GW (va_wsS own index y (.code y bytes maxL none :: GW))) (hd : y.cls ≠ "java/lang/invoke/MethodHandle" ∧ y.cls ≠ "java/lang/invoke/VarHandle" ∧ (parseMethodDescriptor y.desc).map (fun d => d.parameters.length) = some As.length) (hR : rm.frames + 1 ≤ R0.frames ∧ 8 + (maxL + 11) + rm.locals ≤ R0.locals) (hroom : k + rm.cells ≤ R0.cells ∧ n + rm.slots ≤ R0.slots) (hstk : st0 = As.reverse ++ st) (hsum : (st.map fun v => v.category).sum ≤ 8) (d : decode cc pc = .ok (.invokestatic index, 3)) (hp : pc + 3 = pc') (kk : X Γ nL (k + rm.cells) (n + rm.slots) pc' lv (st) ws') : X Γ nL k n pc lv st0 ws := by
  obtain ⟨p, l, e, R, s, m, args, below, meth, c, Q, A, D, cs⟩ := Γ
  subst hp
  subst hstk
  obtain ⟨hfix, hKN, hA, hlk, rfl⟩ := B
  intro H locs ls hP hD hS hl
  have hPc : va_P D vwCl w H := hP.sub isC (fm_of hC)
  have hDc : va_D A w := hD.sub isC hcn hC
  have hFc := va_free hD hS hA isC hC
  refine va_callv (va_runS (As := As) (rest := st) hfix (hM H.size) (va_cwS As.length hfix.2.2.2.2 hg rfl rfl rfl hd hR) ⟨pr_blind _ _ _ _ _, fun U hU hW => ⟨rfl, by rw [hU], by rw [hU]; exact hPc, KN.warm hW hKN, hDc.weaken (fun _ _ _ _ => trivial)⟩⟩ rfl rfl hl.1 rfl (lv_room hsum) d hroom) hS (fun q _ h => hFc q h) hFc (fun u t H1 locs1 ht hvm hw hB hz1 hk1 hS1 => ?_)
  obtain ⟨hP1, hD1⟩ := hB
  rw [ht] at hP1
  obtain ⟨hP2, hD2⟩ := va_join hP hD isC isR hC hRr hrn hdis hk1 hFc hP1 hD1
  exact kk H1 locs1 ls (hP2.sub is (fm_of hN)) (hD2.sub is hn2 hN) hS1 hl
theorem x_pureSv {Γ : Ctx} {cc : ByteArray} {nL k n pc pc' : Nat} {own : String} {R0 : Room} {lv : List (Nat × Value)} {st st0 : List Value} {ws : va_W} (B : CX Γ cc nL own R0) {y : MethodName} {index maxL : Nat} {bytes : ByteArray} {rm : Room} (As : List Value) (hM : MV Γ.l Γ.D Γ.cs y bytes maxL rm As [] []) (hg : GoodIn GW (va_wsS own index y (.code y bytes maxL none :: GW))) (hd : y.cls ≠ "java/lang/invoke/MethodHandle" ∧ y.cls ≠ "java/lang/invoke/VarHandle" ∧ (parseMethodDescriptor y.desc).map (fun d => d.parameters.length) = some As.length) (hR : rm.frames + 1 ≤ R0.frames ∧ 8 + (maxL + 11) + rm.locals ≤ R0.locals) (hroom : k + rm.cells ≤ R0.cells ∧ n + rm.slots ≤ R0.slots) (hstk : st0 = As.reverse ++ st) (hsum : (st.map fun v => v.category).sum ≤ 8) (d : decode cc pc = .ok (.invokestatic index, 3)) (hp : pc + 3 = pc') (kk : X Γ nL (k + rm.cells) (n + rm.slots) pc' lv (st) ws) : X Γ nL k n pc lv st0 ws := by
  obtain ⟨p, l, e, R, s, m, args, below, meth, c, Q, A, D, cs⟩ := Γ
  subst hp
  subst hstk
  obtain ⟨hfix, hKN, hA, hlk, rfl⟩ := B
  intro H locs ls hP hD hS hl
  have hPc : va_P D vwCl [] H := fun k9 q9 h9 => by simp at h9
  have hDc : va_D A [] := ⟨fun i j p9 q9 h9 => by simp at h9, fun k9 q9 h9 => by simp at h9⟩
  have hFc : ∀ q, va_A [] H.size q → A q := fun q h => h.elim (fun ⟨k9, e9, h9⟩ => by simp at h9) (fun h9 => hA q (Nat.le_trans hS.1 h9))
  refine va_callv (va_runS (As := As) (rest := st) hfix (hM H.size) (va_cwS As.length hfix.2.2.2.2 hg rfl rfl rfl hd hR) ⟨pr_blind _ _ _ _ _, fun U hU hW => ⟨rfl, by rw [hU], by rw [hU]; exact hPc, KN.warm hW hKN, hDc.weaken (fun _ _ _ _ => trivial)⟩⟩ rfl rfl hl.1 rfl (lv_room hsum) d hroom) hS (fun q _ h => hFc q h) hFc (fun u t H1 locs1 ht hvm hw hB hz1 hk1 hS1 => ?_)
  obtain ⟨hP1, hD1⟩ := hB
  rw [ht] at hP1
  exact kk H1 locs1 ls (hP.kept (fun k9 q9 h9 => hk1 q9.1 (hP k9 q9 h9).lt (fun h8 => h8.elim (fun ⟨k8, e8, h7⟩ => by simp at h7) (fun h7 => Nat.lt_irrefl _ (Nat.lt_of_lt_of_le (hP k9 q9 h9).lt h7))))) hD hS1 hl
theorem x_GSNi {Γ : Ctx} {cc : ByteArray} {nL k n pc pc' : Nat} {own : String} {R0 : Room} {lv : List (Nat × Value)} {st st0 : List Value} {ws ws' : va_W} (B : CX Γ cc nL own R0) {y : MethodName} {index maxL : Nat} {bytes : ByteArray} {rt : FieldType} {r : Int32} {rm : Room} (As : List Value) {w w' wr : va_W} (hM : MI Γ.l Γ.D Γ.cs y bytes maxL rt rm As w r w') (isC isR is : List Nat) (hC : isC.map (fun i => ws[i]?) = w.map some) (hcn : va_nd isC = true) (hRr : isR.map (fun i => ws[i]?) = wr.map some) (hrn : va_nd isR = true) (hdis : ∀ i ∈ isR, i ∉ isC) (hN : is.map (fun i => (wr ++ w')[i]?) = ws'.map some) (hn2 : va_nd is = true) {host : String} (hnw : Cond.methodLinkNest own index y host ∈ nestW) (hg : GoodIn GW ([.static y, .initialized y.cls, .code y bytes maxL (some rt)] ++ GW)) (hd : y.cls ≠ "java/lang/invoke/MethodHandle" ∧ y.cls ≠ "java/lang/invoke/VarHandle" ∧ (parseMethodDescriptor y.desc).map (fun d => d.parameters.length) = some As.length) (hR : rm.frames + 1 ≤ R0.frames ∧ 8 + (maxL + 11) + rm.locals ≤ R0.locals) (hroom : k + rm.cells ≤ R0.cells ∧ n + rm.slots ≤ R0.slots) (hstk : st0 = As.reverse ++ st) (hsum : (st.map fun v => v.category).sum ≤ 8) (d : decode cc pc = .ok (.invokestatic index, 3)) (hp : pc + 3 = pc') (kk : X Γ nL (k + rm.cells) (n + rm.slots) pc' lv (.int r :: st) ws') : X Γ nL k n pc lv st0 ws := by
  obtain ⟨p, l, e, R, s, m, args, below, meth, c, Q, A, D, cs⟩ := Γ
  subst hp
  subst hstk
  obtain ⟨hfix, hKN, hA, hlk, rfl⟩ := B
  intro H locs ls hP hD hS hl
  have hPc : va_P D vwCl w H := hP.sub isC (fm_of hC)
  have hDc : va_D A w := hD.sub isC hcn hC
  have hFc := va_free hD hS hA isC hC
  have ok9 := fun (w : Cond) (h : w ∈ _) => hfix.2.2.2.2 w (hg w h).1
  refine va_calli (va_runSN (As := As) (rest := st) hfix (hM H.size) ⟨va_cnB As.length hfix.2.2.2.2 (fun w h => hg w (List.mem_append_right [_, _] h)) rfl rfl rfl (hKN.2.1 _ hnw) (ok9 _ (by simp)) hd hR, ok9 _ (by simp), trivial⟩ ⟨pr_blind _ _ _ _ _, fun U hU hW => ⟨rfl, by rw [hU], by rw [hU]; exact hPc, KN.warm hW hKN, hDc.weaken (fun _ _ _ _ => trivial)⟩⟩ rfl rfl hl.1 rfl (lv_room hsum) d hroom) hS (fun q _ h => hFc q h) hFc (fun r2 u t H1 locs1 ht hvm hw hB hz1 hk1 hS1 => ?_)
  subst hw
  obtain ⟨hP1, hD1⟩ := hB
  rw [ht] at hP1
  obtain ⟨hP2, hD2⟩ := va_join hP hD isC isR hC hRr hrn hdis hk1 hFc hP1 hD1
  exact kk H1 locs1 ls (hP2.sub is (fm_of hN)) (hD2.sub is hn2 hN) hS1 hl
theorem x_GSNl {Γ : Ctx} {cc : ByteArray} {nL k n pc pc' : Nat} {own : String} {R0 : Room} {lv : List (Nat × Value)} {st st0 : List Value} {ws ws' : va_W} (B : CX Γ cc nL own R0) {y : MethodName} {index maxL : Nat} {bytes : ByteArray} {r : Int64} {rm : Room} (As : List Value) {w w' wr : va_W} (hM : ML Γ.l Γ.D Γ.cs y bytes maxL rm As w r w') (isC isR is : List Nat) (hC : isC.map (fun i => ws[i]?) = w.map some) (hcn : va_nd isC = true) (hRr : isR.map (fun i => ws[i]?) = wr.map some) (hrn : va_nd isR = true) (hdis : ∀ i ∈ isR, i ∉ isC) (hN : is.map (fun i => (wr ++ w')[i]?) = ws'.map some) (hn2 : va_nd is = true) {host : String} (hnw : Cond.methodLinkNest own index y host ∈ nestW) (hg : GoodIn GW ([.static y, .initialized y.cls, .code y bytes maxL (some .long)] ++ GW)) (hd : y.cls ≠ "java/lang/invoke/MethodHandle" ∧ y.cls ≠ "java/lang/invoke/VarHandle" ∧ (parseMethodDescriptor y.desc).map (fun d => d.parameters.length) = some As.length) (hR : rm.frames + 1 ≤ R0.frames ∧ 8 + (maxL + 11) + rm.locals ≤ R0.locals) (hroom : k + rm.cells ≤ R0.cells ∧ n + rm.slots ≤ R0.slots) (hstk : st0 = As.reverse ++ st) (hsum : (st.map fun v => v.category).sum ≤ 8) (d : decode cc pc = .ok (.invokestatic index, 3)) (hp : pc + 3 = pc') (kk : X Γ nL (k + rm.cells) (n + rm.slots) pc' lv (.long r :: st) ws') : X Γ nL k n pc lv st0 ws := by
  obtain ⟨p, l, e, R, s, m, args, below, meth, c, Q, A, D, cs⟩ := Γ
  subst hp
  subst hstk
  obtain ⟨hfix, hKN, hA, hlk, rfl⟩ := B
  intro H locs ls hP hD hS hl
  have hPc : va_P D vwCl w H := hP.sub isC (fm_of hC)
  have hDc : va_D A w := hD.sub isC hcn hC
  have hFc := va_free hD hS hA isC hC
  have ok9 := fun (w : Cond) (h : w ∈ _) => hfix.2.2.2.2 w (hg w h).1
  refine va_calll (va_runSN (As := As) (rest := st) hfix (hM H.size) ⟨va_cnB As.length hfix.2.2.2.2 (fun w h => hg w (List.mem_append_right [_, _] h)) rfl rfl rfl (hKN.2.1 _ hnw) (ok9 _ (by simp)) hd hR, ok9 _ (by simp), trivial⟩ ⟨pr_blind _ _ _ _ _, fun U hU hW => ⟨rfl, by rw [hU], by rw [hU]; exact hPc, KN.warm hW hKN, hDc.weaken (fun _ _ _ _ => trivial)⟩⟩ rfl rfl hl.1 rfl (lv_room hsum) d hroom) hS (fun q _ h => hFc q h) hFc (fun r2 u t H1 locs1 ht hvm hw hB hz1 hk1 hS1 => ?_)
  subst hw
  obtain ⟨hP1, hD1⟩ := hB
  rw [ht] at hP1
  obtain ⟨hP2, hD2⟩ := va_join hP hD isC isR hC hRr hrn hdis hk1 hFc hP1 hD1
  exact kk H1 locs1 ls (hP2.sub is (fm_of hN)) (hD2.sub is hn2 hN) hS1 hl
theorem x_GSNv {Γ : Ctx} {cc : ByteArray} {nL k n pc pc' : Nat} {own : String} {R0 : Room} {lv : List (Nat × Value)} {st st0 : List Value} {ws ws' : va_W} (B : CX Γ cc nL own R0) {y : MethodName} {index maxL : Nat} {bytes : ByteArray} {rm : Room} (As : List Value) {w w' wr : va_W} (hM : MV Γ.l Γ.D Γ.cs y bytes maxL rm As w w') (isC isR is : List Nat) (hC : isC.map (fun i => ws[i]?) = w.map some) (hcn : va_nd isC = true) (hRr : isR.map (fun i => ws[i]?) = wr.map some) (hrn : va_nd isR = true) (hdis : ∀ i ∈ isR, i ∉ isC) (hN : is.map (fun i => (wr ++ w')[i]?) = ws'.map some) (hn2 : va_nd is = true) {host : String} (hnw : Cond.methodLinkNest own index y host ∈ nestW) (hg : GoodIn GW ([.static y, .initialized y.cls, .code y bytes maxL none] ++ GW)) (hd : y.cls ≠ "java/lang/invoke/MethodHandle" ∧ y.cls ≠ "java/lang/invoke/VarHandle" ∧ (parseMethodDescriptor y.desc).map (fun d => d.parameters.length) = some As.length) (hR : rm.frames + 1 ≤ R0.frames ∧ 8 + (maxL + 11) + rm.locals ≤ R0.locals) (hroom : k + rm.cells ≤ R0.cells ∧ n + rm.slots ≤ R0.slots) (hstk : st0 = As.reverse ++ st) (hsum : (st.map fun v => v.category).sum ≤ 8) (d : decode cc pc = .ok (.invokestatic index, 3)) (hp : pc + 3 = pc') (kk : X Γ nL (k + rm.cells) (n + rm.slots) pc' lv (st) ws') : X Γ nL k n pc lv st0 ws := by
  obtain ⟨p, l, e, R, s, m, args, below, meth, c, Q, A, D, cs⟩ := Γ
  subst hp
  subst hstk
  obtain ⟨hfix, hKN, hA, hlk, rfl⟩ := B
  intro H locs ls hP hD hS hl
  have hPc : va_P D vwCl w H := hP.sub isC (fm_of hC)
  have hDc : va_D A w := hD.sub isC hcn hC
  have hFc := va_free hD hS hA isC hC
  have ok9 := fun (w : Cond) (h : w ∈ _) => hfix.2.2.2.2 w (hg w h).1
  refine va_callv (va_runSN (As := As) (rest := st) hfix (hM H.size) ⟨va_cnB As.length hfix.2.2.2.2 (fun w h => hg w (List.mem_append_right [_, _] h)) rfl rfl rfl (hKN.2.1 _ hnw) (ok9 _ (by simp)) hd hR, ok9 _ (by simp), trivial⟩ ⟨pr_blind _ _ _ _ _, fun U hU hW => ⟨rfl, by rw [hU], by rw [hU]; exact hPc, KN.warm hW hKN, hDc.weaken (fun _ _ _ _ => trivial)⟩⟩ rfl rfl hl.1 rfl (lv_room hsum) d hroom) hS (fun q _ h => hFc q h) hFc (fun u t H1 locs1 ht hvm hw hB hz1 hk1 hS1 => ?_)
  obtain ⟨hP1, hD1⟩ := hB
  rw [ht] at hP1
  obtain ⟨hP2, hD2⟩ := va_join hP hD isC isR hC hRr hrn hdis hk1 hFc hP1 hD1
  exact kk H1 locs1 ls (hP2.sub is (fm_of hN)) (hD2.sub is hn2 hN) hS1 hl
end ROWS3
